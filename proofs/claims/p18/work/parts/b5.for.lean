theorem oz_2334575e67 {a0 a1 a2 a3 a4 a5 a6 : Int} (h0 : 0 ≤ a0) (h1 : a0 < a1) (h2 : a2 ≤ a3) (h3 : a1 ≤ a4) (h4 : a5 < a2) (h5 : a3 ≤ 2100) (h6 : a4 ≤ a6) (h7 : a6 ≤ a5) : 0 ≤ a0 ∧ a0 < ((2100 : Nat) : Int) := by omega
theorem oz_3535899054 {a0 a1 a2 a3 : Int} (h0 : a1 ≤ a0) (h1 : a2 ≤ a1) (h2 : 0 ≤ a3) (h3 : a3 < a2) : 0 ≤ a0 := by omega
theorem oz_a82e7868d0 {a0 a1 a2 a3 a4 a5 : Int} (h0 : 6 * a0 + a2 ≤ 6540) (h1 : a3 + a4 + a5 + a1 + 5 ≤ a2) (h2 : 0 ≤ a3) (h3 : 0 ≤ a4) (h4 : 0 ≤ a5) : 6 * a0 + a1 ≤ 6540 := by omega
theorem oz_f69aaf80ca {a0 a1 a2 a3 a4 a5 a6 a7 : Int} (h0 : a3 + a4 + a5 + a6 + 5 ≤ a2) (h1 : 6 * a7 ≤ 6 * a1 + (a6)) (h2 : a0 = a7) (h3 : 0 ≤ a3) (h4 : 0 ≤ a4) (h5 : 0 ≤ a5) : 6 * a0 ≤ 6 * a1 + (a2) := by omega
theorem oz_cbc45a6c70 {a0 a1 a2 a3 a4 a5 a6 : Int} (h0 : a2 + a3 + a4 + a1 + 5 ≤ a5) (h1 : a0 = a6) (h2 : 6 * a6 + a5 ≤ 6540) (h3 : 0 ≤ a2) (h4 : 0 ≤ a3) (h5 : 0 ≤ a4) : 6 * a0 + a1 ≤ 6540 := by omega
theorem oz_964e82b9f4 {a0 a1 a2 a3 : Int} (h0 : a1 = a2) (h1 : a0 = a3) (h2 : a3 ≤ 4096 * a2) : a0 ≤ 4096 * a1 := by omega
theorem oz_0fa6d939a6 {a0 a1 a2 a3 : Int} (h0 : a1 = a2) (h1 : a0 = a3) (h2 : a3 ≤ 4 + 4096 * a2) : a0 ≤ 4 + 4096 * a1 := by omega
theorem oz_d272872612 {a0 a2 : Int} {n1 : Nat} (h0 : a2 + (n1 : Int) + 1 ≤ 400) (h1 : a0 = a2) : a0 + (n1 : Int) ≤ 400 := by omega
theorem oz_4d2bb0c431 {a0 a2 : Int} {n1 : Nat} (h0 : a2 + (n1 : Int) + 1 ≤ 400) (h1 : a0 = a2) : a0 + (n1 : Int) + 1 ≤ 400 := by omega
theorem oz_78ec9d60fa {a0 a1 a2 a3 : Int} (h0 : a2 = a0) (h1 : a1 = a3) (h2 : a2 ≤ a3) : a0 ≤ a1 := by omega
theorem oz_7b195f597e {a0 a1 a2 a3 a4 a5 a6 a7 a8 : Int} (h0 : a3 + a4 + a5 + a6 + 5 ≤ a2) (h1 : a7 = a1) (h2 : a0 = a8) (h3 : 0 ≤ a3) (h4 : 0 ≤ a4) (h5 : 0 ≤ a5) (h6 : 6 * a8 ≤ 6 * a7 + (a6)) : 6 * a0 ≤ 6 * a1 + (a2) := by omega
theorem oz_abec796424 {a0 a1 a2 a3 a4 a5 a6 a7 : Int} (h0 : a4 = a3) (h1 : a5 = a1) (h2 : a2 = a6) (h3 : a0 = a7) (h4 : a7 - a5 ≤ 4 * (a6 - a4)) : a0 - a1 ≤ 4 * (a2 - a3) := by omega
theorem oz_f98fea81d9 {a0 a1 a2 a3 a4 a5 a6 a7 : Int} (h0 : a4 = a3) (h1 : a5 = a1) (h2 : a2 = a6) (h3 : a0 = a7) (h4 : a7 - a5 ≤ 4096 * (a6 - a4)) : a0 - a1 ≤ 4096 * (a2 - a3) := by omega
theorem oz_0420a6770c {a0 a1 a2 a3 a4 a5 a6 a7 : Int} (h0 : a4 = a3) (h1 : a5 = a1) (h2 : a0 = a6) (h3 : a2 = a7) (h4 : a6 - a5 ≤ 4096 * (a7 - a4)) : a0 - a1 ≤ 4096 * (a2 - a3) := by omega
theorem oz_cabfece9a2 {a0 a1 a2 a3 a4 : Int} (h0 : a2 ≤ a1) (h1 : a0 ≤ a3) (h2 : a3 ≤ a4) (h3 : a4 < a2) : a0 ≤ a1 := by omega
theorem oz_cc030681f7 {a0 a1 a2 a3 a4 a5 a6 a7 : Int} (h0 : a2 + a3 + a4 + a1 + 5 ≤ a5) (h1 : a0 = a6) (h2 : 6 * a7 + a5 ≤ 6540) (h3 : 0 ≤ a2) (h4 : 0 ≤ a3) (h5 : 0 ≤ a4) (h6 : a6 = a7) : 6 * a0 + a1 ≤ 6540 := by omega
theorem oz_f6f5eb07dd {a0 a1 a2 a3 : Int} (h0 : a0 = a1) (h1 : a1 = a2) (h2 : a3 ≤ 4 + 4096 * a2) (h3 : 0 ≤ a3) : 0 ≤ a0 := by omega
theorem oz_7ed347e8ad {a0 a1 a2 a3 a4 a5 : Int} (h0 : a1 = a2) (h1 : a0 = a3) (h2 : a2 = a4) (h3 : a3 = a5) (h4 : a5 ≤ 4096 * a4) : a0 ≤ 4096 * a1 := by omega
theorem oz_da2a904354 {a0 a1 a2 a3 a4 a5 : Int} (h0 : a1 = a2) (h1 : a0 = a3) (h2 : a2 = a4) (h3 : a3 = a5) (h4 : a5 ≤ 4 + 4096 * a4) : a0 ≤ 4 + 4096 * a1 := by omega
theorem oz_1d9764fd28 {a0 a2 a3 : Int} {n1 : Nat} (h0 : a2 + (n1 : Int) + 1 ≤ 400) (h1 : a0 = a3) (h2 : a3 = a2) : a0 + (n1 : Int) ≤ 400 := by omega
theorem oz_740a8b247c {a0 a1 a2 : Int} (h0 : a0 = a1) (h1 : a1 = a2) (h2 : a2 < 2100) : a0 < 2100 := by omega
theorem oz_e363459920 {a0 a2 a3 : Int} {n1 : Nat} (h0 : a2 + (n1 : Int) + 1 ≤ 400) (h1 : a0 = a3) (h2 : a3 = a2) : a0 + (n1 : Int) + 1 ≤ 400 := by omega
theorem oz_d0877684c2 {a0 a1 a2 a3 a4 : Int} (h0 : a2 = a0) (h1 : a1 = a3) (h2 : a4 = a2) (h3 : a4 ≤ a3) : a0 ≤ a1 := by omega
theorem oz_b8572a6ae1 {a0 a1 a2 a3 a4 a5 a6 a7 a8 a9 : Int} (h0 : a3 + a4 + a5 + a6 + 5 ≤ a2) (h1 : a7 = a1) (h2 : a0 = a8) (h3 : 0 ≤ a3) (h4 : 0 ≤ a4) (h5 : 0 ≤ a5) (h6 : a9 = a7) (h7 : 6 * a8 ≤ 6 * a9 + (a6)) : 6 * a0 ≤ 6 * a1 + (a2) := by omega
theorem oz_5978ffc030 {a0 a1 a2 a3 a4 a5 a6 a7 a8 a9 : Int} (h0 : a4 = a3) (h1 : a5 = a1) (h2 : a2 = a6) (h3 : a0 = a7) (h4 : a8 = a4) (h5 : a9 = a5) (h6 : a7 - a9 ≤ 4 * (a6 - a8)) : a0 - a1 ≤ 4 * (a2 - a3) := by omega
theorem oz_926a44a7a6 {a0 a1 a2 a3 a4 a5 a6 a7 a8 a9 : Int} (h0 : a4 = a3) (h1 : a5 = a1) (h2 : a2 = a6) (h3 : a0 = a7) (h4 : a8 = a4) (h5 : a9 = a5) (h6 : a7 - a9 ≤ 4096 * (a6 - a8)) : a0 - a1 ≤ 4096 * (a2 - a3) := by omega
theorem oz_6cae6533da {a0 a1 a2 a3 a4 a5 a6 a7 a8 a9 : Int} (h0 : a4 = a3) (h1 : a5 = a1) (h2 : a0 = a6) (h3 : a2 = a7) (h4 : a8 = a4) (h5 : a9 = a5) (h6 : a6 - a9 ≤ 4096 * (a7 - a8)) : a0 - a1 ≤ 4096 * (a2 - a3) := by omega
theorem oz_9219fb40fa {a0 a1 a2 a3 a4 : Int} (h0 : a2 ≤ a1) (h1 : a0 ≤ a3) (h2 : a3 ≤ a4) (h3 : a4 ≤ a2) : a0 ≤ a1 := by omega
theorem oz_eae155ffdf {a0 a1 a2 a3 a4 a5 : Int} (h0 : 6 * a0 + a2 ≤ 6540) (h1 : a1 + a3 + a4 + a5 + 5 ≤ a2) (h2 : 0 ≤ a3) (h3 : 0 ≤ a4) (h4 : 0 ≤ a5) : 6 * a0 + a1 ≤ 6540 := by omega
theorem oz_376db002e6 {a0 a1 a2 a3 a4 a5 a6 a7 : Int} (h0 : 0 ≤ a0) (h1 : (a0 + 1) ≤ a1) (h2 : a2 ≤ a3) (h3 : a4 ≤ a5) (h4 : a6 < a2) (h5 : a1 < a4) (h6 : a3 ≤ 2100) (h7 : a5 ≤ a7) (h8 : a7 ≤ a6) : 0 ≤ a0 ∧ a0 < ((2100 : Nat) : Int) := by omega
theorem oz_df1d141c94 {a0 a1 a2 a3 a4 : Int} (h0 : a1 ≤ a0) (h1 : a2 ≤ a1) (h2 : 0 ≤ a3) (h3 : (a3 + 1) ≤ a4) (h4 : a4 < a2) : 0 ≤ a0 := by omega
theorem oz_24f37080f5 {a0 a1 a2 a3 a4 a5 a6 : Int} (h0 : a2 + a3 + a4 + a1 + 5 ≤ a5) (h1 : 6 * a0 ≤ 6 * a6 + (a2)) (h2 : 6 * a6 + a5 ≤ 6540) (h3 : 0 ≤ a3) (h4 : 0 ≤ a4) : 6 * a0 + a1 ≤ 6540 := by omega
theorem oz_8f0709eef7 {a0 a1 a2 a3 a4 a5 a6 : Int} (h0 : a2 - a3 ≤ 4096 * (a4 - a0)) (h1 : a1 = a5) (h2 : a3 ≤ a2) (h3 : a2 ≤ a6) (h4 : a6 - a2 ≤ 4096 * (a5 - a4)) : a0 ≤ a1 := by omega
theorem oz_070889f416 {a0 a1 a2 a3 a4 a5 a6 a7 a8 : Int} (h0 : a3 + a4 + a5 + a6 + 5 ≤ a2) (h1 : 6 * a7 ≤ 6 * a1 + (a3)) (h2 : a0 = a8) (h3 : 0 ≤ a4) (h4 : 0 ≤ a5) (h5 : 6 * a8 ≤ 6 * a7 + (a6)) : 6 * a0 ≤ 6 * a1 + (a2) := by omega
theorem oz_d08cb9f65e {a0 a1 a2 a3 a4 a5 a6 a7 : Int} (h0 : a4 - a1 ≤ 4 * (a5 - a3)) (h1 : a2 = a6) (h2 : a0 = a7) (h3 : a7 - a4 ≤ 4 * (a6 - a5)) : a0 - a1 ≤ 4 * (a2 - a3) := by omega
theorem oz_ffe07573fc {a0 a1 a2 a3 a4 a5 a6 a7 : Int} (h0 : a4 - a1 ≤ 4096 * (a5 - a3)) (h1 : a2 = a6) (h2 : a0 = a7) (h3 : a7 - a4 ≤ 4096 * (a6 - a5)) : a0 - a1 ≤ 4096 * (a2 - a3) := by omega
theorem oz_7d1305fdee {a0 a1 a2 a3 a4 a5 a6 a7 : Int} (h0 : a4 - a1 ≤ 4096 * (a5 - a3)) (h1 : a0 = a6) (h2 : a2 = a7) (h3 : a6 - a4 ≤ 4096 * (a7 - a5)) : a0 - a1 ≤ 4096 * (a2 - a3) := by omega
theorem oz_5ba337ca74 {a0 a1 a2 a3 : Int} (h0 : a1 ≤ a0) (h1 : a2 < a1) (h2 : 0 ≤ a3) (h3 : (a3 + 1) ≤ a2) : 0 ≤ a0 := by omega
theorem oz_e7df975688 {a0 a1 a2 a3 a4 a5 a6 a7 : Int} (h0 : a2 + a3 + a4 + a1 + 5 ≤ a5) (h1 : a0 = a6) (h2 : 6 * a7 + a5 ≤ 6540) (h3 : 0 ≤ a3) (h4 : 0 ≤ a4) (h5 : 6 * a6 ≤ 6 * a7 + (a2)) : 6 * a0 + a1 ≤ 6540 := by omega
theorem oz_de1de8abaa {a0 a1 a2 a3 a4 a5 a6 : Int} (h0 : a2 - a3 ≤ 4096 * (a4 - a0)) (h1 : a1 = a5) (h2 : a3 ≤ a2) (h3 : a6 = a4) (h4 : a6 ≤ a5) : a0 ≤ a1 := by omega
theorem oz_28aba2ef1b {a0 a1 a2 a3 a4 a5 a6 a7 a8 a9 : Int} (h0 : a3 + a4 + a5 + a6 + 5 ≤ a2) (h1 : 6 * a7 ≤ 6 * a1 + (a3)) (h2 : a0 = a8) (h3 : 0 ≤ a4) (h4 : 0 ≤ a5) (h5 : a9 = a7) (h6 : 6 * a8 ≤ 6 * a9 + (a6)) : 6 * a0 ≤ 6 * a1 + (a2) := by omega
theorem oz_177e2427a4 {a0 a1 a2 a3 a4 a5 a6 : Int} (h0 : a2 - a3 ≤ 4 * (a4 - a0)) (h1 : a1 = a5) (h2 : a3 ≤ a2) (h3 : a6 = a4) (h4 : a6 ≤ a5) : a0 ≤ a1 := by omega
theorem oz_d1adcf9e6d {a0 a1 a2 a3 a4 a5 a6 a7 a8 a9 : Int} (h0 : a4 - a1 ≤ 4 * (a5 - a3)) (h1 : a2 = a6) (h2 : a0 = a7) (h3 : a8 = a5) (h4 : a9 = a4) (h5 : a7 - a9 ≤ 4 * (a6 - a8)) : a0 - a1 ≤ 4 * (a2 - a3) := by omega
theorem oz_517c5935f5 {a0 a1 a2 a3 a4 a5 a6 a7 a8 a9 : Int} (h0 : a4 - a1 ≤ 4096 * (a5 - a3)) (h1 : a2 = a6) (h2 : a0 = a7) (h3 : a8 = a5) (h4 : a9 = a4) (h5 : a7 - a9 ≤ 4096 * (a6 - a8)) : a0 - a1 ≤ 4096 * (a2 - a3) := by omega
theorem oz_ec93b785c0 {a0 a1 a2 a3 a4 a5 a6 a7 a8 a9 : Int} (h0 : a4 - a1 ≤ 4096 * (a5 - a3)) (h1 : a0 = a6) (h2 : a2 = a7) (h3 : a8 = a5) (h4 : a9 = a4) (h5 : a6 - a9 ≤ 4096 * (a7 - a8)) : a0 - a1 ≤ 4096 * (a2 - a3) := by omega
theorem oz_5b675c0aaa {a0 a1 a2 : Int} (h0 : a1 < a0) (h1 : 0 ≤ a2) (h2 : (a2 + 1) ≤ a1) : 0 ≤ a0 := by omega
theorem oz_79e828879f {a0 a1 a2 a3 a4 a5 a6 a7 a8 : Int} (h0 : a2 + a3 + a4 + a1 + 5 ≤ a5) (h1 : a0 = a6) (h2 : 6 * a7 + a5 ≤ 6540) (h3 : 0 ≤ a3) (h4 : 0 ≤ a4) (h5 : 6 * a8 ≤ 6 * a7 + (a2)) (h6 : a6 = a8) : 6 * a0 + a1 ≤ 6540 := by omega
theorem oz_a85aeab2ff {a0 a1 a2 a3 a4 a5 a6 a7 : Int} (h0 : a1 = a2) (h1 : a0 = a3) (h2 : a2 = a4) (h3 : a3 = a5) (h4 : a5 - a6 ≤ 4096 * (a4 - a7)) (h5 : a6 ≤ 4096 * a7) : a0 ≤ 4096 * a1 := by omega
theorem oz_640603e5ba {a0 a1 a2 a3 a4 a5 : Int} (h0 : a0 = a1) (h1 : a1 = a2) (h2 : a3 - a4 ≤ 4 * (a2 - a5)) (h3 : 0 ≤ a5) (h4 : a4 ≤ a3) : 0 ≤ a0 := by omega
theorem oz_640efea5dc {a0 a1 a2 a3 a4 a5 a6 a7 : Int} (h0 : a1 = a2) (h1 : a0 = a3) (h2 : a2 = a4) (h3 : a3 = a5) (h4 : a5 - a6 ≤ 4096 * (a4 - a7)) (h5 : a6 ≤ 4 + 4096 * a7) : a0 ≤ 4 + 4096 * a1 := by omega
theorem oz_ce6628c031 {a0 a1 a2 a3 : Int} (h0 : a0 = a1) (h1 : a1 = a2) (h2 : a2 = a3) (h3 : a3 ≤ 1) : a0 ≤ 1 := by omega
theorem oz_7c5913e3de {a0 a2 a3 a4 : Int} {n1 : Nat} (h0 : a2 + (n1 : Int) + 1 ≤ 400) (h1 : a0 = a3) (h2 : a4 = a2) (h3 : a3 = a4) : a0 + (n1 : Int) ≤ 400 := by omega
theorem oz_68526bafb7 {a0 a1 a2 a3 : Int} (h0 : a0 = a1) (h1 : a1 = a2) (h2 : a2 = a3) (h3 : a3 < 2100) : a0 < 2100 := by omega
theorem oz_a9caacca9b {a0 a2 a3 a4 : Int} {n1 : Nat} (h0 : a2 + (n1 : Int) + 1 ≤ 400) (h1 : a0 = a3) (h2 : a4 = a2) (h3 : a3 = a4) : a0 + (n1 : Int) + 1 ≤ 400 := by omega
theorem oz_ef72e214d7 {a0 a1 a2 a3 a4 a5 a6 a7 a8 a9 a10 a11 a12 a13 : Int} (h0 : a2 - a3 ≤ 4096 * (a4 - a0)) (h1 : a1 = a5) (h2 : a6 ≤ a7) (h3 : a7 - a6 ≤ 4 * (a2 - a3)) (h4 : a8 = a4) (h5 : a9 - a10 ≤ 4096 * (a5 - a11)) (h6 : a11 = a8) (h7 : a12 ≤ a13) (h8 : a13 - a12 ≤ 4 * (a9 - a10)) : a0 ≤ a1 := by omega
theorem oz_f130b30b4c {a0 a1 a2 a3 a4 a5 a6 a7 a8 a9 a10 : Int} (h0 : a3 + a4 + a5 + a6 + 5 ≤ a2) (h1 : 6 * a7 ≤ 6 * a1 + (a3)) (h2 : a0 = a8) (h3 : 0 ≤ a4) (h4 : 0 ≤ a5) (h5 : a9 = a7) (h6 : 6 * a8 ≤ 6 * a10 + (a6)) (h7 : a10 = a9) : 6 * a0 ≤ 6 * a1 + (a2) := by omega
theorem oz_0b35b90db2 {a0 a1 a2 a3 a4 a5 a6 a7 a8 a9 : Int} (h0 : a2 - a3 ≤ 4 * (a4 - a0)) (h1 : a1 = a5) (h2 : a3 ≤ a2) (h3 : a6 = a4) (h4 : a7 - a8 ≤ 4 * (a5 - a9)) (h5 : a9 = a6) (h6 : a8 ≤ a7) : a0 ≤ a1 := by omega
theorem oz_2d1a592502 {a0 a1 a2 a3 a4 a5 a6 a7 a8 a9 a10 a11 : Int} (h0 : a4 - a1 ≤ 4 * (a5 - a3)) (h1 : a2 = a6) (h2 : a0 = a7) (h3 : a8 = a5) (h4 : a9 = a4) (h5 : a7 - a10 ≤ 4 * (a6 - a11)) (h6 : a11 = a8) (h7 : a10 = a9) : a0 - a1 ≤ 4 * (a2 - a3) := by omega
theorem oz_f0e6974812 {a0 a1 a2 a3 a4 a5 a6 a7 a8 a9 a10 a11 : Int} (h0 : a4 - a1 ≤ 4096 * (a5 - a3)) (h1 : a2 = a6) (h2 : a0 = a7) (h3 : a8 = a5) (h4 : a9 = a4) (h5 : a7 - a10 ≤ 4096 * (a6 - a11)) (h6 : a11 = a8) (h7 : a10 = a9) : a0 - a1 ≤ 4096 * (a2 - a3) := by omega
theorem oz_abac3b7fa3 {a0 a1 a2 a3 a4 a5 a6 a7 a8 a9 a10 a11 : Int} (h0 : a4 - a1 ≤ 4096 * (a5 - a3)) (h1 : a0 = a6) (h2 : a2 = a7) (h3 : a8 = a5) (h4 : a9 = a4) (h5 : a6 - a10 ≤ 4096 * (a7 - a11)) (h6 : a11 = a8) (h7 : a10 = a9) : a0 - a1 ≤ 4096 * (a2 - a3) := by omega
theorem m13_34 : Cond.methodLink "HomeSystemModel$Program" 655 ⟨"HomeSystemModel$Program", "checkBody", "(I)V"⟩ ∈ AL := AL_13 (List.mem_of_getElem? (i := 34) rfl) rfl
theorem m13_37 : Cond.code ⟨"HomeSystemModel$Program", "checkBody", "(I)V"⟩ prog_16_method_93_code 2 (Option.none : Option Jvm.ClassFile.FieldType) ∈ AL := AL_13 (List.mem_of_getElem? (i := 37) rfl) rfl
theorem ms_13_6 : Cond.selects "HomeSystemModel$Program" ⟨"HomeSystemModel$Program", "checkBody", "(I)V"⟩ ⟨"HomeSystemModel$Program", "checkBody", "(I)V"⟩ ∈ AL := AL_p (q := (⟨"HomeSystemModel$Program", "checkBody", "(I)V"⟩, 69)) (by unfold lw_privs; exact List.mem_append_right _ (List.mem_append_right _ (List.mem_append_right _ (List.mem_append_right _ (List.mem_append_right _ (List.mem_append_right _ (List.mem_append_right _ (List.mem_append_right _ (List.mem_append_right _ (List.mem_append_right _ (List.mem_append_right _ (List.mem_append_right _ (List.mem_append_left _ (List.mem_of_getElem? (i := 6) rfl))))))))))))))
theorem m13_36 : Cond.instanceMethod ⟨"HomeSystemModel$Program", "checkBody", "(I)V"⟩ ∈ AL := AL_13 (List.mem_of_getElem? (i := 36) rfl) rfl
theorem m12_210 : Cond.methodLink "HomeSystemModel$Program" 648 ⟨"HomeSystemModel$Program", "checkAlone", "(I)V"⟩ ∈ AL := AL_12 (List.mem_of_getElem? (i := 210) rfl) rfl
theorem m12_213 : Cond.code ⟨"HomeSystemModel$Program", "checkAlone", "(I)V"⟩ prog_16_method_92_code 3 (Option.none : Option Jvm.ClassFile.FieldType) ∈ AL := AL_12 (List.mem_of_getElem? (i := 213) rfl) rfl
theorem ms_12_6 : Cond.selects "HomeSystemModel$Program" ⟨"HomeSystemModel$Program", "checkAlone", "(I)V"⟩ ⟨"HomeSystemModel$Program", "checkAlone", "(I)V"⟩ ∈ AL := AL_p (q := (⟨"HomeSystemModel$Program", "checkAlone", "(I)V"⟩, 69)) (by unfold lw_privs; exact List.mem_append_right _ (List.mem_append_right _ (List.mem_append_right _ (List.mem_append_right _ (List.mem_append_right _ (List.mem_append_right _ (List.mem_append_right _ (List.mem_append_right _ (List.mem_append_right _ (List.mem_append_right _ (List.mem_append_right _ (List.mem_append_left _ (List.mem_of_getElem? (i := 6) rfl)))))))))))))
theorem m12_212 : Cond.instanceMethod ⟨"HomeSystemModel$Program", "checkAlone", "(I)V"⟩ ∈ AL := AL_12 (List.mem_of_getElem? (i := 212) rfl) rfl
abbrev b_Mpg_checkFor : ByteArray := prog_16_method_94_code
def y_Mpg_checkFor : MethodName := ⟨"HomeSystemModel$Program", "checkFor", "(I)V"⟩
theorem d_Mpg_checkFor_0 : decode b_Mpg_checkFor 0 = .ok (.aload_n 0, 1) := by decide +kernel
theorem d_Mpg_checkFor_1 : decode b_Mpg_checkFor 1 = .ok (.getfield 528, 3) := by decide +kernel
theorem d_Mpg_checkFor_4 : decode b_Mpg_checkFor 4 = .ok (.istore_n 2, 1) := by decide +kernel
theorem d_Mpg_checkFor_5 : decode b_Mpg_checkFor 5 = .ok (.aload_n 0, 1) := by decide +kernel
theorem d_Mpg_checkFor_6 : decode b_Mpg_checkFor 6 = .ok (.getfield 556, 3) := by decide +kernel
theorem d_Mpg_checkFor_9 : decode b_Mpg_checkFor 9 = .ok (.istore_n 3, 1) := by decide +kernel
theorem d_Mpg_checkFor_10 : decode b_Mpg_checkFor 10 = .ok (.aload_n 0, 1) := by decide +kernel
theorem d_Mpg_checkFor_11 : decode b_Mpg_checkFor 11 = .ok (.aload_n 0, 1) := by decide +kernel
theorem d_Mpg_checkFor_12 : decode b_Mpg_checkFor 12 = .ok (.getfield 528, 3) := by decide +kernel
theorem d_Mpg_checkFor_15 : decode b_Mpg_checkFor 15 = .ok (.putfield 556, 3) := by decide +kernel
theorem d_Mpg_checkFor_18 : decode b_Mpg_checkFor 18 = .ok (.aload_n 0, 1) := by decide +kernel
theorem d_Mpg_checkFor_19 : decode b_Mpg_checkFor 19 = .ok (.getfield 216, 3) := by decide +kernel
theorem d_Mpg_checkFor_22 : decode b_Mpg_checkFor 22 = .ok (.iload_n 1, 1) := by decide +kernel
theorem d_Mpg_checkFor_23 : decode b_Mpg_checkFor 23 = .ok (.iaload, 1) := by decide +kernel
theorem d_Mpg_checkFor_24 : decode b_Mpg_checkFor 24 = .ok (.ifCond .lt 13, 3) := by decide +kernel
theorem d_Mpg_checkFor_27 : decode b_Mpg_checkFor 27 = .ok (.aload_n 0, 1) := by decide +kernel
theorem d_Mpg_checkFor_28 : decode b_Mpg_checkFor 28 = .ok (.aload_n 0, 1) := by decide +kernel
theorem d_Mpg_checkFor_29 : decode b_Mpg_checkFor 29 = .ok (.getfield 216, 3) := by decide +kernel
theorem d_Mpg_checkFor_32 : decode b_Mpg_checkFor 32 = .ok (.iload_n 1, 1) := by decide +kernel
theorem d_Mpg_checkFor_33 : decode b_Mpg_checkFor 33 = .ok (.iaload, 1) := by decide +kernel
theorem d_Mpg_checkFor_34 : decode b_Mpg_checkFor 34 = .ok (.invokevirtual 636, 3) := by decide +kernel
theorem d_Mpg_checkFor_37 : decode b_Mpg_checkFor 37 = .ok (.aload_n 0, 1) := by decide +kernel
theorem d_Mpg_checkFor_38 : decode b_Mpg_checkFor 38 = .ok (.getfield 219, 3) := by decide +kernel
theorem d_Mpg_checkFor_41 : decode b_Mpg_checkFor 41 = .ok (.iload_n 1, 1) := by decide +kernel
theorem d_Mpg_checkFor_42 : decode b_Mpg_checkFor 42 = .ok (.iaload, 1) := by decide +kernel
theorem d_Mpg_checkFor_43 : decode b_Mpg_checkFor 43 = .ok (.ifCond .lt 15, 3) := by decide +kernel
theorem d_Mpg_checkFor_46 : decode b_Mpg_checkFor 46 = .ok (.aload_n 0, 1) := by decide +kernel
theorem d_Mpg_checkFor_47 : decode b_Mpg_checkFor 47 = .ok (.aload_n 0, 1) := by decide +kernel
theorem d_Mpg_checkFor_48 : decode b_Mpg_checkFor 48 = .ok (.getfield 219, 3) := by decide +kernel
theorem d_Mpg_checkFor_51 : decode b_Mpg_checkFor 51 = .ok (.iload_n 1, 1) := by decide +kernel
theorem d_Mpg_checkFor_52 : decode b_Mpg_checkFor 52 = .ok (.iaload, 1) := by decide +kernel
theorem d_Mpg_checkFor_53 : decode b_Mpg_checkFor 53 = .ok (.iconst 1, 1) := by decide +kernel
theorem d_Mpg_checkFor_54 : decode b_Mpg_checkFor 54 = .ok (.invokevirtual 577, 3) := by decide +kernel
theorem d_Mpg_checkFor_57 : decode b_Mpg_checkFor 57 = .ok (.pop, 1) := by decide +kernel
theorem d_Mpg_checkFor_58 : decode b_Mpg_checkFor 58 = .ok (.aload_n 0, 1) := by decide +kernel
theorem d_Mpg_checkFor_59 : decode b_Mpg_checkFor 59 = .ok (.getfield 222, 3) := by decide +kernel
theorem d_Mpg_checkFor_62 : decode b_Mpg_checkFor 62 = .ok (.iload_n 1, 1) := by decide +kernel
theorem d_Mpg_checkFor_63 : decode b_Mpg_checkFor 63 = .ok (.iaload, 1) := by decide +kernel
theorem d_Mpg_checkFor_64 : decode b_Mpg_checkFor 64 = .ok (.ifCond .lt 13, 3) := by decide +kernel
theorem d_Mpg_checkFor_67 : decode b_Mpg_checkFor 67 = .ok (.aload_n 0, 1) := by decide +kernel
theorem d_Mpg_checkFor_68 : decode b_Mpg_checkFor 68 = .ok (.aload_n 0, 1) := by decide +kernel
theorem d_Mpg_checkFor_69 : decode b_Mpg_checkFor 69 = .ok (.getfield 222, 3) := by decide +kernel
theorem d_Mpg_checkFor_72 : decode b_Mpg_checkFor 72 = .ok (.iload_n 1, 1) := by decide +kernel
theorem d_Mpg_checkFor_73 : decode b_Mpg_checkFor 73 = .ok (.iaload, 1) := by decide +kernel
theorem d_Mpg_checkFor_74 : decode b_Mpg_checkFor 74 = .ok (.invokevirtual 648, 3) := by decide +kernel
theorem d_Mpg_checkFor_77 : decode b_Mpg_checkFor 77 = .ok (.aload_n 0, 1) := by decide +kernel
theorem d_Mpg_checkFor_78 : decode b_Mpg_checkFor 78 = .ok (.aload_n 0, 1) := by decide +kernel
theorem d_Mpg_checkFor_79 : decode b_Mpg_checkFor 79 = .ok (.getfield 225, 3) := by decide +kernel
theorem d_Mpg_checkFor_82 : decode b_Mpg_checkFor 82 = .ok (.iload_n 1, 1) := by decide +kernel
theorem d_Mpg_checkFor_83 : decode b_Mpg_checkFor 83 = .ok (.iaload, 1) := by decide +kernel
theorem d_Mpg_checkFor_84 : decode b_Mpg_checkFor 84 = .ok (.invokevirtual 655, 3) := by decide +kernel
theorem d_Mpg_checkFor_87 : decode b_Mpg_checkFor 87 = .ok (.aload_n 0, 1) := by decide +kernel
theorem d_Mpg_checkFor_88 : decode b_Mpg_checkFor 88 = .ok (.iload_n 2, 1) := by decide +kernel
theorem d_Mpg_checkFor_89 : decode b_Mpg_checkFor 89 = .ok (.iload_n 3, 1) := by decide +kernel
theorem d_Mpg_checkFor_90 : decode b_Mpg_checkFor 90 = .ok (.invokevirtual 642, 3) := by decide +kernel
theorem d_Mpg_checkFor_93 : decode b_Mpg_checkFor 93 = .ok (.return_, 1) := by decide +kernel
theorem q_Mpg_checkFor : px_y y_Mpg_checkFor 1 := by unfold px_y; decide +kernel
set_option maxHeartbeats 4000000 in
set_option maxRecDepth 100000 in
theorem c_mp_checkFor (l : Launch) (D : va_G) (cs : Nat → ClassId) (ma0 : Nat → Nat → Int32) (ys : Int) (nf : Int) (tx : Int) (d : Nat) (lo : Int) (hi : Int) (w : Int) (h : Nat) (r : Nat → Nat) (g : Nat → Nat → Option Nat) (tf : Nat → Int32) (ta : Nat → Nat → Int32) (pf : Nat → Int32) (na : Nat → Nat → Int32) (wa : Nat → Nat → Int32) (ef : Nat → Int32) (ea : Nat → Nat → Int32) (xf : Nat → Int32) (xa : Nat → Nat → Int32) (ma : Nat → Nat → Int32) (cf : Nat → Int32) (ca : Nat → Nat → Int32) (p0 : Int32)  (g0 : 0 ≤ lo) (g1 : hi ≤ (pf 13).toInt) (g2 : (pf 13).toInt ≤ 2100) (g3 : (tf 6).toInt ≤ 2049) (g4 : 0 ≤ (cf 33).toInt) (g5 : 0 ≤ w) (g6 : 6 * (cf 33).toInt + w ≤ 6540) (g7 : 0 ≤ (cf 48).toInt) (g8 : 6 * (cf 48).toInt + w ≤ 6540) (g9 : (cf 38).toInt = nf) (g10 : 0 ≤ nf) (g11 : 0 ≤ (cf 37).toInt) (g12 : 0 ≤ (cf 54).toInt) (g13 : (cf 54).toInt ≤ 4096 * (cf 48).toInt) (g14 : 0 ≤ (cf 42).toInt) (g15 : (cf 42).toInt ≤ 4 + 4096 * (cf 48).toInt) (g16 : 0 ≤ (cf 44).toInt) (g17 : 0 ≤ (cf 45).toInt) (g18 : ys ≤ (cf 48).toInt ∨ tx = 1) (g19 : 0 ≤ (cf 46).toInt) (g20 : (cf 46).toInt ≤ 1) (g21 : 0 ≤ (cf 47).toInt) (g22 : (cf 47).toInt ≤ 1) (g23 : (cf 44).toInt + (d : Int) ≤ 400) (g24 : (cf 45).toInt + (d : Int) ≤ 400) (g25 : 0 ≤ (cf 43).toInt) (g26 : (cf 43).toInt < 2100) (g27 : tx = 0) (g28 : (na 14 p0.toNatClampNeg).toInt = 27) (g29 : (cf 44).toInt + (d : Int) + 1 ≤ 400) (g30 : (cf 45).toInt + (d : Int) + 1 ≤ 400) (htk : TkI tf ta) (hfs : FsI (tf 6).toInt (pf 13).toInt na) (hwr : WrV cf (tf 6).toInt) (hkt : KnT (tf 6).toInt ca (cf 33).toInt) (hft : FnT (tf 6).toInt na ca (cf 38).toInt) (hks : KnS ca (cf 33).toInt (cf 48).toInt ys) (hfp : FnP na ca nf) (hsr : SyR ca ys (cf 48).toInt (cf 54).toInt tx) (han : Ann na ma0 ma) (htx : txo (cf 43).toInt = tx) (hsc : ScV ta (tf 6).toInt na ma0 (d + 1) lo hi w p0) (hLS : StC l D cs d) : MetV l y_Mpg_checkFor b_Mpg_checkFor 4 D cs (6 * d + 29) (260 * d + 1020) (0) (0) [.ref h, .int p0] [wdP cs h r g tf ta pf na ma wa cf ca ef ea xf xa] (oX (fun A U H => (oP A g U H)) [wdP cs h r g tf ta pf na ma wa cf ca ef ea xf xa]) (fun ps => ∃ (ma' : Nat → Nat → Int32) (cf' : Nat → Int32) (ca' : Nat → Nat → Int32), (ps = [wdP cs h r g tf ta pf na ma' wa cf' ca' ef ea xf xa]) ∧ ((cf' 30).toInt = 0 → (cf 30).toInt = 0) ∧ (WrV cf' (tf 6).toInt) ∧ ((cf' 37).toInt = (cf 37).toInt) ∧ ((cf' 38).toInt = (cf 38).toInt) ∧ ((cf' 43).toInt = (cf 43).toInt) ∧ ((cf' 44).toInt = (cf 44).toInt) ∧ ((cf' 45).toInt = (cf 45).toInt) ∧ ((cf' 46).toInt = (cf 46).toInt) ∧ ((cf' 47).toInt = (cf 47).toInt) ∧ ((cf' 41).toInt = (cf 41).toInt) ∧ ((cf' 55).toInt = (cf 55).toInt) ∧ ((cf' 59).toInt = (cf 59).toInt) ∧ ((cf' 33).toInt = (cf 33).toInt) ∧ ((cf 48).toInt ≤ (cf' 48).toInt) ∧ (6 * (cf' 48).toInt ≤ 6 * (cf 48).toInt + (w)) ∧ ((cf 54).toInt ≤ (cf' 54).toInt) ∧ ((cf 42).toInt ≤ (cf' 42).toInt) ∧ ((cf' 54).toInt - (cf 54).toInt ≤ 4 * ((cf' 42).toInt - (cf 42).toInt)) ∧ ((cf' 54).toInt - (cf 54).toInt ≤ 4096 * ((cf' 48).toInt - (cf 48).toInt)) ∧ ((cf' 42).toInt - (cf 42).toInt ≤ 4096 * ((cf' 48).toInt - (cf 48).toInt)) ∧ (KnT (tf 6).toInt ca' (cf' 33).toInt) ∧ (KnS ca' (cf' 33).toInt (cf' 48).toInt ys) ∧ (CaG ca ca' (cf 33).toInt (cf 48).toInt) ∧ (SyR ca' ys (cf' 48).toInt (cf' 54).toInt tx) ∧ (Ann na ma0 ma') ∧ (FrC lo hi ma ma') ∧ (ZTe cf' ta ca' na ma0 (cf' 48).toInt ys nf ma' lo hi p0 (tgv (cf 44).toInt (cf 45).toInt))) := by
  refine px_enter (by decide) (Nat.le_of_ble_eq_true rfl) ?_
  intro p e s m below meth c A ls hAe S hr hlk hnm hA hT hX hw hl
  replace hl : lv_has ls 4 [(0, .ref h), (1, .int p0)] := hl
  have lp0 := Int32.le_toInt p0
  have up0 := Int32.toInt_lt p0
  have cst1 : (1 : Int32).toInt = 1 := rfl
  have hX : (fun A U H => (oP A g U H)) A s s.heap := by rw [hAe]; exact hX
  have hP := hX
  have hZ := hP.1
  have hF0 := hP.2.1
  have hfc : FrC lo hi ma ma := FrC.rf
  have hwr0 := hwr.1
  have hk11 := hkt.1
  have hf11 := hft.1
  have hcg : CaG ca ca (cf 33).toInt (cf 48).toInt := CaG.rf
  have hkt0 := hkt
  have hks0 := hks
  have hsr0 := ScV.rng hsc
  have hsc_p0 := hsc
  obtain ⟨m1, m2, m3, w1, w2, w3, w5, hm1, hm2, hm3, hm4, hoa, hob, hoc, hse, hws, hw1, hw2, hw3, hw5⟩ := ScV.s27 hsc (by first | with_reducible rfl | with_reducible assumption | omega) (z := na 17 p0.toNatClampNeg) (y := ma0 18 p0.toNatClampNeg) (x := ma0 19 p0.toNatClampNeg) (u := ma0 20 p0.toNatClampNeg) rfl rfl rfl rfl
  have hru := ScV.rng hse
  refine lv_aload_n S.x S.b d_Mpg_checkFor_0 rfl (lv_at hl 0 rfl) ?_
  refine px_get S k_Mpg hT hw 0 0 33 (v := .int (cf 33)) rfl rfl rfl (by decide) m10_22 d_Mpg_checkFor_1 ?_
  refine lv_istore_n (lv' := [(2, .int (cf 33)), (0, .ref h), (1, .int p0)]) S.x S.b d_Mpg_checkFor_4 rfl hl (by decide) rfl (fun ls hl => ?_)
  refine lv_aload_n S.x S.b d_Mpg_checkFor_5 rfl (lv_at hl 1 rfl) ?_
  refine px_get S k_Mpg hT hw 0 0 37 (v := .int (cf 37)) rfl rfl rfl (by decide) m10_26 d_Mpg_checkFor_6 ?_
  refine lv_istore_n (lv' := [(3, .int (cf 37)), (2, .int (cf 33)), (0, .ref h), (1, .int p0)]) S.x S.b d_Mpg_checkFor_9 rfl hl (by decide) rfl (fun ls hl => ?_)
  refine lv_aload_n S.x S.b d_Mpg_checkFor_10 rfl (lv_at hl 2 rfl) ?_
  refine lv_aload_n S.x S.b d_Mpg_checkFor_11 rfl (lv_at hl 2 rfl) ?_
  refine px_get S k_Mpg hT hw 0 0 33 (v := .int (cf 33)) rfl rfl rfl (by decide) m10_22 d_Mpg_checkFor_12 ?_
  refine px_put S k_Mpg hT hw 0 0 37 rfl rfl (by decide) m10_26 rfl rfl rfl (Nat.le_of_ble_eq_true rfl) d_Mpg_checkFor_15 (w' := wdP cs h r g tf ta pf na ma wa (upd cf 37 (cf 33)) ca ef ea xf xa) (ps' := [wdP cs h r g tf ta pf na ma wa (upd cf 37 (cf 33)) ca ef ea xf xa]) rfl rfl (fun H locs hw => ?_)
  refine lv_aload_n S.x S.b d_Mpg_checkFor_18 rfl (lv_at hl 2 rfl) ?_
  refine px_get S k_Mpg hT hw 0 0 17 (v := .ref (r 17)) rfl rfl rfl (by decide) m10_1 d_Mpg_checkFor_19 ?_
  refine lv_iload_n S.x S.b d_Mpg_checkFor_22 rfl (lv_at hl 3 rfl) ?_
  refine px_iald S hT hw 0 13 (n := 2100) (f := (na 17)) rfl gp_17 (x := p0) (vp_in_iff.mpr (by first | exact oz_2334575e67 hsr0.2.2.1 hm1 g1 hm2 hru.2.1 g2 hm3 hru.1 | (constructor <;> omega))) d_Mpg_checkFor_23 ?_
  refine lv_topi (fun z1 ez1 => ?_)
  have lz1 := Int32.le_toInt z1
  have uz1 := Int32.toInt_lt z1
  have ha_z1 : z1 = na 17 p0.toNatClampNeg := ez1; have hn_z1 : z1.toInt = (na 17 p0.toNatClampNeg).toInt := (by rw [ha_z1])
  refine lv_if_lt (tgt := 37) S.x S.b d_Mpg_checkFor_24 (by decide) (fun c2 => ?_) (fun c2 => ?_)
  · have nc2 : z1.toInt < (0 : Int) := (i_lt (x := z1) (y := 0)).mp c2
    refine lv_aload_n S.x S.b d_Mpg_checkFor_37 rfl (lv_at hl 2 rfl) ?_
    refine px_get S k_Mpg hT hw 0 0 18 (v := .ref (r 18)) rfl rfl rfl (by decide) m10_3 d_Mpg_checkFor_38 ?_
    refine lv_iload_n S.x S.b d_Mpg_checkFor_41 rfl (lv_at hl 3 rfl) ?_
    refine px_iald S hT hw 0 14 (n := 2100) (f := (ma 18)) rfl gp_18 (x := p0) (vp_in_iff.mpr (by first | exact oz_2334575e67 hsr0.2.2.1 hm1 g1 hm2 hru.2.1 g2 hm3 hru.1 | (constructor <;> omega))) d_Mpg_checkFor_42 ?_
    refine lv_topi (fun z3 ez3 => ?_)
    have lz3 := Int32.le_toInt z3
    have uz3 := Int32.toInt_lt z3
    have ha_z3 : z3 = ma0 18 p0.toNatClampNeg := ez3.trans (Ann.b18 han (by first | with_reducible rfl | with_reducible assumption | omega)); have hn_z3 : z3.toInt = (ma0 18 p0.toNatClampNeg).toInt := (by rw [ha_z3])
    refine lv_if_lt (tgt := 58) S.x S.b d_Mpg_checkFor_43 (by decide) (fun c4 => ?_) (fun c4 => ?_)
    · have nc4 : z3.toInt < (0 : Int) := (i_lt (x := z3) (y := 0)).mp c4
      refine lv_aload_n S.x S.b d_Mpg_checkFor_58 rfl (lv_at hl 2 rfl) ?_
      refine px_get S k_Mpg hT hw 0 0 19 (v := .ref (r 19)) rfl rfl rfl (by decide) m10_5 d_Mpg_checkFor_59 ?_
      refine lv_iload_n S.x S.b d_Mpg_checkFor_62 rfl (lv_at hl 3 rfl) ?_
      refine px_iald S hT hw 0 15 (n := 2100) (f := (ma 19)) rfl gp_19 (x := p0) (vp_in_iff.mpr (by first | exact oz_2334575e67 hsr0.2.2.1 hm1 g1 hm2 hru.2.1 g2 hm3 hru.1 | (constructor <;> omega))) d_Mpg_checkFor_63 ?_
      refine lv_topi (fun z5 ez5 => ?_)
      have lz5 := Int32.le_toInt z5
      have uz5 := Int32.toInt_lt z5
      have ha_z5 : z5 = ma0 19 p0.toNatClampNeg := ez5.trans (Ann.b19 han (by first | with_reducible rfl | with_reducible assumption | omega)); have hn_z5 : z5.toInt = (ma0 19 p0.toNatClampNeg).toInt := (by rw [ha_z5])
      refine lv_if_lt (tgt := 77) S.x S.b d_Mpg_checkFor_64 (by decide) (fun c6 => ?_) (fun c6 => ?_)
      · have nc6 : z5.toInt < (0 : Int) := (i_lt (x := z5) (y := 0)).mp c6
        refine lv_aload_n S.x S.b d_Mpg_checkFor_77 rfl (lv_at hl 2 rfl) ?_
        refine lv_aload_n S.x S.b d_Mpg_checkFor_78 rfl (lv_at hl 2 rfl) ?_
        refine px_get S k_Mpg hT hw 0 0 20 (v := .ref (r 20)) rfl rfl rfl (by decide) m10_6 d_Mpg_checkFor_79 ?_
        refine lv_iload_n S.x S.b d_Mpg_checkFor_82 rfl (lv_at hl 3 rfl) ?_
        refine px_iald S hT hw 0 16 (n := 2100) (f := (ma 20)) rfl gp_20 (x := p0) (vp_in_iff.mpr (by first | exact oz_2334575e67 hsr0.2.2.1 hm1 g1 hm2 hru.2.1 g2 hm3 hru.1 | (constructor <;> omega))) d_Mpg_checkFor_83 ?_
        refine lv_topi (fun z7 ez7 => ?_)
        have lz7 := Int32.le_toInt z7
        have uz7 := Int32.toInt_lt z7
        have ha_z7 : z7 = ma0 20 p0.toNatClampNeg := ez7.trans (Ann.b20 han (by first | with_reducible rfl | with_reducible assumption | omega) (by first | with_reducible rfl | with_reducible assumption | omega)); have hn_z7 : z7.toInt = (ma0 20 p0.toNatClampNeg).toInt := (by rw [ha_z7]); have hsc_z7 : ScV ta (tf 6).toInt na ma0 d m3 hi w5 z7 := (by rw [ha_z7]; exact hse); have hrg_z7 := ScV.rng hsc_z7
        refine px_callv (pr := []) (px_runV (As := [.int z7]) (rest := []) S (c_mp_checkBody l D cs ma0 ys nf tx d m3 hi w5 h r g tf ta pf na wa ef ea xf xa ma (upd cf 37 (cf 33)) ca z7  (show 0 ≤ m3 from by first | exact oz_3535899054 hm3 hm2 hsr0.2.2.1 hm1 | omega) (show hi ≤ (pf 13).toInt from by first | exact g1 | omega) (show (pf 13).toInt ≤ 2100 from by first | exact g2 | omega) (show (tf 6).toInt ≤ 2049 from by first | exact g3 | omega) (show 0 ≤ (cf 33).toInt from by first | exact g4 | omega) (show 0 ≤ w5 from by first | exact hw5 | omega) (show 6 * (cf 33).toInt + w5 ≤ 6540 from by first | exact oz_a82e7868d0 g6 hws hw1 hw2 hw3 | omega) (show 0 ≤ (cf 48).toInt from by first | exact g7 | omega) (show 6 * (cf 48).toInt + w5 ≤ 6540 from by first | exact oz_a82e7868d0 g8 hws hw1 hw2 hw3 | omega) (show (cf 38).toInt = nf from by first | exact g9 | omega) (show 0 ≤ nf from by first | exact g10 | omega) (show 0 ≤ (cf 33).toInt from by first | exact g4 | omega) (show 0 ≤ (cf 54).toInt from by first | exact g12 | omega) (show (cf 54).toInt ≤ 4096 * (cf 48).toInt from by first | exact g13 | omega) (show 0 ≤ (cf 42).toInt from by first | exact g14 | omega) (show (cf 42).toInt ≤ 4 + 4096 * (cf 48).toInt from by first | exact g15 | omega) (show 0 ≤ (cf 44).toInt from by first | exact g16 | omega) (show 0 ≤ (cf 45).toInt from by first | exact g17 | omega) (show ys ≤ (cf 48).toInt ∨ tx = 1 from by first | exact g18 | omega) (show 0 ≤ (cf 46).toInt from by first | exact g19 | omega) (show (cf 46).toInt ≤ 1 from by first | exact g20 | omega) (show 0 ≤ (cf 47).toInt from by first | exact g21 | omega) (show (cf 47).toInt ≤ 1 from by first | exact g22 | omega) (show (cf 44).toInt + (d : Int) ≤ 400 from by first | exact g23 | omega) (show (cf 45).toInt + (d : Int) ≤ 400 from by first | exact g24 | omega) (show 0 ≤ (cf 43).toInt from by first | exact g25 | omega) (show (cf 43).toInt < 2100 from by first | exact g26 | omega) (show tx = 0 from by first | exact g27 | omega) (show (cf 44).toInt + (d : Int) + 1 ≤ 400 from by first | exact g29 | omega) htk (FsI.le (N' := (pf 13).toInt) hfs (by first | with_reducible rfl | with_reducible assumption | omega)) (WrV.u hwr (by decide) (by decide)) (KnT.eq hkt (show _ = (cf 33).toInt by omega)) (FnT.eq hft (show _ = (cf 38).toInt by omega)) (KnS.eq hks (show _ = (cf 33).toInt by omega) (show _ = (cf 48).toInt by omega)) hfp (SyR.eq hsr (show _ = (cf 48).toInt by omega) (show _ = (cf 54).toInt by omega)) han (show txo (cf 43).toInt = tx from by rw [show (cf 43).toInt = (cf 43).toInt by omega]; exact htx) hsc_z7 hLS _) hT (pr := []) (pcs := [wdP cs h r g tf ta pf na ma wa (upd cf 37 (cf 33)) ca ef ea xf xa]) hw (oX_call (P := (fun A U H => (oP A g U H))) (pr := []) oG_P hw hA hP) (px_recv hT hw 0 0 rfl rfl rfl) m13_37 m13_34 m13_36 ms_13_6 m1_21 q_Mpg_checkBody ⟨show (6 * d + 27) + 1 ≤ (6 * d + 29) from by first | with_reducible rfl | with_reducible assumption | omega, show 8 + (2 + 11) + (260 * d + 940) ≤ (260 * d + 1020) from by first | with_reducible rfl | with_reducible assumption | omega⟩ hl.1 rfl (Nat.le_of_ble_eq_true rfl) d_Mpg_checkFor_84 ⟨Nat.le_of_ble_eq_true rfl, Nat.le_of_ble_eq_true rfl⟩) hw hA (fun p14 H locs hp14 hw => ?_)
        obtain ⟨ma11, cf12, ca13, rfl, e16, e17, e18, e19, e20, e21, e22, e23, e24, e25, e26, e27, e28, e29, e30, e31, e32, e33, e34, e35, e36, e37, e38, e39, e40, e41, e42, e43⟩ := hp14
        replace e16 : (cf12 30).toInt = 0 → (cf 30).toInt = 0 := e16
        replace e17 : WrV cf12 (tf 6).toInt := e17
        have hwr := e17
        have hw0_e17 := hwr.1
        replace e18 : (cf12 37).toInt = (cf 33).toInt := e18
        replace e19 : (cf12 38).toInt = (cf 38).toInt := e19
        replace e20 : (cf12 43).toInt = (cf 43).toInt := e20
        replace e21 : (cf12 44).toInt = (cf 44).toInt := e21
        replace e22 : (cf12 45).toInt = (cf 45).toInt := e22
        replace e23 : (cf12 46).toInt = (cf 46).toInt := e23
        replace e24 : (cf12 47).toInt = (cf 47).toInt := e24
        replace e25 : (cf12 41).toInt = (cf 41).toInt := e25
        replace e26 : (cf12 55).toInt = (cf 55).toInt := e26
        replace e27 : (cf12 59).toInt = (cf 59).toInt := e27
        replace e28 : (cf 33).toInt ≤ (cf12 33).toInt := e28
        replace e29 : 6 * (cf12 33).toInt ≤ 6 * (cf 33).toInt + (w5) := e29
        replace e30 : (cf 48).toInt ≤ (cf12 48).toInt := e30
        replace e31 : 6 * (cf12 48).toInt ≤ 6 * (cf 48).toInt + (w5) := e31
        replace e32 : (cf 54).toInt ≤ (cf12 54).toInt := e32
        replace e33 : (cf 42).toInt ≤ (cf12 42).toInt := e33
        replace e34 : (cf12 54).toInt - (cf 54).toInt ≤ 4 * ((cf12 42).toInt - (cf 42).toInt) := e34
        replace e35 : (cf12 54).toInt - (cf 54).toInt ≤ 4096 * ((cf12 48).toInt - (cf 48).toInt) := e35
        replace e36 : (cf12 42).toInt - (cf 42).toInt ≤ 4096 * ((cf12 48).toInt - (cf 48).toInt) := e36
        replace e37 : KnT (tf 6).toInt ca13 (cf12 33).toInt := e37
        have hkt := e37
        have hk11_e37 := hkt.1
        replace e38 : KnS ca13 (cf12 33).toInt (cf12 48).toInt ys := e38
        have hks := e38
        replace e39 : CaG ca ca13 (cf 33).toInt (cf 48).toInt := e39
        have hcg := hcg.tr e39 (by first | with_reducible rfl | with_reducible assumption | omega) (by first | with_reducible rfl | with_reducible assumption | omega)
        have hft := hft.cg e39
        have hfp := hfp.cg e39
        replace e40 : SyR ca13 ys (cf12 48).toInt (cf12 54).toInt tx := e40
        have hsr := e40
        replace e41 : Ann na ma0 ma11 := e41
        have han := e41
        replace e42 : FrC m3 hi ma ma11 := e42
        have hfc := hfc.tr e42 (by first | with_reducible rfl | with_reducible assumption | omega) (by first | with_reducible rfl | with_reducible assumption | omega)
        replace e43 : ZTe cf12 ta ca13 na ma0 (cf12 48).toInt ys nf ma11 m3 hi z7 4 := e43
        have hts_z7 : ZTe cf12 ta ca13 na ma0 (cf12 48).toInt ys nf ma11 m3 hi z7 4 := ZTe.to e43 (fun q => by first | with_reducible rfl | with_reducible assumption | omega) (by first | with_reducible rfl | with_reducible assumption | omega) (Int.le_refl _) (Int.le_refl _) rfl
        replace hw : pw D A s.heap H locs [wdP cs h r g tf ta pf na ma11 wa cf12 ca13 ef ea xf xa] := hw
        refine lv_aload_n S.x S.b d_Mpg_checkFor_87 rfl (lv_at hl 2 rfl) ?_
        refine lv_iload_n S.x S.b d_Mpg_checkFor_88 rfl (lv_at hl 1 rfl) ?_
        refine lv_iload_n S.x S.b d_Mpg_checkFor_89 rfl (lv_at hl 0 rfl) ?_
        refine px_callv (pr := []) (px_runV (As := [.int (cf 33), .int (cf 37)]) (rest := []) S (c_mp_leave l D cs h r g tf ta pf na ma11 wa ca13 ef ea xf xa cf12 (cf 33) (cf 37)  htk _) hT (pr := []) (pcs := [wdP cs h r g tf ta pf na ma11 wa cf12 ca13 ef ea xf xa]) hw px_X.tt (px_recv hT hw 0 0 rfl rfl rfl) m12_209 m12_206 m12_208 ms_12_5 m1_21 q_Mpg_leave ⟨show 0 + 1 ≤ (6 * d + 29) from by first | with_reducible rfl | with_reducible assumption | omega, show 8 + (3 + 11) + 0 ≤ (260 * d + 1020) from by first | with_reducible rfl | with_reducible assumption | omega⟩ hl.1 rfl (Nat.le_of_ble_eq_true rfl) d_Mpg_checkFor_90 ⟨Nat.le_of_ble_eq_true rfl, Nat.le_of_ble_eq_true rfl⟩) hw hA (fun p46 H locs hp46 hw => ?_)
        obtain ⟨cf45, rfl, e48, e49, e50, e51, e52, e53, e54, e55, e56, e57, e58, e59, e60, e61, e62, e63, e64, e65⟩ := hp46
        replace e48 : (cf45 33).toInt = (cf 33).toInt := e48
        replace e49 : (cf45 37).toInt = (cf 37).toInt := e49
        replace e50 : (cf45 30).toInt = (cf12 30).toInt := e50
        replace e51 : (cf45 31).toInt = (cf12 31).toInt := e51
        replace e52 : (cf45 38).toInt = (cf12 38).toInt := e52
        replace e53 : (cf45 41).toInt = (cf12 41).toInt := e53
        replace e54 : (cf45 42).toInt = (cf12 42).toInt := e54
        replace e55 : (cf45 43).toInt = (cf12 43).toInt := e55
        replace e56 : (cf45 44).toInt = (cf12 44).toInt := e56
        replace e57 : (cf45 45).toInt = (cf12 45).toInt := e57
        replace e58 : (cf45 46).toInt = (cf12 46).toInt := e58
        replace e59 : (cf45 47).toInt = (cf12 47).toInt := e59
        replace e60 : (cf45 48).toInt = (cf12 48).toInt := e60
        replace e61 : (cf45 54).toInt = (cf12 54).toInt := e61
        replace e62 : (cf45 55).toInt = (cf12 55).toInt := e62
        replace e63 : (cf45 57).toInt = (cf12 57).toInt := e63
        replace e64 : (cf45 58).toInt = (cf12 58).toInt := e64
        replace e65 : (cf45 59).toInt = (cf12 59).toInt := e65
        have hwr : WrV cf45 (tf 6).toInt := WrV.eq hwr (by first | with_reducible rfl | with_reducible assumption | omega) (by first | with_reducible rfl | with_reducible assumption | omega)
        have hkt := KnT.eq (n' := (cf45 33).toInt) (KnT.cg hkt0 hcg (Int.le_refl _)) (by first | with_reducible rfl | with_reducible assumption | omega)
        have hks := KnS.eq (n' := (cf45 33).toInt) (KnS.cg hks0 hcg (Int.le_refl _) (Int.le_refl _) (n2 := (cf45 48).toInt) (by first | with_reducible rfl | with_reducible assumption | omega)) (by first | with_reducible rfl | with_reducible assumption | omega) rfl
        have hts_z7 : ZTe cf45 ta ca13 na ma0 (cf45 48).toInt ys nf ma11 m3 hi z7 4 := ZTe.to hts_z7 (fun q => by first | with_reducible rfl | with_reducible assumption | omega) (by first | with_reducible rfl | with_reducible assumption | omega) (Int.le_refl _) (Int.le_refl _) rfl
        replace hw : pw D A s.heap H locs [wdP cs h r g tf ta pf na ma11 wa cf45 ca13 ef ea xf xa] := hw
        exact px_vret S hr hlk hAe hw (Nat.le_of_ble_eq_true rfl) (Nat.le_of_ble_eq_true rfl) (⟨ma11, cf45, ca13, rfl, (show (cf45 30).toInt = 0 → (cf 30).toInt = 0 from by first | with_reducible rfl | with_reducible assumption | omega), (show WrV cf45 (tf 6).toInt from hwr), (show (cf45 37).toInt = (cf 37).toInt from by first | exact e49 | omega), (show (cf45 38).toInt = (cf 38).toInt from by first | exact oz_1687f4cc65 e19 e52 | omega), (show (cf45 43).toInt = (cf 43).toInt from by first | exact oz_1687f4cc65 e20 e55 | omega), (show (cf45 44).toInt = (cf 44).toInt from by first | exact oz_1687f4cc65 e21 e56 | omega), (show (cf45 45).toInt = (cf 45).toInt from by first | exact oz_1687f4cc65 e22 e57 | omega), (show (cf45 46).toInt = (cf 46).toInt from by first | exact oz_1687f4cc65 e23 e58 | omega), (show (cf45 47).toInt = (cf 47).toInt from by first | exact oz_1687f4cc65 e24 e59 | omega), (show (cf45 41).toInt = (cf 41).toInt from by first | exact oz_1687f4cc65 e25 e53 | omega), (show (cf45 55).toInt = (cf 55).toInt from by first | exact oz_1687f4cc65 e26 e62 | omega), (show (cf45 59).toInt = (cf 59).toInt from by first | exact oz_1687f4cc65 e27 e65 | omega), (show (cf45 33).toInt = (cf 33).toInt from by first | exact e48 | omega), (show (cf 48).toInt ≤ (cf45 48).toInt from by first | exact oz_73dc218776 e36 e60 e32 e34 | omega), (show 6 * (cf45 48).toInt ≤ 6 * (cf 48).toInt + (w) from by first | exact oz_f69aaf80ca hws e31 e60 hw1 hw2 hw3 | omega), (show (cf 54).toInt ≤ (cf45 54).toInt from by first | exact oz_b1a9dcfb4c e32 e61 | omega), (show (cf 42).toInt ≤ (cf45 42).toInt from by first | exact oz_94ff7ee8ed e34 e54 e32 | omega), (show (cf45 54).toInt - (cf 54).toInt ≤ 4 * ((cf45 42).toInt - (cf 42).toInt) from by first | exact oz_4001d13b45 e34 e54 e61 | omega), (show (cf45 54).toInt - (cf 54).toInt ≤ 4096 * ((cf45 48).toInt - (cf 48).toInt) from by first | exact oz_761fc723f5 e35 e60 e61 | omega), (show (cf45 42).toInt - (cf 42).toInt ≤ 4096 * ((cf45 48).toInt - (cf 48).toInt) from by first | exact oz_0e7a26fe4a e36 e54 e60 | omega), (show KnT (tf 6).toInt ca13 (cf45 33).toInt from (KnT.eq hkt (by first | with_reducible rfl | with_reducible assumption | omega))), (show KnS ca13 (cf45 33).toInt (cf45 48).toInt ys from (KnS.eq hks (by first | with_reducible rfl | with_reducible assumption | omega) (by first | with_reducible rfl | with_reducible assumption | omega))), (show CaG ca ca13 (cf 33).toInt (cf 48).toInt from (hcg.le (by first | with_reducible rfl | with_reducible assumption | omega) (by first | with_reducible rfl | with_reducible assumption | omega))), (show SyR ca13 ys (cf45 48).toInt (cf45 54).toInt tx from (SyR.eq hsr (by first | with_reducible rfl | with_reducible assumption | omega) (by first | with_reducible rfl | with_reducible assumption | omega))), (show Ann na ma0 ma11 from han), (show FrC lo hi ma ma11 from hfc), (show ZTe cf45 ta ca13 na ma0 (cf45 48).toInt ys nf ma11 lo hi p0 (tgv (cf 44).toInt (cf 45).toInt) from (fun zz => by exact tys_27 ⟨by first | with_reducible rfl | with_reducible assumption | omega, by first | with_reducible rfl | with_reducible assumption | omega, by first | with_reducible rfl | with_reducible assumption | omega⟩ tgv_rng (by first | with_reducible rfl | with_reducible assumption | omega) ha_z1 (ha_z3.trans (Ann.b18 han (by first | with_reducible rfl | with_reducible assumption | omega)).symm) (ha_z5.trans (Ann.b19 han (by first | with_reducible rfl | with_reducible assumption | omega)).symm) (ha_z7.trans (Ann.b20 han (by first | with_reducible rfl | with_reducible assumption | omega) (by first | with_reducible rfl | with_reducible assumption | omega)).symm) (Or.inl (by first | with_reducible rfl | with_reducible assumption | omega)) (Or.inl (by first | with_reducible rfl | with_reducible assumption | omega)) (Or.inl (by first | with_reducible rfl | with_reducible assumption | omega)) (ZTe.at hts_z7 (by first | with_reducible rfl | with_reducible assumption | omega) (by first | with_reducible rfl | with_reducible assumption | omega) (by first | with_reducible rfl | with_reducible assumption | omega) (by first | with_reducible rfl | with_reducible assumption | omega) rfl)))⟩) d_Mpg_checkFor_93
      · have nc6 : ¬ z5.toInt < (0 : Int) := mt (i_lt (x := z5) (y := 0)).mpr c6
        refine lv_aload_n S.x S.b d_Mpg_checkFor_67 rfl (lv_at hl 2 rfl) ?_
        refine lv_aload_n S.x S.b d_Mpg_checkFor_68 rfl (lv_at hl 2 rfl) ?_
        refine px_get S k_Mpg hT hw 0 0 19 (v := .ref (r 19)) rfl rfl rfl (by decide) m10_5 d_Mpg_checkFor_69 ?_
        refine lv_iload_n S.x S.b d_Mpg_checkFor_72 rfl (lv_at hl 3 rfl) ?_
        refine px_iald S hT hw 0 15 (n := 2100) (f := (ma 19)) rfl gp_19 (x := p0) (vp_in_iff.mpr (by first | exact oz_2334575e67 hsr0.2.2.1 hm1 g1 hm2 hru.2.1 g2 hm3 hru.1 | (constructor <;> omega))) d_Mpg_checkFor_73 ?_
        refine lv_topi (fun z66 ez66 => ?_)
        have lz66 := Int32.le_toInt z66
        have uz66 := Int32.toInt_lt z66
        have ha_z66 : z66 = ma0 19 p0.toNatClampNeg := ez66.trans (Ann.b19 han (by first | with_reducible rfl | with_reducible assumption | omega)); have hn_z66 : z66.toInt = (ma0 19 p0.toNatClampNeg).toInt := (by rw [ha_z66]); have hev_z66 : ErV ta (tf 6).toInt na ma0 d m2 m3 w3 z66 := (by rw [ha_z66]; exact (hoc.get (by first | with_reducible rfl | with_reducible assumption | omega))); obtain ⟨hec_z66, h20_z66, hw_z66⟩ := hev_z66.ec; have hrg_z66 := EcV.rng hec_z66
        refine px_callv (pr := []) (px_runV (As := [.int z66]) (rest := []) S (c_mp_checkAlone l D cs ma0 ys (cf 48).toInt nf (cf 33).toInt d m2 m3 h r g tf ta pf na wa ca ef ea xf xa ma (upd cf 37 (cf 33)) z66  (show 0 ≤ m2 from by first | exact oz_8df2b9da5a hm2 hm1 hsr0.2.2.1 | omega) (show m3 ≤ (pf 13).toInt from by first | exact oz_8d1dd37214 g1 hru.1 hru.2.1 | omega) (show (pf 13).toInt ≤ 2100 from by first | exact g2 | omega) (show (tf 6).toInt ≤ 2049 from by first | exact g3 | omega) (show (cf 33).toInt = (cf 33).toInt from rfl) (show 0 ≤ (cf 33).toInt from by first | exact g4 | omega) (show (cf 48).toInt = (cf 48).toInt from rfl) (show (cf 38).toInt = nf from by first | exact g9 | omega) (show 0 ≤ nf from by first | exact g10 | omega) htk (FsI.le (N' := (pf 13).toInt) hfs (by first | with_reducible rfl | with_reducible assumption | omega)) (WrV.u hwr (by decide) (by decide)) (KnT.eq hkt (show _ = (cf 33).toInt by omega)) (FnT.eq hft (show _ = (cf 38).toInt by omega)) (KnS.eq hks (by first | with_reducible rfl | with_reducible assumption | omega) (by first | with_reducible rfl | with_reducible assumption | omega)) hfp han hec_z66 _) hT (pr := []) (pcs := [wdP cs h r g tf ta pf na ma wa (upd cf 37 (cf 33)) ca ef ea xf xa]) hw (oX_call (P := (fun A U H => (oP A g U H))) (pr := []) oG_P hw hA hP) (px_recv hT hw 0 0 rfl rfl rfl) m12_213 m12_210 m12_212 ms_12_6 m1_21 q_Mpg_checkAlone ⟨show (4 * d + 13) + 1 ≤ (6 * d + 29) from by first | with_reducible rfl | with_reducible assumption | omega, show 8 + (3 + 11) + (200 * d + 460) ≤ (260 * d + 1020) from by first | with_reducible rfl | with_reducible assumption | omega⟩ hl.1 rfl (Nat.le_of_ble_eq_true rfl) d_Mpg_checkFor_74 ⟨Nat.le_of_ble_eq_true rfl, Nat.le_of_ble_eq_true rfl⟩) hw hA (fun p71 H locs hp71 hw => ?_)
        obtain ⟨ma69, cf70, rfl, e73, e74, e75, e76, e77, e78, e79, e80, e81, e82, e83⟩ := hp71
        replace e73 : KpE (upd cf 37 (cf 33)) cf70 := e73
        have hkz_e73 : (cf70 30).toInt = 0 → (cf 30).toInt = 0 := e73.2
        have hkk37_e73 : (cf70 37).toInt = (cf 33).toInt := (by rw [e73.1 37 (by decide) (by decide) (by decide) (by decide) (by decide)] <;> rfl)
        have hkk43_e73 : (cf70 43).toInt = (cf 43).toInt := (by rw [e73.1 43 (by decide) (by decide) (by decide) (by decide) (by decide)] <;> rfl)
        have hkk44_e73 : (cf70 44).toInt = (cf 44).toInt := (by rw [e73.1 44 (by decide) (by decide) (by decide) (by decide) (by decide)] <;> rfl)
        have hkk45_e73 : (cf70 45).toInt = (cf 45).toInt := (by rw [e73.1 45 (by decide) (by decide) (by decide) (by decide) (by decide)] <;> rfl)
        have hkk41_e73 : (cf70 41).toInt = (cf 41).toInt := (by rw [e73.1 41 (by decide) (by decide) (by decide) (by decide) (by decide)] <;> rfl)
        have hkk55_e73 : (cf70 55).toInt = (cf 55).toInt := (by rw [e73.1 55 (by decide) (by decide) (by decide) (by decide) (by decide)] <;> rfl)
        have hkk59_e73 : (cf70 59).toInt = (cf 59).toInt := (by rw [e73.1 59 (by decide) (by decide) (by decide) (by decide) (by decide)] <;> rfl)
        have hkk42_e73 : (cf70 42).toInt = (cf 42).toInt := (by rw [e73.1 42 (by decide) (by decide) (by decide) (by decide) (by decide)] <;> rfl)
        have hkk54_e73 : (cf70 54).toInt = (cf 54).toInt := (by rw [e73.1 54 (by decide) (by decide) (by decide) (by decide) (by decide)] <;> rfl)
        have hkk58_e73 : (cf70 58).toInt = (cf 58).toInt := (by rw [e73.1 58 (by decide) (by decide) (by decide) (by decide) (by decide)] <;> rfl)
        replace e74 : WrV cf70 (tf 6).toInt := e74
        have hwr := e74
        have hw0_e74 := hwr.1
        replace e75 : (cf70 33).toInt = (cf 33).toInt := e75
        replace e76 : (cf70 38).toInt = (cf 38).toInt := e76
        replace e77 : (cf70 48).toInt = (cf 48).toInt := e77
        replace e78 : (cf70 46).toInt = (cf 46).toInt := e78
        replace e79 : (cf70 47).toInt = (cf 47).toInt := e79
        replace e80 : (cf70 57).toInt = (cf 57).toInt := e80
        replace e81 : Ann na ma0 ma69 := e81
        have han := e81
        replace e82 : FrC m2 m3 ma ma69 := e82
        have hfc := hfc.tr e82 (by first | with_reducible rfl | with_reducible assumption | omega) (by first | with_reducible rfl | with_reducible assumption | omega)
        replace e83 : ZT0 cf70 (Gk ta ca na ma0 (cf 48).toInt ys nf) na ma69 m2 m3 z66 := e83
        have hty_z66 : ZTe cf70 ta ca na ma0 (cf70 48).toInt ys nf ma69 m2 m3 z66 0 := ZTe.to (t := 0) e83 (fun q => by first | with_reducible rfl | with_reducible assumption | omega) (by first | with_reducible rfl | with_reducible assumption | omega) (Int.le_refl _) (Int.le_refl _) rfl
        replace hw : pw D A s.heap H locs [wdP cs h r g tf ta pf na ma69 wa cf70 ca ef ea xf xa] := hw
        refine lv_aload_n S.x S.b d_Mpg_checkFor_77 rfl (lv_at hl 2 rfl) ?_
        refine lv_aload_n S.x S.b d_Mpg_checkFor_78 rfl (lv_at hl 2 rfl) ?_
        refine px_get S k_Mpg hT hw 0 0 20 (v := .ref (r 20)) rfl rfl rfl (by decide) m10_6 d_Mpg_checkFor_79 ?_
        refine lv_iload_n S.x S.b d_Mpg_checkFor_82 rfl (lv_at hl 3 rfl) ?_
        refine px_iald S hT hw 0 16 (n := 2100) (f := (ma69 20)) rfl gp_20 (x := p0) (vp_in_iff.mpr (by first | exact oz_2334575e67 hsr0.2.2.1 hm1 g1 hm2 hru.2.1 g2 hm3 hru.1 | (constructor <;> omega))) d_Mpg_checkFor_83 ?_
        refine lv_topi (fun z84 ez84 => ?_)
        have lz84 := Int32.le_toInt z84
        have uz84 := Int32.toInt_lt z84
        have ha_z84 : z84 = ma0 20 p0.toNatClampNeg := ez84.trans (Ann.b20 han (by first | with_reducible rfl | with_reducible assumption | omega) (by first | with_reducible rfl | with_reducible assumption | omega)); have hn_z84 : z84.toInt = (ma0 20 p0.toNatClampNeg).toInt := (by rw [ha_z84]); have hsc_z84 : ScV ta (tf 6).toInt na ma0 d m3 hi w5 z84 := (by rw [ha_z84]; exact hse); have hrg_z84 := ScV.rng hsc_z84
        refine px_callv (pr := []) (px_runV (As := [.int z84]) (rest := []) S (c_mp_checkBody l D cs ma0 ys nf tx d m3 hi w5 h r g tf ta pf na wa ef ea xf xa ma69 cf70 ca z84  (show 0 ≤ m3 from by first | exact oz_3535899054 hm3 hm2 hsr0.2.2.1 hm1 | omega) (show hi ≤ (pf 13).toInt from by first | exact g1 | omega) (show (pf 13).toInt ≤ 2100 from by first | exact g2 | omega) (show (tf 6).toInt ≤ 2049 from by first | exact g3 | omega) (show 0 ≤ (cf70 33).toInt from by first | exact oz_f3ebed1ad0 e75 g4 | omega) (show 0 ≤ w5 from by first | exact hw5 | omega) (show 6 * (cf70 33).toInt + w5 ≤ 6540 from by first | exact oz_cbc45a6c70 hws e75 g6 hw1 hw2 hw3 | omega) (show 0 ≤ (cf70 48).toInt from by first | exact oz_f3ebed1ad0 e77 g7 | omega) (show 6 * (cf70 48).toInt + w5 ≤ 6540 from by first | exact oz_cbc45a6c70 hws e77 g8 hw1 hw2 hw3 | omega) (show (cf70 38).toInt = nf from by first | exact oz_1687f4cc65 g9 e76 | omega) (show 0 ≤ nf from by first | exact g10 | omega) (show 0 ≤ (cf70 37).toInt from by first | exact oz_f3ebed1ad0 hkk37_e73 g4 | omega) (show 0 ≤ (cf70 54).toInt from by first | exact oz_f3ebed1ad0 hkk54_e73 g12 | omega) (show (cf70 54).toInt ≤ 4096 * (cf70 48).toInt from by first | exact oz_964e82b9f4 e77 hkk54_e73 g13 | omega) (show 0 ≤ (cf70 42).toInt from by first | exact oz_f3ebed1ad0 hkk42_e73 g14 | omega) (show (cf70 42).toInt ≤ 4 + 4096 * (cf70 48).toInt from by first | exact oz_0fa6d939a6 e77 hkk42_e73 g15 | omega) (show 0 ≤ (cf70 44).toInt from by first | exact oz_f3ebed1ad0 hkk44_e73 g16 | omega) (show 0 ≤ (cf70 45).toInt from by first | exact oz_f3ebed1ad0 hkk45_e73 g17 | omega) (show ys ≤ (cf70 48).toInt ∨ tx = 1 from by first | with_reducible rfl | with_reducible assumption | omega) (show 0 ≤ (cf70 46).toInt from by first | exact oz_f3ebed1ad0 e78 g19 | omega) (show (cf70 46).toInt ≤ 1 from by first | exact oz_878017becc e78 g20 | omega) (show 0 ≤ (cf70 47).toInt from by first | exact oz_f3ebed1ad0 e79 g21 | omega) (show (cf70 47).toInt ≤ 1 from by first | exact oz_878017becc e79 g22 | omega) (show (cf70 44).toInt + (d : Int) ≤ 400 from by first | exact oz_d272872612 g29 hkk44_e73 | omega) (show (cf70 45).toInt + (d : Int) ≤ 400 from by first | exact oz_d272872612 g30 hkk45_e73 | omega) (show 0 ≤ (cf70 43).toInt from by first | exact oz_f3ebed1ad0 hkk43_e73 g25 | omega) (show (cf70 43).toInt < 2100 from by first | exact oz_b365134983 hkk43_e73 g26 | omega) (show tx = 0 from by first | exact g27 | omega) (show (cf70 44).toInt + (d : Int) + 1 ≤ 400 from by first | exact oz_4d2bb0c431 g29 hkk44_e73 | omega) htk (FsI.le (N' := (pf 13).toInt) hfs (by first | with_reducible rfl | with_reducible assumption | omega)) hwr (KnT.eq hkt (by first | with_reducible rfl | with_reducible assumption | omega)) (FnT.eq hft (by first | with_reducible rfl | with_reducible assumption | omega)) (KnS.eq hks (by first | with_reducible rfl | with_reducible assumption | omega) (by first | with_reducible rfl | with_reducible assumption | omega)) hfp (SyR.eq hsr (by first | with_reducible rfl | with_reducible assumption | omega) (by first | with_reducible rfl | with_reducible assumption | omega)) han (show txo (cf70 43).toInt = tx from by rw [show (cf70 43).toInt = (cf 43).toInt by omega]; exact htx) hsc_z84 hLS _) hT (pr := []) (pcs := [wdP cs h r g tf ta pf na ma69 wa cf70 ca ef ea xf xa]) hw (oX_call (P := (fun A U H => (oP A g U H))) (pr := []) oG_P hw hA hP) (px_recv hT hw 0 0 rfl rfl rfl) m13_37 m13_34 m13_36 ms_13_6 m1_21 q_Mpg_checkBody ⟨show (6 * d + 27) + 1 ≤ (6 * d + 29) from by first | with_reducible rfl | with_reducible assumption | omega, show 8 + (2 + 11) + (260 * d + 940) ≤ (260 * d + 1020) from by first | with_reducible rfl | with_reducible assumption | omega⟩ hl.1 rfl (Nat.le_of_ble_eq_true rfl) d_Mpg_checkFor_84 ⟨Nat.le_of_ble_eq_true rfl, Nat.le_of_ble_eq_true rfl⟩) hw hA (fun p91 H locs hp91 hw => ?_)
        obtain ⟨ma88, cf89, ca90, rfl, e93, e94, e95, e96, e97, e98, e99, e100, e101, e102, e103, e104, e105, e106, e107, e108, e109, e110, e111, e112, e113, e114, e115, e116, e117, e118, e119, e120⟩ := hp91
        replace e93 : (cf89 30).toInt = 0 → (cf70 30).toInt = 0 := e93
        replace e94 : WrV cf89 (tf 6).toInt := e94
        have hwr := e94
        have hw0_e94 := hwr.1
        replace e95 : (cf89 37).toInt = (cf70 37).toInt := e95
        replace e96 : (cf89 38).toInt = (cf70 38).toInt := e96
        replace e97 : (cf89 43).toInt = (cf70 43).toInt := e97
        replace e98 : (cf89 44).toInt = (cf70 44).toInt := e98
        replace e99 : (cf89 45).toInt = (cf70 45).toInt := e99
        replace e100 : (cf89 46).toInt = (cf70 46).toInt := e100
        replace e101 : (cf89 47).toInt = (cf70 47).toInt := e101
        replace e102 : (cf89 41).toInt = (cf70 41).toInt := e102
        replace e103 : (cf89 55).toInt = (cf70 55).toInt := e103
        replace e104 : (cf89 59).toInt = (cf70 59).toInt := e104
        replace e105 : (cf70 33).toInt ≤ (cf89 33).toInt := e105
        replace e106 : 6 * (cf89 33).toInt ≤ 6 * (cf70 33).toInt + (w5) := e106
        replace e107 : (cf70 48).toInt ≤ (cf89 48).toInt := e107
        replace e108 : 6 * (cf89 48).toInt ≤ 6 * (cf70 48).toInt + (w5) := e108
        replace e109 : (cf70 54).toInt ≤ (cf89 54).toInt := e109
        replace e110 : (cf70 42).toInt ≤ (cf89 42).toInt := e110
        replace e111 : (cf89 54).toInt - (cf70 54).toInt ≤ 4 * ((cf89 42).toInt - (cf70 42).toInt) := e111
        replace e112 : (cf89 54).toInt - (cf70 54).toInt ≤ 4096 * ((cf89 48).toInt - (cf70 48).toInt) := e112
        replace e113 : (cf89 42).toInt - (cf70 42).toInt ≤ 4096 * ((cf89 48).toInt - (cf70 48).toInt) := e113
        replace e114 : KnT (tf 6).toInt ca90 (cf89 33).toInt := e114
        have hkt := e114
        have hk11_e114 := hkt.1
        replace e115 : KnS ca90 (cf89 33).toInt (cf89 48).toInt ys := e115
        have hks := e115
        replace e116 : CaG ca ca90 (cf70 33).toInt (cf70 48).toInt := e116
        have hcg := hcg.tr e116 (by first | with_reducible rfl | with_reducible assumption | omega) (by first | with_reducible rfl | with_reducible assumption | omega)
        have hft := hft.cg e116
        have hfp := hfp.cg e116
        replace e117 : SyR ca90 ys (cf89 48).toInt (cf89 54).toInt tx := e117
        have hsr := e117
        replace e118 : Ann na ma0 ma88 := e118
        have han := e118
        replace e119 : FrC m3 hi ma69 ma88 := e119
        have hfc := hfc.tr e119 (by first | with_reducible rfl | with_reducible assumption | omega) (by first | with_reducible rfl | with_reducible assumption | omega)
        have hty_z66 : ZTe cf89 ta ca90 na ma0 (cf89 48).toInt ys nf ma88 m2 m3 z66 0 := ZTe.tr hty_z66 (fun q => by first | with_reducible rfl | with_reducible assumption | omega) e119 (by first | with_reducible rfl | with_reducible assumption | omega) e116 (by first | with_reducible rfl | with_reducible assumption | omega) (by first | with_reducible rfl | with_reducible assumption | omega)
        replace e120 : ZTe cf89 ta ca90 na ma0 (cf89 48).toInt ys nf ma88 m3 hi z84 4 := e120
        have hts_z84 : ZTe cf89 ta ca90 na ma0 (cf89 48).toInt ys nf ma88 m3 hi z84 4 := ZTe.to e120 (fun q => by first | with_reducible rfl | with_reducible assumption | omega) (by first | with_reducible rfl | with_reducible assumption | omega) (Int.le_refl _) (Int.le_refl _) rfl
        replace hw : pw D A s.heap H locs [wdP cs h r g tf ta pf na ma88 wa cf89 ca90 ef ea xf xa] := hw
        refine lv_aload_n S.x S.b d_Mpg_checkFor_87 rfl (lv_at hl 2 rfl) ?_
        refine lv_iload_n S.x S.b d_Mpg_checkFor_88 rfl (lv_at hl 1 rfl) ?_
        refine lv_iload_n S.x S.b d_Mpg_checkFor_89 rfl (lv_at hl 0 rfl) ?_
        refine px_callv (pr := []) (px_runV (As := [.int (cf 33), .int (cf 37)]) (rest := []) S (c_mp_leave l D cs h r g tf ta pf na ma88 wa ca90 ef ea xf xa cf89 (cf 33) (cf 37)  htk _) hT (pr := []) (pcs := [wdP cs h r g tf ta pf na ma88 wa cf89 ca90 ef ea xf xa]) hw px_X.tt (px_recv hT hw 0 0 rfl rfl rfl) m12_209 m12_206 m12_208 ms_12_5 m1_21 q_Mpg_leave ⟨show 0 + 1 ≤ (6 * d + 29) from by first | with_reducible rfl | with_reducible assumption | omega, show 8 + (3 + 11) + 0 ≤ (260 * d + 1020) from by first | with_reducible rfl | with_reducible assumption | omega⟩ hl.1 rfl (Nat.le_of_ble_eq_true rfl) d_Mpg_checkFor_90 ⟨Nat.le_of_ble_eq_true rfl, Nat.le_of_ble_eq_true rfl⟩) hw hA (fun p123 H locs hp123 hw => ?_)
        obtain ⟨cf122, rfl, e125, e126, e127, e128, e129, e130, e131, e132, e133, e134, e135, e136, e137, e138, e139, e140, e141, e142⟩ := hp123
        replace e125 : (cf122 33).toInt = (cf 33).toInt := e125
        replace e126 : (cf122 37).toInt = (cf 37).toInt := e126
        replace e127 : (cf122 30).toInt = (cf89 30).toInt := e127
        replace e128 : (cf122 31).toInt = (cf89 31).toInt := e128
        replace e129 : (cf122 38).toInt = (cf89 38).toInt := e129
        replace e130 : (cf122 41).toInt = (cf89 41).toInt := e130
        replace e131 : (cf122 42).toInt = (cf89 42).toInt := e131
        replace e132 : (cf122 43).toInt = (cf89 43).toInt := e132
        replace e133 : (cf122 44).toInt = (cf89 44).toInt := e133
        replace e134 : (cf122 45).toInt = (cf89 45).toInt := e134
        replace e135 : (cf122 46).toInt = (cf89 46).toInt := e135
        replace e136 : (cf122 47).toInt = (cf89 47).toInt := e136
        replace e137 : (cf122 48).toInt = (cf89 48).toInt := e137
        replace e138 : (cf122 54).toInt = (cf89 54).toInt := e138
        replace e139 : (cf122 55).toInt = (cf89 55).toInt := e139
        replace e140 : (cf122 57).toInt = (cf89 57).toInt := e140
        replace e141 : (cf122 58).toInt = (cf89 58).toInt := e141
        replace e142 : (cf122 59).toInt = (cf89 59).toInt := e142
        have hwr : WrV cf122 (tf 6).toInt := WrV.eq hwr (by first | with_reducible rfl | with_reducible assumption | omega) (by first | with_reducible rfl | with_reducible assumption | omega)
        have hkt := KnT.eq (n' := (cf122 33).toInt) (KnT.cg hkt0 hcg (Int.le_refl _)) (by first | with_reducible rfl | with_reducible assumption | omega)
        have hks := KnS.eq (n' := (cf122 33).toInt) (KnS.cg hks0 hcg (Int.le_refl _) (Int.le_refl _) (n2 := (cf122 48).toInt) (by first | with_reducible rfl | with_reducible assumption | omega)) (by first | with_reducible rfl | with_reducible assumption | omega) rfl
        have hty_z66 : ZTe cf122 ta ca90 na ma0 (cf122 48).toInt ys nf ma88 m2 m3 z66 0 := ZTe.to hty_z66 (fun q => by first | with_reducible rfl | with_reducible assumption | omega) (by first | with_reducible rfl | with_reducible assumption | omega) (Int.le_refl _) (Int.le_refl _) rfl
        have hts_z84 : ZTe cf122 ta ca90 na ma0 (cf122 48).toInt ys nf ma88 m3 hi z84 4 := ZTe.to hts_z84 (fun q => by first | with_reducible rfl | with_reducible assumption | omega) (by first | with_reducible rfl | with_reducible assumption | omega) (Int.le_refl _) (Int.le_refl _) rfl
        replace hw : pw D A s.heap H locs [wdP cs h r g tf ta pf na ma88 wa cf122 ca90 ef ea xf xa] := hw
        exact px_vret S hr hlk hAe hw (Nat.le_of_ble_eq_true rfl) (Nat.le_of_ble_eq_true rfl) (⟨ma88, cf122, ca90, rfl, (show (cf122 30).toInt = 0 → (cf 30).toInt = 0 from by first | with_reducible rfl | with_reducible assumption | omega), (show WrV cf122 (tf 6).toInt from hwr), (show (cf122 37).toInt = (cf 37).toInt from by first | exact e126 | omega), (show (cf122 38).toInt = (cf 38).toInt from by first | exact oz_e13fc83238 e76 e129 e96 | omega), (show (cf122 43).toInt = (cf 43).toInt from by first | exact oz_e13fc83238 hkk43_e73 e132 e97 | omega), (show (cf122 44).toInt = (cf 44).toInt from by first | exact oz_e13fc83238 hkk44_e73 e133 e98 | omega), (show (cf122 45).toInt = (cf 45).toInt from by first | exact oz_e13fc83238 hkk45_e73 e134 e99 | omega), (show (cf122 46).toInt = (cf 46).toInt from by first | exact oz_e13fc83238 e78 e135 e100 | omega), (show (cf122 47).toInt = (cf 47).toInt from by first | exact oz_e13fc83238 e79 e136 e101 | omega), (show (cf122 41).toInt = (cf 41).toInt from by first | exact oz_e13fc83238 hkk41_e73 e130 e102 | omega), (show (cf122 55).toInt = (cf 55).toInt from by first | exact oz_e13fc83238 hkk55_e73 e139 e103 | omega), (show (cf122 59).toInt = (cf 59).toInt from by first | exact oz_e13fc83238 hkk59_e73 e142 e104 | omega), (show (cf122 33).toInt = (cf 33).toInt from by first | exact e125 | omega), (show (cf 48).toInt ≤ (cf122 48).toInt from by first | exact oz_78ec9d60fa e77 e137 e107 | omega), (show 6 * (cf122 48).toInt ≤ 6 * (cf 48).toInt + (w) from by first | exact oz_7b195f597e hws e77 e137 hw1 hw2 hw3 e108 | omega), (show (cf 54).toInt ≤ (cf122 54).toInt from by first | exact oz_78ec9d60fa hkk54_e73 e138 e109 | omega), (show (cf 42).toInt ≤ (cf122 42).toInt from by first | exact oz_78ec9d60fa hkk42_e73 e131 e110 | omega), (show (cf122 54).toInt - (cf 54).toInt ≤ 4 * ((cf122 42).toInt - (cf 42).toInt) from by first | exact oz_abec796424 hkk42_e73 hkk54_e73 e131 e138 e111 | omega), (show (cf122 54).toInt - (cf 54).toInt ≤ 4096 * ((cf122 48).toInt - (cf 48).toInt) from by first | exact oz_f98fea81d9 e77 hkk54_e73 e137 e138 e112 | omega), (show (cf122 42).toInt - (cf 42).toInt ≤ 4096 * ((cf122 48).toInt - (cf 48).toInt) from by first | exact oz_0420a6770c e77 hkk42_e73 e131 e137 e113 | omega), (show KnT (tf 6).toInt ca90 (cf122 33).toInt from (KnT.eq hkt (by first | with_reducible rfl | with_reducible assumption | omega))), (show KnS ca90 (cf122 33).toInt (cf122 48).toInt ys from (KnS.eq hks (by first | with_reducible rfl | with_reducible assumption | omega) (by first | with_reducible rfl | with_reducible assumption | omega))), (show CaG ca ca90 (cf 33).toInt (cf 48).toInt from (hcg.le (by first | with_reducible rfl | with_reducible assumption | omega) (by first | with_reducible rfl | with_reducible assumption | omega))), (show SyR ca90 ys (cf122 48).toInt (cf122 54).toInt tx from (SyR.eq hsr (by first | with_reducible rfl | with_reducible assumption | omega) (by first | with_reducible rfl | with_reducible assumption | omega))), (show Ann na ma0 ma88 from han), (show FrC lo hi ma ma88 from hfc), (show ZTe cf122 ta ca90 na ma0 (cf122 48).toInt ys nf ma88 lo hi p0 (tgv (cf 44).toInt (cf 45).toInt) from (fun zz => by exact tys_27 ⟨by first | with_reducible rfl | with_reducible assumption | omega, by first | with_reducible rfl | with_reducible assumption | omega, by first | with_reducible rfl | with_reducible assumption | omega⟩ tgv_rng (by first | with_reducible rfl | with_reducible assumption | omega) ha_z1 (ha_z3.trans (Ann.b18 han (by first | with_reducible rfl | with_reducible assumption | omega)).symm) (ha_z66.trans (Ann.b19 han (by first | with_reducible rfl | with_reducible assumption | omega)).symm) (ha_z84.trans (Ann.b20 han (by first | with_reducible rfl | with_reducible assumption | omega) (by first | with_reducible rfl | with_reducible assumption | omega)).symm) (Or.inl (by first | with_reducible rfl | with_reducible assumption | omega)) (Or.inl (by first | with_reducible rfl | with_reducible assumption | omega)) (ZTe.ot hty_z66 (by first | with_reducible rfl | with_reducible assumption | omega) (by first | with_reducible rfl | with_reducible assumption | omega) (by first | with_reducible rfl | with_reducible assumption | omega) (by first | with_reducible rfl | with_reducible assumption | omega) rfl) (ZTe.at hts_z84 (by first | with_reducible rfl | with_reducible assumption | omega) (by first | with_reducible rfl | with_reducible assumption | omega) (by first | with_reducible rfl | with_reducible assumption | omega) (by first | with_reducible rfl | with_reducible assumption | omega) rfl)))⟩) d_Mpg_checkFor_93
    · have nc4 : ¬ z3.toInt < (0 : Int) := mt (i_lt (x := z3) (y := 0)).mpr c4
      refine lv_aload_n S.x S.b d_Mpg_checkFor_46 rfl (lv_at hl 2 rfl) ?_
      refine lv_aload_n S.x S.b d_Mpg_checkFor_47 rfl (lv_at hl 2 rfl) ?_
      refine px_get S k_Mpg hT hw 0 0 18 (v := .ref (r 18)) rfl rfl rfl (by decide) m10_3 d_Mpg_checkFor_48 ?_
      refine lv_iload_n S.x S.b d_Mpg_checkFor_51 rfl (lv_at hl 3 rfl) ?_
      refine px_iald S hT hw 0 14 (n := 2100) (f := (ma 18)) rfl gp_18 (x := p0) (vp_in_iff.mpr (by first | exact oz_2334575e67 hsr0.2.2.1 hm1 g1 hm2 hru.2.1 g2 hm3 hru.1 | (constructor <;> omega))) d_Mpg_checkFor_52 ?_
      refine lv_topi (fun z143 ez143 => ?_)
      have lz143 := Int32.le_toInt z143
      have uz143 := Int32.toInt_lt z143
      have ha_z143 : z143 = ma0 18 p0.toNatClampNeg := ez143.trans (Ann.b18 han (by first | with_reducible rfl | with_reducible assumption | omega)); have hn_z143 : z143.toInt = (ma0 18 p0.toNatClampNeg).toInt := (by rw [ha_z143]); have hev_z143 : ErV ta (tf 6).toInt na ma0 d m1 m2 w2 z143 := (by rw [ha_z143]; exact (hob.get (by first | with_reducible rfl | with_reducible assumption | omega))); obtain ⟨hec_z143, h20_z143, hw_z143⟩ := hev_z143.ec; have hrg_z143 := EcV.rng hec_z143
      refine lv_iconst (v := 1) S.x S.b d_Mpg_checkFor_53 (by decide) ?_
      refine px_calli (pr := []) (px_runV (As := [.int z143, .int 1]) (rest := []) S (c_S_check l D cs ma0 ys (cf 48).toInt nf (cf 33).toInt d m1 m2 h r g tf ta pf na wa ca ef ea xf xa ma (upd cf 37 (cf 33)) z143 1  (show 0 ≤ m1 from by first | exact oz_0a7da9c4d6 hm1 hsr0.2.2.1 | omega) (show m2 ≤ (pf 13).toInt from by first | exact oz_cabfece9a2 g1 hm3 hru.1 hru.2.1 | omega) (show (pf 13).toInt ≤ 2100 from by first | exact g2 | omega) (show (tf 6).toInt ≤ 2049 from by first | exact g3 | omega) (show (cf 33).toInt = (cf 33).toInt from rfl) (show 0 ≤ (cf 33).toInt from by first | exact g4 | omega) (show (cf 48).toInt = (cf 48).toInt from rfl) (show (cf 38).toInt = nf from by first | exact g9 | omega) (show 0 ≤ nf from by first | exact g10 | omega) (show 0 ≤ (1 : Int) from by first | decide | omega) (show (1 : Int) ≤ 1 from by first | decide | omega) htk (FsI.le (N' := (pf 13).toInt) hfs (by first | with_reducible rfl | with_reducible assumption | omega)) (WrV.u hwr (by decide) (by decide)) (KnT.eq hkt (show _ = (cf 33).toInt by omega)) (FnT.eq hft (show _ = (cf 38).toInt by omega)) (KnS.eq hks (by first | with_reducible rfl | with_reducible assumption | omega) (by first | with_reducible rfl | with_reducible assumption | omega)) hfp han hec_z143 _) hT (pr := []) (pcs := [wdP cs h r g tf ta pf na ma wa (upd cf 37 (cf 33)) ca ef ea xf xa]) hw (oX_call (P := (fun A U H => (oP A g U H))) (pr := []) oG_P hw hA hP) (px_recv hT hw 0 0 rfl rfl rfl) m12_217 m12_214 m12_216 ms_12_7 m1_21 q_Mpg_check ⟨show (4 * d + 12) + 1 ≤ (6 * d + 29) from by first | with_reducible rfl | with_reducible assumption | omega, show 8 + (8 + 11) + (200 * d + 420) ≤ (260 * d + 1020) from by first | with_reducible rfl | with_reducible assumption | omega⟩ hl.1 rfl (Nat.le_of_ble_eq_true rfl) d_Mpg_checkFor_54 ⟨Nat.le_of_ble_eq_true rfl, Nat.le_of_ble_eq_true rfl⟩) hw hA (fun v149 p148 H locs hp148 hw => ?_)
      obtain ⟨ma146, cf147, rfl, e150, e151, e152, e153, e154, e155, e156, e157, e158, e159, e160, e161, e162, e163, e164⟩ := hp148
      replace e150 : KpE (upd cf 37 (cf 33)) cf147 := e150
      have hkz_e150 : (cf147 30).toInt = 0 → (cf 30).toInt = 0 := e150.2
      have hkk37_e150 : (cf147 37).toInt = (cf 33).toInt := (by rw [e150.1 37 (by decide) (by decide) (by decide) (by decide) (by decide)] <;> rfl)
      have hkk43_e150 : (cf147 43).toInt = (cf 43).toInt := (by rw [e150.1 43 (by decide) (by decide) (by decide) (by decide) (by decide)] <;> rfl)
      have hkk44_e150 : (cf147 44).toInt = (cf 44).toInt := (by rw [e150.1 44 (by decide) (by decide) (by decide) (by decide) (by decide)] <;> rfl)
      have hkk45_e150 : (cf147 45).toInt = (cf 45).toInt := (by rw [e150.1 45 (by decide) (by decide) (by decide) (by decide) (by decide)] <;> rfl)
      have hkk41_e150 : (cf147 41).toInt = (cf 41).toInt := (by rw [e150.1 41 (by decide) (by decide) (by decide) (by decide) (by decide)] <;> rfl)
      have hkk55_e150 : (cf147 55).toInt = (cf 55).toInt := (by rw [e150.1 55 (by decide) (by decide) (by decide) (by decide) (by decide)] <;> rfl)
      have hkk59_e150 : (cf147 59).toInt = (cf 59).toInt := (by rw [e150.1 59 (by decide) (by decide) (by decide) (by decide) (by decide)] <;> rfl)
      have hkk42_e150 : (cf147 42).toInt = (cf 42).toInt := (by rw [e150.1 42 (by decide) (by decide) (by decide) (by decide) (by decide)] <;> rfl)
      have hkk54_e150 : (cf147 54).toInt = (cf 54).toInt := (by rw [e150.1 54 (by decide) (by decide) (by decide) (by decide) (by decide)] <;> rfl)
      have hkk58_e150 : (cf147 58).toInt = (cf 58).toInt := (by rw [e150.1 58 (by decide) (by decide) (by decide) (by decide) (by decide)] <;> rfl)
      replace e151 : WrV cf147 (tf 6).toInt := e151
      have hwr := e151
      have hw0_e151 := hwr.1
      replace e152 : (cf147 33).toInt = (cf 33).toInt := e152
      replace e153 : (cf147 38).toInt = (cf 38).toInt := e153
      replace e154 : (cf147 48).toInt = (cf 48).toInt := e154
      replace e155 : (cf147 46).toInt = (cf 46).toInt := e155
      replace e156 : (cf147 47).toInt = (cf 47).toInt := e156
      replace e157 : (cf147 57).toInt = (cf 57).toInt := e157
      replace e158 : Ann na ma0 ma146 := e158
      have han := e158
      replace e159 : FrC m1 m2 ma ma146 := e159
      have hfc := hfc.tr e159 (by first | with_reducible rfl | with_reducible assumption | omega) (by first | with_reducible rfl | with_reducible assumption | omega)
      replace e160 : 0 ≤ v149.toInt := e160
      replace e161 : v149.toInt ≤ 4 := e161
      replace e162 : NmJ ta ca na ma146 (cf 33).toInt z143 v149.toInt := e162
      replace e163 : ZTy cf147 (Gk ta ca na ma0 (cf 48).toInt ys nf) na ma146 m1 m2 z143 v149.toInt := e163
      replace e164 : ZNm cf147 (1 : Int) v149.toInt := e164
      have hty_z143 : ZTe cf147 ta ca na ma0 (cf147 48).toInt ys nf ma146 m1 m2 z143 0 := ZTe.to (t := 0) (ZTy.num e163 e164) (fun q => by first | with_reducible rfl | with_reducible assumption | omega) (by first | with_reducible rfl | with_reducible assumption | omega) (Int.le_refl _) (Int.le_refl _) rfl
      replace hw : pw D A s.heap H locs [wdP cs h r g tf ta pf na ma146 wa cf147 ca ef ea xf xa] := hw
      have lv149 := Int32.le_toInt v149
      have uv149 := Int32.toInt_lt v149
      refine lv_pop S.x S.b d_Mpg_checkFor_57 rfl ?_
      refine lv_aload_n S.x S.b d_Mpg_checkFor_58 rfl (lv_at hl 2 rfl) ?_
      refine px_get S k_Mpg hT hw 0 0 19 (v := .ref (r 19)) rfl rfl rfl (by decide) m10_5 d_Mpg_checkFor_59 ?_
      refine lv_iload_n S.x S.b d_Mpg_checkFor_62 rfl (lv_at hl 3 rfl) ?_
      refine px_iald S hT hw 0 15 (n := 2100) (f := (ma146 19)) rfl gp_19 (x := p0) (vp_in_iff.mpr (by first | exact oz_2334575e67 hsr0.2.2.1 hm1 g1 hm2 hru.2.1 g2 hm3 hru.1 | (constructor <;> omega))) d_Mpg_checkFor_63 ?_
      refine lv_topi (fun z165 ez165 => ?_)
      have lz165 := Int32.le_toInt z165
      have uz165 := Int32.toInt_lt z165
      have ha_z165 : z165 = ma0 19 p0.toNatClampNeg := ez165.trans (Ann.b19 han (by first | with_reducible rfl | with_reducible assumption | omega)); have hn_z165 : z165.toInt = (ma0 19 p0.toNatClampNeg).toInt := (by rw [ha_z165])
      refine lv_if_lt (tgt := 77) S.x S.b d_Mpg_checkFor_64 (by decide) (fun c166 => ?_) (fun c166 => ?_)
      · have nc166 : z165.toInt < (0 : Int) := (i_lt (x := z165) (y := 0)).mp c166
        refine lv_aload_n S.x S.b d_Mpg_checkFor_77 rfl (lv_at hl 2 rfl) ?_
        refine lv_aload_n S.x S.b d_Mpg_checkFor_78 rfl (lv_at hl 2 rfl) ?_
        refine px_get S k_Mpg hT hw 0 0 20 (v := .ref (r 20)) rfl rfl rfl (by decide) m10_6 d_Mpg_checkFor_79 ?_
        refine lv_iload_n S.x S.b d_Mpg_checkFor_82 rfl (lv_at hl 3 rfl) ?_
        refine px_iald S hT hw 0 16 (n := 2100) (f := (ma146 20)) rfl gp_20 (x := p0) (vp_in_iff.mpr (by first | exact oz_2334575e67 hsr0.2.2.1 hm1 g1 hm2 hru.2.1 g2 hm3 hru.1 | (constructor <;> omega))) d_Mpg_checkFor_83 ?_
        refine lv_topi (fun z167 ez167 => ?_)
        have lz167 := Int32.le_toInt z167
        have uz167 := Int32.toInt_lt z167
        have ha_z167 : z167 = ma0 20 p0.toNatClampNeg := ez167.trans (Ann.b20 han (by first | with_reducible rfl | with_reducible assumption | omega) (by first | with_reducible rfl | with_reducible assumption | omega)); have hn_z167 : z167.toInt = (ma0 20 p0.toNatClampNeg).toInt := (by rw [ha_z167]); have hsc_z167 : ScV ta (tf 6).toInt na ma0 d m3 hi w5 z167 := (by rw [ha_z167]; exact hse); have hrg_z167 := ScV.rng hsc_z167
        refine px_callv (pr := []) (px_runV (As := [.int z167]) (rest := []) S (c_mp_checkBody l D cs ma0 ys nf tx d m3 hi w5 h r g tf ta pf na wa ef ea xf xa ma146 cf147 ca z167  (show 0 ≤ m3 from by first | exact oz_3535899054 hm3 hm2 hsr0.2.2.1 hm1 | omega) (show hi ≤ (pf 13).toInt from by first | exact g1 | omega) (show (pf 13).toInt ≤ 2100 from by first | exact g2 | omega) (show (tf 6).toInt ≤ 2049 from by first | exact g3 | omega) (show 0 ≤ (cf147 33).toInt from by first | exact oz_f3ebed1ad0 e152 g4 | omega) (show 0 ≤ w5 from by first | exact hw5 | omega) (show 6 * (cf147 33).toInt + w5 ≤ 6540 from by first | exact oz_cbc45a6c70 hws e152 g6 hw1 hw2 hw3 | omega) (show 0 ≤ (cf147 48).toInt from by first | exact oz_f3ebed1ad0 e154 g7 | omega) (show 6 * (cf147 48).toInt + w5 ≤ 6540 from by first | exact oz_cbc45a6c70 hws e154 g8 hw1 hw2 hw3 | omega) (show (cf147 38).toInt = nf from by first | exact oz_1687f4cc65 g9 e153 | omega) (show 0 ≤ nf from by first | exact g10 | omega) (show 0 ≤ (cf147 37).toInt from by first | exact oz_f3ebed1ad0 hkk37_e150 g4 | omega) (show 0 ≤ (cf147 54).toInt from by first | exact oz_f3ebed1ad0 hkk54_e150 g12 | omega) (show (cf147 54).toInt ≤ 4096 * (cf147 48).toInt from by first | exact oz_964e82b9f4 e154 hkk54_e150 g13 | omega) (show 0 ≤ (cf147 42).toInt from by first | exact oz_f3ebed1ad0 hkk42_e150 g14 | omega) (show (cf147 42).toInt ≤ 4 + 4096 * (cf147 48).toInt from by first | exact oz_0fa6d939a6 e154 hkk42_e150 g15 | omega) (show 0 ≤ (cf147 44).toInt from by first | exact oz_f3ebed1ad0 hkk44_e150 g16 | omega) (show 0 ≤ (cf147 45).toInt from by first | exact oz_f3ebed1ad0 hkk45_e150 g17 | omega) (show ys ≤ (cf147 48).toInt ∨ tx = 1 from by first | with_reducible rfl | with_reducible assumption | omega) (show 0 ≤ (cf147 46).toInt from by first | exact oz_f3ebed1ad0 e155 g19 | omega) (show (cf147 46).toInt ≤ 1 from by first | exact oz_878017becc e155 g20 | omega) (show 0 ≤ (cf147 47).toInt from by first | exact oz_f3ebed1ad0 e156 g21 | omega) (show (cf147 47).toInt ≤ 1 from by first | exact oz_878017becc e156 g22 | omega) (show (cf147 44).toInt + (d : Int) ≤ 400 from by first | exact oz_d272872612 g29 hkk44_e150 | omega) (show (cf147 45).toInt + (d : Int) ≤ 400 from by first | exact oz_d272872612 g30 hkk45_e150 | omega) (show 0 ≤ (cf147 43).toInt from by first | exact oz_f3ebed1ad0 hkk43_e150 g25 | omega) (show (cf147 43).toInt < 2100 from by first | exact oz_b365134983 hkk43_e150 g26 | omega) (show tx = 0 from by first | exact g27 | omega) (show (cf147 44).toInt + (d : Int) + 1 ≤ 400 from by first | exact oz_4d2bb0c431 g29 hkk44_e150 | omega) htk (FsI.le (N' := (pf 13).toInt) hfs (by first | with_reducible rfl | with_reducible assumption | omega)) hwr (KnT.eq hkt (by first | with_reducible rfl | with_reducible assumption | omega)) (FnT.eq hft (by first | with_reducible rfl | with_reducible assumption | omega)) (KnS.eq hks (by first | with_reducible rfl | with_reducible assumption | omega) (by first | with_reducible rfl | with_reducible assumption | omega)) hfp (SyR.eq hsr (by first | with_reducible rfl | with_reducible assumption | omega) (by first | with_reducible rfl | with_reducible assumption | omega)) han (show txo (cf147 43).toInt = tx from by rw [show (cf147 43).toInt = (cf 43).toInt by omega]; exact htx) hsc_z167 hLS _) hT (pr := []) (pcs := [wdP cs h r g tf ta pf na ma146 wa cf147 ca ef ea xf xa]) hw (oX_call (P := (fun A U H => (oP A g U H))) (pr := []) oG_P hw hA hP) (px_recv hT hw 0 0 rfl rfl rfl) m13_37 m13_34 m13_36 ms_13_6 m1_21 q_Mpg_checkBody ⟨show (6 * d + 27) + 1 ≤ (6 * d + 29) from by first | with_reducible rfl | with_reducible assumption | omega, show 8 + (2 + 11) + (260 * d + 940) ≤ (260 * d + 1020) from by first | with_reducible rfl | with_reducible assumption | omega⟩ hl.1 rfl (Nat.le_of_ble_eq_true rfl) d_Mpg_checkFor_84 ⟨Nat.le_of_ble_eq_true rfl, Nat.le_of_ble_eq_true rfl⟩) hw hA (fun p174 H locs hp174 hw => ?_)
        obtain ⟨ma171, cf172, ca173, rfl, e176, e177, e178, e179, e180, e181, e182, e183, e184, e185, e186, e187, e188, e189, e190, e191, e192, e193, e194, e195, e196, e197, e198, e199, e200, e201, e202, e203⟩ := hp174
        replace e176 : (cf172 30).toInt = 0 → (cf147 30).toInt = 0 := e176
        replace e177 : WrV cf172 (tf 6).toInt := e177
        have hwr := e177
        have hw0_e177 := hwr.1
        replace e178 : (cf172 37).toInt = (cf147 37).toInt := e178
        replace e179 : (cf172 38).toInt = (cf147 38).toInt := e179
        replace e180 : (cf172 43).toInt = (cf147 43).toInt := e180
        replace e181 : (cf172 44).toInt = (cf147 44).toInt := e181
        replace e182 : (cf172 45).toInt = (cf147 45).toInt := e182
        replace e183 : (cf172 46).toInt = (cf147 46).toInt := e183
        replace e184 : (cf172 47).toInt = (cf147 47).toInt := e184
        replace e185 : (cf172 41).toInt = (cf147 41).toInt := e185
        replace e186 : (cf172 55).toInt = (cf147 55).toInt := e186
        replace e187 : (cf172 59).toInt = (cf147 59).toInt := e187
        replace e188 : (cf147 33).toInt ≤ (cf172 33).toInt := e188
        replace e189 : 6 * (cf172 33).toInt ≤ 6 * (cf147 33).toInt + (w5) := e189
        replace e190 : (cf147 48).toInt ≤ (cf172 48).toInt := e190
        replace e191 : 6 * (cf172 48).toInt ≤ 6 * (cf147 48).toInt + (w5) := e191
        replace e192 : (cf147 54).toInt ≤ (cf172 54).toInt := e192
        replace e193 : (cf147 42).toInt ≤ (cf172 42).toInt := e193
        replace e194 : (cf172 54).toInt - (cf147 54).toInt ≤ 4 * ((cf172 42).toInt - (cf147 42).toInt) := e194
        replace e195 : (cf172 54).toInt - (cf147 54).toInt ≤ 4096 * ((cf172 48).toInt - (cf147 48).toInt) := e195
        replace e196 : (cf172 42).toInt - (cf147 42).toInt ≤ 4096 * ((cf172 48).toInt - (cf147 48).toInt) := e196
        replace e197 : KnT (tf 6).toInt ca173 (cf172 33).toInt := e197
        have hkt := e197
        have hk11_e197 := hkt.1
        replace e198 : KnS ca173 (cf172 33).toInt (cf172 48).toInt ys := e198
        have hks := e198
        replace e199 : CaG ca ca173 (cf147 33).toInt (cf147 48).toInt := e199
        have hcg := hcg.tr e199 (by first | with_reducible rfl | with_reducible assumption | omega) (by first | with_reducible rfl | with_reducible assumption | omega)
        have hft := hft.cg e199
        have hfp := hfp.cg e199
        replace e200 : SyR ca173 ys (cf172 48).toInt (cf172 54).toInt tx := e200
        have hsr := e200
        replace e201 : Ann na ma0 ma171 := e201
        have han := e201
        replace e202 : FrC m3 hi ma146 ma171 := e202
        have hfc := hfc.tr e202 (by first | with_reducible rfl | with_reducible assumption | omega) (by first | with_reducible rfl | with_reducible assumption | omega)
        have hty_z143 : ZTe cf172 ta ca173 na ma0 (cf172 48).toInt ys nf ma171 m1 m2 z143 0 := ZTe.tr hty_z143 (fun q => by first | with_reducible rfl | with_reducible assumption | omega) e202 (by first | with_reducible rfl | with_reducible assumption | omega) e199 (by first | with_reducible rfl | with_reducible assumption | omega) (by first | with_reducible rfl | with_reducible assumption | omega)
        replace e203 : ZTe cf172 ta ca173 na ma0 (cf172 48).toInt ys nf ma171 m3 hi z167 4 := e203
        have hts_z167 : ZTe cf172 ta ca173 na ma0 (cf172 48).toInt ys nf ma171 m3 hi z167 4 := ZTe.to e203 (fun q => by first | with_reducible rfl | with_reducible assumption | omega) (by first | with_reducible rfl | with_reducible assumption | omega) (Int.le_refl _) (Int.le_refl _) rfl
        replace hw : pw D A s.heap H locs [wdP cs h r g tf ta pf na ma171 wa cf172 ca173 ef ea xf xa] := hw
        refine lv_aload_n S.x S.b d_Mpg_checkFor_87 rfl (lv_at hl 2 rfl) ?_
        refine lv_iload_n S.x S.b d_Mpg_checkFor_88 rfl (lv_at hl 1 rfl) ?_
        refine lv_iload_n S.x S.b d_Mpg_checkFor_89 rfl (lv_at hl 0 rfl) ?_
        refine px_callv (pr := []) (px_runV (As := [.int (cf 33), .int (cf 37)]) (rest := []) S (c_mp_leave l D cs h r g tf ta pf na ma171 wa ca173 ef ea xf xa cf172 (cf 33) (cf 37)  htk _) hT (pr := []) (pcs := [wdP cs h r g tf ta pf na ma171 wa cf172 ca173 ef ea xf xa]) hw px_X.tt (px_recv hT hw 0 0 rfl rfl rfl) m12_209 m12_206 m12_208 ms_12_5 m1_21 q_Mpg_leave ⟨show 0 + 1 ≤ (6 * d + 29) from by first | with_reducible rfl | with_reducible assumption | omega, show 8 + (3 + 11) + 0 ≤ (260 * d + 1020) from by first | with_reducible rfl | with_reducible assumption | omega⟩ hl.1 rfl (Nat.le_of_ble_eq_true rfl) d_Mpg_checkFor_90 ⟨Nat.le_of_ble_eq_true rfl, Nat.le_of_ble_eq_true rfl⟩) hw hA (fun p206 H locs hp206 hw => ?_)
        obtain ⟨cf205, rfl, e208, e209, e210, e211, e212, e213, e214, e215, e216, e217, e218, e219, e220, e221, e222, e223, e224, e225⟩ := hp206
        replace e208 : (cf205 33).toInt = (cf 33).toInt := e208
        replace e209 : (cf205 37).toInt = (cf 37).toInt := e209
        replace e210 : (cf205 30).toInt = (cf172 30).toInt := e210
        replace e211 : (cf205 31).toInt = (cf172 31).toInt := e211
        replace e212 : (cf205 38).toInt = (cf172 38).toInt := e212
        replace e213 : (cf205 41).toInt = (cf172 41).toInt := e213
        replace e214 : (cf205 42).toInt = (cf172 42).toInt := e214
        replace e215 : (cf205 43).toInt = (cf172 43).toInt := e215
        replace e216 : (cf205 44).toInt = (cf172 44).toInt := e216
        replace e217 : (cf205 45).toInt = (cf172 45).toInt := e217
        replace e218 : (cf205 46).toInt = (cf172 46).toInt := e218
        replace e219 : (cf205 47).toInt = (cf172 47).toInt := e219
        replace e220 : (cf205 48).toInt = (cf172 48).toInt := e220
        replace e221 : (cf205 54).toInt = (cf172 54).toInt := e221
        replace e222 : (cf205 55).toInt = (cf172 55).toInt := e222
        replace e223 : (cf205 57).toInt = (cf172 57).toInt := e223
        replace e224 : (cf205 58).toInt = (cf172 58).toInt := e224
        replace e225 : (cf205 59).toInt = (cf172 59).toInt := e225
        have hwr : WrV cf205 (tf 6).toInt := WrV.eq hwr (by first | with_reducible rfl | with_reducible assumption | omega) (by first | with_reducible rfl | with_reducible assumption | omega)
        have hkt := KnT.eq (n' := (cf205 33).toInt) (KnT.cg hkt0 hcg (Int.le_refl _)) (by first | with_reducible rfl | with_reducible assumption | omega)
        have hks := KnS.eq (n' := (cf205 33).toInt) (KnS.cg hks0 hcg (Int.le_refl _) (Int.le_refl _) (n2 := (cf205 48).toInt) (by first | with_reducible rfl | with_reducible assumption | omega)) (by first | with_reducible rfl | with_reducible assumption | omega) rfl
        have hty_z143 : ZTe cf205 ta ca173 na ma0 (cf205 48).toInt ys nf ma171 m1 m2 z143 0 := ZTe.to hty_z143 (fun q => by first | with_reducible rfl | with_reducible assumption | omega) (by first | with_reducible rfl | with_reducible assumption | omega) (Int.le_refl _) (Int.le_refl _) rfl
        have hts_z167 : ZTe cf205 ta ca173 na ma0 (cf205 48).toInt ys nf ma171 m3 hi z167 4 := ZTe.to hts_z167 (fun q => by first | with_reducible rfl | with_reducible assumption | omega) (by first | with_reducible rfl | with_reducible assumption | omega) (Int.le_refl _) (Int.le_refl _) rfl
        replace hw : pw D A s.heap H locs [wdP cs h r g tf ta pf na ma171 wa cf205 ca173 ef ea xf xa] := hw
        exact px_vret S hr hlk hAe hw (Nat.le_of_ble_eq_true rfl) (Nat.le_of_ble_eq_true rfl) (⟨ma171, cf205, ca173, rfl, (show (cf205 30).toInt = 0 → (cf 30).toInt = 0 from by first | with_reducible rfl | with_reducible assumption | omega), (show WrV cf205 (tf 6).toInt from hwr), (show (cf205 37).toInt = (cf 37).toInt from by first | exact e209 | omega), (show (cf205 38).toInt = (cf 38).toInt from by first | exact oz_e13fc83238 e153 e212 e179 | omega), (show (cf205 43).toInt = (cf 43).toInt from by first | exact oz_e13fc83238 hkk43_e150 e215 e180 | omega), (show (cf205 44).toInt = (cf 44).toInt from by first | exact oz_e13fc83238 hkk44_e150 e216 e181 | omega), (show (cf205 45).toInt = (cf 45).toInt from by first | exact oz_e13fc83238 hkk45_e150 e217 e182 | omega), (show (cf205 46).toInt = (cf 46).toInt from by first | exact oz_e13fc83238 e155 e218 e183 | omega), (show (cf205 47).toInt = (cf 47).toInt from by first | exact oz_e13fc83238 e156 e219 e184 | omega), (show (cf205 41).toInt = (cf 41).toInt from by first | exact oz_e13fc83238 hkk41_e150 e213 e185 | omega), (show (cf205 55).toInt = (cf 55).toInt from by first | exact oz_e13fc83238 hkk55_e150 e222 e186 | omega), (show (cf205 59).toInt = (cf 59).toInt from by first | exact oz_e13fc83238 hkk59_e150 e225 e187 | omega), (show (cf205 33).toInt = (cf 33).toInt from by first | exact e208 | omega), (show (cf 48).toInt ≤ (cf205 48).toInt from by first | exact oz_78ec9d60fa e154 e220 e190 | omega), (show 6 * (cf205 48).toInt ≤ 6 * (cf 48).toInt + (w) from by first | exact oz_7b195f597e hws e154 e220 hw1 hw2 hw3 e191 | omega), (show (cf 54).toInt ≤ (cf205 54).toInt from by first | exact oz_78ec9d60fa hkk54_e150 e221 e192 | omega), (show (cf 42).toInt ≤ (cf205 42).toInt from by first | exact oz_78ec9d60fa hkk42_e150 e214 e193 | omega), (show (cf205 54).toInt - (cf 54).toInt ≤ 4 * ((cf205 42).toInt - (cf 42).toInt) from by first | exact oz_abec796424 hkk42_e150 hkk54_e150 e214 e221 e194 | omega), (show (cf205 54).toInt - (cf 54).toInt ≤ 4096 * ((cf205 48).toInt - (cf 48).toInt) from by first | exact oz_f98fea81d9 e154 hkk54_e150 e220 e221 e195 | omega), (show (cf205 42).toInt - (cf 42).toInt ≤ 4096 * ((cf205 48).toInt - (cf 48).toInt) from by first | exact oz_0420a6770c e154 hkk42_e150 e214 e220 e196 | omega), (show KnT (tf 6).toInt ca173 (cf205 33).toInt from (KnT.eq hkt (by first | with_reducible rfl | with_reducible assumption | omega))), (show KnS ca173 (cf205 33).toInt (cf205 48).toInt ys from (KnS.eq hks (by first | with_reducible rfl | with_reducible assumption | omega) (by first | with_reducible rfl | with_reducible assumption | omega))), (show CaG ca ca173 (cf 33).toInt (cf 48).toInt from (hcg.le (by first | with_reducible rfl | with_reducible assumption | omega) (by first | with_reducible rfl | with_reducible assumption | omega))), (show SyR ca173 ys (cf205 48).toInt (cf205 54).toInt tx from (SyR.eq hsr (by first | with_reducible rfl | with_reducible assumption | omega) (by first | with_reducible rfl | with_reducible assumption | omega))), (show Ann na ma0 ma171 from han), (show FrC lo hi ma ma171 from hfc), (show ZTe cf205 ta ca173 na ma0 (cf205 48).toInt ys nf ma171 lo hi p0 (tgv (cf 44).toInt (cf 45).toInt) from (fun zz => by exact tys_27 ⟨by first | with_reducible rfl | with_reducible assumption | omega, by first | with_reducible rfl | with_reducible assumption | omega, by first | with_reducible rfl | with_reducible assumption | omega⟩ tgv_rng (by first | with_reducible rfl | with_reducible assumption | omega) ha_z1 (ha_z143.trans (Ann.b18 han (by first | with_reducible rfl | with_reducible assumption | omega)).symm) (ha_z165.trans (Ann.b19 han (by first | with_reducible rfl | with_reducible assumption | omega)).symm) (ha_z167.trans (Ann.b20 han (by first | with_reducible rfl | with_reducible assumption | omega) (by first | with_reducible rfl | with_reducible assumption | omega)).symm) (Or.inl (by first | with_reducible rfl | with_reducible assumption | omega)) (ZTe.ot hty_z143 (by first | with_reducible rfl | with_reducible assumption | omega) (by first | with_reducible rfl | with_reducible assumption | omega) (by first | with_reducible rfl | with_reducible assumption | omega) (by first | with_reducible rfl | with_reducible assumption | omega) rfl) (Or.inl (by first | with_reducible rfl | with_reducible assumption | omega)) (ZTe.at hts_z167 (by first | with_reducible rfl | with_reducible assumption | omega) (by first | with_reducible rfl | with_reducible assumption | omega) (by first | with_reducible rfl | with_reducible assumption | omega) (by first | with_reducible rfl | with_reducible assumption | omega) rfl)))⟩) d_Mpg_checkFor_93
      · have nc166 : ¬ z165.toInt < (0 : Int) := mt (i_lt (x := z165) (y := 0)).mpr c166
        refine lv_aload_n S.x S.b d_Mpg_checkFor_67 rfl (lv_at hl 2 rfl) ?_
        refine lv_aload_n S.x S.b d_Mpg_checkFor_68 rfl (lv_at hl 2 rfl) ?_
        refine px_get S k_Mpg hT hw 0 0 19 (v := .ref (r 19)) rfl rfl rfl (by decide) m10_5 d_Mpg_checkFor_69 ?_
        refine lv_iload_n S.x S.b d_Mpg_checkFor_72 rfl (lv_at hl 3 rfl) ?_
        refine px_iald S hT hw 0 15 (n := 2100) (f := (ma146 19)) rfl gp_19 (x := p0) (vp_in_iff.mpr (by first | exact oz_2334575e67 hsr0.2.2.1 hm1 g1 hm2 hru.2.1 g2 hm3 hru.1 | (constructor <;> omega))) d_Mpg_checkFor_73 ?_
        refine lv_topi (fun z226 ez226 => ?_)
        have lz226 := Int32.le_toInt z226
        have uz226 := Int32.toInt_lt z226
        have ha_z226 : z226 = ma0 19 p0.toNatClampNeg := ez226.trans (Ann.b19 han (by first | with_reducible rfl | with_reducible assumption | omega)); have hn_z226 : z226.toInt = (ma0 19 p0.toNatClampNeg).toInt := (by rw [ha_z226]); have hev_z226 : ErV ta (tf 6).toInt na ma0 d m2 m3 w3 z226 := (by rw [ha_z226]; exact (hoc.get (by first | with_reducible rfl | with_reducible assumption | omega))); obtain ⟨hec_z226, h20_z226, hw_z226⟩ := hev_z226.ec; have hrg_z226 := EcV.rng hec_z226
        refine px_callv (pr := []) (px_runV (As := [.int z226]) (rest := []) S (c_mp_checkAlone l D cs ma0 ys (cf147 48).toInt nf (cf147 33).toInt d m2 m3 h r g tf ta pf na wa ca ef ea xf xa ma146 cf147 z226  (show 0 ≤ m2 from by first | exact oz_8df2b9da5a hm2 hm1 hsr0.2.2.1 | omega) (show m3 ≤ (pf 13).toInt from by first | exact oz_8d1dd37214 g1 hru.1 hru.2.1 | omega) (show (pf 13).toInt ≤ 2100 from by first | exact g2 | omega) (show (tf 6).toInt ≤ 2049 from by first | exact g3 | omega) (show (cf147 33).toInt = (cf147 33).toInt from rfl) (show 0 ≤ (cf147 33).toInt from by first | exact oz_f3ebed1ad0 e152 g4 | omega) (show (cf147 48).toInt = (cf147 48).toInt from rfl) (show (cf147 38).toInt = nf from by first | exact oz_1687f4cc65 g9 e153 | omega) (show 0 ≤ nf from by first | exact g10 | omega) htk (FsI.le (N' := (pf 13).toInt) hfs (by first | with_reducible rfl | with_reducible assumption | omega)) hwr (KnT.eq hkt (by first | with_reducible rfl | with_reducible assumption | omega)) (FnT.eq hft (by first | with_reducible rfl | with_reducible assumption | omega)) (KnS.eq hks (by first | with_reducible rfl | with_reducible assumption | omega) (by first | with_reducible rfl | with_reducible assumption | omega)) hfp han hec_z226 _) hT (pr := []) (pcs := [wdP cs h r g tf ta pf na ma146 wa cf147 ca ef ea xf xa]) hw (oX_call (P := (fun A U H => (oP A g U H))) (pr := []) oG_P hw hA hP) (px_recv hT hw 0 0 rfl rfl rfl) m12_213 m12_210 m12_212 ms_12_6 m1_21 q_Mpg_checkAlone ⟨show (4 * d + 13) + 1 ≤ (6 * d + 29) from by first | with_reducible rfl | with_reducible assumption | omega, show 8 + (3 + 11) + (200 * d + 460) ≤ (260 * d + 1020) from by first | with_reducible rfl | with_reducible assumption | omega⟩ hl.1 rfl (Nat.le_of_ble_eq_true rfl) d_Mpg_checkFor_74 ⟨Nat.le_of_ble_eq_true rfl, Nat.le_of_ble_eq_true rfl⟩) hw hA (fun p231 H locs hp231 hw => ?_)
        obtain ⟨ma229, cf230, rfl, e233, e234, e235, e236, e237, e238, e239, e240, e241, e242, e243⟩ := hp231
        replace e233 : KpE cf147 cf230 := e233
        have hkz_e233 := e233.2
        have hkk37_e233 : (cf230 37).toInt = (cf147 37).toInt := (by rw [e233.1 37 (by decide) (by decide) (by decide) (by decide) (by decide)] <;> rfl)
        have hkk43_e233 : (cf230 43).toInt = (cf147 43).toInt := (by rw [e233.1 43 (by decide) (by decide) (by decide) (by decide) (by decide)] <;> rfl)
        have hkk44_e233 : (cf230 44).toInt = (cf147 44).toInt := (by rw [e233.1 44 (by decide) (by decide) (by decide) (by decide) (by decide)] <;> rfl)
        have hkk45_e233 : (cf230 45).toInt = (cf147 45).toInt := (by rw [e233.1 45 (by decide) (by decide) (by decide) (by decide) (by decide)] <;> rfl)
        have hkk41_e233 : (cf230 41).toInt = (cf147 41).toInt := (by rw [e233.1 41 (by decide) (by decide) (by decide) (by decide) (by decide)] <;> rfl)
        have hkk55_e233 : (cf230 55).toInt = (cf147 55).toInt := (by rw [e233.1 55 (by decide) (by decide) (by decide) (by decide) (by decide)] <;> rfl)
        have hkk59_e233 : (cf230 59).toInt = (cf147 59).toInt := (by rw [e233.1 59 (by decide) (by decide) (by decide) (by decide) (by decide)] <;> rfl)
        have hkk42_e233 : (cf230 42).toInt = (cf147 42).toInt := (by rw [e233.1 42 (by decide) (by decide) (by decide) (by decide) (by decide)] <;> rfl)
        have hkk54_e233 : (cf230 54).toInt = (cf147 54).toInt := (by rw [e233.1 54 (by decide) (by decide) (by decide) (by decide) (by decide)] <;> rfl)
        have hkk58_e233 : (cf230 58).toInt = (cf147 58).toInt := (by rw [e233.1 58 (by decide) (by decide) (by decide) (by decide) (by decide)] <;> rfl)
        replace e234 : WrV cf230 (tf 6).toInt := e234
        have hwr := e234
        have hw0_e234 := hwr.1
        replace e235 : (cf230 33).toInt = (cf147 33).toInt := e235
        replace e236 : (cf230 38).toInt = (cf147 38).toInt := e236
        replace e237 : (cf230 48).toInt = (cf147 48).toInt := e237
        replace e238 : (cf230 46).toInt = (cf147 46).toInt := e238
        replace e239 : (cf230 47).toInt = (cf147 47).toInt := e239
        replace e240 : (cf230 57).toInt = (cf147 57).toInt := e240
        replace e241 : Ann na ma0 ma229 := e241
        have han := e241
        replace e242 : FrC m2 m3 ma146 ma229 := e242
        have hfc := hfc.tr e242 (by first | with_reducible rfl | with_reducible assumption | omega) (by first | with_reducible rfl | with_reducible assumption | omega)
        have hty_z143 : ZTe cf230 ta ca na ma0 (cf230 48).toInt ys nf ma229 m1 m2 z143 0 := ZTe.tr hty_z143 (fun q => by first | with_reducible rfl | with_reducible assumption | omega) e242 (by first | with_reducible rfl | with_reducible assumption | omega) (CaG.rf (kn := 0) (ns := 5000)) (by first | with_reducible rfl | with_reducible assumption | omega) (by first | with_reducible rfl | with_reducible assumption | omega)
        replace e243 : ZT0 cf230 (Gk ta ca na ma0 (cf147 48).toInt ys nf) na ma229 m2 m3 z226 := e243
        have hty_z226 : ZTe cf230 ta ca na ma0 (cf230 48).toInt ys nf ma229 m2 m3 z226 0 := ZTe.to (t := 0) e243 (fun q => by first | with_reducible rfl | with_reducible assumption | omega) (by first | with_reducible rfl | with_reducible assumption | omega) (Int.le_refl _) (Int.le_refl _) rfl
        replace hw : pw D A s.heap H locs [wdP cs h r g tf ta pf na ma229 wa cf230 ca ef ea xf xa] := hw
        refine lv_aload_n S.x S.b d_Mpg_checkFor_77 rfl (lv_at hl 2 rfl) ?_
        refine lv_aload_n S.x S.b d_Mpg_checkFor_78 rfl (lv_at hl 2 rfl) ?_
        refine px_get S k_Mpg hT hw 0 0 20 (v := .ref (r 20)) rfl rfl rfl (by decide) m10_6 d_Mpg_checkFor_79 ?_
        refine lv_iload_n S.x S.b d_Mpg_checkFor_82 rfl (lv_at hl 3 rfl) ?_
        refine px_iald S hT hw 0 16 (n := 2100) (f := (ma229 20)) rfl gp_20 (x := p0) (vp_in_iff.mpr (by first | exact oz_2334575e67 hsr0.2.2.1 hm1 g1 hm2 hru.2.1 g2 hm3 hru.1 | (constructor <;> omega))) d_Mpg_checkFor_83 ?_
        refine lv_topi (fun z244 ez244 => ?_)
        have lz244 := Int32.le_toInt z244
        have uz244 := Int32.toInt_lt z244
        have ha_z244 : z244 = ma0 20 p0.toNatClampNeg := ez244.trans (Ann.b20 han (by first | with_reducible rfl | with_reducible assumption | omega) (by first | with_reducible rfl | with_reducible assumption | omega)); have hn_z244 : z244.toInt = (ma0 20 p0.toNatClampNeg).toInt := (by rw [ha_z244]); have hsc_z244 : ScV ta (tf 6).toInt na ma0 d m3 hi w5 z244 := (by rw [ha_z244]; exact hse); have hrg_z244 := ScV.rng hsc_z244
        refine px_callv (pr := []) (px_runV (As := [.int z244]) (rest := []) S (c_mp_checkBody l D cs ma0 ys nf tx d m3 hi w5 h r g tf ta pf na wa ef ea xf xa ma229 cf230 ca z244  (show 0 ≤ m3 from by first | exact oz_3535899054 hm3 hm2 hsr0.2.2.1 hm1 | omega) (show hi ≤ (pf 13).toInt from by first | exact g1 | omega) (show (pf 13).toInt ≤ 2100 from by first | exact g2 | omega) (show (tf 6).toInt ≤ 2049 from by first | exact g3 | omega) (show 0 ≤ (cf230 33).toInt from by first | exact oz_e2fef14871 e235 e152 g4 | omega) (show 0 ≤ w5 from by first | exact hw5 | omega) (show 6 * (cf230 33).toInt + w5 ≤ 6540 from by first | exact oz_cc030681f7 hws e235 g6 hw1 hw2 hw3 e152 | omega) (show 0 ≤ (cf230 48).toInt from by first | exact oz_f6f5eb07dd e237 e154 g15 g14 | omega) (show 6 * (cf230 48).toInt + w5 ≤ 6540 from by first | exact oz_cc030681f7 hws e237 g8 hw1 hw2 hw3 e154 | omega) (show (cf230 38).toInt = nf from by first | exact oz_e13fc83238 g9 e236 e153 | omega) (show 0 ≤ nf from by first | exact g10 | omega) (show 0 ≤ (cf230 37).toInt from by first | exact oz_e2fef14871 hkk37_e233 hkk37_e150 g4 | omega) (show 0 ≤ (cf230 54).toInt from by first | exact oz_e2fef14871 hkk54_e233 hkk54_e150 g12 | omega) (show (cf230 54).toInt ≤ 4096 * (cf230 48).toInt from by first | exact oz_7ed347e8ad e237 hkk54_e233 e154 hkk54_e150 g13 | omega) (show 0 ≤ (cf230 42).toInt from by first | exact oz_e2fef14871 hkk42_e233 hkk42_e150 g14 | omega) (show (cf230 42).toInt ≤ 4 + 4096 * (cf230 48).toInt from by first | exact oz_da2a904354 e237 hkk42_e233 e154 hkk42_e150 g15 | omega) (show 0 ≤ (cf230 44).toInt from by first | exact oz_e2fef14871 hkk44_e233 hkk44_e150 g16 | omega) (show 0 ≤ (cf230 45).toInt from by first | exact oz_e2fef14871 hkk45_e233 hkk45_e150 g17 | omega) (show ys ≤ (cf230 48).toInt ∨ tx = 1 from by first | with_reducible rfl | with_reducible assumption | omega) (show 0 ≤ (cf230 46).toInt from by first | exact oz_e2fef14871 e238 e155 g19 | omega) (show (cf230 46).toInt ≤ 1 from by first | exact oz_916d756328 e238 e155 g20 | omega) (show 0 ≤ (cf230 47).toInt from by first | exact oz_e2fef14871 e239 e156 g21 | omega) (show (cf230 47).toInt ≤ 1 from by first | exact oz_916d756328 e239 e156 g22 | omega) (show (cf230 44).toInt + (d : Int) ≤ 400 from by first | exact oz_1d9764fd28 g29 hkk44_e233 hkk44_e150 | omega) (show (cf230 45).toInt + (d : Int) ≤ 400 from by first | exact oz_1d9764fd28 g30 hkk45_e233 hkk45_e150 | omega) (show 0 ≤ (cf230 43).toInt from by first | exact oz_e2fef14871 hkk43_e233 hkk43_e150 g25 | omega) (show (cf230 43).toInt < 2100 from by first | exact oz_740a8b247c hkk43_e233 hkk43_e150 g26 | omega) (show tx = 0 from by first | exact g27 | omega) (show (cf230 44).toInt + (d : Int) + 1 ≤ 400 from by first | exact oz_e363459920 g29 hkk44_e233 hkk44_e150 | omega) htk (FsI.le (N' := (pf 13).toInt) hfs (by first | with_reducible rfl | with_reducible assumption | omega)) hwr (KnT.eq hkt (by first | with_reducible rfl | with_reducible assumption | omega)) (FnT.eq hft (by first | with_reducible rfl | with_reducible assumption | omega)) (KnS.eq hks (by first | with_reducible rfl | with_reducible assumption | omega) (by first | with_reducible rfl | with_reducible assumption | omega)) hfp (SyR.eq hsr (by first | with_reducible rfl | with_reducible assumption | omega) (by first | with_reducible rfl | with_reducible assumption | omega)) han (show txo (cf230 43).toInt = tx from by rw [show (cf230 43).toInt = (cf 43).toInt by omega]; exact htx) hsc_z244 hLS _) hT (pr := []) (pcs := [wdP cs h r g tf ta pf na ma229 wa cf230 ca ef ea xf xa]) hw (oX_call (P := (fun A U H => (oP A g U H))) (pr := []) oG_P hw hA hP) (px_recv hT hw 0 0 rfl rfl rfl) m13_37 m13_34 m13_36 ms_13_6 m1_21 q_Mpg_checkBody ⟨show (6 * d + 27) + 1 ≤ (6 * d + 29) from by first | with_reducible rfl | with_reducible assumption | omega, show 8 + (2 + 11) + (260 * d + 940) ≤ (260 * d + 1020) from by first | with_reducible rfl | with_reducible assumption | omega⟩ hl.1 rfl (Nat.le_of_ble_eq_true rfl) d_Mpg_checkFor_84 ⟨Nat.le_of_ble_eq_true rfl, Nat.le_of_ble_eq_true rfl⟩) hw hA (fun p251 H locs hp251 hw => ?_)
        obtain ⟨ma248, cf249, ca250, rfl, e253, e254, e255, e256, e257, e258, e259, e260, e261, e262, e263, e264, e265, e266, e267, e268, e269, e270, e271, e272, e273, e274, e275, e276, e277, e278, e279, e280⟩ := hp251
        replace e253 : (cf249 30).toInt = 0 → (cf230 30).toInt = 0 := e253
        replace e254 : WrV cf249 (tf 6).toInt := e254
        have hwr := e254
        have hw0_e254 := hwr.1
        replace e255 : (cf249 37).toInt = (cf230 37).toInt := e255
        replace e256 : (cf249 38).toInt = (cf230 38).toInt := e256
        replace e257 : (cf249 43).toInt = (cf230 43).toInt := e257
        replace e258 : (cf249 44).toInt = (cf230 44).toInt := e258
        replace e259 : (cf249 45).toInt = (cf230 45).toInt := e259
        replace e260 : (cf249 46).toInt = (cf230 46).toInt := e260
        replace e261 : (cf249 47).toInt = (cf230 47).toInt := e261
        replace e262 : (cf249 41).toInt = (cf230 41).toInt := e262
        replace e263 : (cf249 55).toInt = (cf230 55).toInt := e263
        replace e264 : (cf249 59).toInt = (cf230 59).toInt := e264
        replace e265 : (cf230 33).toInt ≤ (cf249 33).toInt := e265
        replace e266 : 6 * (cf249 33).toInt ≤ 6 * (cf230 33).toInt + (w5) := e266
        replace e267 : (cf230 48).toInt ≤ (cf249 48).toInt := e267
        replace e268 : 6 * (cf249 48).toInt ≤ 6 * (cf230 48).toInt + (w5) := e268
        replace e269 : (cf230 54).toInt ≤ (cf249 54).toInt := e269
        replace e270 : (cf230 42).toInt ≤ (cf249 42).toInt := e270
        replace e271 : (cf249 54).toInt - (cf230 54).toInt ≤ 4 * ((cf249 42).toInt - (cf230 42).toInt) := e271
        replace e272 : (cf249 54).toInt - (cf230 54).toInt ≤ 4096 * ((cf249 48).toInt - (cf230 48).toInt) := e272
        replace e273 : (cf249 42).toInt - (cf230 42).toInt ≤ 4096 * ((cf249 48).toInt - (cf230 48).toInt) := e273
        replace e274 : KnT (tf 6).toInt ca250 (cf249 33).toInt := e274
        have hkt := e274
        have hk11_e274 := hkt.1
        replace e275 : KnS ca250 (cf249 33).toInt (cf249 48).toInt ys := e275
        have hks := e275
        replace e276 : CaG ca ca250 (cf230 33).toInt (cf230 48).toInt := e276
        have hcg := hcg.tr e276 (by first | with_reducible rfl | with_reducible assumption | omega) (by first | with_reducible rfl | with_reducible assumption | omega)
        have hft := hft.cg e276
        have hfp := hfp.cg e276
        replace e277 : SyR ca250 ys (cf249 48).toInt (cf249 54).toInt tx := e277
        have hsr := e277
        replace e278 : Ann na ma0 ma248 := e278
        have han := e278
        replace e279 : FrC m3 hi ma229 ma248 := e279
        have hfc := hfc.tr e279 (by first | with_reducible rfl | with_reducible assumption | omega) (by first | with_reducible rfl | with_reducible assumption | omega)
        have hty_z143 : ZTe cf249 ta ca250 na ma0 (cf249 48).toInt ys nf ma248 m1 m2 z143 0 := ZTe.tr hty_z143 (fun q => by first | with_reducible rfl | with_reducible assumption | omega) e279 (by first | with_reducible rfl | with_reducible assumption | omega) e276 (by first | with_reducible rfl | with_reducible assumption | omega) (by first | with_reducible rfl | with_reducible assumption | omega)
        have hty_z226 : ZTe cf249 ta ca250 na ma0 (cf249 48).toInt ys nf ma248 m2 m3 z226 0 := ZTe.tr hty_z226 (fun q => by first | with_reducible rfl | with_reducible assumption | omega) e279 (by first | with_reducible rfl | with_reducible assumption | omega) e276 (by first | with_reducible rfl | with_reducible assumption | omega) (by first | with_reducible rfl | with_reducible assumption | omega)
        replace e280 : ZTe cf249 ta ca250 na ma0 (cf249 48).toInt ys nf ma248 m3 hi z244 4 := e280
        have hts_z244 : ZTe cf249 ta ca250 na ma0 (cf249 48).toInt ys nf ma248 m3 hi z244 4 := ZTe.to e280 (fun q => by first | with_reducible rfl | with_reducible assumption | omega) (by first | with_reducible rfl | with_reducible assumption | omega) (Int.le_refl _) (Int.le_refl _) rfl
        replace hw : pw D A s.heap H locs [wdP cs h r g tf ta pf na ma248 wa cf249 ca250 ef ea xf xa] := hw
        refine lv_aload_n S.x S.b d_Mpg_checkFor_87 rfl (lv_at hl 2 rfl) ?_
        refine lv_iload_n S.x S.b d_Mpg_checkFor_88 rfl (lv_at hl 1 rfl) ?_
        refine lv_iload_n S.x S.b d_Mpg_checkFor_89 rfl (lv_at hl 0 rfl) ?_
        refine px_callv (pr := []) (px_runV (As := [.int (cf 33), .int (cf 37)]) (rest := []) S (c_mp_leave l D cs h r g tf ta pf na ma248 wa ca250 ef ea xf xa cf249 (cf 33) (cf 37)  htk _) hT (pr := []) (pcs := [wdP cs h r g tf ta pf na ma248 wa cf249 ca250 ef ea xf xa]) hw px_X.tt (px_recv hT hw 0 0 rfl rfl rfl) m12_209 m12_206 m12_208 ms_12_5 m1_21 q_Mpg_leave ⟨show 0 + 1 ≤ (6 * d + 29) from by first | with_reducible rfl | with_reducible assumption | omega, show 8 + (3 + 11) + 0 ≤ (260 * d + 1020) from by first | with_reducible rfl | with_reducible assumption | omega⟩ hl.1 rfl (Nat.le_of_ble_eq_true rfl) d_Mpg_checkFor_90 ⟨Nat.le_of_ble_eq_true rfl, Nat.le_of_ble_eq_true rfl⟩) hw hA (fun p283 H locs hp283 hw => ?_)
        obtain ⟨cf282, rfl, e285, e286, e287, e288, e289, e290, e291, e292, e293, e294, e295, e296, e297, e298, e299, e300, e301, e302⟩ := hp283
        replace e285 : (cf282 33).toInt = (cf 33).toInt := e285
        replace e286 : (cf282 37).toInt = (cf 37).toInt := e286
        replace e287 : (cf282 30).toInt = (cf249 30).toInt := e287
        replace e288 : (cf282 31).toInt = (cf249 31).toInt := e288
        replace e289 : (cf282 38).toInt = (cf249 38).toInt := e289
        replace e290 : (cf282 41).toInt = (cf249 41).toInt := e290
        replace e291 : (cf282 42).toInt = (cf249 42).toInt := e291
        replace e292 : (cf282 43).toInt = (cf249 43).toInt := e292
        replace e293 : (cf282 44).toInt = (cf249 44).toInt := e293
        replace e294 : (cf282 45).toInt = (cf249 45).toInt := e294
        replace e295 : (cf282 46).toInt = (cf249 46).toInt := e295
        replace e296 : (cf282 47).toInt = (cf249 47).toInt := e296
        replace e297 : (cf282 48).toInt = (cf249 48).toInt := e297
        replace e298 : (cf282 54).toInt = (cf249 54).toInt := e298
        replace e299 : (cf282 55).toInt = (cf249 55).toInt := e299
        replace e300 : (cf282 57).toInt = (cf249 57).toInt := e300
        replace e301 : (cf282 58).toInt = (cf249 58).toInt := e301
        replace e302 : (cf282 59).toInt = (cf249 59).toInt := e302
        have hwr : WrV cf282 (tf 6).toInt := WrV.eq hwr (by first | with_reducible rfl | with_reducible assumption | omega) (by first | with_reducible rfl | with_reducible assumption | omega)
        have hkt := KnT.eq (n' := (cf282 33).toInt) (KnT.cg hkt0 hcg (Int.le_refl _)) (by first | with_reducible rfl | with_reducible assumption | omega)
        have hks := KnS.eq (n' := (cf282 33).toInt) (KnS.cg hks0 hcg (Int.le_refl _) (Int.le_refl _) (n2 := (cf282 48).toInt) (by first | with_reducible rfl | with_reducible assumption | omega)) (by first | with_reducible rfl | with_reducible assumption | omega) rfl
        have hty_z143 : ZTe cf282 ta ca250 na ma0 (cf282 48).toInt ys nf ma248 m1 m2 z143 0 := ZTe.to hty_z143 (fun q => by first | with_reducible rfl | with_reducible assumption | omega) (by first | with_reducible rfl | with_reducible assumption | omega) (Int.le_refl _) (Int.le_refl _) rfl
        have hty_z226 : ZTe cf282 ta ca250 na ma0 (cf282 48).toInt ys nf ma248 m2 m3 z226 0 := ZTe.to hty_z226 (fun q => by first | with_reducible rfl | with_reducible assumption | omega) (by first | with_reducible rfl | with_reducible assumption | omega) (Int.le_refl _) (Int.le_refl _) rfl
        have hts_z244 : ZTe cf282 ta ca250 na ma0 (cf282 48).toInt ys nf ma248 m3 hi z244 4 := ZTe.to hts_z244 (fun q => by first | with_reducible rfl | with_reducible assumption | omega) (by first | with_reducible rfl | with_reducible assumption | omega) (Int.le_refl _) (Int.le_refl _) rfl
        replace hw : pw D A s.heap H locs [wdP cs h r g tf ta pf na ma248 wa cf282 ca250 ef ea xf xa] := hw
        exact px_vret S hr hlk hAe hw (Nat.le_of_ble_eq_true rfl) (Nat.le_of_ble_eq_true rfl) (⟨ma248, cf282, ca250, rfl, (show (cf282 30).toInt = 0 → (cf 30).toInt = 0 from by first | with_reducible rfl | with_reducible assumption | omega), (show WrV cf282 (tf 6).toInt from hwr), (show (cf282 37).toInt = (cf 37).toInt from by first | exact e286 | omega), (show (cf282 38).toInt = (cf 38).toInt from by first | exact oz_ff3084e3c1 e153 e289 e236 e256 | omega), (show (cf282 43).toInt = (cf 43).toInt from by first | exact oz_ff3084e3c1 hkk43_e150 e292 hkk43_e233 e257 | omega), (show (cf282 44).toInt = (cf 44).toInt from by first | exact oz_ff3084e3c1 hkk44_e150 e293 hkk44_e233 e258 | omega), (show (cf282 45).toInt = (cf 45).toInt from by first | exact oz_ff3084e3c1 hkk45_e150 e294 hkk45_e233 e259 | omega), (show (cf282 46).toInt = (cf 46).toInt from by first | exact oz_ff3084e3c1 e155 e295 e238 e260 | omega), (show (cf282 47).toInt = (cf 47).toInt from by first | exact oz_ff3084e3c1 e156 e296 e239 e261 | omega), (show (cf282 41).toInt = (cf 41).toInt from by first | exact oz_ff3084e3c1 hkk41_e150 e290 hkk41_e233 e262 | omega), (show (cf282 55).toInt = (cf 55).toInt from by first | exact oz_ff3084e3c1 hkk55_e150 e299 hkk55_e233 e263 | omega), (show (cf282 59).toInt = (cf 59).toInt from by first | exact oz_ff3084e3c1 hkk59_e150 e302 hkk59_e233 e264 | omega), (show (cf282 33).toInt = (cf 33).toInt from by first | exact e285 | omega), (show (cf 48).toInt ≤ (cf282 48).toInt from by first | exact oz_d0877684c2 e154 e297 e237 e267 | omega), (show 6 * (cf282 48).toInt ≤ 6 * (cf 48).toInt + (w) from by first | exact oz_b8572a6ae1 hws e154 e297 hw1 hw2 hw3 e237 e268 | omega), (show (cf 54).toInt ≤ (cf282 54).toInt from by first | exact oz_d0877684c2 hkk54_e150 e298 hkk54_e233 e269 | omega), (show (cf 42).toInt ≤ (cf282 42).toInt from by first | exact oz_d0877684c2 hkk42_e150 e291 hkk42_e233 e270 | omega), (show (cf282 54).toInt - (cf 54).toInt ≤ 4 * ((cf282 42).toInt - (cf 42).toInt) from by first | exact oz_5978ffc030 hkk42_e150 hkk54_e150 e291 e298 hkk42_e233 hkk54_e233 e271 | omega), (show (cf282 54).toInt - (cf 54).toInt ≤ 4096 * ((cf282 48).toInt - (cf 48).toInt) from by first | exact oz_926a44a7a6 e154 hkk54_e150 e297 e298 e237 hkk54_e233 e272 | omega), (show (cf282 42).toInt - (cf 42).toInt ≤ 4096 * ((cf282 48).toInt - (cf 48).toInt) from by first | exact oz_6cae6533da e154 hkk42_e150 e291 e297 e237 hkk42_e233 e273 | omega), (show KnT (tf 6).toInt ca250 (cf282 33).toInt from (KnT.eq hkt (by first | with_reducible rfl | with_reducible assumption | omega))), (show KnS ca250 (cf282 33).toInt (cf282 48).toInt ys from (KnS.eq hks (by first | with_reducible rfl | with_reducible assumption | omega) (by first | with_reducible rfl | with_reducible assumption | omega))), (show CaG ca ca250 (cf 33).toInt (cf 48).toInt from (hcg.le (by first | with_reducible rfl | with_reducible assumption | omega) (by first | with_reducible rfl | with_reducible assumption | omega))), (show SyR ca250 ys (cf282 48).toInt (cf282 54).toInt tx from (SyR.eq hsr (by first | with_reducible rfl | with_reducible assumption | omega) (by first | with_reducible rfl | with_reducible assumption | omega))), (show Ann na ma0 ma248 from han), (show FrC lo hi ma ma248 from hfc), (show ZTe cf282 ta ca250 na ma0 (cf282 48).toInt ys nf ma248 lo hi p0 (tgv (cf 44).toInt (cf 45).toInt) from (fun zz => by exact tys_27 ⟨by first | with_reducible rfl | with_reducible assumption | omega, by first | with_reducible rfl | with_reducible assumption | omega, by first | with_reducible rfl | with_reducible assumption | omega⟩ tgv_rng (by first | with_reducible rfl | with_reducible assumption | omega) ha_z1 (ha_z143.trans (Ann.b18 han (by first | with_reducible rfl | with_reducible assumption | omega)).symm) (ha_z226.trans (Ann.b19 han (by first | with_reducible rfl | with_reducible assumption | omega)).symm) (ha_z244.trans (Ann.b20 han (by first | with_reducible rfl | with_reducible assumption | omega) (by first | with_reducible rfl | with_reducible assumption | omega)).symm) (Or.inl (by first | with_reducible rfl | with_reducible assumption | omega)) (ZTe.ot hty_z143 (by first | with_reducible rfl | with_reducible assumption | omega) (by first | with_reducible rfl | with_reducible assumption | omega) (by first | with_reducible rfl | with_reducible assumption | omega) (by first | with_reducible rfl | with_reducible assumption | omega) rfl) (ZTe.ot hty_z226 (by first | with_reducible rfl | with_reducible assumption | omega) (by first | with_reducible rfl | with_reducible assumption | omega) (by first | with_reducible rfl | with_reducible assumption | omega) (by first | with_reducible rfl | with_reducible assumption | omega) rfl) (ZTe.at hts_z244 (by first | with_reducible rfl | with_reducible assumption | omega) (by first | with_reducible rfl | with_reducible assumption | omega) (by first | with_reducible rfl | with_reducible assumption | omega) (by first | with_reducible rfl | with_reducible assumption | omega) rfl)))⟩) d_Mpg_checkFor_93
  · have nc2 : ¬ z1.toInt < (0 : Int) := mt (i_lt (x := z1) (y := 0)).mpr c2
    refine lv_aload_n S.x S.b d_Mpg_checkFor_27 rfl (lv_at hl 2 rfl) ?_
    refine lv_aload_n S.x S.b d_Mpg_checkFor_28 rfl (lv_at hl 2 rfl) ?_
    refine px_get S k_Mpg hT hw 0 0 17 (v := .ref (r 17)) rfl rfl rfl (by decide) m10_1 d_Mpg_checkFor_29 ?_
    refine lv_iload_n S.x S.b d_Mpg_checkFor_32 rfl (lv_at hl 3 rfl) ?_
    refine px_iald S hT hw 0 13 (n := 2100) (f := (na 17)) rfl gp_17 (x := p0) (vp_in_iff.mpr (by first | exact oz_2334575e67 hsr0.2.2.1 hm1 g1 hm2 hru.2.1 g2 hm3 hru.1 | (constructor <;> omega))) d_Mpg_checkFor_33 ?_
    refine lv_topi (fun z303 ez303 => ?_)
    have lz303 := Int32.le_toInt z303
    have uz303 := Int32.toInt_lt z303
    have ha_z303 : z303 = na 17 p0.toNatClampNeg := ez303; have hn_z303 : z303.toInt = (na 17 p0.toNatClampNeg).toInt := (by rw [ha_z303]); have hsc_z303 : ScV ta (tf 6).toInt na ma0 d (p0.toInt + 1) m1 w1 z303 := (by rw [ha_z303]; exact (hoa.get (by first | with_reducible rfl | with_reducible assumption | omega))); have hrg_z303 := ScV.rng hsc_z303
    refine px_callv (pr := []) (px_runV (As := [.int z303]) (rest := []) S (hLS ma0 ys nf tx (p0.toInt + 1) m1 w1 h r g tf ta pf na wa ef ea xf xa ma (upd cf 37 (cf 33)) ca z303 (show 0 ≤ (p0.toInt + 1) from by first | exact oz_c12c169b81 hsr0.2.2.1 | omega) (show m1 ≤ (pf 13).toInt from by first | exact oz_9219fb40fa g1 hm2 hm3 hm4 | omega) (show (pf 13).toInt ≤ 2100 from by first | exact g2 | omega) (show (tf 6).toInt ≤ 2049 from by first | exact g3 | omega) (show 0 ≤ (cf 33).toInt from by first | exact g4 | omega) (show 0 ≤ w1 from by first | exact hw1 | omega) (show 6 * (cf 33).toInt + w1 ≤ 6540 from by first | exact oz_eae155ffdf g6 hws hw2 hw3 hw5 | omega) (show 0 ≤ (cf 48).toInt from by first | exact g7 | omega) (show 6 * (cf 48).toInt + w1 ≤ 6540 from by first | exact oz_eae155ffdf g8 hws hw2 hw3 hw5 | omega) (show (cf 38).toInt = nf from by first | exact g9 | omega) (show 0 ≤ nf from by first | exact g10 | omega) (show 0 ≤ (cf 33).toInt from by first | exact g4 | omega) (show 0 ≤ (cf 54).toInt from by first | exact g12 | omega) (show (cf 54).toInt ≤ 4096 * (cf 48).toInt from by first | exact g13 | omega) (show 0 ≤ (cf 42).toInt from by first | exact g14 | omega) (show (cf 42).toInt ≤ 4 + 4096 * (cf 48).toInt from by first | exact g15 | omega) (show 0 ≤ (cf 44).toInt from by first | exact g16 | omega) (show 0 ≤ (cf 45).toInt from by first | exact g17 | omega) (show ys ≤ (cf 48).toInt ∨ tx = 1 from by first | exact g18 | omega) (show 0 ≤ (cf 46).toInt from by first | exact g19 | omega) (show (cf 46).toInt ≤ 1 from by first | exact g20 | omega) (show 0 ≤ (cf 47).toInt from by first | exact g21 | omega) (show (cf 47).toInt ≤ 1 from by first | exact g22 | omega) (show (cf 44).toInt + (d : Int) ≤ 400 from by first | exact g23 | omega) (show (cf 45).toInt + (d : Int) ≤ 400 from by first | exact g24 | omega) (show 0 ≤ (cf 43).toInt from by first | exact g25 | omega) (show (cf 43).toInt < 2100 from by first | exact g26 | omega) (show tx = 0 from by first | exact g27 | omega) htk (FsI.le (N' := (pf 13).toInt) hfs (by first | with_reducible rfl | with_reducible assumption | omega)) (WrV.u hwr (by decide) (by decide)) (KnT.eq hkt (show _ = (cf 33).toInt by omega)) (FnT.eq hft (show _ = (cf 38).toInt by omega)) (KnS.eq hks (show _ = (cf 33).toInt by omega) (show _ = (cf 48).toInt by omega)) hfp (SyR.eq hsr (show _ = (cf 48).toInt by omega) (show _ = (cf 54).toInt by omega)) han (show txo (cf 43).toInt = tx from by rw [show (cf 43).toInt = (cf 43).toInt by omega]; exact htx) hsc_z303 _) hT (pr := []) (pcs := [wdP cs h r g tf ta pf na ma wa (upd cf 37 (cf 33)) ca ef ea xf xa]) hw (oX_call (P := (fun A U H => (oP A g U H))) (pr := []) oG_P hw hA hP) (px_recv hT hw 0 0 rfl rfl rfl) m12_201 m12_198 m12_200 ms_12_3 m1_21 q_Mpg_checkStatement ⟨show (6 * d + 26) + 1 ≤ (6 * d + 29) from by first | with_reducible rfl | with_reducible assumption | omega, show 8 + (3 + 11) + (260 * d + 900) ≤ (260 * d + 1020) from by first | with_reducible rfl | with_reducible assumption | omega⟩ hl.1 rfl (Nat.le_of_ble_eq_true rfl) d_Mpg_checkFor_34 ⟨Nat.le_of_ble_eq_true rfl, Nat.le_of_ble_eq_true rfl⟩) hw hA (fun p310 H locs hp310 hw => ?_)
    obtain ⟨ma307, cf308, ca309, rfl, e312, e313, e314, e315, e316, e317, e318, e319, e320, e321, e322, e323, e324, e325, e326, e327, e328, e329, e330, e331, e332, e333, e334, e335, e336, e337, e338, e339⟩ := hp310
    replace e312 : (cf308 30).toInt = 0 → (cf 30).toInt = 0 := e312
    replace e313 : WrV cf308 (tf 6).toInt := e313
    have hwr := e313
    have hw0_e313 := hwr.1
    replace e314 : (cf308 37).toInt = (cf 33).toInt := e314
    replace e315 : (cf308 38).toInt = (cf 38).toInt := e315
    replace e316 : (cf308 43).toInt = (cf 43).toInt := e316
    replace e317 : (cf308 44).toInt = (cf 44).toInt := e317
    replace e318 : (cf308 45).toInt = (cf 45).toInt := e318
    replace e319 : (cf308 46).toInt = (cf 46).toInt := e319
    replace e320 : (cf308 47).toInt = (cf 47).toInt := e320
    replace e321 : (cf308 41).toInt = (cf 41).toInt := e321
    replace e322 : (cf308 55).toInt = (cf 55).toInt := e322
    replace e323 : (cf308 59).toInt = (cf 59).toInt := e323
    replace e324 : (cf 33).toInt ≤ (cf308 33).toInt := e324
    replace e325 : 6 * (cf308 33).toInt ≤ 6 * (cf 33).toInt + (w1) := e325
    replace e326 : (cf 48).toInt ≤ (cf308 48).toInt := e326
    replace e327 : 6 * (cf308 48).toInt ≤ 6 * (cf 48).toInt + (w1) := e327
    replace e328 : (cf 54).toInt ≤ (cf308 54).toInt := e328
    replace e329 : (cf 42).toInt ≤ (cf308 42).toInt := e329
    replace e330 : (cf308 54).toInt - (cf 54).toInt ≤ 4 * ((cf308 42).toInt - (cf 42).toInt) := e330
    replace e331 : (cf308 54).toInt - (cf 54).toInt ≤ 4096 * ((cf308 48).toInt - (cf 48).toInt) := e331
    replace e332 : (cf308 42).toInt - (cf 42).toInt ≤ 4096 * ((cf308 48).toInt - (cf 48).toInt) := e332
    replace e333 : KnT (tf 6).toInt ca309 (cf308 33).toInt := e333
    have hkt := e333
    have hk11_e333 := hkt.1
    replace e334 : KnS ca309 (cf308 33).toInt (cf308 48).toInt ys := e334
    have hks := e334
    replace e335 : CaG ca ca309 (cf 33).toInt (cf 48).toInt := e335
    have hcg := hcg.tr e335 (by first | with_reducible rfl | with_reducible assumption | omega) (by first | with_reducible rfl | with_reducible assumption | omega)
    have hft := hft.cg e335
    have hfp := hfp.cg e335
    replace e336 : SyR ca309 ys (cf308 48).toInt (cf308 54).toInt tx := e336
    have hsr := e336
    replace e337 : Ann na ma0 ma307 := e337
    have han := e337
    replace e338 : FrC (p0.toInt + 1) m1 ma ma307 := e338
    have hfc := hfc.tr e338 (by first | with_reducible rfl | with_reducible assumption | omega) (by first | with_reducible rfl | with_reducible assumption | omega)
    replace e339 : ZTe cf308 ta ca309 na ma0 (cf308 48).toInt ys nf ma307 (p0.toInt + 1) m1 z303 (tgv (cf 44).toInt (cf 45).toInt) := e339
    have hts_z303 : ZTe cf308 ta ca309 na ma0 (cf308 48).toInt ys nf ma307 (p0.toInt + 1) m1 z303 (tgv (cf 44).toInt (cf 45).toInt) := ZTe.to e339 (fun q => by first | with_reducible rfl | with_reducible assumption | omega) (by first | with_reducible rfl | with_reducible assumption | omega) (Int.le_refl _) (Int.le_refl _) (by congr 1 <;> omega)
    replace hw : pw D A s.heap H locs [wdP cs h r g tf ta pf na ma307 wa cf308 ca309 ef ea xf xa] := hw
    refine lv_aload_n S.x S.b d_Mpg_checkFor_37 rfl (lv_at hl 2 rfl) ?_
    refine px_get S k_Mpg hT hw 0 0 18 (v := .ref (r 18)) rfl rfl rfl (by decide) m10_3 d_Mpg_checkFor_38 ?_
    refine lv_iload_n S.x S.b d_Mpg_checkFor_41 rfl (lv_at hl 3 rfl) ?_
    refine px_iald S hT hw 0 14 (n := 2100) (f := (ma307 18)) rfl gp_18 (x := p0) (vp_in_iff.mpr (by first | exact oz_376db002e6 hsr0.2.2.1 hrg_z303.1 g1 hm2 hru.2.1 hrg_z303.2.1 g2 hm3 hru.1 | (constructor <;> omega))) d_Mpg_checkFor_42 ?_
    refine lv_topi (fun z340 ez340 => ?_)
    have lz340 := Int32.le_toInt z340
    have uz340 := Int32.toInt_lt z340
    have ha_z340 : z340 = ma0 18 p0.toNatClampNeg := ez340.trans (Ann.b18 han (by first | with_reducible rfl | with_reducible assumption | omega)); have hn_z340 : z340.toInt = (ma0 18 p0.toNatClampNeg).toInt := (by rw [ha_z340])
    refine lv_if_lt (tgt := 58) S.x S.b d_Mpg_checkFor_43 (by decide) (fun c341 => ?_) (fun c341 => ?_)
    · have nc341 : z340.toInt < (0 : Int) := (i_lt (x := z340) (y := 0)).mp c341
      refine lv_aload_n S.x S.b d_Mpg_checkFor_58 rfl (lv_at hl 2 rfl) ?_
      refine px_get S k_Mpg hT hw 0 0 19 (v := .ref (r 19)) rfl rfl rfl (by decide) m10_5 d_Mpg_checkFor_59 ?_
      refine lv_iload_n S.x S.b d_Mpg_checkFor_62 rfl (lv_at hl 3 rfl) ?_
      refine px_iald S hT hw 0 15 (n := 2100) (f := (ma307 19)) rfl gp_19 (x := p0) (vp_in_iff.mpr (by first | exact oz_376db002e6 hsr0.2.2.1 hrg_z303.1 g1 hm2 hru.2.1 hrg_z303.2.1 g2 hm3 hru.1 | (constructor <;> omega))) d_Mpg_checkFor_63 ?_
      refine lv_topi (fun z342 ez342 => ?_)
      have lz342 := Int32.le_toInt z342
      have uz342 := Int32.toInt_lt z342
      have ha_z342 : z342 = ma0 19 p0.toNatClampNeg := ez342.trans (Ann.b19 han (by first | with_reducible rfl | with_reducible assumption | omega)); have hn_z342 : z342.toInt = (ma0 19 p0.toNatClampNeg).toInt := (by rw [ha_z342])
      refine lv_if_lt (tgt := 77) S.x S.b d_Mpg_checkFor_64 (by decide) (fun c343 => ?_) (fun c343 => ?_)
      · have nc343 : z342.toInt < (0 : Int) := (i_lt (x := z342) (y := 0)).mp c343
        refine lv_aload_n S.x S.b d_Mpg_checkFor_77 rfl (lv_at hl 2 rfl) ?_
        refine lv_aload_n S.x S.b d_Mpg_checkFor_78 rfl (lv_at hl 2 rfl) ?_
        refine px_get S k_Mpg hT hw 0 0 20 (v := .ref (r 20)) rfl rfl rfl (by decide) m10_6 d_Mpg_checkFor_79 ?_
        refine lv_iload_n S.x S.b d_Mpg_checkFor_82 rfl (lv_at hl 3 rfl) ?_
        refine px_iald S hT hw 0 16 (n := 2100) (f := (ma307 20)) rfl gp_20 (x := p0) (vp_in_iff.mpr (by first | exact oz_376db002e6 hsr0.2.2.1 hrg_z303.1 g1 hm2 hru.2.1 hrg_z303.2.1 g2 hm3 hru.1 | (constructor <;> omega))) d_Mpg_checkFor_83 ?_
        refine lv_topi (fun z344 ez344 => ?_)
        have lz344 := Int32.le_toInt z344
        have uz344 := Int32.toInt_lt z344
        have ha_z344 : z344 = ma0 20 p0.toNatClampNeg := ez344.trans (Ann.b20 han (by first | with_reducible rfl | with_reducible assumption | omega) (by first | with_reducible rfl | with_reducible assumption | omega)); have hn_z344 : z344.toInt = (ma0 20 p0.toNatClampNeg).toInt := (by rw [ha_z344]); have hsc_z344 : ScV ta (tf 6).toInt na ma0 d m3 hi w5 z344 := (by rw [ha_z344]; exact hse); have hrg_z344 := ScV.rng hsc_z344
        refine px_callv (pr := []) (px_runV (As := [.int z344]) (rest := []) S (c_mp_checkBody l D cs ma0 ys nf tx d m3 hi w5 h r g tf ta pf na wa ef ea xf xa ma307 cf308 ca309 z344  (show 0 ≤ m3 from by first | exact oz_df1d141c94 hm3 hm2 hsr0.2.2.1 hrg_z303.1 hrg_z303.2.1 | omega) (show hi ≤ (pf 13).toInt from by first | exact g1 | omega) (show (pf 13).toInt ≤ 2100 from by first | exact g2 | omega) (show (tf 6).toInt ≤ 2049 from by first | exact g3 | omega) (show 0 ≤ (cf308 33).toInt from by first | exact oz_16d7fa9f32 e324 g4 | omega) (show 0 ≤ w5 from by first | exact hw5 | omega) (show 6 * (cf308 33).toInt + w5 ≤ 6540 from by first | exact oz_24f37080f5 hws e325 g6 hw2 hw3 | omega) (show 0 ≤ (cf308 48).toInt from by first | exact oz_6a9f12b40a e332 g14 g15 e329 | omega) (show 6 * (cf308 48).toInt + w5 ≤ 6540 from by first | exact oz_24f37080f5 hws e327 g8 hw2 hw3 | omega) (show (cf308 38).toInt = nf from by first | exact oz_1687f4cc65 g9 e315 | omega) (show 0 ≤ nf from by first | exact g10 | omega) (show 0 ≤ (cf308 37).toInt from by first | exact oz_f3ebed1ad0 e314 g4 | omega) (show 0 ≤ (cf308 54).toInt from by first | exact oz_16d7fa9f32 e328 g12 | omega) (show (cf308 54).toInt ≤ 4096 * (cf308 48).toInt from by first | exact oz_c501c098b4 e331 g13 | omega) (show 0 ≤ (cf308 42).toInt from by first | exact oz_16d7fa9f32 e329 g14 | omega) (show (cf308 42).toInt ≤ 4 + 4096 * (cf308 48).toInt from by first | exact oz_658acb1b4c e332 g15 | omega) (show 0 ≤ (cf308 44).toInt from by first | exact oz_f3ebed1ad0 e317 g16 | omega) (show 0 ≤ (cf308 45).toInt from by first | exact oz_f3ebed1ad0 e318 g17 | omega) (show ys ≤ (cf308 48).toInt ∨ tx = 1 from by first | with_reducible rfl | with_reducible assumption | omega) (show 0 ≤ (cf308 46).toInt from by first | exact oz_f3ebed1ad0 e319 g19 | omega) (show (cf308 46).toInt ≤ 1 from by first | exact oz_878017becc e319 g20 | omega) (show 0 ≤ (cf308 47).toInt from by first | exact oz_f3ebed1ad0 e320 g21 | omega) (show (cf308 47).toInt ≤ 1 from by first | exact oz_878017becc e320 g22 | omega) (show (cf308 44).toInt + (d : Int) ≤ 400 from by first | exact oz_d272872612 g29 e317 | omega) (show (cf308 45).toInt + (d : Int) ≤ 400 from by first | exact oz_d272872612 g30 e318 | omega) (show 0 ≤ (cf308 43).toInt from by first | exact oz_f3ebed1ad0 e316 g25 | omega) (show (cf308 43).toInt < 2100 from by first | exact oz_b365134983 e316 g26 | omega) (show tx = 0 from by first | exact g27 | omega) (show (cf308 44).toInt + (d : Int) + 1 ≤ 400 from by first | exact oz_4d2bb0c431 g29 e317 | omega) htk (FsI.le (N' := (pf 13).toInt) hfs (by first | with_reducible rfl | with_reducible assumption | omega)) hwr (KnT.eq hkt (by first | with_reducible rfl | with_reducible assumption | omega)) (FnT.eq hft (by first | with_reducible rfl | with_reducible assumption | omega)) (KnS.eq hks (by first | with_reducible rfl | with_reducible assumption | omega) (by first | with_reducible rfl | with_reducible assumption | omega)) hfp (SyR.eq hsr (by first | with_reducible rfl | with_reducible assumption | omega) (by first | with_reducible rfl | with_reducible assumption | omega)) han (show txo (cf308 43).toInt = tx from by rw [show (cf308 43).toInt = (cf 43).toInt by omega]; exact htx) hsc_z344 hLS _) hT (pr := []) (pcs := [wdP cs h r g tf ta pf na ma307 wa cf308 ca309 ef ea xf xa]) hw (oX_call (P := (fun A U H => (oP A g U H))) (pr := []) oG_P hw hA hP) (px_recv hT hw 0 0 rfl rfl rfl) m13_37 m13_34 m13_36 ms_13_6 m1_21 q_Mpg_checkBody ⟨show (6 * d + 27) + 1 ≤ (6 * d + 29) from by first | with_reducible rfl | with_reducible assumption | omega, show 8 + (2 + 11) + (260 * d + 940) ≤ (260 * d + 1020) from by first | with_reducible rfl | with_reducible assumption | omega⟩ hl.1 rfl (Nat.le_of_ble_eq_true rfl) d_Mpg_checkFor_84 ⟨Nat.le_of_ble_eq_true rfl, Nat.le_of_ble_eq_true rfl⟩) hw hA (fun p351 H locs hp351 hw => ?_)
        obtain ⟨ma348, cf349, ca350, rfl, e353, e354, e355, e356, e357, e358, e359, e360, e361, e362, e363, e364, e365, e366, e367, e368, e369, e370, e371, e372, e373, e374, e375, e376, e377, e378, e379, e380⟩ := hp351
        replace e353 : (cf349 30).toInt = 0 → (cf308 30).toInt = 0 := e353
        replace e354 : WrV cf349 (tf 6).toInt := e354
        have hwr := e354
        have hw0_e354 := hwr.1
        replace e355 : (cf349 37).toInt = (cf308 37).toInt := e355
        replace e356 : (cf349 38).toInt = (cf308 38).toInt := e356
        replace e357 : (cf349 43).toInt = (cf308 43).toInt := e357
        replace e358 : (cf349 44).toInt = (cf308 44).toInt := e358
        replace e359 : (cf349 45).toInt = (cf308 45).toInt := e359
        replace e360 : (cf349 46).toInt = (cf308 46).toInt := e360
        replace e361 : (cf349 47).toInt = (cf308 47).toInt := e361
        replace e362 : (cf349 41).toInt = (cf308 41).toInt := e362
        replace e363 : (cf349 55).toInt = (cf308 55).toInt := e363
        replace e364 : (cf349 59).toInt = (cf308 59).toInt := e364
        replace e365 : (cf308 33).toInt ≤ (cf349 33).toInt := e365
        replace e366 : 6 * (cf349 33).toInt ≤ 6 * (cf308 33).toInt + (w5) := e366
        replace e367 : (cf308 48).toInt ≤ (cf349 48).toInt := e367
        replace e368 : 6 * (cf349 48).toInt ≤ 6 * (cf308 48).toInt + (w5) := e368
        replace e369 : (cf308 54).toInt ≤ (cf349 54).toInt := e369
        replace e370 : (cf308 42).toInt ≤ (cf349 42).toInt := e370
        replace e371 : (cf349 54).toInt - (cf308 54).toInt ≤ 4 * ((cf349 42).toInt - (cf308 42).toInt) := e371
        replace e372 : (cf349 54).toInt - (cf308 54).toInt ≤ 4096 * ((cf349 48).toInt - (cf308 48).toInt) := e372
        replace e373 : (cf349 42).toInt - (cf308 42).toInt ≤ 4096 * ((cf349 48).toInt - (cf308 48).toInt) := e373
        replace e374 : KnT (tf 6).toInt ca350 (cf349 33).toInt := e374
        have hkt := e374
        have hk11_e374 := hkt.1
        replace e375 : KnS ca350 (cf349 33).toInt (cf349 48).toInt ys := e375
        have hks := e375
        replace e376 : CaG ca309 ca350 (cf308 33).toInt (cf308 48).toInt := e376
        have hcg := hcg.tr e376 (by first | with_reducible rfl | with_reducible assumption | omega) (by first | with_reducible rfl | with_reducible assumption | omega)
        have hft := hft.cg e376
        have hfp := hfp.cg e376
        replace e377 : SyR ca350 ys (cf349 48).toInt (cf349 54).toInt tx := e377
        have hsr := e377
        replace e378 : Ann na ma0 ma348 := e378
        have han := e378
        replace e379 : FrC m3 hi ma307 ma348 := e379
        have hfc := hfc.tr e379 (by first | with_reducible rfl | with_reducible assumption | omega) (by first | with_reducible rfl | with_reducible assumption | omega)
        have hts_z303 : ZTe cf349 ta ca350 na ma0 (cf349 48).toInt ys nf ma348 (p0.toInt + 1) m1 z303 (tgv (cf 44).toInt (cf 45).toInt) := ZTe.tr hts_z303 (fun q => by first | with_reducible rfl | with_reducible assumption | omega) e379 (by first | with_reducible rfl | with_reducible assumption | omega) e376 (by first | with_reducible rfl | with_reducible assumption | omega) (by first | with_reducible rfl | with_reducible assumption | omega)
        replace e380 : ZTe cf349 ta ca350 na ma0 (cf349 48).toInt ys nf ma348 m3 hi z344 4 := e380
        have hts_z344 : ZTe cf349 ta ca350 na ma0 (cf349 48).toInt ys nf ma348 m3 hi z344 4 := ZTe.to e380 (fun q => by first | with_reducible rfl | with_reducible assumption | omega) (by first | with_reducible rfl | with_reducible assumption | omega) (Int.le_refl _) (Int.le_refl _) rfl
        replace hw : pw D A s.heap H locs [wdP cs h r g tf ta pf na ma348 wa cf349 ca350 ef ea xf xa] := hw
        refine lv_aload_n S.x S.b d_Mpg_checkFor_87 rfl (lv_at hl 2 rfl) ?_
        refine lv_iload_n S.x S.b d_Mpg_checkFor_88 rfl (lv_at hl 1 rfl) ?_
        refine lv_iload_n S.x S.b d_Mpg_checkFor_89 rfl (lv_at hl 0 rfl) ?_
        refine px_callv (pr := []) (px_runV (As := [.int (cf 33), .int (cf 37)]) (rest := []) S (c_mp_leave l D cs h r g tf ta pf na ma348 wa ca350 ef ea xf xa cf349 (cf 33) (cf 37)  htk _) hT (pr := []) (pcs := [wdP cs h r g tf ta pf na ma348 wa cf349 ca350 ef ea xf xa]) hw px_X.tt (px_recv hT hw 0 0 rfl rfl rfl) m12_209 m12_206 m12_208 ms_12_5 m1_21 q_Mpg_leave ⟨show 0 + 1 ≤ (6 * d + 29) from by first | with_reducible rfl | with_reducible assumption | omega, show 8 + (3 + 11) + 0 ≤ (260 * d + 1020) from by first | with_reducible rfl | with_reducible assumption | omega⟩ hl.1 rfl (Nat.le_of_ble_eq_true rfl) d_Mpg_checkFor_90 ⟨Nat.le_of_ble_eq_true rfl, Nat.le_of_ble_eq_true rfl⟩) hw hA (fun p383 H locs hp383 hw => ?_)
        obtain ⟨cf382, rfl, e385, e386, e387, e388, e389, e390, e391, e392, e393, e394, e395, e396, e397, e398, e399, e400, e401, e402⟩ := hp383
        replace e385 : (cf382 33).toInt = (cf 33).toInt := e385
        replace e386 : (cf382 37).toInt = (cf 37).toInt := e386
        replace e387 : (cf382 30).toInt = (cf349 30).toInt := e387
        replace e388 : (cf382 31).toInt = (cf349 31).toInt := e388
        replace e389 : (cf382 38).toInt = (cf349 38).toInt := e389
        replace e390 : (cf382 41).toInt = (cf349 41).toInt := e390
        replace e391 : (cf382 42).toInt = (cf349 42).toInt := e391
        replace e392 : (cf382 43).toInt = (cf349 43).toInt := e392
        replace e393 : (cf382 44).toInt = (cf349 44).toInt := e393
        replace e394 : (cf382 45).toInt = (cf349 45).toInt := e394
        replace e395 : (cf382 46).toInt = (cf349 46).toInt := e395
        replace e396 : (cf382 47).toInt = (cf349 47).toInt := e396
        replace e397 : (cf382 48).toInt = (cf349 48).toInt := e397
        replace e398 : (cf382 54).toInt = (cf349 54).toInt := e398
        replace e399 : (cf382 55).toInt = (cf349 55).toInt := e399
        replace e400 : (cf382 57).toInt = (cf349 57).toInt := e400
        replace e401 : (cf382 58).toInt = (cf349 58).toInt := e401
        replace e402 : (cf382 59).toInt = (cf349 59).toInt := e402
        have hwr : WrV cf382 (tf 6).toInt := WrV.eq hwr (by first | with_reducible rfl | with_reducible assumption | omega) (by first | with_reducible rfl | with_reducible assumption | omega)
        have hkt := KnT.eq (n' := (cf382 33).toInt) (KnT.cg hkt0 hcg (Int.le_refl _)) (by first | with_reducible rfl | with_reducible assumption | omega)
        have hks := KnS.eq (n' := (cf382 33).toInt) (KnS.cg hks0 hcg (Int.le_refl _) (Int.le_refl _) (n2 := (cf382 48).toInt) (by first | with_reducible rfl | with_reducible assumption | omega)) (by first | with_reducible rfl | with_reducible assumption | omega) rfl
        have hts_z303 : ZTe cf382 ta ca350 na ma0 (cf382 48).toInt ys nf ma348 (p0.toInt + 1) m1 z303 (tgv (cf 44).toInt (cf 45).toInt) := ZTe.to hts_z303 (fun q => by first | with_reducible rfl | with_reducible assumption | omega) (by first | with_reducible rfl | with_reducible assumption | omega) (Int.le_refl _) (Int.le_refl _) rfl
        have hts_z344 : ZTe cf382 ta ca350 na ma0 (cf382 48).toInt ys nf ma348 m3 hi z344 4 := ZTe.to hts_z344 (fun q => by first | with_reducible rfl | with_reducible assumption | omega) (by first | with_reducible rfl | with_reducible assumption | omega) (Int.le_refl _) (Int.le_refl _) rfl
        replace hw : pw D A s.heap H locs [wdP cs h r g tf ta pf na ma348 wa cf382 ca350 ef ea xf xa] := hw
        exact px_vret S hr hlk hAe hw (Nat.le_of_ble_eq_true rfl) (Nat.le_of_ble_eq_true rfl) (⟨ma348, cf382, ca350, rfl, (show (cf382 30).toInt = 0 → (cf 30).toInt = 0 from by first | with_reducible rfl | with_reducible assumption | omega), (show WrV cf382 (tf 6).toInt from hwr), (show (cf382 37).toInt = (cf 37).toInt from by first | exact e386 | omega), (show (cf382 38).toInt = (cf 38).toInt from by first | exact oz_e13fc83238 e315 e389 e356 | omega), (show (cf382 43).toInt = (cf 43).toInt from by first | exact oz_e13fc83238 e316 e392 e357 | omega), (show (cf382 44).toInt = (cf 44).toInt from by first | exact oz_e13fc83238 e317 e393 e358 | omega), (show (cf382 45).toInt = (cf 45).toInt from by first | exact oz_e13fc83238 e318 e394 e359 | omega), (show (cf382 46).toInt = (cf 46).toInt from by first | exact oz_e13fc83238 e319 e395 e360 | omega), (show (cf382 47).toInt = (cf 47).toInt from by first | exact oz_e13fc83238 e320 e396 e361 | omega), (show (cf382 41).toInt = (cf 41).toInt from by first | exact oz_e13fc83238 e321 e390 e362 | omega), (show (cf382 55).toInt = (cf 55).toInt from by first | exact oz_e13fc83238 e322 e399 e363 | omega), (show (cf382 59).toInt = (cf 59).toInt from by first | exact oz_e13fc83238 e323 e402 e364 | omega), (show (cf382 33).toInt = (cf 33).toInt from by first | exact e385 | omega), (show (cf 48).toInt ≤ (cf382 48).toInt from by first | exact oz_8f0709eef7 e332 e397 e329 e370 e373 | omega), (show 6 * (cf382 48).toInt ≤ 6 * (cf 48).toInt + (w) from by first | exact oz_070889f416 hws e327 e397 hw2 hw3 e368 | omega), (show (cf 54).toInt ≤ (cf382 54).toInt from by first | exact oz_2a733ea3a3 e328 e398 e369 | omega), (show (cf 42).toInt ≤ (cf382 42).toInt from by first | exact oz_2a733ea3a3 e329 e391 e370 | omega), (show (cf382 54).toInt - (cf 54).toInt ≤ 4 * ((cf382 42).toInt - (cf 42).toInt) from by first | exact oz_d08cb9f65e e330 e391 e398 e371 | omega), (show (cf382 54).toInt - (cf 54).toInt ≤ 4096 * ((cf382 48).toInt - (cf 48).toInt) from by first | exact oz_ffe07573fc e331 e397 e398 e372 | omega), (show (cf382 42).toInt - (cf 42).toInt ≤ 4096 * ((cf382 48).toInt - (cf 48).toInt) from by first | exact oz_7d1305fdee e332 e391 e397 e373 | omega), (show KnT (tf 6).toInt ca350 (cf382 33).toInt from (KnT.eq hkt (by first | with_reducible rfl | with_reducible assumption | omega))), (show KnS ca350 (cf382 33).toInt (cf382 48).toInt ys from (KnS.eq hks (by first | with_reducible rfl | with_reducible assumption | omega) (by first | with_reducible rfl | with_reducible assumption | omega))), (show CaG ca ca350 (cf 33).toInt (cf 48).toInt from (hcg.le (by first | with_reducible rfl | with_reducible assumption | omega) (by first | with_reducible rfl | with_reducible assumption | omega))), (show SyR ca350 ys (cf382 48).toInt (cf382 54).toInt tx from (SyR.eq hsr (by first | with_reducible rfl | with_reducible assumption | omega) (by first | with_reducible rfl | with_reducible assumption | omega))), (show Ann na ma0 ma348 from han), (show FrC lo hi ma ma348 from hfc), (show ZTe cf382 ta ca350 na ma0 (cf382 48).toInt ys nf ma348 lo hi p0 (tgv (cf 44).toInt (cf 45).toInt) from (fun zz => by exact tys_27 ⟨by first | with_reducible rfl | with_reducible assumption | omega, by first | with_reducible rfl | with_reducible assumption | omega, by first | with_reducible rfl | with_reducible assumption | omega⟩ tgv_rng (by first | with_reducible rfl | with_reducible assumption | omega) ha_z303 (ha_z340.trans (Ann.b18 han (by first | with_reducible rfl | with_reducible assumption | omega)).symm) (ha_z342.trans (Ann.b19 han (by first | with_reducible rfl | with_reducible assumption | omega)).symm) (ha_z344.trans (Ann.b20 han (by first | with_reducible rfl | with_reducible assumption | omega) (by first | with_reducible rfl | with_reducible assumption | omega)).symm) (ZTe.ot hts_z303 (by first | with_reducible rfl | with_reducible assumption | omega) (by first | with_reducible rfl | with_reducible assumption | omega) (by first | with_reducible rfl | with_reducible assumption | omega) (by first | with_reducible rfl | with_reducible assumption | omega) rfl) (Or.inl (by first | with_reducible rfl | with_reducible assumption | omega)) (Or.inl (by first | with_reducible rfl | with_reducible assumption | omega)) (ZTe.at hts_z344 (by first | with_reducible rfl | with_reducible assumption | omega) (by first | with_reducible rfl | with_reducible assumption | omega) (by first | with_reducible rfl | with_reducible assumption | omega) (by first | with_reducible rfl | with_reducible assumption | omega) rfl)))⟩) d_Mpg_checkFor_93
      · have nc343 : ¬ z342.toInt < (0 : Int) := mt (i_lt (x := z342) (y := 0)).mpr c343
        refine lv_aload_n S.x S.b d_Mpg_checkFor_67 rfl (lv_at hl 2 rfl) ?_
        refine lv_aload_n S.x S.b d_Mpg_checkFor_68 rfl (lv_at hl 2 rfl) ?_
        refine px_get S k_Mpg hT hw 0 0 19 (v := .ref (r 19)) rfl rfl rfl (by decide) m10_5 d_Mpg_checkFor_69 ?_
        refine lv_iload_n S.x S.b d_Mpg_checkFor_72 rfl (lv_at hl 3 rfl) ?_
        refine px_iald S hT hw 0 15 (n := 2100) (f := (ma307 19)) rfl gp_19 (x := p0) (vp_in_iff.mpr (by first | exact oz_376db002e6 hsr0.2.2.1 hrg_z303.1 g1 hm2 hru.2.1 hrg_z303.2.1 g2 hm3 hru.1 | (constructor <;> omega))) d_Mpg_checkFor_73 ?_
        refine lv_topi (fun z403 ez403 => ?_)
        have lz403 := Int32.le_toInt z403
        have uz403 := Int32.toInt_lt z403
        have ha_z403 : z403 = ma0 19 p0.toNatClampNeg := ez403.trans (Ann.b19 han (by first | with_reducible rfl | with_reducible assumption | omega)); have hn_z403 : z403.toInt = (ma0 19 p0.toNatClampNeg).toInt := (by rw [ha_z403]); have hev_z403 : ErV ta (tf 6).toInt na ma0 d m2 m3 w3 z403 := (by rw [ha_z403]; exact (hoc.get (by first | with_reducible rfl | with_reducible assumption | omega))); obtain ⟨hec_z403, h20_z403, hw_z403⟩ := hev_z403.ec; have hrg_z403 := EcV.rng hec_z403
        refine px_callv (pr := []) (px_runV (As := [.int z403]) (rest := []) S (c_mp_checkAlone l D cs ma0 ys (cf308 48).toInt nf (cf308 33).toInt d m2 m3 h r g tf ta pf na wa ca309 ef ea xf xa ma307 cf308 z403  (show 0 ≤ m2 from by first | exact oz_5ba337ca74 hm2 hrg_z303.2.1 hsr0.2.2.1 hrg_z303.1 | omega) (show m3 ≤ (pf 13).toInt from by first | exact oz_8d1dd37214 g1 hru.1 hru.2.1 | omega) (show (pf 13).toInt ≤ 2100 from by first | exact g2 | omega) (show (tf 6).toInt ≤ 2049 from by first | exact g3 | omega) (show (cf308 33).toInt = (cf308 33).toInt from rfl) (show 0 ≤ (cf308 33).toInt from by first | exact oz_16d7fa9f32 e324 g4 | omega) (show (cf308 48).toInt = (cf308 48).toInt from rfl) (show (cf308 38).toInt = nf from by first | exact oz_1687f4cc65 g9 e315 | omega) (show 0 ≤ nf from by first | exact g10 | omega) htk (FsI.le (N' := (pf 13).toInt) hfs (by first | with_reducible rfl | with_reducible assumption | omega)) hwr (KnT.eq hkt (by first | with_reducible rfl | with_reducible assumption | omega)) (FnT.eq hft (by first | with_reducible rfl | with_reducible assumption | omega)) (KnS.eq hks (by first | with_reducible rfl | with_reducible assumption | omega) (by first | with_reducible rfl | with_reducible assumption | omega)) hfp han hec_z403 _) hT (pr := []) (pcs := [wdP cs h r g tf ta pf na ma307 wa cf308 ca309 ef ea xf xa]) hw (oX_call (P := (fun A U H => (oP A g U H))) (pr := []) oG_P hw hA hP) (px_recv hT hw 0 0 rfl rfl rfl) m12_213 m12_210 m12_212 ms_12_6 m1_21 q_Mpg_checkAlone ⟨show (4 * d + 13) + 1 ≤ (6 * d + 29) from by first | with_reducible rfl | with_reducible assumption | omega, show 8 + (3 + 11) + (200 * d + 460) ≤ (260 * d + 1020) from by first | with_reducible rfl | with_reducible assumption | omega⟩ hl.1 rfl (Nat.le_of_ble_eq_true rfl) d_Mpg_checkFor_74 ⟨Nat.le_of_ble_eq_true rfl, Nat.le_of_ble_eq_true rfl⟩) hw hA (fun p408 H locs hp408 hw => ?_)
        obtain ⟨ma406, cf407, rfl, e410, e411, e412, e413, e414, e415, e416, e417, e418, e419, e420⟩ := hp408
        replace e410 : KpE cf308 cf407 := e410
        have hkz_e410 := e410.2
        have hkk37_e410 : (cf407 37).toInt = (cf308 37).toInt := (by rw [e410.1 37 (by decide) (by decide) (by decide) (by decide) (by decide)] <;> rfl)
        have hkk43_e410 : (cf407 43).toInt = (cf308 43).toInt := (by rw [e410.1 43 (by decide) (by decide) (by decide) (by decide) (by decide)] <;> rfl)
        have hkk44_e410 : (cf407 44).toInt = (cf308 44).toInt := (by rw [e410.1 44 (by decide) (by decide) (by decide) (by decide) (by decide)] <;> rfl)
        have hkk45_e410 : (cf407 45).toInt = (cf308 45).toInt := (by rw [e410.1 45 (by decide) (by decide) (by decide) (by decide) (by decide)] <;> rfl)
        have hkk41_e410 : (cf407 41).toInt = (cf308 41).toInt := (by rw [e410.1 41 (by decide) (by decide) (by decide) (by decide) (by decide)] <;> rfl)
        have hkk55_e410 : (cf407 55).toInt = (cf308 55).toInt := (by rw [e410.1 55 (by decide) (by decide) (by decide) (by decide) (by decide)] <;> rfl)
        have hkk59_e410 : (cf407 59).toInt = (cf308 59).toInt := (by rw [e410.1 59 (by decide) (by decide) (by decide) (by decide) (by decide)] <;> rfl)
        have hkk42_e410 : (cf407 42).toInt = (cf308 42).toInt := (by rw [e410.1 42 (by decide) (by decide) (by decide) (by decide) (by decide)] <;> rfl)
        have hkk54_e410 : (cf407 54).toInt = (cf308 54).toInt := (by rw [e410.1 54 (by decide) (by decide) (by decide) (by decide) (by decide)] <;> rfl)
        have hkk58_e410 : (cf407 58).toInt = (cf308 58).toInt := (by rw [e410.1 58 (by decide) (by decide) (by decide) (by decide) (by decide)] <;> rfl)
        replace e411 : WrV cf407 (tf 6).toInt := e411
        have hwr := e411
        have hw0_e411 := hwr.1
        replace e412 : (cf407 33).toInt = (cf308 33).toInt := e412
        replace e413 : (cf407 38).toInt = (cf308 38).toInt := e413
        replace e414 : (cf407 48).toInt = (cf308 48).toInt := e414
        replace e415 : (cf407 46).toInt = (cf308 46).toInt := e415
        replace e416 : (cf407 47).toInt = (cf308 47).toInt := e416
        replace e417 : (cf407 57).toInt = (cf308 57).toInt := e417
        replace e418 : Ann na ma0 ma406 := e418
        have han := e418
        replace e419 : FrC m2 m3 ma307 ma406 := e419
        have hfc := hfc.tr e419 (by first | with_reducible rfl | with_reducible assumption | omega) (by first | with_reducible rfl | with_reducible assumption | omega)
        have hts_z303 : ZTe cf407 ta ca309 na ma0 (cf407 48).toInt ys nf ma406 (p0.toInt + 1) m1 z303 (tgv (cf 44).toInt (cf 45).toInt) := ZTe.tr hts_z303 (fun q => by first | with_reducible rfl | with_reducible assumption | omega) e419 (by first | with_reducible rfl | with_reducible assumption | omega) (CaG.rf (kn := 0) (ns := 5000)) (by first | with_reducible rfl | with_reducible assumption | omega) (by first | with_reducible rfl | with_reducible assumption | omega)
        replace e420 : ZT0 cf407 (Gk ta ca309 na ma0 (cf308 48).toInt ys nf) na ma406 m2 m3 z403 := e420
        have hty_z403 : ZTe cf407 ta ca309 na ma0 (cf407 48).toInt ys nf ma406 m2 m3 z403 0 := ZTe.to (t := 0) e420 (fun q => by first | with_reducible rfl | with_reducible assumption | omega) (by first | with_reducible rfl | with_reducible assumption | omega) (Int.le_refl _) (Int.le_refl _) rfl
        replace hw : pw D A s.heap H locs [wdP cs h r g tf ta pf na ma406 wa cf407 ca309 ef ea xf xa] := hw
        refine lv_aload_n S.x S.b d_Mpg_checkFor_77 rfl (lv_at hl 2 rfl) ?_
        refine lv_aload_n S.x S.b d_Mpg_checkFor_78 rfl (lv_at hl 2 rfl) ?_
        refine px_get S k_Mpg hT hw 0 0 20 (v := .ref (r 20)) rfl rfl rfl (by decide) m10_6 d_Mpg_checkFor_79 ?_
        refine lv_iload_n S.x S.b d_Mpg_checkFor_82 rfl (lv_at hl 3 rfl) ?_
        refine px_iald S hT hw 0 16 (n := 2100) (f := (ma406 20)) rfl gp_20 (x := p0) (vp_in_iff.mpr (by first | exact oz_376db002e6 hsr0.2.2.1 hrg_z303.1 g1 hm2 hru.2.1 hrg_z303.2.1 g2 hm3 hru.1 | (constructor <;> omega))) d_Mpg_checkFor_83 ?_
        refine lv_topi (fun z421 ez421 => ?_)
        have lz421 := Int32.le_toInt z421
        have uz421 := Int32.toInt_lt z421
        have ha_z421 : z421 = ma0 20 p0.toNatClampNeg := ez421.trans (Ann.b20 han (by first | with_reducible rfl | with_reducible assumption | omega) (by first | with_reducible rfl | with_reducible assumption | omega)); have hn_z421 : z421.toInt = (ma0 20 p0.toNatClampNeg).toInt := (by rw [ha_z421]); have hsc_z421 : ScV ta (tf 6).toInt na ma0 d m3 hi w5 z421 := (by rw [ha_z421]; exact hse); have hrg_z421 := ScV.rng hsc_z421
        refine px_callv (pr := []) (px_runV (As := [.int z421]) (rest := []) S (c_mp_checkBody l D cs ma0 ys nf tx d m3 hi w5 h r g tf ta pf na wa ef ea xf xa ma406 cf407 ca309 z421  (show 0 ≤ m3 from by first | exact oz_df1d141c94 hm3 hm2 hsr0.2.2.1 hrg_z303.1 hrg_z303.2.1 | omega) (show hi ≤ (pf 13).toInt from by first | exact g1 | omega) (show (pf 13).toInt ≤ 2100 from by first | exact g2 | omega) (show (tf 6).toInt ≤ 2049 from by first | exact g3 | omega) (show 0 ≤ (cf407 33).toInt from by first | exact oz_9921a0d148 e412 e324 g4 | omega) (show 0 ≤ w5 from by first | exact hw5 | omega) (show 6 * (cf407 33).toInt + w5 ≤ 6540 from by first | exact oz_e7df975688 hws e412 g6 hw2 hw3 e325 | omega) (show 0 ≤ (cf407 48).toInt from by first | exact oz_cfab8a20ba e414 e332 g14 g15 e328 e330 | omega) (show 6 * (cf407 48).toInt + w5 ≤ 6540 from by first | exact oz_e7df975688 hws e414 g8 hw2 hw3 e327 | omega) (show (cf407 38).toInt = nf from by first | exact oz_e13fc83238 g9 e413 e315 | omega) (show 0 ≤ nf from by first | exact g10 | omega) (show 0 ≤ (cf407 37).toInt from by first | exact oz_e2fef14871 hkk37_e410 e314 g4 | omega) (show 0 ≤ (cf407 54).toInt from by first | exact oz_9921a0d148 hkk54_e410 e328 g12 | omega) (show (cf407 54).toInt ≤ 4096 * (cf407 48).toInt from by first | exact oz_591883cc22 e414 hkk54_e410 e331 g13 | omega) (show 0 ≤ (cf407 42).toInt from by first | exact oz_4d7634dc29 hkk42_e410 e330 g14 e328 | omega) (show (cf407 42).toInt ≤ 4 + 4096 * (cf407 48).toInt from by first | exact oz_28f1d15c37 e414 hkk42_e410 e332 g15 | omega) (show 0 ≤ (cf407 44).toInt from by first | exact oz_e2fef14871 hkk44_e410 e317 g16 | omega) (show 0 ≤ (cf407 45).toInt from by first | exact oz_e2fef14871 hkk45_e410 e318 g17 | omega) (show ys ≤ (cf407 48).toInt ∨ tx = 1 from by first | with_reducible rfl | with_reducible assumption | omega) (show 0 ≤ (cf407 46).toInt from by first | exact oz_e2fef14871 e415 e319 g19 | omega) (show (cf407 46).toInt ≤ 1 from by first | exact oz_916d756328 e415 e319 g20 | omega) (show 0 ≤ (cf407 47).toInt from by first | exact oz_e2fef14871 e416 e320 g21 | omega) (show (cf407 47).toInt ≤ 1 from by first | exact oz_916d756328 e416 e320 g22 | omega) (show (cf407 44).toInt + (d : Int) ≤ 400 from by first | exact oz_1d9764fd28 g29 hkk44_e410 e317 | omega) (show (cf407 45).toInt + (d : Int) ≤ 400 from by first | exact oz_1d9764fd28 g30 hkk45_e410 e318 | omega) (show 0 ≤ (cf407 43).toInt from by first | exact oz_e2fef14871 hkk43_e410 e316 g25 | omega) (show (cf407 43).toInt < 2100 from by first | exact oz_740a8b247c hkk43_e410 e316 g26 | omega) (show tx = 0 from by first | exact g27 | omega) (show (cf407 44).toInt + (d : Int) + 1 ≤ 400 from by first | exact oz_e363459920 g29 hkk44_e410 e317 | omega) htk (FsI.le (N' := (pf 13).toInt) hfs (by first | with_reducible rfl | with_reducible assumption | omega)) hwr (KnT.eq hkt (by first | with_reducible rfl | with_reducible assumption | omega)) (FnT.eq hft (by first | with_reducible rfl | with_reducible assumption | omega)) (KnS.eq hks (by first | with_reducible rfl | with_reducible assumption | omega) (by first | with_reducible rfl | with_reducible assumption | omega)) hfp (SyR.eq hsr (by first | with_reducible rfl | with_reducible assumption | omega) (by first | with_reducible rfl | with_reducible assumption | omega)) han (show txo (cf407 43).toInt = tx from by rw [show (cf407 43).toInt = (cf 43).toInt by omega]; exact htx) hsc_z421 hLS _) hT (pr := []) (pcs := [wdP cs h r g tf ta pf na ma406 wa cf407 ca309 ef ea xf xa]) hw (oX_call (P := (fun A U H => (oP A g U H))) (pr := []) oG_P hw hA hP) (px_recv hT hw 0 0 rfl rfl rfl) m13_37 m13_34 m13_36 ms_13_6 m1_21 q_Mpg_checkBody ⟨show (6 * d + 27) + 1 ≤ (6 * d + 29) from by first | with_reducible rfl | with_reducible assumption | omega, show 8 + (2 + 11) + (260 * d + 940) ≤ (260 * d + 1020) from by first | with_reducible rfl | with_reducible assumption | omega⟩ hl.1 rfl (Nat.le_of_ble_eq_true rfl) d_Mpg_checkFor_84 ⟨Nat.le_of_ble_eq_true rfl, Nat.le_of_ble_eq_true rfl⟩) hw hA (fun p428 H locs hp428 hw => ?_)
        obtain ⟨ma425, cf426, ca427, rfl, e430, e431, e432, e433, e434, e435, e436, e437, e438, e439, e440, e441, e442, e443, e444, e445, e446, e447, e448, e449, e450, e451, e452, e453, e454, e455, e456, e457⟩ := hp428
        replace e430 : (cf426 30).toInt = 0 → (cf407 30).toInt = 0 := e430
        replace e431 : WrV cf426 (tf 6).toInt := e431
        have hwr := e431
        have hw0_e431 := hwr.1
        replace e432 : (cf426 37).toInt = (cf407 37).toInt := e432
        replace e433 : (cf426 38).toInt = (cf407 38).toInt := e433
        replace e434 : (cf426 43).toInt = (cf407 43).toInt := e434
        replace e435 : (cf426 44).toInt = (cf407 44).toInt := e435
        replace e436 : (cf426 45).toInt = (cf407 45).toInt := e436
        replace e437 : (cf426 46).toInt = (cf407 46).toInt := e437
        replace e438 : (cf426 47).toInt = (cf407 47).toInt := e438
        replace e439 : (cf426 41).toInt = (cf407 41).toInt := e439
        replace e440 : (cf426 55).toInt = (cf407 55).toInt := e440
        replace e441 : (cf426 59).toInt = (cf407 59).toInt := e441
        replace e442 : (cf407 33).toInt ≤ (cf426 33).toInt := e442
        replace e443 : 6 * (cf426 33).toInt ≤ 6 * (cf407 33).toInt + (w5) := e443
        replace e444 : (cf407 48).toInt ≤ (cf426 48).toInt := e444
        replace e445 : 6 * (cf426 48).toInt ≤ 6 * (cf407 48).toInt + (w5) := e445
        replace e446 : (cf407 54).toInt ≤ (cf426 54).toInt := e446
        replace e447 : (cf407 42).toInt ≤ (cf426 42).toInt := e447
        replace e448 : (cf426 54).toInt - (cf407 54).toInt ≤ 4 * ((cf426 42).toInt - (cf407 42).toInt) := e448
        replace e449 : (cf426 54).toInt - (cf407 54).toInt ≤ 4096 * ((cf426 48).toInt - (cf407 48).toInt) := e449
        replace e450 : (cf426 42).toInt - (cf407 42).toInt ≤ 4096 * ((cf426 48).toInt - (cf407 48).toInt) := e450
        replace e451 : KnT (tf 6).toInt ca427 (cf426 33).toInt := e451
        have hkt := e451
        have hk11_e451 := hkt.1
        replace e452 : KnS ca427 (cf426 33).toInt (cf426 48).toInt ys := e452
        have hks := e452
        replace e453 : CaG ca309 ca427 (cf407 33).toInt (cf407 48).toInt := e453
        have hcg := hcg.tr e453 (by first | with_reducible rfl | with_reducible assumption | omega) (by first | with_reducible rfl | with_reducible assumption | omega)
        have hft := hft.cg e453
        have hfp := hfp.cg e453
        replace e454 : SyR ca427 ys (cf426 48).toInt (cf426 54).toInt tx := e454
        have hsr := e454
        replace e455 : Ann na ma0 ma425 := e455
        have han := e455
        replace e456 : FrC m3 hi ma406 ma425 := e456
        have hfc := hfc.tr e456 (by first | with_reducible rfl | with_reducible assumption | omega) (by first | with_reducible rfl | with_reducible assumption | omega)
        have hts_z303 : ZTe cf426 ta ca427 na ma0 (cf426 48).toInt ys nf ma425 (p0.toInt + 1) m1 z303 (tgv (cf 44).toInt (cf 45).toInt) := ZTe.tr hts_z303 (fun q => by first | with_reducible rfl | with_reducible assumption | omega) e456 (by first | with_reducible rfl | with_reducible assumption | omega) e453 (by first | with_reducible rfl | with_reducible assumption | omega) (by first | with_reducible rfl | with_reducible assumption | omega)
        have hty_z403 : ZTe cf426 ta ca427 na ma0 (cf426 48).toInt ys nf ma425 m2 m3 z403 0 := ZTe.tr hty_z403 (fun q => by first | with_reducible rfl | with_reducible assumption | omega) e456 (by first | with_reducible rfl | with_reducible assumption | omega) e453 (by first | with_reducible rfl | with_reducible assumption | omega) (by first | with_reducible rfl | with_reducible assumption | omega)
        replace e457 : ZTe cf426 ta ca427 na ma0 (cf426 48).toInt ys nf ma425 m3 hi z421 4 := e457
        have hts_z421 : ZTe cf426 ta ca427 na ma0 (cf426 48).toInt ys nf ma425 m3 hi z421 4 := ZTe.to e457 (fun q => by first | with_reducible rfl | with_reducible assumption | omega) (by first | with_reducible rfl | with_reducible assumption | omega) (Int.le_refl _) (Int.le_refl _) rfl
        replace hw : pw D A s.heap H locs [wdP cs h r g tf ta pf na ma425 wa cf426 ca427 ef ea xf xa] := hw
        refine lv_aload_n S.x S.b d_Mpg_checkFor_87 rfl (lv_at hl 2 rfl) ?_
        refine lv_iload_n S.x S.b d_Mpg_checkFor_88 rfl (lv_at hl 1 rfl) ?_
        refine lv_iload_n S.x S.b d_Mpg_checkFor_89 rfl (lv_at hl 0 rfl) ?_
        refine px_callv (pr := []) (px_runV (As := [.int (cf 33), .int (cf 37)]) (rest := []) S (c_mp_leave l D cs h r g tf ta pf na ma425 wa ca427 ef ea xf xa cf426 (cf 33) (cf 37)  htk _) hT (pr := []) (pcs := [wdP cs h r g tf ta pf na ma425 wa cf426 ca427 ef ea xf xa]) hw px_X.tt (px_recv hT hw 0 0 rfl rfl rfl) m12_209 m12_206 m12_208 ms_12_5 m1_21 q_Mpg_leave ⟨show 0 + 1 ≤ (6 * d + 29) from by first | with_reducible rfl | with_reducible assumption | omega, show 8 + (3 + 11) + 0 ≤ (260 * d + 1020) from by first | with_reducible rfl | with_reducible assumption | omega⟩ hl.1 rfl (Nat.le_of_ble_eq_true rfl) d_Mpg_checkFor_90 ⟨Nat.le_of_ble_eq_true rfl, Nat.le_of_ble_eq_true rfl⟩) hw hA (fun p460 H locs hp460 hw => ?_)
        obtain ⟨cf459, rfl, e462, e463, e464, e465, e466, e467, e468, e469, e470, e471, e472, e473, e474, e475, e476, e477, e478, e479⟩ := hp460
        replace e462 : (cf459 33).toInt = (cf 33).toInt := e462
        replace e463 : (cf459 37).toInt = (cf 37).toInt := e463
        replace e464 : (cf459 30).toInt = (cf426 30).toInt := e464
        replace e465 : (cf459 31).toInt = (cf426 31).toInt := e465
        replace e466 : (cf459 38).toInt = (cf426 38).toInt := e466
        replace e467 : (cf459 41).toInt = (cf426 41).toInt := e467
        replace e468 : (cf459 42).toInt = (cf426 42).toInt := e468
        replace e469 : (cf459 43).toInt = (cf426 43).toInt := e469
        replace e470 : (cf459 44).toInt = (cf426 44).toInt := e470
        replace e471 : (cf459 45).toInt = (cf426 45).toInt := e471
        replace e472 : (cf459 46).toInt = (cf426 46).toInt := e472
        replace e473 : (cf459 47).toInt = (cf426 47).toInt := e473
        replace e474 : (cf459 48).toInt = (cf426 48).toInt := e474
        replace e475 : (cf459 54).toInt = (cf426 54).toInt := e475
        replace e476 : (cf459 55).toInt = (cf426 55).toInt := e476
        replace e477 : (cf459 57).toInt = (cf426 57).toInt := e477
        replace e478 : (cf459 58).toInt = (cf426 58).toInt := e478
        replace e479 : (cf459 59).toInt = (cf426 59).toInt := e479
        have hwr : WrV cf459 (tf 6).toInt := WrV.eq hwr (by first | with_reducible rfl | with_reducible assumption | omega) (by first | with_reducible rfl | with_reducible assumption | omega)
        have hkt := KnT.eq (n' := (cf459 33).toInt) (KnT.cg hkt0 hcg (Int.le_refl _)) (by first | with_reducible rfl | with_reducible assumption | omega)
        have hks := KnS.eq (n' := (cf459 33).toInt) (KnS.cg hks0 hcg (Int.le_refl _) (Int.le_refl _) (n2 := (cf459 48).toInt) (by first | with_reducible rfl | with_reducible assumption | omega)) (by first | with_reducible rfl | with_reducible assumption | omega) rfl
        have hts_z303 : ZTe cf459 ta ca427 na ma0 (cf459 48).toInt ys nf ma425 (p0.toInt + 1) m1 z303 (tgv (cf 44).toInt (cf 45).toInt) := ZTe.to hts_z303 (fun q => by first | with_reducible rfl | with_reducible assumption | omega) (by first | with_reducible rfl | with_reducible assumption | omega) (Int.le_refl _) (Int.le_refl _) rfl
        have hty_z403 : ZTe cf459 ta ca427 na ma0 (cf459 48).toInt ys nf ma425 m2 m3 z403 0 := ZTe.to hty_z403 (fun q => by first | with_reducible rfl | with_reducible assumption | omega) (by first | with_reducible rfl | with_reducible assumption | omega) (Int.le_refl _) (Int.le_refl _) rfl
        have hts_z421 : ZTe cf459 ta ca427 na ma0 (cf459 48).toInt ys nf ma425 m3 hi z421 4 := ZTe.to hts_z421 (fun q => by first | with_reducible rfl | with_reducible assumption | omega) (by first | with_reducible rfl | with_reducible assumption | omega) (Int.le_refl _) (Int.le_refl _) rfl
        replace hw : pw D A s.heap H locs [wdP cs h r g tf ta pf na ma425 wa cf459 ca427 ef ea xf xa] := hw
        exact px_vret S hr hlk hAe hw (Nat.le_of_ble_eq_true rfl) (Nat.le_of_ble_eq_true rfl) (⟨ma425, cf459, ca427, rfl, (show (cf459 30).toInt = 0 → (cf 30).toInt = 0 from by first | with_reducible rfl | with_reducible assumption | omega), (show WrV cf459 (tf 6).toInt from hwr), (show (cf459 37).toInt = (cf 37).toInt from by first | exact e463 | omega), (show (cf459 38).toInt = (cf 38).toInt from by first | exact oz_ff3084e3c1 e315 e466 e413 e433 | omega), (show (cf459 43).toInt = (cf 43).toInt from by first | exact oz_ff3084e3c1 e316 e469 hkk43_e410 e434 | omega), (show (cf459 44).toInt = (cf 44).toInt from by first | exact oz_ff3084e3c1 e317 e470 hkk44_e410 e435 | omega), (show (cf459 45).toInt = (cf 45).toInt from by first | exact oz_ff3084e3c1 e318 e471 hkk45_e410 e436 | omega), (show (cf459 46).toInt = (cf 46).toInt from by first | exact oz_ff3084e3c1 e319 e472 e415 e437 | omega), (show (cf459 47).toInt = (cf 47).toInt from by first | exact oz_ff3084e3c1 e320 e473 e416 e438 | omega), (show (cf459 41).toInt = (cf 41).toInt from by first | exact oz_ff3084e3c1 e321 e467 hkk41_e410 e439 | omega), (show (cf459 55).toInt = (cf 55).toInt from by first | exact oz_ff3084e3c1 e322 e476 hkk55_e410 e440 | omega), (show (cf459 59).toInt = (cf 59).toInt from by first | exact oz_ff3084e3c1 e323 e479 hkk59_e410 e441 | omega), (show (cf459 33).toInt = (cf 33).toInt from by first | exact e462 | omega), (show (cf 48).toInt ≤ (cf459 48).toInt from by first | exact oz_de1de8abaa e332 e474 e329 e414 e444 | omega), (show 6 * (cf459 48).toInt ≤ 6 * (cf 48).toInt + (w) from by first | exact oz_28aba2ef1b hws e327 e474 hw2 hw3 e414 e445 | omega), (show (cf 54).toInt ≤ (cf459 54).toInt from by first | exact oz_72984fb0b0 e328 e475 hkk54_e410 e446 | omega), (show (cf 42).toInt ≤ (cf459 42).toInt from by first | exact oz_177e2427a4 e330 e468 e328 hkk42_e410 e447 | omega), (show (cf459 54).toInt - (cf 54).toInt ≤ 4 * ((cf459 42).toInt - (cf 42).toInt) from by first | exact oz_d1adcf9e6d e330 e468 e475 hkk42_e410 hkk54_e410 e448 | omega), (show (cf459 54).toInt - (cf 54).toInt ≤ 4096 * ((cf459 48).toInt - (cf 48).toInt) from by first | exact oz_517c5935f5 e331 e474 e475 e414 hkk54_e410 e449 | omega), (show (cf459 42).toInt - (cf 42).toInt ≤ 4096 * ((cf459 48).toInt - (cf 48).toInt) from by first | exact oz_ec93b785c0 e332 e468 e474 e414 hkk42_e410 e450 | omega), (show KnT (tf 6).toInt ca427 (cf459 33).toInt from (KnT.eq hkt (by first | with_reducible rfl | with_reducible assumption | omega))), (show KnS ca427 (cf459 33).toInt (cf459 48).toInt ys from (KnS.eq hks (by first | with_reducible rfl | with_reducible assumption | omega) (by first | with_reducible rfl | with_reducible assumption | omega))), (show CaG ca ca427 (cf 33).toInt (cf 48).toInt from (hcg.le (by first | with_reducible rfl | with_reducible assumption | omega) (by first | with_reducible rfl | with_reducible assumption | omega))), (show SyR ca427 ys (cf459 48).toInt (cf459 54).toInt tx from (SyR.eq hsr (by first | with_reducible rfl | with_reducible assumption | omega) (by first | with_reducible rfl | with_reducible assumption | omega))), (show Ann na ma0 ma425 from han), (show FrC lo hi ma ma425 from hfc), (show ZTe cf459 ta ca427 na ma0 (cf459 48).toInt ys nf ma425 lo hi p0 (tgv (cf 44).toInt (cf 45).toInt) from (fun zz => by exact tys_27 ⟨by first | with_reducible rfl | with_reducible assumption | omega, by first | with_reducible rfl | with_reducible assumption | omega, by first | with_reducible rfl | with_reducible assumption | omega⟩ tgv_rng (by first | with_reducible rfl | with_reducible assumption | omega) ha_z303 (ha_z340.trans (Ann.b18 han (by first | with_reducible rfl | with_reducible assumption | omega)).symm) (ha_z403.trans (Ann.b19 han (by first | with_reducible rfl | with_reducible assumption | omega)).symm) (ha_z421.trans (Ann.b20 han (by first | with_reducible rfl | with_reducible assumption | omega) (by first | with_reducible rfl | with_reducible assumption | omega)).symm) (ZTe.ot hts_z303 (by first | with_reducible rfl | with_reducible assumption | omega) (by first | with_reducible rfl | with_reducible assumption | omega) (by first | with_reducible rfl | with_reducible assumption | omega) (by first | with_reducible rfl | with_reducible assumption | omega) rfl) (Or.inl (by first | with_reducible rfl | with_reducible assumption | omega)) (ZTe.ot hty_z403 (by first | with_reducible rfl | with_reducible assumption | omega) (by first | with_reducible rfl | with_reducible assumption | omega) (by first | with_reducible rfl | with_reducible assumption | omega) (by first | with_reducible rfl | with_reducible assumption | omega) rfl) (ZTe.at hts_z421 (by first | with_reducible rfl | with_reducible assumption | omega) (by first | with_reducible rfl | with_reducible assumption | omega) (by first | with_reducible rfl | with_reducible assumption | omega) (by first | with_reducible rfl | with_reducible assumption | omega) rfl)))⟩) d_Mpg_checkFor_93
    · have nc341 : ¬ z340.toInt < (0 : Int) := mt (i_lt (x := z340) (y := 0)).mpr c341
      refine lv_aload_n S.x S.b d_Mpg_checkFor_46 rfl (lv_at hl 2 rfl) ?_
      refine lv_aload_n S.x S.b d_Mpg_checkFor_47 rfl (lv_at hl 2 rfl) ?_
      refine px_get S k_Mpg hT hw 0 0 18 (v := .ref (r 18)) rfl rfl rfl (by decide) m10_3 d_Mpg_checkFor_48 ?_
      refine lv_iload_n S.x S.b d_Mpg_checkFor_51 rfl (lv_at hl 3 rfl) ?_
      refine px_iald S hT hw 0 14 (n := 2100) (f := (ma307 18)) rfl gp_18 (x := p0) (vp_in_iff.mpr (by first | exact oz_376db002e6 hsr0.2.2.1 hrg_z303.1 g1 hm2 hru.2.1 hrg_z303.2.1 g2 hm3 hru.1 | (constructor <;> omega))) d_Mpg_checkFor_52 ?_
      refine lv_topi (fun z480 ez480 => ?_)
      have lz480 := Int32.le_toInt z480
      have uz480 := Int32.toInt_lt z480
      have ha_z480 : z480 = ma0 18 p0.toNatClampNeg := ez480.trans (Ann.b18 han (by first | with_reducible rfl | with_reducible assumption | omega)); have hn_z480 : z480.toInt = (ma0 18 p0.toNatClampNeg).toInt := (by rw [ha_z480]); have hev_z480 : ErV ta (tf 6).toInt na ma0 d m1 m2 w2 z480 := (by rw [ha_z480]; exact (hob.get (by first | with_reducible rfl | with_reducible assumption | omega))); obtain ⟨hec_z480, h20_z480, hw_z480⟩ := hev_z480.ec; have hrg_z480 := EcV.rng hec_z480
      refine lv_iconst (v := 1) S.x S.b d_Mpg_checkFor_53 (by decide) ?_
      refine px_calli (pr := []) (px_runV (As := [.int z480, .int 1]) (rest := []) S (c_S_check l D cs ma0 ys (cf308 48).toInt nf (cf308 33).toInt d m1 m2 h r g tf ta pf na wa ca309 ef ea xf xa ma307 cf308 z480 1  (show 0 ≤ m1 from by first | exact oz_5b675c0aaa hrg_z303.2.1 hsr0.2.2.1 hrg_z303.1 | omega) (show m2 ≤ (pf 13).toInt from by first | exact oz_cabfece9a2 g1 hm3 hru.1 hru.2.1 | omega) (show (pf 13).toInt ≤ 2100 from by first | exact g2 | omega) (show (tf 6).toInt ≤ 2049 from by first | exact g3 | omega) (show (cf308 33).toInt = (cf308 33).toInt from rfl) (show 0 ≤ (cf308 33).toInt from by first | exact oz_16d7fa9f32 e324 g4 | omega) (show (cf308 48).toInt = (cf308 48).toInt from rfl) (show (cf308 38).toInt = nf from by first | exact oz_1687f4cc65 g9 e315 | omega) (show 0 ≤ nf from by first | exact g10 | omega) (show 0 ≤ (1 : Int) from by first | decide | omega) (show (1 : Int) ≤ 1 from by first | decide | omega) htk (FsI.le (N' := (pf 13).toInt) hfs (by first | with_reducible rfl | with_reducible assumption | omega)) hwr (KnT.eq hkt (by first | with_reducible rfl | with_reducible assumption | omega)) (FnT.eq hft (by first | with_reducible rfl | with_reducible assumption | omega)) (KnS.eq hks (by first | with_reducible rfl | with_reducible assumption | omega) (by first | with_reducible rfl | with_reducible assumption | omega)) hfp han hec_z480 _) hT (pr := []) (pcs := [wdP cs h r g tf ta pf na ma307 wa cf308 ca309 ef ea xf xa]) hw (oX_call (P := (fun A U H => (oP A g U H))) (pr := []) oG_P hw hA hP) (px_recv hT hw 0 0 rfl rfl rfl) m12_217 m12_214 m12_216 ms_12_7 m1_21 q_Mpg_check ⟨show (4 * d + 12) + 1 ≤ (6 * d + 29) from by first | with_reducible rfl | with_reducible assumption | omega, show 8 + (8 + 11) + (200 * d + 420) ≤ (260 * d + 1020) from by first | with_reducible rfl | with_reducible assumption | omega⟩ hl.1 rfl (Nat.le_of_ble_eq_true rfl) d_Mpg_checkFor_54 ⟨Nat.le_of_ble_eq_true rfl, Nat.le_of_ble_eq_true rfl⟩) hw hA (fun v486 p485 H locs hp485 hw => ?_)
      obtain ⟨ma483, cf484, rfl, e487, e488, e489, e490, e491, e492, e493, e494, e495, e496, e497, e498, e499, e500, e501⟩ := hp485
      replace e487 : KpE cf308 cf484 := e487
      have hkz_e487 := e487.2
      have hkk37_e487 : (cf484 37).toInt = (cf308 37).toInt := (by rw [e487.1 37 (by decide) (by decide) (by decide) (by decide) (by decide)] <;> rfl)
      have hkk43_e487 : (cf484 43).toInt = (cf308 43).toInt := (by rw [e487.1 43 (by decide) (by decide) (by decide) (by decide) (by decide)] <;> rfl)
      have hkk44_e487 : (cf484 44).toInt = (cf308 44).toInt := (by rw [e487.1 44 (by decide) (by decide) (by decide) (by decide) (by decide)] <;> rfl)
      have hkk45_e487 : (cf484 45).toInt = (cf308 45).toInt := (by rw [e487.1 45 (by decide) (by decide) (by decide) (by decide) (by decide)] <;> rfl)
      have hkk41_e487 : (cf484 41).toInt = (cf308 41).toInt := (by rw [e487.1 41 (by decide) (by decide) (by decide) (by decide) (by decide)] <;> rfl)
      have hkk55_e487 : (cf484 55).toInt = (cf308 55).toInt := (by rw [e487.1 55 (by decide) (by decide) (by decide) (by decide) (by decide)] <;> rfl)
      have hkk59_e487 : (cf484 59).toInt = (cf308 59).toInt := (by rw [e487.1 59 (by decide) (by decide) (by decide) (by decide) (by decide)] <;> rfl)
      have hkk42_e487 : (cf484 42).toInt = (cf308 42).toInt := (by rw [e487.1 42 (by decide) (by decide) (by decide) (by decide) (by decide)] <;> rfl)
      have hkk54_e487 : (cf484 54).toInt = (cf308 54).toInt := (by rw [e487.1 54 (by decide) (by decide) (by decide) (by decide) (by decide)] <;> rfl)
      have hkk58_e487 : (cf484 58).toInt = (cf308 58).toInt := (by rw [e487.1 58 (by decide) (by decide) (by decide) (by decide) (by decide)] <;> rfl)
      replace e488 : WrV cf484 (tf 6).toInt := e488
      have hwr := e488
      have hw0_e488 := hwr.1
      replace e489 : (cf484 33).toInt = (cf308 33).toInt := e489
      replace e490 : (cf484 38).toInt = (cf308 38).toInt := e490
      replace e491 : (cf484 48).toInt = (cf308 48).toInt := e491
      replace e492 : (cf484 46).toInt = (cf308 46).toInt := e492
      replace e493 : (cf484 47).toInt = (cf308 47).toInt := e493
      replace e494 : (cf484 57).toInt = (cf308 57).toInt := e494
      replace e495 : Ann na ma0 ma483 := e495
      have han := e495
      replace e496 : FrC m1 m2 ma307 ma483 := e496
      have hfc := hfc.tr e496 (by first | with_reducible rfl | with_reducible assumption | omega) (by first | with_reducible rfl | with_reducible assumption | omega)
      have hts_z303 : ZTe cf484 ta ca309 na ma0 (cf484 48).toInt ys nf ma483 (p0.toInt + 1) m1 z303 (tgv (cf 44).toInt (cf 45).toInt) := ZTe.tr hts_z303 (fun q => by first | with_reducible rfl | with_reducible assumption | omega) e496 (by first | with_reducible rfl | with_reducible assumption | omega) (CaG.rf (kn := 0) (ns := 5000)) (by first | with_reducible rfl | with_reducible assumption | omega) (by first | with_reducible rfl | with_reducible assumption | omega)
      replace e497 : 0 ≤ v486.toInt := e497
      replace e498 : v486.toInt ≤ 4 := e498
      replace e499 : NmJ ta ca309 na ma483 (cf308 33).toInt z480 v486.toInt := e499
      replace e500 : ZTy cf484 (Gk ta ca309 na ma0 (cf308 48).toInt ys nf) na ma483 m1 m2 z480 v486.toInt := e500
      replace e501 : ZNm cf484 (1 : Int) v486.toInt := e501
      have hty_z480 : ZTe cf484 ta ca309 na ma0 (cf484 48).toInt ys nf ma483 m1 m2 z480 0 := ZTe.to (t := 0) (ZTy.num e500 e501) (fun q => by first | with_reducible rfl | with_reducible assumption | omega) (by first | with_reducible rfl | with_reducible assumption | omega) (Int.le_refl _) (Int.le_refl _) rfl
      replace hw : pw D A s.heap H locs [wdP cs h r g tf ta pf na ma483 wa cf484 ca309 ef ea xf xa] := hw
      have lv486 := Int32.le_toInt v486
      have uv486 := Int32.toInt_lt v486
      refine lv_pop S.x S.b d_Mpg_checkFor_57 rfl ?_
      refine lv_aload_n S.x S.b d_Mpg_checkFor_58 rfl (lv_at hl 2 rfl) ?_
      refine px_get S k_Mpg hT hw 0 0 19 (v := .ref (r 19)) rfl rfl rfl (by decide) m10_5 d_Mpg_checkFor_59 ?_
      refine lv_iload_n S.x S.b d_Mpg_checkFor_62 rfl (lv_at hl 3 rfl) ?_
      refine px_iald S hT hw 0 15 (n := 2100) (f := (ma483 19)) rfl gp_19 (x := p0) (vp_in_iff.mpr (by first | exact oz_376db002e6 hsr0.2.2.1 hrg_z303.1 g1 hm2 hru.2.1 hrg_z303.2.1 g2 hm3 hru.1 | (constructor <;> omega))) d_Mpg_checkFor_63 ?_
      refine lv_topi (fun z502 ez502 => ?_)
      have lz502 := Int32.le_toInt z502
      have uz502 := Int32.toInt_lt z502
      have ha_z502 : z502 = ma0 19 p0.toNatClampNeg := ez502.trans (Ann.b19 han (by first | with_reducible rfl | with_reducible assumption | omega)); have hn_z502 : z502.toInt = (ma0 19 p0.toNatClampNeg).toInt := (by rw [ha_z502])
      refine lv_if_lt (tgt := 77) S.x S.b d_Mpg_checkFor_64 (by decide) (fun c503 => ?_) (fun c503 => ?_)
      · have nc503 : z502.toInt < (0 : Int) := (i_lt (x := z502) (y := 0)).mp c503
        refine lv_aload_n S.x S.b d_Mpg_checkFor_77 rfl (lv_at hl 2 rfl) ?_
        refine lv_aload_n S.x S.b d_Mpg_checkFor_78 rfl (lv_at hl 2 rfl) ?_
        refine px_get S k_Mpg hT hw 0 0 20 (v := .ref (r 20)) rfl rfl rfl (by decide) m10_6 d_Mpg_checkFor_79 ?_
        refine lv_iload_n S.x S.b d_Mpg_checkFor_82 rfl (lv_at hl 3 rfl) ?_
        refine px_iald S hT hw 0 16 (n := 2100) (f := (ma483 20)) rfl gp_20 (x := p0) (vp_in_iff.mpr (by first | exact oz_376db002e6 hsr0.2.2.1 hrg_z303.1 g1 hm2 hru.2.1 hrg_z303.2.1 g2 hm3 hru.1 | (constructor <;> omega))) d_Mpg_checkFor_83 ?_
        refine lv_topi (fun z504 ez504 => ?_)
        have lz504 := Int32.le_toInt z504
        have uz504 := Int32.toInt_lt z504
        have ha_z504 : z504 = ma0 20 p0.toNatClampNeg := ez504.trans (Ann.b20 han (by first | with_reducible rfl | with_reducible assumption | omega) (by first | with_reducible rfl | with_reducible assumption | omega)); have hn_z504 : z504.toInt = (ma0 20 p0.toNatClampNeg).toInt := (by rw [ha_z504]); have hsc_z504 : ScV ta (tf 6).toInt na ma0 d m3 hi w5 z504 := (by rw [ha_z504]; exact hse); have hrg_z504 := ScV.rng hsc_z504
        refine px_callv (pr := []) (px_runV (As := [.int z504]) (rest := []) S (c_mp_checkBody l D cs ma0 ys nf tx d m3 hi w5 h r g tf ta pf na wa ef ea xf xa ma483 cf484 ca309 z504  (show 0 ≤ m3 from by first | exact oz_df1d141c94 hm3 hm2 hsr0.2.2.1 hrg_z303.1 hrg_z303.2.1 | omega) (show hi ≤ (pf 13).toInt from by first | exact g1 | omega) (show (pf 13).toInt ≤ 2100 from by first | exact g2 | omega) (show (tf 6).toInt ≤ 2049 from by first | exact g3 | omega) (show 0 ≤ (cf484 33).toInt from by first | exact oz_9921a0d148 e489 e324 g4 | omega) (show 0 ≤ w5 from by first | exact hw5 | omega) (show 6 * (cf484 33).toInt + w5 ≤ 6540 from by first | exact oz_e7df975688 hws e489 g6 hw2 hw3 e325 | omega) (show 0 ≤ (cf484 48).toInt from by first | exact oz_cfab8a20ba e491 e332 g14 g15 e328 e330 | omega) (show 6 * (cf484 48).toInt + w5 ≤ 6540 from by first | exact oz_e7df975688 hws e491 g8 hw2 hw3 e327 | omega) (show (cf484 38).toInt = nf from by first | exact oz_e13fc83238 g9 e490 e315 | omega) (show 0 ≤ nf from by first | exact g10 | omega) (show 0 ≤ (cf484 37).toInt from by first | exact oz_e2fef14871 hkk37_e487 e314 g4 | omega) (show 0 ≤ (cf484 54).toInt from by first | exact oz_9921a0d148 hkk54_e487 e328 g12 | omega) (show (cf484 54).toInt ≤ 4096 * (cf484 48).toInt from by first | exact oz_591883cc22 e491 hkk54_e487 e331 g13 | omega) (show 0 ≤ (cf484 42).toInt from by first | exact oz_4d7634dc29 hkk42_e487 e330 g14 e328 | omega) (show (cf484 42).toInt ≤ 4 + 4096 * (cf484 48).toInt from by first | exact oz_28f1d15c37 e491 hkk42_e487 e332 g15 | omega) (show 0 ≤ (cf484 44).toInt from by first | exact oz_e2fef14871 hkk44_e487 e317 g16 | omega) (show 0 ≤ (cf484 45).toInt from by first | exact oz_e2fef14871 hkk45_e487 e318 g17 | omega) (show ys ≤ (cf484 48).toInt ∨ tx = 1 from by first | with_reducible rfl | with_reducible assumption | omega) (show 0 ≤ (cf484 46).toInt from by first | exact oz_e2fef14871 e492 e319 g19 | omega) (show (cf484 46).toInt ≤ 1 from by first | exact oz_916d756328 e492 e319 g20 | omega) (show 0 ≤ (cf484 47).toInt from by first | exact oz_e2fef14871 e493 e320 g21 | omega) (show (cf484 47).toInt ≤ 1 from by first | exact oz_916d756328 e493 e320 g22 | omega) (show (cf484 44).toInt + (d : Int) ≤ 400 from by first | exact oz_1d9764fd28 g29 hkk44_e487 e317 | omega) (show (cf484 45).toInt + (d : Int) ≤ 400 from by first | exact oz_1d9764fd28 g30 hkk45_e487 e318 | omega) (show 0 ≤ (cf484 43).toInt from by first | exact oz_e2fef14871 hkk43_e487 e316 g25 | omega) (show (cf484 43).toInt < 2100 from by first | exact oz_740a8b247c hkk43_e487 e316 g26 | omega) (show tx = 0 from by first | exact g27 | omega) (show (cf484 44).toInt + (d : Int) + 1 ≤ 400 from by first | exact oz_e363459920 g29 hkk44_e487 e317 | omega) htk (FsI.le (N' := (pf 13).toInt) hfs (by first | with_reducible rfl | with_reducible assumption | omega)) hwr (KnT.eq hkt (by first | with_reducible rfl | with_reducible assumption | omega)) (FnT.eq hft (by first | with_reducible rfl | with_reducible assumption | omega)) (KnS.eq hks (by first | with_reducible rfl | with_reducible assumption | omega) (by first | with_reducible rfl | with_reducible assumption | omega)) hfp (SyR.eq hsr (by first | with_reducible rfl | with_reducible assumption | omega) (by first | with_reducible rfl | with_reducible assumption | omega)) han (show txo (cf484 43).toInt = tx from by rw [show (cf484 43).toInt = (cf 43).toInt by omega]; exact htx) hsc_z504 hLS _) hT (pr := []) (pcs := [wdP cs h r g tf ta pf na ma483 wa cf484 ca309 ef ea xf xa]) hw (oX_call (P := (fun A U H => (oP A g U H))) (pr := []) oG_P hw hA hP) (px_recv hT hw 0 0 rfl rfl rfl) m13_37 m13_34 m13_36 ms_13_6 m1_21 q_Mpg_checkBody ⟨show (6 * d + 27) + 1 ≤ (6 * d + 29) from by first | with_reducible rfl | with_reducible assumption | omega, show 8 + (2 + 11) + (260 * d + 940) ≤ (260 * d + 1020) from by first | with_reducible rfl | with_reducible assumption | omega⟩ hl.1 rfl (Nat.le_of_ble_eq_true rfl) d_Mpg_checkFor_84 ⟨Nat.le_of_ble_eq_true rfl, Nat.le_of_ble_eq_true rfl⟩) hw hA (fun p511 H locs hp511 hw => ?_)
        obtain ⟨ma508, cf509, ca510, rfl, e513, e514, e515, e516, e517, e518, e519, e520, e521, e522, e523, e524, e525, e526, e527, e528, e529, e530, e531, e532, e533, e534, e535, e536, e537, e538, e539, e540⟩ := hp511
        replace e513 : (cf509 30).toInt = 0 → (cf484 30).toInt = 0 := e513
        replace e514 : WrV cf509 (tf 6).toInt := e514
        have hwr := e514
        have hw0_e514 := hwr.1
        replace e515 : (cf509 37).toInt = (cf484 37).toInt := e515
        replace e516 : (cf509 38).toInt = (cf484 38).toInt := e516
        replace e517 : (cf509 43).toInt = (cf484 43).toInt := e517
        replace e518 : (cf509 44).toInt = (cf484 44).toInt := e518
        replace e519 : (cf509 45).toInt = (cf484 45).toInt := e519
        replace e520 : (cf509 46).toInt = (cf484 46).toInt := e520
        replace e521 : (cf509 47).toInt = (cf484 47).toInt := e521
        replace e522 : (cf509 41).toInt = (cf484 41).toInt := e522
        replace e523 : (cf509 55).toInt = (cf484 55).toInt := e523
        replace e524 : (cf509 59).toInt = (cf484 59).toInt := e524
        replace e525 : (cf484 33).toInt ≤ (cf509 33).toInt := e525
        replace e526 : 6 * (cf509 33).toInt ≤ 6 * (cf484 33).toInt + (w5) := e526
        replace e527 : (cf484 48).toInt ≤ (cf509 48).toInt := e527
        replace e528 : 6 * (cf509 48).toInt ≤ 6 * (cf484 48).toInt + (w5) := e528
        replace e529 : (cf484 54).toInt ≤ (cf509 54).toInt := e529
        replace e530 : (cf484 42).toInt ≤ (cf509 42).toInt := e530
        replace e531 : (cf509 54).toInt - (cf484 54).toInt ≤ 4 * ((cf509 42).toInt - (cf484 42).toInt) := e531
        replace e532 : (cf509 54).toInt - (cf484 54).toInt ≤ 4096 * ((cf509 48).toInt - (cf484 48).toInt) := e532
        replace e533 : (cf509 42).toInt - (cf484 42).toInt ≤ 4096 * ((cf509 48).toInt - (cf484 48).toInt) := e533
        replace e534 : KnT (tf 6).toInt ca510 (cf509 33).toInt := e534
        have hkt := e534
        have hk11_e534 := hkt.1
        replace e535 : KnS ca510 (cf509 33).toInt (cf509 48).toInt ys := e535
        have hks := e535
        replace e536 : CaG ca309 ca510 (cf484 33).toInt (cf484 48).toInt := e536
        have hcg := hcg.tr e536 (by first | with_reducible rfl | with_reducible assumption | omega) (by first | with_reducible rfl | with_reducible assumption | omega)
        have hft := hft.cg e536
        have hfp := hfp.cg e536
        replace e537 : SyR ca510 ys (cf509 48).toInt (cf509 54).toInt tx := e537
        have hsr := e537
        replace e538 : Ann na ma0 ma508 := e538
        have han := e538
        replace e539 : FrC m3 hi ma483 ma508 := e539
        have hfc := hfc.tr e539 (by first | with_reducible rfl | with_reducible assumption | omega) (by first | with_reducible rfl | with_reducible assumption | omega)
        have hts_z303 : ZTe cf509 ta ca510 na ma0 (cf509 48).toInt ys nf ma508 (p0.toInt + 1) m1 z303 (tgv (cf 44).toInt (cf 45).toInt) := ZTe.tr hts_z303 (fun q => by first | with_reducible rfl | with_reducible assumption | omega) e539 (by first | with_reducible rfl | with_reducible assumption | omega) e536 (by first | with_reducible rfl | with_reducible assumption | omega) (by first | with_reducible rfl | with_reducible assumption | omega)
        have hty_z480 : ZTe cf509 ta ca510 na ma0 (cf509 48).toInt ys nf ma508 m1 m2 z480 0 := ZTe.tr hty_z480 (fun q => by first | with_reducible rfl | with_reducible assumption | omega) e539 (by first | with_reducible rfl | with_reducible assumption | omega) e536 (by first | with_reducible rfl | with_reducible assumption | omega) (by first | with_reducible rfl | with_reducible assumption | omega)
        replace e540 : ZTe cf509 ta ca510 na ma0 (cf509 48).toInt ys nf ma508 m3 hi z504 4 := e540
        have hts_z504 : ZTe cf509 ta ca510 na ma0 (cf509 48).toInt ys nf ma508 m3 hi z504 4 := ZTe.to e540 (fun q => by first | with_reducible rfl | with_reducible assumption | omega) (by first | with_reducible rfl | with_reducible assumption | omega) (Int.le_refl _) (Int.le_refl _) rfl
        replace hw : pw D A s.heap H locs [wdP cs h r g tf ta pf na ma508 wa cf509 ca510 ef ea xf xa] := hw
        refine lv_aload_n S.x S.b d_Mpg_checkFor_87 rfl (lv_at hl 2 rfl) ?_
        refine lv_iload_n S.x S.b d_Mpg_checkFor_88 rfl (lv_at hl 1 rfl) ?_
        refine lv_iload_n S.x S.b d_Mpg_checkFor_89 rfl (lv_at hl 0 rfl) ?_
        refine px_callv (pr := []) (px_runV (As := [.int (cf 33), .int (cf 37)]) (rest := []) S (c_mp_leave l D cs h r g tf ta pf na ma508 wa ca510 ef ea xf xa cf509 (cf 33) (cf 37)  htk _) hT (pr := []) (pcs := [wdP cs h r g tf ta pf na ma508 wa cf509 ca510 ef ea xf xa]) hw px_X.tt (px_recv hT hw 0 0 rfl rfl rfl) m12_209 m12_206 m12_208 ms_12_5 m1_21 q_Mpg_leave ⟨show 0 + 1 ≤ (6 * d + 29) from by first | with_reducible rfl | with_reducible assumption | omega, show 8 + (3 + 11) + 0 ≤ (260 * d + 1020) from by first | with_reducible rfl | with_reducible assumption | omega⟩ hl.1 rfl (Nat.le_of_ble_eq_true rfl) d_Mpg_checkFor_90 ⟨Nat.le_of_ble_eq_true rfl, Nat.le_of_ble_eq_true rfl⟩) hw hA (fun p543 H locs hp543 hw => ?_)
        obtain ⟨cf542, rfl, e545, e546, e547, e548, e549, e550, e551, e552, e553, e554, e555, e556, e557, e558, e559, e560, e561, e562⟩ := hp543
        replace e545 : (cf542 33).toInt = (cf 33).toInt := e545
        replace e546 : (cf542 37).toInt = (cf 37).toInt := e546
        replace e547 : (cf542 30).toInt = (cf509 30).toInt := e547
        replace e548 : (cf542 31).toInt = (cf509 31).toInt := e548
        replace e549 : (cf542 38).toInt = (cf509 38).toInt := e549
        replace e550 : (cf542 41).toInt = (cf509 41).toInt := e550
        replace e551 : (cf542 42).toInt = (cf509 42).toInt := e551
        replace e552 : (cf542 43).toInt = (cf509 43).toInt := e552
        replace e553 : (cf542 44).toInt = (cf509 44).toInt := e553
        replace e554 : (cf542 45).toInt = (cf509 45).toInt := e554
        replace e555 : (cf542 46).toInt = (cf509 46).toInt := e555
        replace e556 : (cf542 47).toInt = (cf509 47).toInt := e556
        replace e557 : (cf542 48).toInt = (cf509 48).toInt := e557
        replace e558 : (cf542 54).toInt = (cf509 54).toInt := e558
        replace e559 : (cf542 55).toInt = (cf509 55).toInt := e559
        replace e560 : (cf542 57).toInt = (cf509 57).toInt := e560
        replace e561 : (cf542 58).toInt = (cf509 58).toInt := e561
        replace e562 : (cf542 59).toInt = (cf509 59).toInt := e562
        have hwr : WrV cf542 (tf 6).toInt := WrV.eq hwr (by first | with_reducible rfl | with_reducible assumption | omega) (by first | with_reducible rfl | with_reducible assumption | omega)
        have hkt := KnT.eq (n' := (cf542 33).toInt) (KnT.cg hkt0 hcg (Int.le_refl _)) (by first | with_reducible rfl | with_reducible assumption | omega)
        have hks := KnS.eq (n' := (cf542 33).toInt) (KnS.cg hks0 hcg (Int.le_refl _) (Int.le_refl _) (n2 := (cf542 48).toInt) (by first | with_reducible rfl | with_reducible assumption | omega)) (by first | with_reducible rfl | with_reducible assumption | omega) rfl
        have hts_z303 : ZTe cf542 ta ca510 na ma0 (cf542 48).toInt ys nf ma508 (p0.toInt + 1) m1 z303 (tgv (cf 44).toInt (cf 45).toInt) := ZTe.to hts_z303 (fun q => by first | with_reducible rfl | with_reducible assumption | omega) (by first | with_reducible rfl | with_reducible assumption | omega) (Int.le_refl _) (Int.le_refl _) rfl
        have hty_z480 : ZTe cf542 ta ca510 na ma0 (cf542 48).toInt ys nf ma508 m1 m2 z480 0 := ZTe.to hty_z480 (fun q => by first | with_reducible rfl | with_reducible assumption | omega) (by first | with_reducible rfl | with_reducible assumption | omega) (Int.le_refl _) (Int.le_refl _) rfl
        have hts_z504 : ZTe cf542 ta ca510 na ma0 (cf542 48).toInt ys nf ma508 m3 hi z504 4 := ZTe.to hts_z504 (fun q => by first | with_reducible rfl | with_reducible assumption | omega) (by first | with_reducible rfl | with_reducible assumption | omega) (Int.le_refl _) (Int.le_refl _) rfl
        replace hw : pw D A s.heap H locs [wdP cs h r g tf ta pf na ma508 wa cf542 ca510 ef ea xf xa] := hw
        exact px_vret S hr hlk hAe hw (Nat.le_of_ble_eq_true rfl) (Nat.le_of_ble_eq_true rfl) (⟨ma508, cf542, ca510, rfl, (show (cf542 30).toInt = 0 → (cf 30).toInt = 0 from by first | with_reducible rfl | with_reducible assumption | omega), (show WrV cf542 (tf 6).toInt from hwr), (show (cf542 37).toInt = (cf 37).toInt from by first | exact e546 | omega), (show (cf542 38).toInt = (cf 38).toInt from by first | exact oz_ff3084e3c1 e315 e549 e490 e516 | omega), (show (cf542 43).toInt = (cf 43).toInt from by first | exact oz_ff3084e3c1 e316 e552 hkk43_e487 e517 | omega), (show (cf542 44).toInt = (cf 44).toInt from by first | exact oz_ff3084e3c1 e317 e553 hkk44_e487 e518 | omega), (show (cf542 45).toInt = (cf 45).toInt from by first | exact oz_ff3084e3c1 e318 e554 hkk45_e487 e519 | omega), (show (cf542 46).toInt = (cf 46).toInt from by first | exact oz_ff3084e3c1 e319 e555 e492 e520 | omega), (show (cf542 47).toInt = (cf 47).toInt from by first | exact oz_ff3084e3c1 e320 e556 e493 e521 | omega), (show (cf542 41).toInt = (cf 41).toInt from by first | exact oz_ff3084e3c1 e321 e550 hkk41_e487 e522 | omega), (show (cf542 55).toInt = (cf 55).toInt from by first | exact oz_ff3084e3c1 e322 e559 hkk55_e487 e523 | omega), (show (cf542 59).toInt = (cf 59).toInt from by first | exact oz_ff3084e3c1 e323 e562 hkk59_e487 e524 | omega), (show (cf542 33).toInt = (cf 33).toInt from by first | exact e545 | omega), (show (cf 48).toInt ≤ (cf542 48).toInt from by first | exact oz_de1de8abaa e332 e557 e329 e491 e527 | omega), (show 6 * (cf542 48).toInt ≤ 6 * (cf 48).toInt + (w) from by first | exact oz_28aba2ef1b hws e327 e557 hw2 hw3 e491 e528 | omega), (show (cf 54).toInt ≤ (cf542 54).toInt from by first | exact oz_72984fb0b0 e328 e558 hkk54_e487 e529 | omega), (show (cf 42).toInt ≤ (cf542 42).toInt from by first | exact oz_177e2427a4 e330 e551 e328 hkk42_e487 e530 | omega), (show (cf542 54).toInt - (cf 54).toInt ≤ 4 * ((cf542 42).toInt - (cf 42).toInt) from by first | exact oz_d1adcf9e6d e330 e551 e558 hkk42_e487 hkk54_e487 e531 | omega), (show (cf542 54).toInt - (cf 54).toInt ≤ 4096 * ((cf542 48).toInt - (cf 48).toInt) from by first | exact oz_517c5935f5 e331 e557 e558 e491 hkk54_e487 e532 | omega), (show (cf542 42).toInt - (cf 42).toInt ≤ 4096 * ((cf542 48).toInt - (cf 48).toInt) from by first | exact oz_ec93b785c0 e332 e551 e557 e491 hkk42_e487 e533 | omega), (show KnT (tf 6).toInt ca510 (cf542 33).toInt from (KnT.eq hkt (by first | with_reducible rfl | with_reducible assumption | omega))), (show KnS ca510 (cf542 33).toInt (cf542 48).toInt ys from (KnS.eq hks (by first | with_reducible rfl | with_reducible assumption | omega) (by first | with_reducible rfl | with_reducible assumption | omega))), (show CaG ca ca510 (cf 33).toInt (cf 48).toInt from (hcg.le (by first | with_reducible rfl | with_reducible assumption | omega) (by first | with_reducible rfl | with_reducible assumption | omega))), (show SyR ca510 ys (cf542 48).toInt (cf542 54).toInt tx from (SyR.eq hsr (by first | with_reducible rfl | with_reducible assumption | omega) (by first | with_reducible rfl | with_reducible assumption | omega))), (show Ann na ma0 ma508 from han), (show FrC lo hi ma ma508 from hfc), (show ZTe cf542 ta ca510 na ma0 (cf542 48).toInt ys nf ma508 lo hi p0 (tgv (cf 44).toInt (cf 45).toInt) from (fun zz => by exact tys_27 ⟨by first | with_reducible rfl | with_reducible assumption | omega, by first | with_reducible rfl | with_reducible assumption | omega, by first | with_reducible rfl | with_reducible assumption | omega⟩ tgv_rng (by first | with_reducible rfl | with_reducible assumption | omega) ha_z303 (ha_z480.trans (Ann.b18 han (by first | with_reducible rfl | with_reducible assumption | omega)).symm) (ha_z502.trans (Ann.b19 han (by first | with_reducible rfl | with_reducible assumption | omega)).symm) (ha_z504.trans (Ann.b20 han (by first | with_reducible rfl | with_reducible assumption | omega) (by first | with_reducible rfl | with_reducible assumption | omega)).symm) (ZTe.ot hts_z303 (by first | with_reducible rfl | with_reducible assumption | omega) (by first | with_reducible rfl | with_reducible assumption | omega) (by first | with_reducible rfl | with_reducible assumption | omega) (by first | with_reducible rfl | with_reducible assumption | omega) rfl) (ZTe.ot hty_z480 (by first | with_reducible rfl | with_reducible assumption | omega) (by first | with_reducible rfl | with_reducible assumption | omega) (by first | with_reducible rfl | with_reducible assumption | omega) (by first | with_reducible rfl | with_reducible assumption | omega) rfl) (Or.inl (by first | with_reducible rfl | with_reducible assumption | omega)) (ZTe.at hts_z504 (by first | with_reducible rfl | with_reducible assumption | omega) (by first | with_reducible rfl | with_reducible assumption | omega) (by first | with_reducible rfl | with_reducible assumption | omega) (by first | with_reducible rfl | with_reducible assumption | omega) rfl)))⟩) d_Mpg_checkFor_93
      · have nc503 : ¬ z502.toInt < (0 : Int) := mt (i_lt (x := z502) (y := 0)).mpr c503
        refine lv_aload_n S.x S.b d_Mpg_checkFor_67 rfl (lv_at hl 2 rfl) ?_
        refine lv_aload_n S.x S.b d_Mpg_checkFor_68 rfl (lv_at hl 2 rfl) ?_
        refine px_get S k_Mpg hT hw 0 0 19 (v := .ref (r 19)) rfl rfl rfl (by decide) m10_5 d_Mpg_checkFor_69 ?_
        refine lv_iload_n S.x S.b d_Mpg_checkFor_72 rfl (lv_at hl 3 rfl) ?_
        refine px_iald S hT hw 0 15 (n := 2100) (f := (ma483 19)) rfl gp_19 (x := p0) (vp_in_iff.mpr (by first | exact oz_376db002e6 hsr0.2.2.1 hrg_z303.1 g1 hm2 hru.2.1 hrg_z303.2.1 g2 hm3 hru.1 | (constructor <;> omega))) d_Mpg_checkFor_73 ?_
        refine lv_topi (fun z563 ez563 => ?_)
        have lz563 := Int32.le_toInt z563
        have uz563 := Int32.toInt_lt z563
        have ha_z563 : z563 = ma0 19 p0.toNatClampNeg := ez563.trans (Ann.b19 han (by first | with_reducible rfl | with_reducible assumption | omega)); have hn_z563 : z563.toInt = (ma0 19 p0.toNatClampNeg).toInt := (by rw [ha_z563]); have hev_z563 : ErV ta (tf 6).toInt na ma0 d m2 m3 w3 z563 := (by rw [ha_z563]; exact (hoc.get (by first | with_reducible rfl | with_reducible assumption | omega))); obtain ⟨hec_z563, h20_z563, hw_z563⟩ := hev_z563.ec; have hrg_z563 := EcV.rng hec_z563
        refine px_callv (pr := []) (px_runV (As := [.int z563]) (rest := []) S (c_mp_checkAlone l D cs ma0 ys (cf484 48).toInt nf (cf484 33).toInt d m2 m3 h r g tf ta pf na wa ca309 ef ea xf xa ma483 cf484 z563  (show 0 ≤ m2 from by first | exact oz_5ba337ca74 hm2 hrg_z303.2.1 hsr0.2.2.1 hrg_z303.1 | omega) (show m3 ≤ (pf 13).toInt from by first | exact oz_8d1dd37214 g1 hru.1 hru.2.1 | omega) (show (pf 13).toInt ≤ 2100 from by first | exact g2 | omega) (show (tf 6).toInt ≤ 2049 from by first | exact g3 | omega) (show (cf484 33).toInt = (cf484 33).toInt from rfl) (show 0 ≤ (cf484 33).toInt from by first | exact oz_9921a0d148 e489 e324 g4 | omega) (show (cf484 48).toInt = (cf484 48).toInt from rfl) (show (cf484 38).toInt = nf from by first | exact oz_e13fc83238 g9 e490 e315 | omega) (show 0 ≤ nf from by first | exact g10 | omega) htk (FsI.le (N' := (pf 13).toInt) hfs (by first | with_reducible rfl | with_reducible assumption | omega)) hwr (KnT.eq hkt (by first | with_reducible rfl | with_reducible assumption | omega)) (FnT.eq hft (by first | with_reducible rfl | with_reducible assumption | omega)) (KnS.eq hks (by first | with_reducible rfl | with_reducible assumption | omega) (by first | with_reducible rfl | with_reducible assumption | omega)) hfp han hec_z563 _) hT (pr := []) (pcs := [wdP cs h r g tf ta pf na ma483 wa cf484 ca309 ef ea xf xa]) hw (oX_call (P := (fun A U H => (oP A g U H))) (pr := []) oG_P hw hA hP) (px_recv hT hw 0 0 rfl rfl rfl) m12_213 m12_210 m12_212 ms_12_6 m1_21 q_Mpg_checkAlone ⟨show (4 * d + 13) + 1 ≤ (6 * d + 29) from by first | with_reducible rfl | with_reducible assumption | omega, show 8 + (3 + 11) + (200 * d + 460) ≤ (260 * d + 1020) from by first | with_reducible rfl | with_reducible assumption | omega⟩ hl.1 rfl (Nat.le_of_ble_eq_true rfl) d_Mpg_checkFor_74 ⟨Nat.le_of_ble_eq_true rfl, Nat.le_of_ble_eq_true rfl⟩) hw hA (fun p568 H locs hp568 hw => ?_)
        obtain ⟨ma566, cf567, rfl, e570, e571, e572, e573, e574, e575, e576, e577, e578, e579, e580⟩ := hp568
        replace e570 : KpE cf484 cf567 := e570
        have hkz_e570 := e570.2
        have hkk37_e570 : (cf567 37).toInt = (cf484 37).toInt := (by rw [e570.1 37 (by decide) (by decide) (by decide) (by decide) (by decide)] <;> rfl)
        have hkk43_e570 : (cf567 43).toInt = (cf484 43).toInt := (by rw [e570.1 43 (by decide) (by decide) (by decide) (by decide) (by decide)] <;> rfl)
        have hkk44_e570 : (cf567 44).toInt = (cf484 44).toInt := (by rw [e570.1 44 (by decide) (by decide) (by decide) (by decide) (by decide)] <;> rfl)
        have hkk45_e570 : (cf567 45).toInt = (cf484 45).toInt := (by rw [e570.1 45 (by decide) (by decide) (by decide) (by decide) (by decide)] <;> rfl)
        have hkk41_e570 : (cf567 41).toInt = (cf484 41).toInt := (by rw [e570.1 41 (by decide) (by decide) (by decide) (by decide) (by decide)] <;> rfl)
        have hkk55_e570 : (cf567 55).toInt = (cf484 55).toInt := (by rw [e570.1 55 (by decide) (by decide) (by decide) (by decide) (by decide)] <;> rfl)
        have hkk59_e570 : (cf567 59).toInt = (cf484 59).toInt := (by rw [e570.1 59 (by decide) (by decide) (by decide) (by decide) (by decide)] <;> rfl)
        have hkk42_e570 : (cf567 42).toInt = (cf484 42).toInt := (by rw [e570.1 42 (by decide) (by decide) (by decide) (by decide) (by decide)] <;> rfl)
        have hkk54_e570 : (cf567 54).toInt = (cf484 54).toInt := (by rw [e570.1 54 (by decide) (by decide) (by decide) (by decide) (by decide)] <;> rfl)
        have hkk58_e570 : (cf567 58).toInt = (cf484 58).toInt := (by rw [e570.1 58 (by decide) (by decide) (by decide) (by decide) (by decide)] <;> rfl)
        replace e571 : WrV cf567 (tf 6).toInt := e571
        have hwr := e571
        have hw0_e571 := hwr.1
        replace e572 : (cf567 33).toInt = (cf484 33).toInt := e572
        replace e573 : (cf567 38).toInt = (cf484 38).toInt := e573
        replace e574 : (cf567 48).toInt = (cf484 48).toInt := e574
        replace e575 : (cf567 46).toInt = (cf484 46).toInt := e575
        replace e576 : (cf567 47).toInt = (cf484 47).toInt := e576
        replace e577 : (cf567 57).toInt = (cf484 57).toInt := e577
        replace e578 : Ann na ma0 ma566 := e578
        have han := e578
        replace e579 : FrC m2 m3 ma483 ma566 := e579
        have hfc := hfc.tr e579 (by first | with_reducible rfl | with_reducible assumption | omega) (by first | with_reducible rfl | with_reducible assumption | omega)
        have hts_z303 : ZTe cf567 ta ca309 na ma0 (cf567 48).toInt ys nf ma566 (p0.toInt + 1) m1 z303 (tgv (cf 44).toInt (cf 45).toInt) := ZTe.tr hts_z303 (fun q => by first | with_reducible rfl | with_reducible assumption | omega) e579 (by first | with_reducible rfl | with_reducible assumption | omega) (CaG.rf (kn := 0) (ns := 5000)) (by first | with_reducible rfl | with_reducible assumption | omega) (by first | with_reducible rfl | with_reducible assumption | omega)
        have hty_z480 : ZTe cf567 ta ca309 na ma0 (cf567 48).toInt ys nf ma566 m1 m2 z480 0 := ZTe.tr hty_z480 (fun q => by first | with_reducible rfl | with_reducible assumption | omega) e579 (by first | with_reducible rfl | with_reducible assumption | omega) (CaG.rf (kn := 0) (ns := 5000)) (by first | with_reducible rfl | with_reducible assumption | omega) (by first | with_reducible rfl | with_reducible assumption | omega)
        replace e580 : ZT0 cf567 (Gk ta ca309 na ma0 (cf484 48).toInt ys nf) na ma566 m2 m3 z563 := e580
        have hty_z563 : ZTe cf567 ta ca309 na ma0 (cf567 48).toInt ys nf ma566 m2 m3 z563 0 := ZTe.to (t := 0) e580 (fun q => by first | with_reducible rfl | with_reducible assumption | omega) (by first | with_reducible rfl | with_reducible assumption | omega) (Int.le_refl _) (Int.le_refl _) rfl
        replace hw : pw D A s.heap H locs [wdP cs h r g tf ta pf na ma566 wa cf567 ca309 ef ea xf xa] := hw
        refine lv_aload_n S.x S.b d_Mpg_checkFor_77 rfl (lv_at hl 2 rfl) ?_
        refine lv_aload_n S.x S.b d_Mpg_checkFor_78 rfl (lv_at hl 2 rfl) ?_
        refine px_get S k_Mpg hT hw 0 0 20 (v := .ref (r 20)) rfl rfl rfl (by decide) m10_6 d_Mpg_checkFor_79 ?_
        refine lv_iload_n S.x S.b d_Mpg_checkFor_82 rfl (lv_at hl 3 rfl) ?_
        refine px_iald S hT hw 0 16 (n := 2100) (f := (ma566 20)) rfl gp_20 (x := p0) (vp_in_iff.mpr (by first | exact oz_376db002e6 hsr0.2.2.1 hrg_z303.1 g1 hm2 hru.2.1 hrg_z303.2.1 g2 hm3 hru.1 | (constructor <;> omega))) d_Mpg_checkFor_83 ?_
        refine lv_topi (fun z581 ez581 => ?_)
        have lz581 := Int32.le_toInt z581
        have uz581 := Int32.toInt_lt z581
        have ha_z581 : z581 = ma0 20 p0.toNatClampNeg := ez581.trans (Ann.b20 han (by first | with_reducible rfl | with_reducible assumption | omega) (by first | with_reducible rfl | with_reducible assumption | omega)); have hn_z581 : z581.toInt = (ma0 20 p0.toNatClampNeg).toInt := (by rw [ha_z581]); have hsc_z581 : ScV ta (tf 6).toInt na ma0 d m3 hi w5 z581 := (by rw [ha_z581]; exact hse); have hrg_z581 := ScV.rng hsc_z581
        refine px_callv (pr := []) (px_runV (As := [.int z581]) (rest := []) S (c_mp_checkBody l D cs ma0 ys nf tx d m3 hi w5 h r g tf ta pf na wa ef ea xf xa ma566 cf567 ca309 z581  (show 0 ≤ m3 from by first | exact oz_df1d141c94 hm3 hm2 hsr0.2.2.1 hrg_z303.1 hrg_z303.2.1 | omega) (show hi ≤ (pf 13).toInt from by first | exact g1 | omega) (show (pf 13).toInt ≤ 2100 from by first | exact g2 | omega) (show (tf 6).toInt ≤ 2049 from by first | exact g3 | omega) (show 0 ≤ (cf567 33).toInt from by first | exact oz_9bcc310e9c e572 e489 e324 g4 | omega) (show 0 ≤ w5 from by first | exact hw5 | omega) (show 6 * (cf567 33).toInt + w5 ≤ 6540 from by first | exact oz_79e828879f hws e572 g6 hw2 hw3 e325 e489 | omega) (show 0 ≤ (cf567 48).toInt from by first | exact oz_34de85669e e574 e491 e332 g14 g15 e328 e330 | omega) (show 6 * (cf567 48).toInt + w5 ≤ 6540 from by first | exact oz_79e828879f hws e574 g8 hw2 hw3 e327 e491 | omega) (show (cf567 38).toInt = nf from by first | exact oz_ff3084e3c1 g9 e573 e315 e490 | omega) (show 0 ≤ nf from by first | exact g10 | omega) (show 0 ≤ (cf567 37).toInt from by first | exact oz_11e71ee49a hkk37_e570 hkk37_e487 e314 g4 | omega) (show 0 ≤ (cf567 54).toInt from by first | exact oz_9bcc310e9c hkk54_e570 hkk54_e487 e328 g12 | omega) (show (cf567 54).toInt ≤ 4096 * (cf567 48).toInt from by first | exact oz_a85aeab2ff e574 hkk54_e570 e491 hkk54_e487 e331 g13 | omega) (show 0 ≤ (cf567 42).toInt from by first | exact oz_640603e5ba hkk42_e570 hkk42_e487 e330 g14 e328 | omega) (show (cf567 42).toInt ≤ 4 + 4096 * (cf567 48).toInt from by first | exact oz_640efea5dc e574 hkk42_e570 e491 hkk42_e487 e332 g15 | omega) (show 0 ≤ (cf567 44).toInt from by first | exact oz_11e71ee49a hkk44_e570 hkk44_e487 e317 g16 | omega) (show 0 ≤ (cf567 45).toInt from by first | exact oz_11e71ee49a hkk45_e570 hkk45_e487 e318 g17 | omega) (show ys ≤ (cf567 48).toInt ∨ tx = 1 from by first | with_reducible rfl | with_reducible assumption | omega) (show 0 ≤ (cf567 46).toInt from by first | exact oz_11e71ee49a e575 e492 e319 g19 | omega) (show (cf567 46).toInt ≤ 1 from by first | exact oz_ce6628c031 e575 e492 e319 g20 | omega) (show 0 ≤ (cf567 47).toInt from by first | exact oz_11e71ee49a e576 e493 e320 g21 | omega) (show (cf567 47).toInt ≤ 1 from by first | exact oz_ce6628c031 e576 e493 e320 g22 | omega) (show (cf567 44).toInt + (d : Int) ≤ 400 from by first | exact oz_7c5913e3de g29 hkk44_e570 e317 hkk44_e487 | omega) (show (cf567 45).toInt + (d : Int) ≤ 400 from by first | exact oz_7c5913e3de g30 hkk45_e570 e318 hkk45_e487 | omega) (show 0 ≤ (cf567 43).toInt from by first | exact oz_11e71ee49a hkk43_e570 hkk43_e487 e316 g25 | omega) (show (cf567 43).toInt < 2100 from by first | exact oz_68526bafb7 hkk43_e570 hkk43_e487 e316 g26 | omega) (show tx = 0 from by first | exact g27 | omega) (show (cf567 44).toInt + (d : Int) + 1 ≤ 400 from by first | exact oz_a9caacca9b g29 hkk44_e570 e317 hkk44_e487 | omega) htk (FsI.le (N' := (pf 13).toInt) hfs (by first | with_reducible rfl | with_reducible assumption | omega)) hwr (KnT.eq hkt (by first | with_reducible rfl | with_reducible assumption | omega)) (FnT.eq hft (by first | with_reducible rfl | with_reducible assumption | omega)) (KnS.eq hks (by first | with_reducible rfl | with_reducible assumption | omega) (by first | with_reducible rfl | with_reducible assumption | omega)) hfp (SyR.eq hsr (by first | with_reducible rfl | with_reducible assumption | omega) (by first | with_reducible rfl | with_reducible assumption | omega)) han (show txo (cf567 43).toInt = tx from by rw [show (cf567 43).toInt = (cf 43).toInt by omega]; exact htx) hsc_z581 hLS _) hT (pr := []) (pcs := [wdP cs h r g tf ta pf na ma566 wa cf567 ca309 ef ea xf xa]) hw (oX_call (P := (fun A U H => (oP A g U H))) (pr := []) oG_P hw hA hP) (px_recv hT hw 0 0 rfl rfl rfl) m13_37 m13_34 m13_36 ms_13_6 m1_21 q_Mpg_checkBody ⟨show (6 * d + 27) + 1 ≤ (6 * d + 29) from by first | with_reducible rfl | with_reducible assumption | omega, show 8 + (2 + 11) + (260 * d + 940) ≤ (260 * d + 1020) from by first | with_reducible rfl | with_reducible assumption | omega⟩ hl.1 rfl (Nat.le_of_ble_eq_true rfl) d_Mpg_checkFor_84 ⟨Nat.le_of_ble_eq_true rfl, Nat.le_of_ble_eq_true rfl⟩) hw hA (fun p588 H locs hp588 hw => ?_)
        obtain ⟨ma585, cf586, ca587, rfl, e590, e591, e592, e593, e594, e595, e596, e597, e598, e599, e600, e601, e602, e603, e604, e605, e606, e607, e608, e609, e610, e611, e612, e613, e614, e615, e616, e617⟩ := hp588
        replace e590 : (cf586 30).toInt = 0 → (cf567 30).toInt = 0 := e590
        replace e591 : WrV cf586 (tf 6).toInt := e591
        have hwr := e591
        have hw0_e591 := hwr.1
        replace e592 : (cf586 37).toInt = (cf567 37).toInt := e592
        replace e593 : (cf586 38).toInt = (cf567 38).toInt := e593
        replace e594 : (cf586 43).toInt = (cf567 43).toInt := e594
        replace e595 : (cf586 44).toInt = (cf567 44).toInt := e595
        replace e596 : (cf586 45).toInt = (cf567 45).toInt := e596
        replace e597 : (cf586 46).toInt = (cf567 46).toInt := e597
        replace e598 : (cf586 47).toInt = (cf567 47).toInt := e598
        replace e599 : (cf586 41).toInt = (cf567 41).toInt := e599
        replace e600 : (cf586 55).toInt = (cf567 55).toInt := e600
        replace e601 : (cf586 59).toInt = (cf567 59).toInt := e601
        replace e602 : (cf567 33).toInt ≤ (cf586 33).toInt := e602
        replace e603 : 6 * (cf586 33).toInt ≤ 6 * (cf567 33).toInt + (w5) := e603
        replace e604 : (cf567 48).toInt ≤ (cf586 48).toInt := e604
        replace e605 : 6 * (cf586 48).toInt ≤ 6 * (cf567 48).toInt + (w5) := e605
        replace e606 : (cf567 54).toInt ≤ (cf586 54).toInt := e606
        replace e607 : (cf567 42).toInt ≤ (cf586 42).toInt := e607
        replace e608 : (cf586 54).toInt - (cf567 54).toInt ≤ 4 * ((cf586 42).toInt - (cf567 42).toInt) := e608
        replace e609 : (cf586 54).toInt - (cf567 54).toInt ≤ 4096 * ((cf586 48).toInt - (cf567 48).toInt) := e609
        replace e610 : (cf586 42).toInt - (cf567 42).toInt ≤ 4096 * ((cf586 48).toInt - (cf567 48).toInt) := e610
        replace e611 : KnT (tf 6).toInt ca587 (cf586 33).toInt := e611
        have hkt := e611
        have hk11_e611 := hkt.1
        replace e612 : KnS ca587 (cf586 33).toInt (cf586 48).toInt ys := e612
        have hks := e612
        replace e613 : CaG ca309 ca587 (cf567 33).toInt (cf567 48).toInt := e613
        have hcg := hcg.tr e613 (by first | with_reducible rfl | with_reducible assumption | omega) (by first | with_reducible rfl | with_reducible assumption | omega)
        have hft := hft.cg e613
        have hfp := hfp.cg e613
        replace e614 : SyR ca587 ys (cf586 48).toInt (cf586 54).toInt tx := e614
        have hsr := e614
        replace e615 : Ann na ma0 ma585 := e615
        have han := e615
        replace e616 : FrC m3 hi ma566 ma585 := e616
        have hfc := hfc.tr e616 (by first | with_reducible rfl | with_reducible assumption | omega) (by first | with_reducible rfl | with_reducible assumption | omega)
        have hts_z303 : ZTe cf586 ta ca587 na ma0 (cf586 48).toInt ys nf ma585 (p0.toInt + 1) m1 z303 (tgv (cf 44).toInt (cf 45).toInt) := ZTe.tr hts_z303 (fun q => by first | with_reducible rfl | with_reducible assumption | omega) e616 (by first | with_reducible rfl | with_reducible assumption | omega) e613 (by first | with_reducible rfl | with_reducible assumption | omega) (by first | with_reducible rfl | with_reducible assumption | omega)
        have hty_z480 : ZTe cf586 ta ca587 na ma0 (cf586 48).toInt ys nf ma585 m1 m2 z480 0 := ZTe.tr hty_z480 (fun q => by first | with_reducible rfl | with_reducible assumption | omega) e616 (by first | with_reducible rfl | with_reducible assumption | omega) e613 (by first | with_reducible rfl | with_reducible assumption | omega) (by first | with_reducible rfl | with_reducible assumption | omega)
        have hty_z563 : ZTe cf586 ta ca587 na ma0 (cf586 48).toInt ys nf ma585 m2 m3 z563 0 := ZTe.tr hty_z563 (fun q => by first | with_reducible rfl | with_reducible assumption | omega) e616 (by first | with_reducible rfl | with_reducible assumption | omega) e613 (by first | with_reducible rfl | with_reducible assumption | omega) (by first | with_reducible rfl | with_reducible assumption | omega)
        replace e617 : ZTe cf586 ta ca587 na ma0 (cf586 48).toInt ys nf ma585 m3 hi z581 4 := e617
        have hts_z581 : ZTe cf586 ta ca587 na ma0 (cf586 48).toInt ys nf ma585 m3 hi z581 4 := ZTe.to e617 (fun q => by first | with_reducible rfl | with_reducible assumption | omega) (by first | with_reducible rfl | with_reducible assumption | omega) (Int.le_refl _) (Int.le_refl _) rfl
        replace hw : pw D A s.heap H locs [wdP cs h r g tf ta pf na ma585 wa cf586 ca587 ef ea xf xa] := hw
        refine lv_aload_n S.x S.b d_Mpg_checkFor_87 rfl (lv_at hl 2 rfl) ?_
        refine lv_iload_n S.x S.b d_Mpg_checkFor_88 rfl (lv_at hl 1 rfl) ?_
        refine lv_iload_n S.x S.b d_Mpg_checkFor_89 rfl (lv_at hl 0 rfl) ?_
        refine px_callv (pr := []) (px_runV (As := [.int (cf 33), .int (cf 37)]) (rest := []) S (c_mp_leave l D cs h r g tf ta pf na ma585 wa ca587 ef ea xf xa cf586 (cf 33) (cf 37)  htk _) hT (pr := []) (pcs := [wdP cs h r g tf ta pf na ma585 wa cf586 ca587 ef ea xf xa]) hw px_X.tt (px_recv hT hw 0 0 rfl rfl rfl) m12_209 m12_206 m12_208 ms_12_5 m1_21 q_Mpg_leave ⟨show 0 + 1 ≤ (6 * d + 29) from by first | with_reducible rfl | with_reducible assumption | omega, show 8 + (3 + 11) + 0 ≤ (260 * d + 1020) from by first | with_reducible rfl | with_reducible assumption | omega⟩ hl.1 rfl (Nat.le_of_ble_eq_true rfl) d_Mpg_checkFor_90 ⟨Nat.le_of_ble_eq_true rfl, Nat.le_of_ble_eq_true rfl⟩) hw hA (fun p620 H locs hp620 hw => ?_)
        obtain ⟨cf619, rfl, e622, e623, e624, e625, e626, e627, e628, e629, e630, e631, e632, e633, e634, e635, e636, e637, e638, e639⟩ := hp620
        replace e622 : (cf619 33).toInt = (cf 33).toInt := e622
        replace e623 : (cf619 37).toInt = (cf 37).toInt := e623
        replace e624 : (cf619 30).toInt = (cf586 30).toInt := e624
        replace e625 : (cf619 31).toInt = (cf586 31).toInt := e625
        replace e626 : (cf619 38).toInt = (cf586 38).toInt := e626
        replace e627 : (cf619 41).toInt = (cf586 41).toInt := e627
        replace e628 : (cf619 42).toInt = (cf586 42).toInt := e628
        replace e629 : (cf619 43).toInt = (cf586 43).toInt := e629
        replace e630 : (cf619 44).toInt = (cf586 44).toInt := e630
        replace e631 : (cf619 45).toInt = (cf586 45).toInt := e631
        replace e632 : (cf619 46).toInt = (cf586 46).toInt := e632
        replace e633 : (cf619 47).toInt = (cf586 47).toInt := e633
        replace e634 : (cf619 48).toInt = (cf586 48).toInt := e634
        replace e635 : (cf619 54).toInt = (cf586 54).toInt := e635
        replace e636 : (cf619 55).toInt = (cf586 55).toInt := e636
        replace e637 : (cf619 57).toInt = (cf586 57).toInt := e637
        replace e638 : (cf619 58).toInt = (cf586 58).toInt := e638
        replace e639 : (cf619 59).toInt = (cf586 59).toInt := e639
        have hwr : WrV cf619 (tf 6).toInt := WrV.eq hwr (by first | with_reducible rfl | with_reducible assumption | omega) (by first | with_reducible rfl | with_reducible assumption | omega)
        have hkt := KnT.eq (n' := (cf619 33).toInt) (KnT.cg hkt0 hcg (Int.le_refl _)) (by first | with_reducible rfl | with_reducible assumption | omega)
        have hks := KnS.eq (n' := (cf619 33).toInt) (KnS.cg hks0 hcg (Int.le_refl _) (Int.le_refl _) (n2 := (cf619 48).toInt) (by first | with_reducible rfl | with_reducible assumption | omega)) (by first | with_reducible rfl | with_reducible assumption | omega) rfl
        have hts_z303 : ZTe cf619 ta ca587 na ma0 (cf619 48).toInt ys nf ma585 (p0.toInt + 1) m1 z303 (tgv (cf 44).toInt (cf 45).toInt) := ZTe.to hts_z303 (fun q => by first | with_reducible rfl | with_reducible assumption | omega) (by first | with_reducible rfl | with_reducible assumption | omega) (Int.le_refl _) (Int.le_refl _) rfl
        have hty_z480 : ZTe cf619 ta ca587 na ma0 (cf619 48).toInt ys nf ma585 m1 m2 z480 0 := ZTe.to hty_z480 (fun q => by first | with_reducible rfl | with_reducible assumption | omega) (by first | with_reducible rfl | with_reducible assumption | omega) (Int.le_refl _) (Int.le_refl _) rfl
        have hty_z563 : ZTe cf619 ta ca587 na ma0 (cf619 48).toInt ys nf ma585 m2 m3 z563 0 := ZTe.to hty_z563 (fun q => by first | with_reducible rfl | with_reducible assumption | omega) (by first | with_reducible rfl | with_reducible assumption | omega) (Int.le_refl _) (Int.le_refl _) rfl
        have hts_z581 : ZTe cf619 ta ca587 na ma0 (cf619 48).toInt ys nf ma585 m3 hi z581 4 := ZTe.to hts_z581 (fun q => by first | with_reducible rfl | with_reducible assumption | omega) (by first | with_reducible rfl | with_reducible assumption | omega) (Int.le_refl _) (Int.le_refl _) rfl
        replace hw : pw D A s.heap H locs [wdP cs h r g tf ta pf na ma585 wa cf619 ca587 ef ea xf xa] := hw
        exact px_vret S hr hlk hAe hw (Nat.le_of_ble_eq_true rfl) (Nat.le_of_ble_eq_true rfl) (⟨ma585, cf619, ca587, rfl, (show (cf619 30).toInt = 0 → (cf 30).toInt = 0 from by first | with_reducible rfl | with_reducible assumption | omega), (show WrV cf619 (tf 6).toInt from hwr), (show (cf619 37).toInt = (cf 37).toInt from by first | exact e623 | omega), (show (cf619 38).toInt = (cf 38).toInt from by first | exact oz_0867352dd7 e315 e626 e490 e593 e573 | omega), (show (cf619 43).toInt = (cf 43).toInt from by first | exact oz_0867352dd7 e316 e629 hkk43_e487 e594 hkk43_e570 | omega), (show (cf619 44).toInt = (cf 44).toInt from by first | exact oz_0867352dd7 e317 e630 hkk44_e487 e595 hkk44_e570 | omega), (show (cf619 45).toInt = (cf 45).toInt from by first | exact oz_0867352dd7 e318 e631 hkk45_e487 e596 hkk45_e570 | omega), (show (cf619 46).toInt = (cf 46).toInt from by first | exact oz_0867352dd7 e319 e632 e492 e597 e575 | omega), (show (cf619 47).toInt = (cf 47).toInt from by first | exact oz_0867352dd7 e320 e633 e493 e598 e576 | omega), (show (cf619 41).toInt = (cf 41).toInt from by first | exact oz_0867352dd7 e321 e627 hkk41_e487 e599 hkk41_e570 | omega), (show (cf619 55).toInt = (cf 55).toInt from by first | exact oz_0867352dd7 e322 e636 hkk55_e487 e600 hkk55_e570 | omega), (show (cf619 59).toInt = (cf 59).toInt from by first | exact oz_0867352dd7 e323 e639 hkk59_e487 e601 hkk59_e570 | omega), (show (cf619 33).toInt = (cf 33).toInt from by first | exact e622 | omega), (show (cf 48).toInt ≤ (cf619 48).toInt from by first | exact oz_ef72e214d7 e332 e634 e328 e330 e491 e610 e574 e606 e608 | omega), (show 6 * (cf619 48).toInt ≤ 6 * (cf 48).toInt + (w) from by first | exact oz_f130b30b4c hws e327 e634 hw2 hw3 e491 e605 e574 | omega), (show (cf 54).toInt ≤ (cf619 54).toInt from by first | exact oz_39bc41608f e328 e635 hkk54_e487 e606 hkk54_e570 | omega), (show (cf 42).toInt ≤ (cf619 42).toInt from by first | exact oz_0b35b90db2 e330 e628 e328 hkk42_e487 e608 hkk42_e570 e606 | omega), (show (cf619 54).toInt - (cf 54).toInt ≤ 4 * ((cf619 42).toInt - (cf 42).toInt) from by first | exact oz_2d1a592502 e330 e628 e635 hkk42_e487 hkk54_e487 e608 hkk42_e570 hkk54_e570 | omega), (show (cf619 54).toInt - (cf 54).toInt ≤ 4096 * ((cf619 48).toInt - (cf 48).toInt) from by first | exact oz_f0e6974812 e331 e634 e635 e491 hkk54_e487 e609 e574 hkk54_e570 | omega), (show (cf619 42).toInt - (cf 42).toInt ≤ 4096 * ((cf619 48).toInt - (cf 48).toInt) from by first | exact oz_abac3b7fa3 e332 e628 e634 e491 hkk42_e487 e610 e574 hkk42_e570 | omega), (show KnT (tf 6).toInt ca587 (cf619 33).toInt from (KnT.eq hkt (by first | with_reducible rfl | with_reducible assumption | omega))), (show KnS ca587 (cf619 33).toInt (cf619 48).toInt ys from (KnS.eq hks (by first | with_reducible rfl | with_reducible assumption | omega) (by first | with_reducible rfl | with_reducible assumption | omega))), (show CaG ca ca587 (cf 33).toInt (cf 48).toInt from (hcg.le (by first | with_reducible rfl | with_reducible assumption | omega) (by first | with_reducible rfl | with_reducible assumption | omega))), (show SyR ca587 ys (cf619 48).toInt (cf619 54).toInt tx from (SyR.eq hsr (by first | with_reducible rfl | with_reducible assumption | omega) (by first | with_reducible rfl | with_reducible assumption | omega))), (show Ann na ma0 ma585 from han), (show FrC lo hi ma ma585 from hfc), (show ZTe cf619 ta ca587 na ma0 (cf619 48).toInt ys nf ma585 lo hi p0 (tgv (cf 44).toInt (cf 45).toInt) from (fun zz => by exact tys_27 ⟨by first | with_reducible rfl | with_reducible assumption | omega, by first | with_reducible rfl | with_reducible assumption | omega, by first | with_reducible rfl | with_reducible assumption | omega⟩ tgv_rng (by first | with_reducible rfl | with_reducible assumption | omega) ha_z303 (ha_z480.trans (Ann.b18 han (by first | with_reducible rfl | with_reducible assumption | omega)).symm) (ha_z563.trans (Ann.b19 han (by first | with_reducible rfl | with_reducible assumption | omega)).symm) (ha_z581.trans (Ann.b20 han (by first | with_reducible rfl | with_reducible assumption | omega) (by first | with_reducible rfl | with_reducible assumption | omega)).symm) (ZTe.ot hts_z303 (by first | with_reducible rfl | with_reducible assumption | omega) (by first | with_reducible rfl | with_reducible assumption | omega) (by first | with_reducible rfl | with_reducible assumption | omega) (by first | with_reducible rfl | with_reducible assumption | omega) rfl) (ZTe.ot hty_z480 (by first | with_reducible rfl | with_reducible assumption | omega) (by first | with_reducible rfl | with_reducible assumption | omega) (by first | with_reducible rfl | with_reducible assumption | omega) (by first | with_reducible rfl | with_reducible assumption | omega) rfl) (ZTe.ot hty_z563 (by first | with_reducible rfl | with_reducible assumption | omega) (by first | with_reducible rfl | with_reducible assumption | omega) (by first | with_reducible rfl | with_reducible assumption | omega) (by first | with_reducible rfl | with_reducible assumption | omega) rfl) (ZTe.at hts_z581 (by first | with_reducible rfl | with_reducible assumption | omega) (by first | with_reducible rfl | with_reducible assumption | omega) (by first | with_reducible rfl | with_reducible assumption | omega) (by first | with_reducible rfl | with_reducible assumption | omega) rfl)))⟩) d_Mpg_checkFor_93
