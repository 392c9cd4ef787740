theorem oz_4f7430b7f2 {a0 a1 a2 a3 : Int} (h0 : a0 = a1 + a2) (h1 : a3 + 1 ≤ a1) (h2 : 0 ≤ a2) (h3 : 0 ≤ a3) : 0 ≤ a0 := by omega
theorem oz_a564fc7457 {a0 a1 a2 a3 : Int} (h0 : a0 = a1) (h1 : a1 = a2 + 1) (h2 : a3 ≤ a2) (h3 : 0 ≤ a3) : 1 ≤ a0 := by omega
theorem oz_1a76b13bbc {a0 a1 a2 : Int} (h0 : a0 = a1) (h1 : a1 = a2 + 1) (h2 : a2 < 60) : a0 ≤ 60 := by omega
theorem oz_ee0c9de0fe {a0 a1 a2 a3 a4 : Int} (h0 : a0 + 1 ≤ a2) (h1 : a1 = a3 + 1) (h2 : a3 = a2 + a4) (h3 : 0 ≤ a4) : a0 + 1 ≤ a1 := by omega
theorem oz_5a5863b7fe {a0 a1 a2 a3 a4 a5 : Int} (h0 : a2 = a0) (h1 : a1 = a3) (h2 : a2 < a4) (h3 : a4 < a5) (h4 : a3 = a5) : a0 + 1 ≤ a1 := by omega
theorem oz_30a30b177f {a0 a1 a2 a3 a4 a5 a6 a7 a8 : Int} (h0 : a4 - a1 ≤ a5 - a3) (h1 : a2 = a6 + 1) (h2 : a0 = a7) (h3 : a6 = a5 + a8) (h4 : a7 = a4) (h5 : 0 ≤ a8) : a0 - a1 ≤ a2 - a3 := by omega
theorem oz_fe0e09c3b2 {a0 a1 a2 a3 a4 : Int} (h0 : a0 + 1 ≤ a2) (h1 : a3 + 1 ≤ a1) (h2 : a2 + a4 ≤ a3) (h3 : 0 ≤ a4) : a0 + 1 ≤ a1 := by omega
theorem oz_e2f0d2d242 {a0 a1 a2 a3 : Int} (h0 : a2 = a1 + 1) (h1 : a0 = a3 - 1) (h2 : a3 = a2) : a0 = a1 := by omega
theorem oz_aec871f755 {a0 a1 a2 a3 : Int} (h0 : a0 = a1) (h1 : a1 = a2 + 1) (h2 : a3 ≤ a2) (h3 : 0 ≤ a3) : 0 ≤ a0 := by omega
theorem oz_9c9d44701d {a0 a1 a2 a3 a4 : Int} (h0 : a0 = a1) (h1 : a2 < a1) (h2 : 0 ≤ a3) (h3 : a4 = a3) (h4 : a4 < a2) : 0 ≤ a0 := by omega
theorem oz_c01acc94d8 {a0 a1 a2 a3 a4 a5 a6 : Int} (h0 : a1 = a2 + a3) (h1 : a0 = a4) (h2 : a4 - a5 ≤ a2 - a6) (h3 : 0 ≤ a3) (h4 : a5 ≤ a6 + 20) : a0 ≤ a1 + 20 := by omega
theorem oz_fa9ebf953c {a0 a1 a2 a3 a4 a5 : Int} (h0 : a1 = a2) (h1 : a0 = a3) (h2 : a3 = a4) (h3 : a2 = a5 + 1) (h4 : a4 ≤ a5) : a0 ≤ a1 := by omega
theorem oz_8a3d900f09 {a0 a1 a2 a3 a4 a5 a6 a7 a8 a9 : Int} (h0 : a0 = a1) (h1 : 0 ≤ a1) (h2 : a0 < a2) (h3 : a1 ≤ a3 + 20) (h4 : a2 < a4) (h5 : a4 - a1 ≤ a5 - a3) (h6 : a6 = a5 + a7) (h7 : a8 ≤ 2049) (h8 : 0 ≤ a7) (h9 : a6 + 1 ≤ a9) (h10 : a9 < a8) : 0 ≤ a0 ∧ a0 < ((2100 : Nat) : Int) := by omega
theorem oz_44361b87dd {a0 a1 a2 a3 a4 a5 a6 a7 a8 a9 a10 a11 a12 : Int} (h0 : (a1) ≤ a0) (h1 : a1 = a2) (h2 : a3 < a2) (h3 : 0 ≤ a4) (h4 : a5 = a4) (h5 : a5 < a3) (h6 : a0 < (a6)) (h7 : a6 - a1 ≤ a7 - a8) (h8 : a2 - a4 ≤ a9 - a10) (h9 : a8 = a9 + a11) (h10 : a7 < a12) (h11 : a12 ≤ 2049) (h12 : a4 ≤ a10 + 20) (h13 : 0 ≤ a11) : 0 ≤ a0 ∧ a0 < ((2100 : Nat) : Int) := by omega
theorem oz_706b28522e {a0 a1 a2 a3 : Int} (h0 : a2 = a1 + 1) (h1 : a0 = a3) (h2 : a3 = a2) : a0 = a1 + 1 := by omega
theorem oz_60a7c6baef {a0 a1 a2 a3 a4 : Int} (h0 : a0 + 1 ≤ a2) (h1 : a3 + 1 ≤ a1) (h2 : a3 = a2 + a4) (h3 : 0 ≤ a4) : a0 + 1 ≤ a1 := by omega
theorem oz_fe47d4cd2a {a0 a1 a2 a3 a4 : Int} (h0 : a0 < a2) (h1 : (a3) ≤ a1) (h2 : a2 < a4) (h3 : a3 = a4) : a0 < a1 := by omega
theorem oz_7fe81129bf {a0 a1 : Int} (h0 : a0 < (a1)) : a0 < a1 := by omega
theorem oz_69e545e602 {a0 a1 a2 a3 a4 a5 a6 a7 a8 : Int} (h0 : a4 - a1 ≤ a5 - a3) (h1 : a0 - a6 ≤ a2 - a7) (h2 : a7 = a5 + a8) (h3 : a6 = a4) (h4 : 0 ≤ a8) : a0 - a1 ≤ a2 - a3 := by omega
theorem oz_1bf882f997 {a0 a1 a3 a4 a5 : Int} {n2 : Nat} (h0 : a0 - a3 < ((n2 + 1 : Nat) : Int)) (h1 : a4 + 1 ≤ a1) (h2 : a4 = a3 + a5) (h3 : 0 ≤ a5) : a0 - a1 < (n2 : Int) := by omega
theorem oz_95fb5198dc {a0 a1 a2 : Int} (h0 : a0 ≤ a1 + 20) (h1 : a1 + 1 < a2) (h2 : a2 ≤ 2049) : a0 < 2100 := by omega
theorem oz_0f9fb0345d {a0 a1 a2 : Int} (h0 : a2 + 1 < a1) (h1 : a0 = a2) : a0 < a1 := by omega
theorem oz_4b6b8b2f72 {a0 a1 a2 : Int} (h0 : a2 + 1 < a1) (h1 : a0 = a2) : a0 + 1 < a1 := by omega
theorem oz_a3db38fa3c {a0 a1 : Int} (h0 : a0 = a1) (h1 : a1 ≤ 60) : a0 ≤ 60 := by omega
theorem oz_f3f97b7517 {a0 a1 a2 : Int} (h0 : a0 = a1 + 1) (h1 : a1 = a2) (h2 : 0 ≤ a2) : 0 ≤ a0 := by omega
theorem oz_7458231eca {a0 a1 a2 a3 : Int} (h0 : a0 = a1 + 1) (h1 : a1 = a2) (h2 : a3 ≤ a2) (h3 : 0 ≤ a3) : 1 ≤ a0 := by omega
theorem oz_6710fd9021 {a0 a1 : Int} (h0 : a0 = a1 + 1) (h1 : a1 < 60) : a0 ≤ 60 := by omega
theorem oz_d676ac8af5 {a0 a1 a2 a3 : Int} (h0 : a2 = a0) (h1 : a1 = a3 + 1) (h2 : a3 = a2 + 1) : a0 + 1 ≤ a1 := by omega
theorem oz_f8d6336c5f {a0 a1 a2 a3 : Int} (h0 : a2 = a0 + 1) (h1 : a1 = a3) (h2 : a3 = a2) : a0 + 1 ≤ a1 := by omega
theorem oz_460844f3e7 {a0 a1 a2 a3 a4 a5 a6 a7 : Int} (h0 : a4 = a1 + 1) (h1 : a5 = a3) (h2 : a2 = a6 + 1) (h3 : a0 = a7) (h4 : a6 = a5 + 1) (h5 : a7 = a4) : a0 - a1 ≤ a2 - a3 := by omega
theorem oz_5511bc8943 {a0 a1 a2 a3 a4 : Int} (h0 : a2 = a0) (h1 : a3 + 1 ≤ a1) (h2 : a2 + a4 ≤ a3) (h3 : 1 ≤ a4) : a0 + 1 ≤ a1 := by omega
theorem oz_f93f789092 {a0 a1 a2 a3 : Int} (h0 : a2 = a1) (h1 : a0 = a3 - 1) (h2 : a3 = a2 + 1) : a0 = a1 := by omega
theorem oz_87be06313f {a0 a1 a2 a3 : Int} (h0 : a0 = a1 + 1) (h1 : a1 = a2) (h2 : a3 ≤ a2) (h3 : 0 ≤ a3) : 0 ≤ a0 := by omega
theorem oz_78ad3463af {a0 a1 a2 : Int} (h0 : a0 = a1) (h1 : a1 = a2 + 1) (h2 : 0 ≤ a2) : 0 ≤ a0 := by omega
theorem oz_1d04d0d44b {a0 a1 a2 a3 a4 a5 : Int} (h0 : a1 = a2 + 1) (h1 : a0 = a3) (h2 : a3 = a4 + 1) (h3 : a2 = a5) (h4 : a4 ≤ a5 + 20) : a0 ≤ a1 + 20 := by omega
theorem oz_e919e29b70 {a0 a1 a2 a3 a4 a5 : Int} (h0 : a1 = a2 + 1) (h1 : a0 = a3) (h2 : a2 = a4) (h3 : a3 = a5) (h4 : a5 ≤ a4) : a0 ≤ a1 := by omega
theorem oz_8b88cf7e2f {a0 a1 a2 a3 a4 a5 a6 a7 a8 a9 : Int} (h0 : (a1) ≤ a0) (h1 : a1 = a2) (h2 : a2 = a3 + 1) (h3 : 0 ≤ a3) (h4 : a0 < (a4)) (h5 : a4 - a1 ≤ a5 - a6) (h6 : a6 = a7 + 1) (h7 : a5 < a8) (h8 : a8 ≤ 2049) (h9 : a3 ≤ a9 + 20) (h10 : a7 = a9) : 0 ≤ a0 ∧ a0 < ((2100 : Nat) : Int) := by omega
theorem oz_1bb5b5edb9 {a0 a1 a2 a3 : Int} (h0 : a2 = a1) (h1 : a0 = a3) (h2 : a3 = a2 + 1) : a0 = a1 + 1 := by omega
theorem oz_068c69ad0b {a0 a1 : Int} (h0 : a1 = a0) (h1 : a1 < 60) : a0 < 60 := by omega
theorem oz_331f126945 {a0 a1 a2 a3 : Int} (h0 : a2 = a0) (h1 : a3 + 1 ≤ a1) (h2 : a3 = a2 + 1) : a0 + 1 ≤ a1 := by omega
theorem oz_c36bbba170 {a0 a1 a2 a3 a4 : Int} (h0 : a0 = a2) (h1 : (a3) ≤ a1) (h2 : a4 = a2 + 1) (h3 : a3 = a4) : a0 < a1 := by omega
theorem oz_43a90a5f17 {a0 a1 a2 a3 a4 a5 a6 a7 : Int} (h0 : a4 = a1 + 1) (h1 : a5 = a3) (h2 : a0 - a6 ≤ a2 - a7) (h3 : a7 = a5 + 1) (h4 : a6 = a4) : a0 - a1 ≤ a2 - a3 := by omega
theorem oz_b475de3101 {a0 a1 a2 a3 a4 : Int} (h0 : a0 = a1) (h1 : a1 ≤ a2 + 20) (h2 : a3 = a2 + 1) (h3 : a4 ≤ 2049) (h4 : a3 < a4) : a0 < 2100 := by omega
theorem oz_08747c10a9 {a0 a1 a2 : Int} (h0 : a2 = a0 + 1) (h1 : a1 = a2) : a0 + 1 ≤ a1 := by omega
theorem oz_5d2fbac15b {a0 a1 a2 : Int} (h0 : a2 < a1) (h1 : a0 = a2) : a0 < a1 := by omega
theorem oz_5a83f0d431 {a0 a1 a2 : Int} (h0 : a2 = a0) (h1 : a1 = a2 + 1) : a0 + 1 ≤ a1 := by omega
theorem oz_f93944bcb9 {a0 a1 a2 a3 a4 a5 : Int} (h0 : a4 = a3 + 1) (h1 : a5 = a1) (h2 : a0 = a5 + 1) (h3 : a2 = a4) : a0 - a1 ≤ a2 - a3 := by omega
theorem oz_9bcc310e9c {a0 a1 a2 a3 : Int} (h0 : a0 = a1) (h1 : a1 = a2) (h2 : a3 ≤ a2) (h3 : 0 ≤ a3) : 0 ≤ a0 := by omega
theorem oz_d791cd839d {a0 a1 a2 : Int} (h0 : a0 = a1) (h1 : a1 = a2) (h2 : a2 ≤ 60) : a0 ≤ 60 := by omega
theorem oz_5322ca43be {a0 a1 a2 a3 : Int} (h0 : a0 = a1 + 1) (h1 : a1 = a2) (h2 : 0 ≤ a3) (h3 : a2 = a3 + 1) : 0 ≤ a0 := by omega
theorem oz_cf2f95fbac {a0 a1 a2 a3 : Int} (h0 : a0 = a1 + 1) (h1 : a1 = a2) (h2 : a2 = a3) (h3 : 0 ≤ a3) : 0 ≤ a0 := by omega
theorem oz_18519da00e {a0 a1 a2 a3 : Int} (h0 : a0 = a1) (h1 : a1 = a2 + 1) (h2 : a2 = a3) (h3 : 0 ≤ a3) : 0 ≤ a0 := by omega
theorem oz_bf84bfeeaf {a0 a1 a2 a3 a4 a5 a6 a7 : Int} (h0 : a1 = a2 + 1) (h1 : a0 = a3) (h2 : a3 = a4 + 1) (h3 : a2 = a5) (h4 : a6 ≤ a7 + 20) (h5 : a5 = a7 + 1) (h6 : a4 = a6) : a0 ≤ a1 + 20 := by omega
theorem oz_11e71ee49a {a0 a1 a2 a3 : Int} (h0 : a0 = a1) (h1 : a1 = a2) (h2 : a2 = a3) (h3 : 0 ≤ a3) : 0 ≤ a0 := by omega
theorem oz_0c528c1a49 {a0 a1 a2 a3 a4 a5 a6 a7 : Int} (h0 : a1 = a2 + 1) (h1 : a0 = a3) (h2 : a2 = a4) (h3 : a3 = a5) (h4 : a4 = a6) (h5 : a5 = a7) (h6 : a7 ≤ a6) : a0 ≤ a1 := by omega
theorem oz_81892ed073 {a0 a1 a2 a3 a4 a5 a6 a7 a8 : Int} (h0 : a0 = a1) (h1 : a1 = a2) (h2 : 0 ≤ a2) (h3 : a2 ≤ a3 + 20) (h4 : a4 = a3 + 1) (h5 : a5 ≤ 2049) (h6 : a6 = a4) (h7 : a7 = a6 + 1) (h8 : a7 + 1 ≤ a8) (h9 : a8 < a5) : 0 ≤ a0 ∧ a0 < ((2100 : Nat) : Int) := by omega
theorem oz_d4bfa098fc {a0 a1 a2 a3 a4 a5 a6 a7 a8 a9 a10 a11 : Int} (h0 : (a1) ≤ a0) (h1 : a1 = a2) (h2 : a2 = a3 + 1) (h3 : a3 = a4) (h4 : 0 ≤ a4) (h5 : a0 < (a5)) (h6 : a5 - a1 ≤ a6 - a7) (h7 : a7 = a8 + 1) (h8 : a6 < a9) (h9 : a9 ≤ 2049) (h10 : a8 = a10) (h11 : a4 ≤ a11 + 20) (h12 : a10 = a11 + 1) : 0 ≤ a0 ∧ a0 < ((2100 : Nat) : Int) := by omega
theorem oz_519ae28419 {a0 a1 a2 a3 a4 : Int} (h0 : a1 + 1 ≤ a0) (h1 : a1 = a2 + 1) (h2 : 0 ≤ a3) (h3 : a4 = a3 + 1) (h4 : a2 = a4) : 0 ≤ a0 := by omega
theorem oz_dcaedb610d {a0 a1 a2 a3 a4 a5 : Int} (h0 : a0 = a1) (h1 : a1 = a2 + 1) (h2 : a2 = a3) (h3 : a3 = a4) (h4 : a5 ≤ a4) (h5 : 0 ≤ a5) : 1 ≤ a0 := by omega
theorem oz_1e356fea56 {a0 a1 a2 a3 a4 a5 : Int} (h0 : a2 = a0 + 1) (h1 : a1 = a3 + 1) (h2 : a4 = a2) (h3 : a5 + 1 ≤ a3) (h4 : a5 = a4 + 1) : a0 + 1 ≤ a1 := by omega
theorem oz_a035d58e61 {a0 a1 a2 a3 a4 a5 : Int} (h0 : a2 = a0) (h1 : a1 = a3) (h2 : a4 = a2 + 1) (h3 : a5 + 1 ≤ a3) (h4 : a5 = a4) : a0 + 1 ≤ a1 := by omega
theorem oz_c43a9ae0a0 {a0 a1 a2 a3 a4 a5 a6 a7 a8 a9 a10 a11 : Int} (h0 : a4 = a3 + 1) (h1 : a5 = a1) (h2 : a2 = a6 + 1) (h3 : a0 = a7) (h4 : a8 = a5 + 1) (h5 : a9 = a4) (h6 : a7 - a10 ≤ a6 - a11) (h7 : a11 = a9 + 1) (h8 : a10 = a8) : a0 - a1 ≤ a2 - a3 := by omega
theorem oz_1950e1fb70 {a0 a1 a2 a3 a4 a5 a6 : Int} (h0 : a0 + 1 ≤ a2) (h1 : a3 + 1 ≤ a1) (h2 : a4 = a2) (h3 : a5 + 1 ≤ a3) (h4 : a4 + a6 ≤ a5) (h5 : 1 ≤ a6) : a0 + 1 ≤ a1 := by omega
theorem oz_313281b214 {a0 a1 a2 a3 a4 a5 : Int} (h0 : a2 = a1) (h1 : a0 = a3 - 1) (h2 : a4 = a2) (h3 : a3 = a5) (h4 : a5 = a4 + 1) : a0 = a1 := by omega
theorem oz_7ba96ac489 {a0 a1 a2 a3 : Int} (h0 : a1 = a2 + 1) (h1 : a0 = a3) (h2 : a3 ≤ a2 + 20) : a0 ≤ a1 + 20 := by omega
theorem oz_508dc9c651 {a0 a1 a2 a3 : Int} (h0 : a1 = a2) (h1 : a0 = a3) (h2 : a3 ≤ a2) : a0 ≤ a1 := by omega
theorem oz_13a538c620 {a0 a2 : Int} {n1 : Nat} (h0 : 61 ≤ a2 + (n1 : Int)) (h1 : a0 = a2) : 61 ≤ a0 + (n1 : Int) := by omega
theorem oz_7faa3985b4 {a0 a1 a2 a3 : Int} (h0 : a0 = a2) (h1 : a3 < a1) (h2 : a3 = a2 + 1) : a0 < a1 := by omega
theorem oz_36ba723014 {a0 a1 a2 : Int} (h0 : a2 = a0 + 1) (h1 : a2 + 1 ≤ a1) : a0 + 1 ≤ a1 := by omega
theorem oz_4495b4e10b {a0 a1 a2 : Int} (h0 : a2 = a0) (h1 : a2 + 1 ≤ a1) : a0 + 1 ≤ a1 := by omega
theorem oz_44664987d4 {a0 a1 a2 a3 a4 a5 : Int} (h0 : a4 = a3 + 1) (h1 : a5 = a1) (h2 : a0 - a5 ≤ a2 - a4) : a0 - a1 ≤ a2 - a3 := by omega
theorem oz_132e547139 {a0 a1 a2 : Int} (h0 : a0 + 1 ≤ a2) (h1 : a2 + 1 ≤ a1) : a0 + 1 ≤ a1 := by omega
theorem oz_d87b110ba5 {a0 a1 a2 a3 : Int} (h0 : a1 = a2 + 1) (h1 : a0 = a3) (h2 : a3 ≤ a2) : a0 ≤ a1 := by omega
theorem oz_4606bbd1cf {a0 a1 a2 : Int} (h0 : a1 + 1 ≤ a0) (h1 : a1 = a2 + 1) (h2 : 0 ≤ a2) : 0 ≤ a0 := by omega
theorem oz_40adf82cfc {a0 a1 a2 a3 : Int} (h0 : a2 = a0 + 1) (h1 : a1 = a3 + 1) (h2 : a2 + 1 ≤ a3) : a0 + 1 ≤ a1 := by omega
theorem oz_56e011771b {a0 a1 a2 a3 : Int} (h0 : a2 = a0) (h1 : a1 = a3) (h2 : a2 + 1 ≤ a3) : a0 + 1 ≤ a1 := by omega
theorem oz_367be77e0e {a0 a1 a2 a3 a4 a5 a6 a7 : Int} (h0 : a4 = a3 + 1) (h1 : a5 = a1) (h2 : a2 = a6 + 1) (h3 : a0 = a7) (h4 : a7 - a5 ≤ a6 - a4) : a0 - a1 ≤ a2 - a3 := by omega
theorem oz_666f9d906c {a0 a1 a2 a3 a4 : Int} (h0 : a0 + a2 ≤ a3) (h1 : a4 + 1 ≤ a1) (h2 : 1 ≤ a2) (h3 : a3 + 1 ≤ a4) : a0 + 1 ≤ a1 := by omega
theorem oz_725fe6997c {a0 a1 a2 : Int} (h0 : a0 ≤ a1 + 20) (h1 : a1 < a2) (h2 : a2 ≤ 2049) : a0 < 2100 := by omega
theorem oz_67b8a35aa4 {a0 a1 a2 : Int} (h0 : a2 = a0) (h1 : a1 = a2 + (1 : Int)) : a0 + 1 ≤ a1 := by omega
theorem oz_327f171f8a {a0 a1 : Int} (h0 : a1 = a0 + 1) : a0 + 1 ≤ a1 := by omega
theorem oz_39060a0df1 {a0 a1 a2 a3 a4 : Int} (h0 : a0 = a1 + 1) (h1 : a4 = a3) (h2 : a2 = a4 + (1 : Int)) : a0 - a1 ≤ a2 - a3 := by omega
theorem oz_01a688a826 {a0 a1 a2 a3 : Int} (h0 : a2 = a0) (h1 : a2 + a3 ≤ a1) (h2 : 1 ≤ a3) : a0 + 1 ≤ a1 := by omega
theorem m12_50 : Cond.methodLink "HomeSystemModel$Program" 439 ⟨"HomeSystemModel$Program", "closes", "(Ljava/lang/String;)V"⟩ ∈ AL := AL_12 (List.mem_of_getElem? (i := 50) rfl) rfl
theorem m12_53 : Cond.code ⟨"HomeSystemModel$Program", "closes", "(Ljava/lang/String;)V"⟩ prog_16_method_25_code 2 (Option.none : Option Jvm.ClassFile.FieldType) ∈ AL := AL_12 (List.mem_of_getElem? (i := 53) rfl) rfl
theorem ms_9_14 : Cond.selects "HomeSystemModel$Program" ⟨"HomeSystemModel$Program", "closes", "(Ljava/lang/String;)V"⟩ ⟨"HomeSystemModel$Program", "closes", "(Ljava/lang/String;)V"⟩ ∈ AL := AL_p (q := (⟨"HomeSystemModel$Program", "closes", "(Ljava/lang/String;)V"⟩, 69)) (by unfold lw_privs; exact List.mem_append_right _ (List.mem_append_right _ (List.mem_append_right _ (List.mem_append_right _ (List.mem_append_right _ (List.mem_append_right _ (List.mem_append_right _ (List.mem_append_right _ (List.mem_append_left _ (List.mem_of_getElem? (i := 14) rfl))))))))))
theorem m12_52 : Cond.instanceMethod ⟨"HomeSystemModel$Program", "closes", "(Ljava/lang/String;)V"⟩ ∈ AL := AL_12 (List.mem_of_getElem? (i := 52) rfl) rfl
theorem m12_35 : Cond.methodLink "HomeSystemModel$Program" 403 ⟨"HomeSystemModel$Program", "expression", "()I"⟩ ∈ AL := AL_12 (List.mem_of_getElem? (i := 35) rfl) rfl
theorem m12_38 : Cond.code ⟨"HomeSystemModel$Program", "expression", "()I"⟩ prog_16_method_31_code 7 (Option.some FieldType.int) ∈ AL := AL_12 (List.mem_of_getElem? (i := 38) rfl) rfl
theorem ms_9_11 : Cond.selects "HomeSystemModel$Program" ⟨"HomeSystemModel$Program", "expression", "()I"⟩ ⟨"HomeSystemModel$Program", "expression", "()I"⟩ ∈ AL := AL_p (q := (⟨"HomeSystemModel$Program", "expression", "()I"⟩, 69)) (by unfold lw_privs; exact List.mem_append_right _ (List.mem_append_right _ (List.mem_append_right _ (List.mem_append_right _ (List.mem_append_right _ (List.mem_append_right _ (List.mem_append_right _ (List.mem_append_right _ (List.mem_append_left _ (List.mem_of_getElem? (i := 11) rfl))))))))))
theorem m12_37 : Cond.instanceMethod ⟨"HomeSystemModel$Program", "expression", "()I"⟩ ∈ AL := AL_12 (List.mem_of_getElem? (i := 37) rfl) rfl
theorem m12_47 : Cond.methodLink "HomeSystemModel$Program" 409 ⟨"HomeSystemModel$Program", "deeper", "(II)I"⟩ ∈ AL := AL_12 (List.mem_of_getElem? (i := 47) rfl) rfl
theorem m12_49 : Cond.code ⟨"HomeSystemModel$Program", "deeper", "(II)I"⟩ prog_16_method_33_code 2 (Option.some FieldType.int) ∈ AL := AL_12 (List.mem_of_getElem? (i := 49) rfl) rfl
theorem m12_48 : Cond.static ⟨"HomeSystemModel$Program", "deeper", "(II)I"⟩ ∈ AL := AL_12 (List.mem_of_getElem? (i := 48) rfl) rfl
theorem m11_206 : Cond.methodLink "HomeSystemModel$Program" 406 ⟨"HomeSystemModel$Program", "make", "(II)I"⟩ ∈ AL := AL_11 (List.mem_of_getElem? (i := 206) rfl) rfl
theorem m11_209 : Cond.code ⟨"HomeSystemModel$Program", "make", "(II)I"⟩ prog_16_method_27_code 3 (Option.some FieldType.int) ∈ AL := AL_11 (List.mem_of_getElem? (i := 209) rfl) rfl
theorem ms_8_12 : Cond.selects "HomeSystemModel$Program" ⟨"HomeSystemModel$Program", "make", "(II)I"⟩ ⟨"HomeSystemModel$Program", "make", "(II)I"⟩ ∈ AL := AL_p (q := (⟨"HomeSystemModel$Program", "make", "(II)I"⟩, 69)) (by unfold lw_privs; exact List.mem_append_right _ (List.mem_append_right _ (List.mem_append_right _ (List.mem_append_right _ (List.mem_append_right _ (List.mem_append_right _ (List.mem_append_right _ (List.mem_append_left _ (List.mem_of_getElem? (i := 12) rfl)))))))))
theorem m11_208 : Cond.instanceMethod ⟨"HomeSystemModel$Program", "make", "(II)I"⟩ ∈ AL := AL_11 (List.mem_of_getElem? (i := 208) rfl) rfl
theorem m11_239 : Cond.methodLink "HomeSystemModel$Program" 442 ⟨"HomeSystemModel$Program", "name", "()I"⟩ ∈ AL := AL_11 (List.mem_of_getElem? (i := 239) rfl) rfl
theorem m12_2 : Cond.code ⟨"HomeSystemModel$Program", "name", "()I"⟩ prog_16_method_26_code 1 (Option.some FieldType.int) ∈ AL := AL_12 (List.mem_of_getElem? (i := 2) rfl) rfl
theorem ms_9_2 : Cond.selects "HomeSystemModel$Program" ⟨"HomeSystemModel$Program", "name", "()I"⟩ ⟨"HomeSystemModel$Program", "name", "()I"⟩ ∈ AL := AL_p (q := (⟨"HomeSystemModel$Program", "name", "()I"⟩, 69)) (by unfold lw_privs; exact List.mem_append_right _ (List.mem_append_right _ (List.mem_append_right _ (List.mem_append_right _ (List.mem_append_right _ (List.mem_append_right _ (List.mem_append_right _ (List.mem_append_right _ (List.mem_append_left _ (List.mem_of_getElem? (i := 2) rfl))))))))))
theorem m12_1 : Cond.instanceMethod ⟨"HomeSystemModel$Program", "name", "()I"⟩ ∈ AL := AL_12 (List.mem_of_getElem? (i := 1) rfl) rfl
theorem m12_58 : Cond.methodLink "HomeSystemModel$Program" 445 ⟨"HomeSystemModel$Program", "call", "(I)I"⟩ ∈ AL := AL_12 (List.mem_of_getElem? (i := 58) rfl) rfl
theorem m12_61 : Cond.code ⟨"HomeSystemModel$Program", "call", "(I)I"⟩ prog_16_method_41_code 5 (Option.some FieldType.int) ∈ AL := AL_12 (List.mem_of_getElem? (i := 61) rfl) rfl
theorem ms_10_0 : Cond.selects "HomeSystemModel$Program" ⟨"HomeSystemModel$Program", "call", "(I)I"⟩ ⟨"HomeSystemModel$Program", "call", "(I)I"⟩ ∈ AL := AL_p (q := (⟨"HomeSystemModel$Program", "call", "(I)I"⟩, 69)) (by unfold lw_privs; exact List.mem_append_right _ (List.mem_append_right _ (List.mem_append_right _ (List.mem_append_right _ (List.mem_append_right _ (List.mem_append_right _ (List.mem_append_right _ (List.mem_append_right _ (List.mem_append_right _ (List.mem_append_left _ (List.mem_of_getElem? (i := 0) rfl)))))))))))
theorem m12_60 : Cond.instanceMethod ⟨"HomeSystemModel$Program", "call", "(I)I"⟩ ∈ AL := AL_12 (List.mem_of_getElem? (i := 60) rfl) rfl
/-! what the parser's methods keep of nodes -/
theorem FrB.un {b : Int} {na ma na1 ma1 : Nat → Nat → Int32} {k : Nat} {i v : Int32} (h : FrB b na ma na1 ma1) (hi : b ≤ i.toInt) (h0 : 0 ≤ i.toInt) : FrB b na ma (va_up na1 k (upd (na1 k) i.toNatClampNeg v)) ma1 := fun x hx => by
  have hc := cl_nat h0
  exact ⟨fun j => (up_far (by first | with_reducible rfl | with_reducible assumption | omega)).trans ((h x hx).1 j), (h x hx).2⟩
theorem FrB.um {b : Int} {na ma na1 ma1 : Nat → Nat → Int32} {k : Nat} {i v : Int32} (h : FrB b na ma na1 ma1) (hi : b ≤ i.toInt) (h0 : 0 ≤ i.toInt) : FrB b na ma na1 (va_up ma1 k (upd (ma1 k) i.toNatClampNeg v)) := fun x hx => by
  have hc := cl_nat h0
  exact ⟨(h x hx).1, fun j => (up_far (by first | with_reducible rfl | with_reducible assumption | omega)).trans ((h x hx).2 j)⟩
/-- a node that was just made: its kind, its token, no next, depth 1 -/
def NdK (na ma : Nat → Nat → Int32) (n k t : Int32) : Prop := na 14 n.toNatClampNeg = k ∧ na 15 n.toNatClampNeg = t ∧ na 21 n.toNatClampNeg = -1 ∧ 0 ≤ n.toInt ∧ ma 20 n.toNatClampNeg = -1
theorem MkN.nk {na ma na' ma' : Nat → Nat → Int32} {n k t : Int32} (h : MkN na ma na' ma' n k t) (h0 : -128 ≤ k.toInt) (h1 : k.toInt ≤ 127) (hn : 0 ≤ n.toInt) : NdK na' ma' n k t := ⟨h.2.1 h0 h1, h.2.2.1, h.2.2.2.2.2.2.2.2.1, hn, h.2.2.2.2.2.2.2.1⟩
theorem NdK.kp {na ma na' ma' : Nat → Nat → Int32} {n k t : Int32} {b : Int} (h : NdK na ma n k t) (f : FrB b na ma na' ma') (hb : n.toInt < b) : NdK na' ma' n k t := by
  have hc := cl_nat h.2.2.2.1
  obtain ⟨q, q2⟩ := f n.toNatClampNeg (by first | with_reducible rfl | with_reducible assumption | omega)
  exact ⟨(q 14).trans h.1, (q 15).trans h.2.1, (q 21).trans h.2.2.1, h.2.2.2.1, (q2 20).trans h.2.2.2.2⟩
theorem dp_un {na : Nat → Nat → Int32} {k : Nat} {X : Nat → Int32} {x : Int32} (h : k ≠ 23) : dp (va_up na k X) x = dp na x := by unfold dp; rw [va_up_n (fun e => h e.symm)]
theorem dp_us {na : Nat → Nat → Int32} {i v : Int32} : dp (va_up na 23 (upd (na 23) i.toNatClampNeg v)) i = v.toInt := by unfold dp; rw [va_up_s, pk_us]
theorem dp_uf {na : Nat → Nat → Int32} {i v x : Int32} (h : x.toInt ≠ i.toInt) (h0 : 0 ≤ x.toInt) (h1 : 0 ≤ i.toInt) : dp (va_up na 23 (upd (na 23) i.toNatClampNeg v)) x = dp na x := by
  have := cl_nat h0
  have := cl_nat h1
  unfold dp; rw [va_up_s, pk_un (by first | with_reducible rfl | with_reducible assumption | omega)]
theorem nat_ne {x i : Int32} (h : x.toInt ≠ i.toInt) (h0 : 0 ≤ x.toInt) (h1 : 0 ≤ i.toInt) : x.toNatClampNeg ≠ i.toNatClampNeg := by
  have := cl_nat h0
  have := cl_nat h1
  omega
theorem dp_fb {na ma na' ma' : Nat → Nat → Int32} {x : Int32} {b : Int} (f : FrB b na ma na' ma') (hx : x.toInt < b) (h0 : 0 ≤ x.toInt) : dp na' x = dp na x := by
  have := cl_nat h0
  unfold dp; rw [(f x.toNatClampNeg (by first | with_reducible rfl | with_reducible assumption | omega)).1 23]
theorem dp_nk {na ma na' ma' : Nat → Nat → Int32} {n k t : Int32} (h : MkN na ma na' ma' n k t) : dp na' n = 1 := by unfold dp; rw [h.2.2.2.2.2.2.2.2.2.2]; rfl
theorem ArV.le {ta : Nat → Nat → Int32} {c : Int} {na ma : Nat → Nat → Int32} {n x : Int32} {hi W Dm hi' W' Dm' : Int} (h : ArV ta c na ma n x hi W Dm) (h1 : hi ≤ hi') (h2 : W ≤ W') (h3 : Dm ≤ Dm') : ArV ta c na ma n x hi' W' Dm' := by
  obtain ⟨hh, d, w, m, a1, a2, a3, a4, a5, a6, a7, a8⟩ := h
  exact ⟨hh, d, w, m, by first | with_reducible rfl | with_reducible assumption | omega, a2, a3, a4, a5, a6, by first | with_reducible rfl | with_reducible assumption | omega, by first | with_reducible rfl | with_reducible assumption | omega⟩
/-- a call with nothing in its brackets -/
theorem exr_call0 {ta : Nat → Nat → Int32} {c : Int} {na ma na' ma' : Nat → Nat → Int32} {n t : Int32} {lo hi W o : Int} (m : MkN na ma na' ma' n 3 t) (h0 : 0 ≤ n.toInt) (ht : 0 ≤ t.toInt ∧ t.toInt < c) (hs : so ta t = 1) (h1 : lo ≤ n.toInt) (h2 : n.toInt + 1 ≤ hi) (h3 : 1 ≤ W) (h4 : o ≤ 60) : ExR ta c na' ma' n lo hi W o := by
  have hc := cl_nat h0
  have e23 : dp na' n = 1 := dp_nk m
  have e14 := m.2.1 (by decide) (by decide)
  have e15 := m.2.2.1
  refine ⟨⟨n.toNatClampNeg, n.toNatClampNeg + 1, 1, 1, by first | with_reducible rfl | with_reducible assumption | omega, by first | with_reducible rfl | with_reducible assumption | omega, h0, ⟨⟨Nat.le_refl _, by first | with_reducible rfl | with_reducible assumption | omega⟩, Or.inr (Or.inr (Or.inl ⟨by rw [e14]; rfl, ?_, 0, Or.inl (by rw [m.2.2.2.2.1]; decide), Nat.le_refl _⟩))⟩, by first | with_reducible rfl | with_reducible assumption | omega, by first | with_reducible rfl | with_reducible assumption | omega⟩, by first | with_reducible rfl | with_reducible assumption | omega, by first | with_reducible rfl | with_reducible assumption | omega, ?_, ?_⟩
  · unfold NdT; rw [e15]; exact ⟨ht.1, ht.2, hs⟩
  · rw [m.2.2.2.2.2.2.2.2.1]; decide
  · rw [m.2.2.2.2.2.2.2.1]; decide
def DpN (na : Nat → Nat → Int32) (n : Int32) (a b : Int) : Prop := a ≤ dp na n ∧ dp na n ≤ b
theorem tk_eq {ta : Nat → Nat → Int32} {x y : Int32} (h : x.toInt = y.toInt) : bp ta x = bp ta y ∧ sz ta x = sz ta y ∧ so ta x = so ta y ∧ wh ta x = wh ta y := by
  have e : x = y := i_eq.mpr h
  rw [e]; exact ⟨rfl, rfl, rfl, rfl⟩
/-- all tokens from a on, below b, are marks -/
def Mks (ta : Nat → Nat → Int32) (a b : Int) : Prop := ∀ x : Int32, a ≤ x.toInt → x.toInt < b → so ta x = 5
theorem Mks.none {ta : Nat → Nat → Int32} {a b : Int} (h : b ≤ a) : Mks ta a b := fun x h1 h2 => absurd h2 (by first | with_reducible rfl | with_reducible assumption | omega)
theorem Mks.le {ta : Nat → Nat → Int32} {a b a' b' : Int} (h : Mks ta a b) (h1 : a ≤ a') (h2 : b' ≤ b) : Mks ta a' b' := fun x k1 k2 => h x (by first | with_reducible rfl | with_reducible assumption | omega) (by first | with_reducible rfl | with_reducible assumption | omega)
theorem Mks.step {ta : Nat → Nat → Int32} {a b b' : Int} (h : Mks ta a b) {y : Int32} (hy : y.toInt = b) (hs : so ta y = 5) (hb : b' = b + 1) : Mks ta a b' := fun x k1 k2 => by
  by_cases e : x.toInt < b
  · exact h x k1 e
  · have : x = y := i_eq.mpr (by first | with_reducible rfl | with_reducible assumption | omega)
    rw [this]; exact hs
theorem ExD.kp {ta : Nat → Nat → Int32} {c : Int} {na ma na' ma' : Nat → Nat → Int32} {v : Int32} {lo hi W o : Int} (h : ExD ta c na ma v lo hi W o) (k : FrB hi na ma na' ma') (h0 : 0 ≤ lo) : ExD ta c na' ma' v lo hi W o := by
  obtain ⟨u, h1, h2, h3⟩ := h
  exact ⟨u, h1, h2, h3.kp k h0⟩
theorem ExD.num {ta : Nat → Nat → Int32} {c : Int} {na ma : Nat → Nat → Int32} {v : Int32} {lo hi W o : Int} (h : ExD ta c na ma v lo hi W o) : v.toInt < hi ∧ -1 - hi < v.toInt := by
  obtain ⟨u, h1, h2, h3⟩ := h
  have := h3.num
  omega
abbrev b_Mpg_expression : ByteArray := prog_16_method_31_code
def y_Mpg_expression : MethodName := ⟨"HomeSystemModel$Program", "expression", "()I"⟩
theorem d_Mpg_expression_0 : decode b_Mpg_expression 0 = .ok (.aload_n 0, 1) := by decide +kernel
theorem d_Mpg_expression_1 : decode b_Mpg_expression 1 = .ok (.getfield 360, 3) := by decide +kernel
theorem d_Mpg_expression_4 : decode b_Mpg_expression 4 = .ok (.istore_n 1, 1) := by decide +kernel
theorem d_Mpg_expression_5 : decode b_Mpg_expression 5 = .ok (.aload_n 0, 1) := by decide +kernel
theorem d_Mpg_expression_6 : decode b_Mpg_expression 6 = .ok (.invokevirtual 393, 3) := by decide +kernel
theorem d_Mpg_expression_9 : decode b_Mpg_expression 9 = .ok (.istore_n 2, 1) := by decide +kernel
theorem d_Mpg_expression_10 : decode b_Mpg_expression 10 = .ok (.iload_n 2, 1) := by decide +kernel
theorem d_Mpg_expression_11 : decode b_Mpg_expression 11 = .ok (.ifCond .ge 7, 3) := by decide +kernel
theorem d_Mpg_expression_14 : decode b_Mpg_expression 14 = .ok (.iconst 1, 1) := by decide +kernel
theorem d_Mpg_expression_15 : decode b_Mpg_expression 15 = .ok (.goto 4, 3) := by decide +kernel
theorem d_Mpg_expression_18 : decode b_Mpg_expression 18 = .ok (.iconst 0, 1) := by decide +kernel
theorem d_Mpg_expression_19 : decode b_Mpg_expression 19 = .ok (.istore_n 3, 1) := by decide +kernel
theorem d_Mpg_expression_20 : decode b_Mpg_expression 20 = .ok (.iload_n 3, 1) := by decide +kernel
theorem d_Mpg_expression_21 : decode b_Mpg_expression 21 = .ok (.ifCond .eq 9, 3) := by decide +kernel
theorem d_Mpg_expression_24 : decode b_Mpg_expression 24 = .ok (.iconst (-1), 1) := by decide +kernel
theorem d_Mpg_expression_25 : decode b_Mpg_expression 25 = .ok (.iload_n 2, 1) := by decide +kernel
theorem d_Mpg_expression_26 : decode b_Mpg_expression 26 = .ok (.isub, 1) := by decide +kernel
theorem d_Mpg_expression_27 : decode b_Mpg_expression 27 = .ok (.goto 4, 3) := by decide +kernel
theorem d_Mpg_expression_30 : decode b_Mpg_expression 30 = .ok (.iload_n 2, 1) := by decide +kernel
theorem d_Mpg_expression_31 : decode b_Mpg_expression 31 = .ok (.istore_n 2, 1) := by decide +kernel
theorem d_Mpg_expression_32 : decode b_Mpg_expression 32 = .ok (.aload_n 0, 1) := by decide +kernel
theorem d_Mpg_expression_33 : decode b_Mpg_expression 33 = .ok (.invokevirtual 396, 3) := by decide +kernel
theorem d_Mpg_expression_36 : decode b_Mpg_expression 36 = .ok (.ifCond .eq 101, 3) := by decide +kernel
theorem d_Mpg_expression_39 : decode b_Mpg_expression 39 = .ok (.iload_n 3, 1) := by decide +kernel
theorem d_Mpg_expression_40 : decode b_Mpg_expression 40 = .ok (.ifCond .eq 97, 3) := by decide +kernel
theorem d_Mpg_expression_43 : decode b_Mpg_expression 43 = .ok (.aload_n 0, 1) := by decide +kernel
theorem d_Mpg_expression_44 : decode b_Mpg_expression 44 = .ok (.getfield 360, 3) := by decide +kernel
theorem d_Mpg_expression_47 : decode b_Mpg_expression 47 = .ok (.istore 4, 2) := by decide +kernel
theorem d_Mpg_expression_49 : decode b_Mpg_expression 49 = .ok (.aload_n 0, 1) := by decide +kernel
theorem d_Mpg_expression_50 : decode b_Mpg_expression 50 = .ok (.iload_n 2, 1) := by decide +kernel
theorem d_Mpg_expression_51 : decode b_Mpg_expression 51 = .ok (.invokevirtual 400, 3) := by decide +kernel
theorem d_Mpg_expression_54 : decode b_Mpg_expression 54 = .ok (.aload_n 0, 1) := by decide +kernel
theorem d_Mpg_expression_55 : decode b_Mpg_expression 55 = .ok (.invokevirtual 383, 3) := by decide +kernel
theorem d_Mpg_expression_58 : decode b_Mpg_expression 58 = .ok (.aload_n 0, 1) := by decide +kernel
theorem d_Mpg_expression_59 : decode b_Mpg_expression 59 = .ok (.invokevirtual 403, 3) := by decide +kernel
theorem d_Mpg_expression_62 : decode b_Mpg_expression 62 = .ok (.istore 5, 2) := by decide +kernel
theorem d_Mpg_expression_64 : decode b_Mpg_expression 64 = .ok (.aload_n 0, 1) := by decide +kernel
theorem d_Mpg_expression_65 : decode b_Mpg_expression 65 = .ok (.dup, 1) := by decide +kernel
theorem d_Mpg_expression_66 : decode b_Mpg_expression 66 = .ok (.getfield 380, 3) := by decide +kernel
theorem d_Mpg_expression_69 : decode b_Mpg_expression 69 = .ok (.iconst 1, 1) := by decide +kernel
theorem d_Mpg_expression_70 : decode b_Mpg_expression 70 = .ok (.isub, 1) := by decide +kernel
theorem d_Mpg_expression_71 : decode b_Mpg_expression 71 = .ok (.putfield 380, 3) := by decide +kernel
theorem d_Mpg_expression_74 : decode b_Mpg_expression 74 = .ok (.aload_n 0, 1) := by decide +kernel
theorem d_Mpg_expression_75 : decode b_Mpg_expression 75 = .ok (.bipush 9, 2) := by decide +kernel
theorem d_Mpg_expression_77 : decode b_Mpg_expression 77 = .ok (.iload 4, 2) := by decide +kernel
theorem d_Mpg_expression_79 : decode b_Mpg_expression 79 = .ok (.invokevirtual 406, 3) := by decide +kernel
theorem d_Mpg_expression_82 : decode b_Mpg_expression 82 = .ok (.istore 6, 2) := by decide +kernel
theorem d_Mpg_expression_84 : decode b_Mpg_expression 84 = .ok (.aload_n 0, 1) := by decide +kernel
theorem d_Mpg_expression_85 : decode b_Mpg_expression 85 = .ok (.getfield 234, 3) := by decide +kernel
theorem d_Mpg_expression_88 : decode b_Mpg_expression 88 = .ok (.iload 6, 2) := by decide +kernel
theorem d_Mpg_expression_90 : decode b_Mpg_expression 90 = .ok (.iconst 1, 1) := by decide +kernel
theorem d_Mpg_expression_91 : decode b_Mpg_expression 91 = .ok (.aload_n 0, 1) := by decide +kernel
theorem d_Mpg_expression_92 : decode b_Mpg_expression 92 = .ok (.getfield 234, 3) := by decide +kernel
theorem d_Mpg_expression_95 : decode b_Mpg_expression 95 = .ok (.iload_n 2, 1) := by decide +kernel
theorem d_Mpg_expression_96 : decode b_Mpg_expression 96 = .ok (.iaload, 1) := by decide +kernel
theorem d_Mpg_expression_97 : decode b_Mpg_expression 97 = .ok (.aload_n 0, 1) := by decide +kernel
theorem d_Mpg_expression_98 : decode b_Mpg_expression 98 = .ok (.getfield 234, 3) := by decide +kernel
theorem d_Mpg_expression_101 : decode b_Mpg_expression 101 = .ok (.iload 5, 2) := by decide +kernel
theorem d_Mpg_expression_103 : decode b_Mpg_expression 103 = .ok (.iaload, 1) := by decide +kernel
theorem d_Mpg_expression_104 : decode b_Mpg_expression 104 = .ok (.invokestatic 409, 3) := by decide +kernel
theorem d_Mpg_expression_107 : decode b_Mpg_expression 107 = .ok (.iadd, 1) := by decide +kernel
theorem d_Mpg_expression_108 : decode b_Mpg_expression 108 = .ok (.iastore, 1) := by decide +kernel
theorem d_Mpg_expression_109 : decode b_Mpg_expression 109 = .ok (.aload_n 0, 1) := by decide +kernel
theorem d_Mpg_expression_110 : decode b_Mpg_expression 110 = .ok (.getfield 213, 3) := by decide +kernel
theorem d_Mpg_expression_113 : decode b_Mpg_expression 113 = .ok (.iload 6, 2) := by decide +kernel
theorem d_Mpg_expression_115 : decode b_Mpg_expression 115 = .ok (.iload_n 1, 1) := by decide +kernel
theorem d_Mpg_expression_116 : decode b_Mpg_expression 116 = .ok (.iastore, 1) := by decide +kernel
theorem d_Mpg_expression_117 : decode b_Mpg_expression 117 = .ok (.aload_n 0, 1) := by decide +kernel
theorem d_Mpg_expression_118 : decode b_Mpg_expression 118 = .ok (.getfield 216, 3) := by decide +kernel
theorem d_Mpg_expression_121 : decode b_Mpg_expression 121 = .ok (.iload 6, 2) := by decide +kernel
theorem d_Mpg_expression_123 : decode b_Mpg_expression 123 = .ok (.iload_n 2, 1) := by decide +kernel
theorem d_Mpg_expression_124 : decode b_Mpg_expression 124 = .ok (.iastore, 1) := by decide +kernel
theorem d_Mpg_expression_125 : decode b_Mpg_expression 125 = .ok (.aload_n 0, 1) := by decide +kernel
theorem d_Mpg_expression_126 : decode b_Mpg_expression 126 = .ok (.getfield 219, 3) := by decide +kernel
theorem d_Mpg_expression_129 : decode b_Mpg_expression 129 = .ok (.iload 6, 2) := by decide +kernel
theorem d_Mpg_expression_131 : decode b_Mpg_expression 131 = .ok (.iload 5, 2) := by decide +kernel
theorem d_Mpg_expression_133 : decode b_Mpg_expression 133 = .ok (.iastore, 1) := by decide +kernel
theorem d_Mpg_expression_134 : decode b_Mpg_expression 134 = .ok (.iload 6, 2) := by decide +kernel
theorem d_Mpg_expression_136 : decode b_Mpg_expression 136 = .ok (.istore_n 2, 1) := by decide +kernel
theorem d_Mpg_expression_137 : decode b_Mpg_expression 137 = .ok (.iload_n 2, 1) := by decide +kernel
theorem d_Mpg_expression_138 : decode b_Mpg_expression 138 = .ok (.ireturn, 1) := by decide +kernel
theorem q_Mpg_expression : px_y y_Mpg_expression 0 := by unfold px_y; decide +kernel
abbrev b_Mpg_conditional : ByteArray := prog_16_method_32_code
def y_Mpg_conditional : MethodName := ⟨"HomeSystemModel$Program", "conditional", "()I"⟩
theorem d_Mpg_conditional_0 : decode b_Mpg_conditional 0 = .ok (.aload_n 0, 1) := by decide +kernel
theorem d_Mpg_conditional_1 : decode b_Mpg_conditional 1 = .ok (.getfield 360, 3) := by decide +kernel
theorem d_Mpg_conditional_4 : decode b_Mpg_conditional 4 = .ok (.istore_n 1, 1) := by decide +kernel
theorem d_Mpg_conditional_5 : decode b_Mpg_conditional 5 = .ok (.aload_n 0, 1) := by decide +kernel
theorem d_Mpg_conditional_6 : decode b_Mpg_conditional 6 = .ok (.invokevirtual 412, 3) := by decide +kernel
theorem d_Mpg_conditional_9 : decode b_Mpg_conditional 9 = .ok (.istore_n 2, 1) := by decide +kernel
theorem d_Mpg_conditional_10 : decode b_Mpg_conditional 10 = .ok (.aload_n 0, 1) := by decide +kernel
theorem d_Mpg_conditional_11 : decode b_Mpg_conditional 11 = .ok (.ldc 105, 2) := by decide +kernel
theorem d_Mpg_conditional_13 : decode b_Mpg_conditional 13 = .ok (.invokevirtual 366, 3) := by decide +kernel
theorem d_Mpg_conditional_16 : decode b_Mpg_conditional 16 = .ok (.ifCond .ne 5, 3) := by decide +kernel
theorem d_Mpg_conditional_19 : decode b_Mpg_conditional 19 = .ok (.iload_n 2, 1) := by decide +kernel
theorem d_Mpg_conditional_20 : decode b_Mpg_conditional 20 = .ok (.ireturn, 1) := by decide +kernel
theorem d_Mpg_conditional_21 : decode b_Mpg_conditional 21 = .ok (.aload_n 0, 1) := by decide +kernel
theorem d_Mpg_conditional_22 : decode b_Mpg_conditional 22 = .ok (.getfield 360, 3) := by decide +kernel
theorem d_Mpg_conditional_25 : decode b_Mpg_conditional 25 = .ok (.istore_n 3, 1) := by decide +kernel
theorem d_Mpg_conditional_26 : decode b_Mpg_conditional 26 = .ok (.aload_n 0, 1) := by decide +kernel
theorem d_Mpg_conditional_27 : decode b_Mpg_conditional 27 = .ok (.iload_n 2, 1) := by decide +kernel
theorem d_Mpg_conditional_28 : decode b_Mpg_conditional 28 = .ok (.ifCond .ge 9, 3) := by decide +kernel
theorem d_Mpg_conditional_31 : decode b_Mpg_conditional 31 = .ok (.iconst (-1), 1) := by decide +kernel
theorem d_Mpg_conditional_32 : decode b_Mpg_conditional 32 = .ok (.iload_n 2, 1) := by decide +kernel
theorem d_Mpg_conditional_33 : decode b_Mpg_conditional 33 = .ok (.isub, 1) := by decide +kernel
theorem d_Mpg_conditional_34 : decode b_Mpg_conditional 34 = .ok (.goto 4, 3) := by decide +kernel
theorem d_Mpg_conditional_37 : decode b_Mpg_conditional 37 = .ok (.iload_n 2, 1) := by decide +kernel
theorem d_Mpg_conditional_38 : decode b_Mpg_conditional 38 = .ok (.invokevirtual 400, 3) := by decide +kernel
theorem d_Mpg_conditional_41 : decode b_Mpg_conditional 41 = .ok (.aload_n 0, 1) := by decide +kernel
theorem d_Mpg_conditional_42 : decode b_Mpg_conditional 42 = .ok (.invokevirtual 383, 3) := by decide +kernel
theorem d_Mpg_conditional_45 : decode b_Mpg_conditional 45 = .ok (.aload_n 0, 1) := by decide +kernel
theorem d_Mpg_conditional_46 : decode b_Mpg_conditional 46 = .ok (.invokevirtual 403, 3) := by decide +kernel
theorem d_Mpg_conditional_49 : decode b_Mpg_conditional 49 = .ok (.istore 4, 2) := by decide +kernel
theorem d_Mpg_conditional_51 : decode b_Mpg_conditional 51 = .ok (.aload_n 0, 1) := by decide +kernel
theorem d_Mpg_conditional_52 : decode b_Mpg_conditional 52 = .ok (.ldc 103, 2) := by decide +kernel
theorem d_Mpg_conditional_54 : decode b_Mpg_conditional 54 = .ok (.invokevirtual 386, 3) := by decide +kernel
theorem d_Mpg_conditional_57 : decode b_Mpg_conditional 57 = .ok (.aload_n 0, 1) := by decide +kernel
theorem d_Mpg_conditional_58 : decode b_Mpg_conditional 58 = .ok (.invokevirtual 393, 3) := by decide +kernel
theorem d_Mpg_conditional_61 : decode b_Mpg_conditional 61 = .ok (.istore 5, 2) := by decide +kernel
theorem d_Mpg_conditional_63 : decode b_Mpg_conditional 63 = .ok (.aload_n 0, 1) := by decide +kernel
theorem d_Mpg_conditional_64 : decode b_Mpg_conditional 64 = .ok (.dup, 1) := by decide +kernel
theorem d_Mpg_conditional_65 : decode b_Mpg_conditional 65 = .ok (.getfield 380, 3) := by decide +kernel
theorem d_Mpg_conditional_68 : decode b_Mpg_conditional 68 = .ok (.iconst 1, 1) := by decide +kernel
theorem d_Mpg_conditional_69 : decode b_Mpg_conditional 69 = .ok (.isub, 1) := by decide +kernel
theorem d_Mpg_conditional_70 : decode b_Mpg_conditional 70 = .ok (.putfield 380, 3) := by decide +kernel
theorem d_Mpg_conditional_73 : decode b_Mpg_conditional 73 = .ok (.aload_n 0, 1) := by decide +kernel
theorem d_Mpg_conditional_74 : decode b_Mpg_conditional 74 = .ok (.bipush 8, 2) := by decide +kernel
theorem d_Mpg_conditional_76 : decode b_Mpg_conditional 76 = .ok (.iload_n 3, 1) := by decide +kernel
theorem d_Mpg_conditional_77 : decode b_Mpg_conditional 77 = .ok (.invokevirtual 406, 3) := by decide +kernel
theorem d_Mpg_conditional_80 : decode b_Mpg_conditional 80 = .ok (.istore 6, 2) := by decide +kernel
theorem d_Mpg_conditional_82 : decode b_Mpg_conditional 82 = .ok (.aload_n 0, 1) := by decide +kernel
theorem d_Mpg_conditional_83 : decode b_Mpg_conditional 83 = .ok (.getfield 234, 3) := by decide +kernel
theorem d_Mpg_conditional_86 : decode b_Mpg_conditional 86 = .ok (.iload 6, 2) := by decide +kernel
theorem d_Mpg_conditional_88 : decode b_Mpg_conditional 88 = .ok (.iconst 1, 1) := by decide +kernel
theorem d_Mpg_conditional_89 : decode b_Mpg_conditional 89 = .ok (.aload_n 0, 1) := by decide +kernel
theorem d_Mpg_conditional_90 : decode b_Mpg_conditional 90 = .ok (.getfield 234, 3) := by decide +kernel
theorem d_Mpg_conditional_93 : decode b_Mpg_conditional 93 = .ok (.iload_n 2, 1) := by decide +kernel
theorem d_Mpg_conditional_94 : decode b_Mpg_conditional 94 = .ok (.ifCond .ge 9, 3) := by decide +kernel
theorem d_Mpg_conditional_97 : decode b_Mpg_conditional 97 = .ok (.iconst (-1), 1) := by decide +kernel
theorem d_Mpg_conditional_98 : decode b_Mpg_conditional 98 = .ok (.iload_n 2, 1) := by decide +kernel
theorem d_Mpg_conditional_99 : decode b_Mpg_conditional 99 = .ok (.isub, 1) := by decide +kernel
theorem d_Mpg_conditional_100 : decode b_Mpg_conditional 100 = .ok (.goto 4, 3) := by decide +kernel
theorem d_Mpg_conditional_103 : decode b_Mpg_conditional 103 = .ok (.iload_n 2, 1) := by decide +kernel
theorem d_Mpg_conditional_104 : decode b_Mpg_conditional 104 = .ok (.iaload, 1) := by decide +kernel
theorem d_Mpg_conditional_105 : decode b_Mpg_conditional 105 = .ok (.aload_n 0, 1) := by decide +kernel
theorem d_Mpg_conditional_106 : decode b_Mpg_conditional 106 = .ok (.getfield 234, 3) := by decide +kernel
theorem d_Mpg_conditional_109 : decode b_Mpg_conditional 109 = .ok (.iload 4, 2) := by decide +kernel
theorem d_Mpg_conditional_111 : decode b_Mpg_conditional 111 = .ok (.iaload, 1) := by decide +kernel
theorem d_Mpg_conditional_112 : decode b_Mpg_conditional 112 = .ok (.aload_n 0, 1) := by decide +kernel
theorem d_Mpg_conditional_113 : decode b_Mpg_conditional 113 = .ok (.getfield 234, 3) := by decide +kernel
theorem d_Mpg_conditional_116 : decode b_Mpg_conditional 116 = .ok (.iload 5, 2) := by decide +kernel
theorem d_Mpg_conditional_118 : decode b_Mpg_conditional 118 = .ok (.ifCond .ge 10, 3) := by decide +kernel
theorem d_Mpg_conditional_121 : decode b_Mpg_conditional 121 = .ok (.iconst (-1), 1) := by decide +kernel
theorem d_Mpg_conditional_122 : decode b_Mpg_conditional 122 = .ok (.iload 5, 2) := by decide +kernel
theorem d_Mpg_conditional_124 : decode b_Mpg_conditional 124 = .ok (.isub, 1) := by decide +kernel
theorem d_Mpg_conditional_125 : decode b_Mpg_conditional 125 = .ok (.goto 5, 3) := by decide +kernel
theorem d_Mpg_conditional_128 : decode b_Mpg_conditional 128 = .ok (.iload 5, 2) := by decide +kernel
theorem d_Mpg_conditional_130 : decode b_Mpg_conditional 130 = .ok (.iaload, 1) := by decide +kernel
theorem d_Mpg_conditional_131 : decode b_Mpg_conditional 131 = .ok (.invokestatic 409, 3) := by decide +kernel
theorem d_Mpg_conditional_134 : decode b_Mpg_conditional 134 = .ok (.invokestatic 409, 3) := by decide +kernel
theorem d_Mpg_conditional_137 : decode b_Mpg_conditional 137 = .ok (.iadd, 1) := by decide +kernel
theorem d_Mpg_conditional_138 : decode b_Mpg_conditional 138 = .ok (.iastore, 1) := by decide +kernel
theorem d_Mpg_conditional_139 : decode b_Mpg_conditional 139 = .ok (.aload_n 0, 1) := by decide +kernel
theorem d_Mpg_conditional_140 : decode b_Mpg_conditional 140 = .ok (.getfield 213, 3) := by decide +kernel
theorem d_Mpg_conditional_143 : decode b_Mpg_conditional 143 = .ok (.iload 6, 2) := by decide +kernel
theorem d_Mpg_conditional_145 : decode b_Mpg_conditional 145 = .ok (.iload_n 1, 1) := by decide +kernel
theorem d_Mpg_conditional_146 : decode b_Mpg_conditional 146 = .ok (.iastore, 1) := by decide +kernel
theorem d_Mpg_conditional_147 : decode b_Mpg_conditional 147 = .ok (.aload_n 0, 1) := by decide +kernel
theorem d_Mpg_conditional_148 : decode b_Mpg_conditional 148 = .ok (.getfield 216, 3) := by decide +kernel
theorem d_Mpg_conditional_151 : decode b_Mpg_conditional 151 = .ok (.iload 6, 2) := by decide +kernel
theorem d_Mpg_conditional_153 : decode b_Mpg_conditional 153 = .ok (.iload_n 2, 1) := by decide +kernel
theorem d_Mpg_conditional_154 : decode b_Mpg_conditional 154 = .ok (.ifCond .ge 9, 3) := by decide +kernel
theorem d_Mpg_conditional_157 : decode b_Mpg_conditional 157 = .ok (.iconst (-1), 1) := by decide +kernel
theorem d_Mpg_conditional_158 : decode b_Mpg_conditional 158 = .ok (.iload_n 2, 1) := by decide +kernel
theorem d_Mpg_conditional_159 : decode b_Mpg_conditional 159 = .ok (.isub, 1) := by decide +kernel
theorem d_Mpg_conditional_160 : decode b_Mpg_conditional 160 = .ok (.goto 4, 3) := by decide +kernel
theorem d_Mpg_conditional_163 : decode b_Mpg_conditional 163 = .ok (.iload_n 2, 1) := by decide +kernel
theorem d_Mpg_conditional_164 : decode b_Mpg_conditional 164 = .ok (.iastore, 1) := by decide +kernel
theorem d_Mpg_conditional_165 : decode b_Mpg_conditional 165 = .ok (.aload_n 0, 1) := by decide +kernel
theorem d_Mpg_conditional_166 : decode b_Mpg_conditional 166 = .ok (.getfield 219, 3) := by decide +kernel
theorem d_Mpg_conditional_169 : decode b_Mpg_conditional 169 = .ok (.iload 6, 2) := by decide +kernel
theorem d_Mpg_conditional_171 : decode b_Mpg_conditional 171 = .ok (.iload 4, 2) := by decide +kernel
theorem d_Mpg_conditional_173 : decode b_Mpg_conditional 173 = .ok (.iastore, 1) := by decide +kernel
theorem d_Mpg_conditional_174 : decode b_Mpg_conditional 174 = .ok (.aload_n 0, 1) := by decide +kernel
theorem d_Mpg_conditional_175 : decode b_Mpg_conditional 175 = .ok (.getfield 222, 3) := by decide +kernel
theorem d_Mpg_conditional_178 : decode b_Mpg_conditional 178 = .ok (.iload 6, 2) := by decide +kernel
theorem d_Mpg_conditional_180 : decode b_Mpg_conditional 180 = .ok (.iload 5, 2) := by decide +kernel
theorem d_Mpg_conditional_182 : decode b_Mpg_conditional 182 = .ok (.ifCond .ge 10, 3) := by decide +kernel
theorem d_Mpg_conditional_185 : decode b_Mpg_conditional 185 = .ok (.iconst (-1), 1) := by decide +kernel
theorem d_Mpg_conditional_186 : decode b_Mpg_conditional 186 = .ok (.iload 5, 2) := by decide +kernel
theorem d_Mpg_conditional_188 : decode b_Mpg_conditional 188 = .ok (.isub, 1) := by decide +kernel
theorem d_Mpg_conditional_189 : decode b_Mpg_conditional 189 = .ok (.goto 5, 3) := by decide +kernel
theorem d_Mpg_conditional_192 : decode b_Mpg_conditional 192 = .ok (.iload 5, 2) := by decide +kernel
theorem d_Mpg_conditional_194 : decode b_Mpg_conditional 194 = .ok (.iastore, 1) := by decide +kernel
theorem d_Mpg_conditional_195 : decode b_Mpg_conditional 195 = .ok (.iload 6, 2) := by decide +kernel
theorem d_Mpg_conditional_197 : decode b_Mpg_conditional 197 = .ok (.ireturn, 1) := by decide +kernel
theorem q_Mpg_conditional : px_y y_Mpg_conditional 0 := by unfold px_y; decide +kernel
def ExpC (l : Launch) (D : va_G) (cs : Nat → ClassId) (lv : Nat) : Prop := ∀ (h : Nat) (r : Nat → Nat) (g : Nat → Nat → Option Nat) (tf : Nat → Int32) (ta : Nat → Nat → Int32) (cf : Nat → Int32) (ca : Nat → Nat → Int32) (ef : Nat → Int32) (ea : Nat → Nat → Int32) (xf : Nat → Int32) (xa : Nat → Nat → Int32) (pf : Nat → Int32) (na : Nat → Nat → Int32) (ma : Nat → Nat → Int32) (wa : Nat → Nat → Int32) (g0 : 0 ≤ (pf 11).toInt) (g1 : (pf 11).toInt < (tf 6).toInt) (g2 : (tf 6).toInt ≤ 2049) (g3 : 0 ≤ (pf 12).toInt) (g4 : (pf 12).toInt ≤ 60) (g5 : 0 ≤ (pf 13).toInt) (g6 : (pf 13).toInt ≤ (pf 11).toInt + 20) (g7 : 0 ≤ (pf 26).toInt) (g8 : (pf 26).toInt ≤ (pf 12).toInt) (g9 : 61 ≤ (pf 12).toInt + (lv : Int)) (g10 : lv ≤ 61) (hlf : l.flags = pinnedFlags ++ [noTraceFlag]) (htk : TkI tf ta) (hfs : FsI (tf 6).toInt (pf 13).toInt na), ThI l y_Mpg_expression b_Mpg_expression 7 (.int) D cs (8 * lv + 20) (220 * lv + 720) [.ref h] [wdP cs h r g tf ta pf na ma wa cf ca ef ea xf xa] (oX (fun A U H => (oN A U H) ∧ (oP A g U H)) [wdP cs h r g tf ta pf na ma wa cf ca ef ea xf xa]) "java/lang/IllegalArgumentException" (fun v ps => ∃ (pf' : Nat → Int32) (na' : Nat → Nat → Int32) (ma' : Nat → Nat → Int32) (wa' : Nat → Nat → Int32), (ps = [wdP cs h r g tf ta pf' na' ma' wa' cf ca ef ea xf xa]) ∧ ((pf 11).toInt + 1 ≤ (pf' 11).toInt) ∧ ((pf' 11).toInt < (tf 6).toInt) ∧ ((pf 13).toInt + 1 ≤ (pf' 13).toInt) ∧ ((pf' 13).toInt - (pf 13).toInt ≤ (pf' 11).toInt - (pf 11).toInt) ∧ (bp ta (pf 11) + 1 ≤ bp ta (pf' 11)) ∧ ((pf' 12).toInt = (pf 12).toInt) ∧ ((pf' 24).toInt = (pf 24).toInt) ∧ ((pf' 25).toInt = (pf 25).toInt) ∧ ((pf' 26).toInt = (pf 26).toInt) ∧ (FrB (pf 13).toInt na ma na' ma') ∧ (FrW (pf 26).toInt wa wa') ∧ (ExR ta (tf 6).toInt na' ma' v (pf 13).toInt (pf' 13).toInt (3 * (bp ta (pf' 11) - bp ta (pf 11))) (pf 12).toInt) ∧ (FsI (tf 6).toInt (pf' 13).toInt na')) (fun ps => ∃ (pf' : Nat → Int32) (na' : Nat → Nat → Int32) (ma' : Nat → Nat → Int32) (wa' : Nat → Nat → Int32), ps = [wdP cs h r g tf ta pf' na' ma' wa' cf ca ef ea xf xa] ∧ 0 ≤ (pf' 11).toInt ∧ (pf' 11).toInt + 1 ≤ (tf 6).toInt)
def ConC (l : Launch) (D : va_G) (cs : Nat → ClassId) (lv : Nat) : Prop := ∀ (h : Nat) (r : Nat → Nat) (g : Nat → Nat → Option Nat) (tf : Nat → Int32) (ta : Nat → Nat → Int32) (cf : Nat → Int32) (ca : Nat → Nat → Int32) (ef : Nat → Int32) (ea : Nat → Nat → Int32) (xf : Nat → Int32) (xa : Nat → Nat → Int32) (pf : Nat → Int32) (na : Nat → Nat → Int32) (ma : Nat → Nat → Int32) (wa : Nat → Nat → Int32) (g0 : 0 ≤ (pf 11).toInt) (g1 : (pf 11).toInt < (tf 6).toInt) (g2 : (tf 6).toInt ≤ 2049) (g3 : 0 ≤ (pf 12).toInt) (g4 : (pf 12).toInt ≤ 60) (g5 : 0 ≤ (pf 13).toInt) (g6 : (pf 13).toInt ≤ (pf 11).toInt + 20) (g7 : 0 ≤ (pf 26).toInt) (g8 : (pf 26).toInt ≤ (pf 12).toInt) (g9 : 61 ≤ (pf 12).toInt + (lv : Int)) (g10 : lv ≤ 61) (hlf : l.flags = pinnedFlags ++ [noTraceFlag]) (htk : TkI tf ta) (hfs : FsI (tf 6).toInt (pf 13).toInt na), ThI l y_Mpg_conditional b_Mpg_conditional 7 (.int) D cs (8 * lv + 19) (220 * lv + 690) [.ref h] [wdP cs h r g tf ta pf na ma wa cf ca ef ea xf xa] (oX (fun A U H => (oN A U H) ∧ (oP A g U H)) [wdP cs h r g tf ta pf na ma wa cf ca ef ea xf xa]) "java/lang/IllegalArgumentException" (fun v ps => ∃ (pf' : Nat → Int32) (na' : Nat → Nat → Int32) (ma' : Nat → Nat → Int32) (wa' : Nat → Nat → Int32), (ps = [wdP cs h r g tf ta pf' na' ma' wa' cf ca ef ea xf xa]) ∧ ((pf 11).toInt + 1 ≤ (pf' 11).toInt) ∧ ((pf' 11).toInt < (tf 6).toInt) ∧ ((pf 13).toInt + 1 ≤ (pf' 13).toInt) ∧ ((pf' 13).toInt - (pf 13).toInt ≤ (pf' 11).toInt - (pf 11).toInt) ∧ (bp ta (pf 11) + 1 ≤ bp ta (pf' 11)) ∧ ((pf' 12).toInt = (pf 12).toInt) ∧ ((pf' 24).toInt = (pf 24).toInt) ∧ ((pf' 25).toInt = (pf 25).toInt) ∧ ((pf' 26).toInt = (pf 26).toInt) ∧ (FrB (pf 13).toInt na ma na' ma') ∧ (FrW (pf 26).toInt wa wa') ∧ (ExD ta (tf 6).toInt na' ma' v (pf 13).toInt (pf' 13).toInt (3 * (bp ta (pf' 11) - bp ta (pf 11))) (pf 12).toInt) ∧ (FsI (tf 6).toInt (pf' 13).toInt na')) (fun ps => ∃ (pf' : Nat → Int32) (na' : Nat → Nat → Int32) (ma' : Nat → Nat → Int32) (wa' : Nat → Nat → Int32), ps = [wdP cs h r g tf ta pf' na' ma' wa' cf ca ef ea xf xa] ∧ 0 ≤ (pf' 11).toInt ∧ (pf' 11).toInt + 1 ≤ (tf 6).toInt)
def LvE (l : Launch) (D : va_G) (cs : Nat → ClassId) (lv : Nat) : Prop := 1 ≤ lv → ExpC l D cs (lv - 1) ∧ ConC l D cs (lv - 1)
theorem LvE.go {l : Launch} {D : va_G} {cs : Nat → ClassId} {lv : Nat} (h : LvE l D cs lv) (k : 1 ≤ lv) : ExpC l D cs (lv - 1) ∧ ConC l D cs (lv - 1) := h k
theorem lve_0 {l : Launch} {D : va_G} {cs : Nat → ClassId} : LvE l D cs 0 := fun h => absurd h (by decide)
theorem lve_s {l : Launch} {D : va_G} {cs : Nat → ClassId} {n : Nat} (h : ExpC l D cs n ∧ ConC l D cs n) : LvE l D cs (n + 1) := fun _ => h
abbrev b_Mpg_call : ByteArray := prog_16_method_41_code
def y_Mpg_call : MethodName := ⟨"HomeSystemModel$Program", "call", "(I)I"⟩
theorem d_Mpg_call_0 : decode b_Mpg_call 0 = .ok (.aload_n 0, 1) := by decide +kernel
theorem d_Mpg_call_1 : decode b_Mpg_call 1 = .ok (.iconst 3, 1) := by decide +kernel
theorem d_Mpg_call_2 : decode b_Mpg_call 2 = .ok (.iload_n 1, 1) := by decide +kernel
theorem d_Mpg_call_3 : decode b_Mpg_call 3 = .ok (.invokevirtual 406, 3) := by decide +kernel
theorem d_Mpg_call_6 : decode b_Mpg_call 6 = .ok (.istore_n 2, 1) := by decide +kernel
theorem d_Mpg_call_7 : decode b_Mpg_call 7 = .ok (.aload_n 0, 1) := by decide +kernel
theorem d_Mpg_call_8 : decode b_Mpg_call 8 = .ok (.invokevirtual 383, 3) := by decide +kernel
theorem d_Mpg_call_11 : decode b_Mpg_call 11 = .ok (.aload_n 0, 1) := by decide +kernel
theorem d_Mpg_call_12 : decode b_Mpg_call 12 = .ok (.ldc 89, 2) := by decide +kernel
theorem d_Mpg_call_14 : decode b_Mpg_call 14 = .ok (.invokevirtual 366, 3) := by decide +kernel
theorem d_Mpg_call_17 : decode b_Mpg_call 17 = .ok (.ifCond .ne 82, 3) := by decide +kernel
theorem d_Mpg_call_20 : decode b_Mpg_call 20 = .ok (.aload_n 0, 1) := by decide +kernel
theorem d_Mpg_call_21 : decode b_Mpg_call 21 = .ok (.invokevirtual 403, 3) := by decide +kernel
theorem d_Mpg_call_24 : decode b_Mpg_call 24 = .ok (.istore_n 3, 1) := by decide +kernel
theorem d_Mpg_call_25 : decode b_Mpg_call 25 = .ok (.aload_n 0, 1) := by decide +kernel
theorem d_Mpg_call_26 : decode b_Mpg_call 26 = .ok (.getfield 216, 3) := by decide +kernel
theorem d_Mpg_call_29 : decode b_Mpg_call 29 = .ok (.iload_n 2, 1) := by decide +kernel
theorem d_Mpg_call_30 : decode b_Mpg_call 30 = .ok (.iload_n 3, 1) := by decide +kernel
theorem d_Mpg_call_31 : decode b_Mpg_call 31 = .ok (.iastore, 1) := by decide +kernel
theorem d_Mpg_call_32 : decode b_Mpg_call 32 = .ok (.aload_n 0, 1) := by decide +kernel
theorem d_Mpg_call_33 : decode b_Mpg_call 33 = .ok (.getfield 234, 3) := by decide +kernel
theorem d_Mpg_call_36 : decode b_Mpg_call 36 = .ok (.iload_n 2, 1) := by decide +kernel
theorem d_Mpg_call_37 : decode b_Mpg_call 37 = .ok (.iconst 1, 1) := by decide +kernel
theorem d_Mpg_call_38 : decode b_Mpg_call 38 = .ok (.aload_n 0, 1) := by decide +kernel
theorem d_Mpg_call_39 : decode b_Mpg_call 39 = .ok (.getfield 234, 3) := by decide +kernel
theorem d_Mpg_call_42 : decode b_Mpg_call 42 = .ok (.iload_n 3, 1) := by decide +kernel
theorem d_Mpg_call_43 : decode b_Mpg_call 43 = .ok (.iaload, 1) := by decide +kernel
theorem d_Mpg_call_44 : decode b_Mpg_call 44 = .ok (.iadd, 1) := by decide +kernel
theorem d_Mpg_call_45 : decode b_Mpg_call 45 = .ok (.iastore, 1) := by decide +kernel
theorem d_Mpg_call_46 : decode b_Mpg_call 46 = .ok (.aload_n 0, 1) := by decide +kernel
theorem d_Mpg_call_47 : decode b_Mpg_call 47 = .ok (.ldc 99, 2) := by decide +kernel
theorem d_Mpg_call_49 : decode b_Mpg_call 49 = .ok (.invokevirtual 370, 3) := by decide +kernel
theorem d_Mpg_call_52 : decode b_Mpg_call 52 = .ok (.ifCond .eq 47, 3) := by decide +kernel
theorem d_Mpg_call_55 : decode b_Mpg_call 55 = .ok (.aload_n 0, 1) := by decide +kernel
theorem d_Mpg_call_56 : decode b_Mpg_call 56 = .ok (.invokevirtual 403, 3) := by decide +kernel
theorem d_Mpg_call_59 : decode b_Mpg_call 59 = .ok (.istore 4, 2) := by decide +kernel
theorem d_Mpg_call_61 : decode b_Mpg_call 61 = .ok (.aload_n 0, 1) := by decide +kernel
theorem d_Mpg_call_62 : decode b_Mpg_call 62 = .ok (.getfield 228, 3) := by decide +kernel
theorem d_Mpg_call_65 : decode b_Mpg_call 65 = .ok (.iload_n 3, 1) := by decide +kernel
theorem d_Mpg_call_66 : decode b_Mpg_call 66 = .ok (.iload 4, 2) := by decide +kernel
theorem d_Mpg_call_68 : decode b_Mpg_call 68 = .ok (.iastore, 1) := by decide +kernel
theorem d_Mpg_call_69 : decode b_Mpg_call 69 = .ok (.iload 4, 2) := by decide +kernel
theorem d_Mpg_call_71 : decode b_Mpg_call 71 = .ok (.istore_n 3, 1) := by decide +kernel
theorem d_Mpg_call_72 : decode b_Mpg_call 72 = .ok (.aload_n 0, 1) := by decide +kernel
theorem d_Mpg_call_73 : decode b_Mpg_call 73 = .ok (.getfield 234, 3) := by decide +kernel
theorem d_Mpg_call_76 : decode b_Mpg_call 76 = .ok (.iload_n 2, 1) := by decide +kernel
theorem d_Mpg_call_77 : decode b_Mpg_call 77 = .ok (.aload_n 0, 1) := by decide +kernel
theorem d_Mpg_call_78 : decode b_Mpg_call 78 = .ok (.getfield 234, 3) := by decide +kernel
theorem d_Mpg_call_81 : decode b_Mpg_call 81 = .ok (.iload_n 2, 1) := by decide +kernel
theorem d_Mpg_call_82 : decode b_Mpg_call 82 = .ok (.iaload, 1) := by decide +kernel
theorem d_Mpg_call_83 : decode b_Mpg_call 83 = .ok (.iconst 1, 1) := by decide +kernel
theorem d_Mpg_call_84 : decode b_Mpg_call 84 = .ok (.aload_n 0, 1) := by decide +kernel
theorem d_Mpg_call_85 : decode b_Mpg_call 85 = .ok (.getfield 234, 3) := by decide +kernel
theorem d_Mpg_call_88 : decode b_Mpg_call 88 = .ok (.iload 4, 2) := by decide +kernel
theorem d_Mpg_call_90 : decode b_Mpg_call 90 = .ok (.iaload, 1) := by decide +kernel
theorem d_Mpg_call_91 : decode b_Mpg_call 91 = .ok (.iadd, 1) := by decide +kernel
theorem d_Mpg_call_92 : decode b_Mpg_call 92 = .ok (.invokestatic 409, 3) := by decide +kernel
theorem d_Mpg_call_95 : decode b_Mpg_call 95 = .ok (.iastore, 1) := by decide +kernel
theorem d_Mpg_call_96 : decode b_Mpg_call 96 = .ok (.goto (-50), 3) := by decide +kernel
theorem d_Mpg_call_99 : decode b_Mpg_call 99 = .ok (.aload_n 0, 1) := by decide +kernel
theorem d_Mpg_call_100 : decode b_Mpg_call 100 = .ok (.ldc 89, 2) := by decide +kernel
theorem d_Mpg_call_102 : decode b_Mpg_call 102 = .ok (.invokevirtual 439, 3) := by decide +kernel
theorem d_Mpg_call_105 : decode b_Mpg_call 105 = .ok (.iload_n 2, 1) := by decide +kernel
theorem d_Mpg_call_106 : decode b_Mpg_call 106 = .ok (.ireturn, 1) := by decide +kernel
theorem q_Mpg_call : px_y y_Mpg_call 1 := by unfold px_y; decide +kernel
set_option maxHeartbeats 4000000 in
set_option maxRecDepth 100000 in
theorem c_mp_call (l : Launch) (D : va_G) (cs : Nat → ClassId) (h : Nat) (r : Nat → Nat) (g : Nat → Nat → Option Nat) (tf : Nat → Int32) (ta : Nat → Nat → Int32) (cf : Nat → Int32) (ca : Nat → Nat → Int32) (ef : Nat → Int32) (ea : Nat → Nat → Int32) (xf : Nat → Int32) (xa : Nat → Nat → Int32) (pf : Nat → Int32) (na : Nat → Nat → Int32) (ma : Nat → Nat → Int32) (wa : Nat → Nat → Int32) (p0 : Int32) (lv : Nat) (g0 : 0 ≤ (pf 11).toInt) (g1 : (pf 11).toInt < (tf 6).toInt) (g2 : (tf 6).toInt ≤ 2049) (g3 : 0 ≤ (pf 12).toInt) (g4 : (pf 12).toInt ≤ 60) (g5 : 0 ≤ (pf 13).toInt) (g6 : (pf 13).toInt ≤ (pf 11).toInt + 20) (g7 : 0 ≤ (pf 26).toInt) (g8 : (pf 26).toInt ≤ (pf 12).toInt) (g9 : 61 ≤ (pf 12).toInt + (lv : Int)) (g10 : lv ≤ 61) (g11 : 0 ≤ p0.toInt) (g12 : p0.toInt < (tf 6).toInt) (g13 : so ta p0 = 1) (g14 : (pf 11).toInt + 1 < (tf 6).toInt) (hlf : l.flags = pinnedFlags ++ [noTraceFlag]) (htk : TkI tf ta) (hfs : FsI (tf 6).toInt (pf 13).toInt na) (hE : LvE l D cs lv) : ThI l y_Mpg_call b_Mpg_call 5 (.int) D cs (8 * lv + 14) (220 * lv + 540) [.ref h, .int p0] [wdP cs h r g tf ta pf na ma wa cf ca ef ea xf xa] (oX (fun A U H => (oN A U H) ∧ (oP A g U H)) [wdP cs h r g tf ta pf na ma wa cf ca ef ea xf xa]) "java/lang/IllegalArgumentException" (fun v ps => ∃ (pf' : Nat → Int32) (na' : Nat → Nat → Int32) (ma' : Nat → Nat → Int32) (wa' : Nat → Nat → Int32), (ps = [wdP cs h r g tf ta pf' na' ma' wa' cf ca ef ea xf xa]) ∧ ((pf 11).toInt + 1 ≤ (pf' 11).toInt) ∧ ((pf' 11).toInt < (tf 6).toInt) ∧ ((pf 13).toInt + 1 ≤ (pf' 13).toInt) ∧ ((pf' 13).toInt - (pf 13).toInt ≤ (pf' 11).toInt - (pf 11).toInt) ∧ (bp ta (pf 11) + 1 ≤ bp ta (pf' 11)) ∧ ((pf' 12).toInt = (pf 12).toInt) ∧ ((pf' 24).toInt = (pf 24).toInt) ∧ ((pf' 25).toInt = (pf 25).toInt) ∧ ((pf' 26).toInt = (pf 26).toInt) ∧ (FrB (pf 13).toInt na ma na' ma') ∧ (FrW (pf 26).toInt wa wa') ∧ (ExR ta (tf 6).toInt na' ma' v (pf 13).toInt (pf' 13).toInt (3 * (bp ta (pf' 11) - bp ta (pf 11))) (pf 12).toInt) ∧ (FsI (tf 6).toInt (pf' 13).toInt na')) (fun ps => ∃ (pf' : Nat → Int32) (na' : Nat → Nat → Int32) (ma' : Nat → Nat → Int32) (wa' : Nat → Nat → Int32), ps = [wdP cs h r g tf ta pf' na' ma' wa' cf ca ef ea xf xa] ∧ 0 ≤ (pf' 11).toInt ∧ (pf' 11).toInt + 1 ≤ (tf 6).toInt) := by
  refine th_enter (by decide) (Nat.le_of_ble_eq_true rfl) ?_
  intro p e s m below meth c A ls hAe S hr hlk hnm hA hT hX hw hl hne hadm
  have hl : lv_has ls 5 [(0, .ref h), (1, .int p0)] := hl
  have lp0 := Int32.le_toInt p0
  have up0 := Int32.toInt_lt p0
  have cst1 : (1 : Int32).toInt = 1 := rfl
  have cst3 : (3 : Int32).toInt = 3 := rfl
  have hX : (fun A U H => (oN A U H) ∧ (oP A g U H)) A s s.heap := by rw [hAe]; exact hX
  obtain ⟨hN, hP⟩ := hX
  have hZ := hP.1
  have hF0 := hP.2.1
  have hfb : FrB (pf 13).toInt na ma na ma := FrB.rf
  have hfw : FrW (pf 26).toInt wa wa := FrW.rf
  have J46 : ∀ (n_46 : Nat) (pf_46 : Nat → Int32) (na_46 : Nat → Nat → Int32) (ma_46 : Nat → Nat → Int32) (wa_46 : Nat → Nat → Int32) (x46_2 x46_3 : Int32) (H : Heap) (locs : List Loc) (ls : Array Slot), ((pf_46 24).toInt = (pf 24).toInt) → ((pf_46 25).toInt = (pf 25).toInt) → ((pf_46 26).toInt = (pf 26).toInt) → ((pf_46 12).toInt = (pf 12).toInt + 1) → ((pf 12).toInt < 60) → ((pf 11).toInt + 1 ≤ (pf_46 11).toInt) → ((pf_46 11).toInt < (tf 6).toInt) → (x46_2.toInt = (pf 13).toInt) → (x46_2.toInt < x46_3.toInt) → (x46_3.toInt < (pf_46 13).toInt) → ((pf_46 13).toInt - (pf 13).toInt ≤ (pf_46 11).toInt - (pf 11).toInt) → (bp ta (pf 11) + 1 ≤ bp ta (pf_46 11)) → (FrB (pf 13).toInt na ma na_46 ma_46) → (FrW (pf 26).toInt wa wa_46) → (NdK na_46 ma_46 x46_2 3 p0) → (DpN na_46 x46_2 2 (61 - (pf 12).toInt)) → (ArV ta (tf 6).toInt na_46 ma_46 x46_2 x46_3 (pf_46 13).toInt (3 * (bp ta (pf_46 11) - bp ta (pf 11)) - 1) (dp na_46 x46_2 + 59 - (pf 12).toInt)) → (FsI (tf 6).toInt (pf_46 13).toInt na_46) → (tf 6).toInt - (pf_46 11).toInt < (n_46 : Int) → pw D A s.heap H locs [wdP cs h r g tf ta pf_46 na_46 ma_46 wa_46 cf ca ef ea xf xa] → lv_has ls 5 [(0, .ref h), (1, .int p0), (2, .int x46_2), (3, .int x46_3)] → W p l e { frames := (8 * lv + 14), cells := 1, slots := 6, locals := (220 * lv + 540) } s m [.ref h, .int p0].toArray below meth c H locs 0 0 (tx_MQ below (thQi D (va_A ([wdP cs h r g tf ta pf na ma wa cf ca ef ea xf xa] : List va_W).flatten s.heap.size) "java/lang/IllegalArgumentException" (fun v ps => ∃ (pf' : Nat → Int32) (na' : Nat → Nat → Int32) (ma' : Nat → Nat → Int32) (wa' : Nat → Nat → Int32), (ps = [wdP cs h r g tf ta pf' na' ma' wa' cf ca ef ea xf xa]) ∧ ((pf 11).toInt + 1 ≤ (pf' 11).toInt) ∧ ((pf' 11).toInt < (tf 6).toInt) ∧ ((pf 13).toInt + 1 ≤ (pf' 13).toInt) ∧ ((pf' 13).toInt - (pf 13).toInt ≤ (pf' 11).toInt - (pf 11).toInt) ∧ (bp ta (pf 11) + 1 ≤ bp ta (pf' 11)) ∧ ((pf' 12).toInt = (pf 12).toInt) ∧ ((pf' 24).toInt = (pf 24).toInt) ∧ ((pf' 25).toInt = (pf 25).toInt) ∧ ((pf' 26).toInt = (pf 26).toInt) ∧ (FrB (pf 13).toInt na ma na' ma') ∧ (FrW (pf 26).toInt wa wa') ∧ (ExR ta (tf 6).toInt na' ma' v (pf 13).toInt (pf' 13).toInt (3 * (bp ta (pf' 11) - bp ta (pf 11))) (pf 12).toInt) ∧ (FsI (tf 6).toInt (pf' 13).toInt na')) (fun ps => ∃ (pf' : Nat → Int32) (na' : Nat → Nat → Int32) (ma' : Nat → Nat → Int32) (wa' : Nat → Nat → Int32), ps = [wdP cs h r g tf ta pf' na' ma' wa' cf ca ef ea xf xa] ∧ 0 ≤ (pf' 11).toInt ∧ (pf' 11).toInt + 1 ≤ (tf 6).toInt) s.heap.size (tot s.heap)) [.ref h, .int p0].toArray s 1 6 A) (F0 m 46 ls []) := by
    intro  n_46
    induction n_46 with
    | zero =>
      intro pf_46 na_46 ma_46 wa_46 x46_2 x46_3 H locs ls k46_0 k46_1 k46_2 k46_3 k46_4 k46_5 k46_6 k46_7 k46_8 k46_9 k46_10 k46_11 k46_12 k46_13 k46_14 k46_15 k46_16 k46_17 hm hw hl
      have lx46_2 := Int32.le_toInt x46_2
      have ux46_2 := Int32.toInt_lt x46_2
      have lx46_3 := Int32.le_toInt x46_3
      have ux46_3 := Int32.toInt_lt x46_3
      have hfb := k46_12
      have hfw := k46_13
      have hnk_x46_2 := k46_14
      have hd_x46_2 := k46_15.1
      have hdu_x46_2 := k46_15.2
      have har := k46_16
      have hfs := k46_17
      exact absurd hm (by first | with_reducible rfl | with_reducible assumption | omega)
    | succ n_46 ih46 =>
      intro pf_46 na_46 ma_46 wa_46 x46_2 x46_3 H locs ls k46_0 k46_1 k46_2 k46_3 k46_4 k46_5 k46_6 k46_7 k46_8 k46_9 k46_10 k46_11 k46_12 k46_13 k46_14 k46_15 k46_16 k46_17 hm hw hl
      have lx46_2 := Int32.le_toInt x46_2
      have ux46_2 := Int32.toInt_lt x46_2
      have lx46_3 := Int32.le_toInt x46_3
      have ux46_3 := Int32.toInt_lt x46_3
      have hfb := k46_12
      have hfw := k46_13
      have hnk_x46_2 := k46_14
      have hd_x46_2 := k46_15.1
      have hdu_x46_2 := k46_15.2
      have har := k46_16
      have hfs := k46_17
      refine lv_aload_n S.x S.b d_Mpg_call_46 rfl (lv_at hl 0 rfl) ?_
      obtain ⟨sk1, hRsk1, st2, sb3, hSsk1⟩ := oP_lit hP (k := 99) (tx := ",") (n := 1) (List.mem_of_getElem? (i := 41) rfl)
      refine va_ldcS S.x S.b S.own hRsk1 d_Mpg_call_47 ?_
      refine px_calli (pr := []) (px_runV (As := [.ref sk1]) (rest := []) S (c_mp_takes l D cs sk1 1 h r g tf ta na_46 ma_46 wa_46 cf ca ef ea xf xa pf_46   (show 0 ≤ (pf_46 11).toInt from by first | exact oz_06d7f15a5c k46_5 g0 | omega) (show (pf_46 11).toInt < (tf 6).toInt from by first | exact k46_6 | omega) (show (tf 6).toInt ≤ 2049 from by first | exact g2 | omega) (show 1 ≤ 100 from by first | decide | omega) htk _) hT (pr := []) (pcs := [wdP cs h r g tf ta pf_46 na_46 ma_46 wa_46 cf ca ef ea xf xa]) hw (oX_call (P := (fun A U H => (oP A g U H) ∧ (StS A sk1 1 U H))) (pr := []) (oG_and oG_P oG_Q) hw hA ⟨hP, ⟨_, _, hSsk1⟩⟩) (px_recv hT hw 0 0 rfl rfl rfl) m12_6 m12_3 m12_5 ms_9_3 m1_21 q_Mpg_takes ⟨show 4 + 1 ≤ (8 * lv + 14) from by first | with_reducible rfl | with_reducible assumption | omega, show 8 + (3 + 11) + 160 ≤ (220 * lv + 540) from by first | with_reducible rfl | with_reducible assumption | omega⟩ hl.1 rfl (Nat.le_of_ble_eq_true rfl) d_Mpg_call_49 ⟨Nat.le_of_ble_eq_true rfl, Nat.le_of_ble_eq_true rfl⟩) hw hA (fun v7 p6 H locs hp6 hw => ?_)
      obtain ⟨pf5, rfl, e8, e9, e10, e11, e12, e13, e14, e15, e16⟩ := hp6
      have e8 := z_rng e8
      have e9 : (pf5 11).toInt = (pf_46 11).toInt + v7.toInt := e9
      have e10 : (pf5 11).toInt < (tf 6).toInt := e10
      have e11 : bp ta (pf_46 11) + v7.toInt ≤ bp ta (pf5 11) := e11
      have e12 : (pf5 12).toInt = (pf_46 12).toInt := e12
      have e13 : (pf5 13).toInt = (pf_46 13).toInt := e13
      have e14 : (pf5 24).toInt = (pf_46 24).toInt := e14
      have e15 : (pf5 25).toInt = (pf_46 25).toInt := e15
      have e16 : (pf5 26).toInt = (pf_46 26).toInt := e16
      have hw : pw D A s.heap H locs [wdP cs h r g tf ta pf5 na_46 ma_46 wa_46 cf ca ef ea xf xa] := hw
      have lv7 := Int32.le_toInt v7
      have uv7 := Int32.toInt_lt v7
      refine lv_if_eq (tgt := 99) S.x S.b d_Mpg_call_52 (by decide) (fun c17 => ?_) (fun c17 => ?_)
      · have nc17 : v7.toInt = (0 : Int) := (i_eq (x := v7) (y := 0)).mp c17
        refine lv_aload_n S.x S.b d_Mpg_call_99 rfl (lv_at hl 0 rfl) ?_
        obtain ⟨sk18, hRsk18, st19, sb20, hSsk18⟩ := oP_lit hP (k := 89) (tx := ")") (n := 1) (List.mem_of_getElem? (i := 36) rfl)
        refine va_ldcS S.x S.b S.own hRsk18 d_Mpg_call_100 ?_
        refine th_callv (ps0 := [wdP cs h r g tf ta pf na ma wa cf ca ef ea xf xa]) (pr := []) (pcs := [wdP cs h r g tf ta pf5 na_46 ma_46 wa_46 cf ca ef ea xf xa]) (As := [.ref sk18]) (rest := []) (c_mp_closes l D cs sk18 1 h r g tf ta na_46 ma_46 wa_46 cf ca ef ea xf xa pf5   (show 0 ≤ (pf5 11).toInt from by first | exact oz_4f7430b7f2 e9 k46_5 e8.1 g0 | omega) (show (pf5 11).toInt < (tf 6).toInt from by first | exact e10 | omega) (show (tf 6).toInt ≤ 2049 from by first | exact g2 | omega) (show 1 ≤ (pf5 12).toInt from by first | exact oz_a564fc7457 e12 k46_3 g8 g7 | omega) (show (pf5 12).toInt ≤ 60 from by first | exact oz_1a76b13bbc e12 k46_3 k46_4 | omega) (show 1 ≤ 100 from by first | decide | omega) hlf htk) S hT hw (oX_call (P := (fun A U H => (oN A U H) ∧ (oP A g U H) ∧ (StS A sk18 1 U H))) (pr := []) (oG_and oG_N (oG_and oG_P oG_Q)) hw hA ⟨hN, hP, ⟨_, _, hSsk18⟩⟩) (px_recv hT hw 0 0 rfl rfl rfl) m12_53 m12_50 m12_52 ms_9_14 m1_21 q_Mpg_closes ⟨show 8 + 1 ≤ (8 * lv + 14) from by first | with_reducible rfl | with_reducible assumption | omega, show 8 + (2 + 11) + 280 ≤ (220 * lv + 540) from by first | with_reducible rfl | with_reducible assumption | omega⟩ hl.1 rfl (Nat.le_of_ble_eq_true rfl) d_Mpg_call_102 ⟨Nat.le_of_ble_eq_true rfl, Nat.le_of_ble_eq_true rfl⟩ hne hlk hA hAe (fun o t h => Or.inr h) ?_ (fun p23 H locs hp23 hw => ?_)
        · exact fun p1 H1 locs1 hp hw => by obtain ⟨pq1, pq2, pq3, pq4, rfl, hq1, hq2⟩ := hp; exact ⟨_, ⟨pq1, pq2, pq3, pq4, rfl, hq1, hq2⟩, hw⟩
        obtain ⟨pf22, rfl, e25, e26, e27, e28, e29, e30, e31, e32⟩ := hp23
        have e25 : (pf22 11).toInt = (pf5 11).toInt + 1 := e25
        have e26 : (pf22 11).toInt < (tf 6).toInt := e26
        have e27 : bp ta (pf5 11) + 1 ≤ bp ta (pf22 11) := e27
        have e28 : (pf22 12).toInt = (pf5 12).toInt - 1 := e28
        have e29 : (pf22 13).toInt = (pf5 13).toInt := e29
        have e30 : (pf22 24).toInt = (pf5 24).toInt := e30
        have e31 : (pf22 25).toInt = (pf5 25).toInt := e31
        have e32 : (pf22 26).toInt = (pf5 26).toInt := e32
        have hw : pw D A s.heap H locs [wdP cs h r g tf ta pf22 na_46 ma_46 wa_46 cf ca ef ea xf xa] := hw
        refine lv_iload_n S.x S.b d_Mpg_call_105 rfl (lv_at hl 2 rfl) ?_
        exact th_iret (v := x46_2) S hr rfl hlk hAe hw (⟨pf22, na_46, ma_46, wa_46, rfl, (show (pf 11).toInt + 1 ≤ (pf22 11).toInt from by first | exact oz_ee0c9de0fe k46_5 e25 e9 e8.1 | omega), (show (pf22 11).toInt < (tf 6).toInt from by first | exact e26 | omega), (show (pf 13).toInt + 1 ≤ (pf22 13).toInt from by first | exact oz_5a5863b7fe k46_7 e29 k46_8 k46_9 e13 | omega), (show (pf22 13).toInt - (pf 13).toInt ≤ (pf22 11).toInt - (pf 11).toInt from by first | exact oz_30a30b177f k46_10 e25 e29 e9 e13 e8.1 | omega), (show bp ta (pf 11) + 1 ≤ bp ta (pf22 11) from by first | exact oz_fe0e09c3b2 k46_11 e27 e11 e8.1 | omega), (show (pf22 12).toInt = (pf 12).toInt from by first | exact oz_e2f0d2d242 k46_3 e28 e12 | omega), (show (pf22 24).toInt = (pf 24).toInt from by first | exact oz_e13fc83238 k46_0 e30 e14 | omega), (show (pf22 25).toInt = (pf 25).toInt from by first | exact oz_e13fc83238 k46_1 e31 e15 | omega), (show (pf22 26).toInt = (pf 26).toInt from by first | exact oz_e13fc83238 k46_2 e32 e16 | omega), (show FrB (pf 13).toInt na ma na_46 ma_46 from hfb), (show FrW (pf 26).toInt wa wa_46 from hfw), (show ExR ta (tf 6).toInt na_46 ma_46 x46_2 (pf 13).toInt (pf22 13).toInt (3 * (bp ta (pf22 11) - bp ta (pf 11))) (pf 12).toInt from ⟨(arv_end har (by first | with_reducible rfl | with_reducible assumption | omega)).le (by first | with_reducible rfl | with_reducible assumption | omega) (by first | with_reducible rfl | with_reducible assumption | omega) (by first | with_reducible rfl | with_reducible assumption | omega) (by first | with_reducible rfl | with_reducible assumption | omega), by first | with_reducible rfl | with_reducible assumption | omega, by first | with_reducible rfl | with_reducible assumption | omega, by rw [hnk_x46_2.2.2.1]; decide, by rw [hnk_x46_2.2.2.2.2]; decide⟩), (show FsI (tf 6).toInt (pf22 13).toInt na_46 from (FsI.le hfs (by first | with_reducible rfl | with_reducible assumption | omega)))⟩) d_Mpg_call_106
      · have nc17 : ¬ v7.toInt = (0 : Int) := mt (i_eq (x := v7) (y := 0)).mpr c17
        refine lv_aload_n S.x S.b d_Mpg_call_55 rfl (lv_at hl 0 rfl) ?_
        refine th_calli (ps0 := [wdP cs h r g tf ta pf na ma wa cf ca ef ea xf xa]) (pr := []) (pcs := [wdP cs h r g tf ta pf5 na_46 ma_46 wa_46 cf ca ef ea xf xa]) (As := []) (rest := []) ((hE.go (by first | with_reducible rfl | with_reducible assumption | omega)).1 h r g tf ta cf ca ef ea xf xa pf5 na_46 ma_46 wa_46   (show 0 ≤ (pf5 11).toInt from by first | exact oz_4f7430b7f2 e9 k46_5 e8.1 g0 | omega) (show (pf5 11).toInt < (tf 6).toInt from by first | exact e10 | omega) (show (tf 6).toInt ≤ 2049 from by first | exact g2 | omega) (show 0 ≤ (pf5 12).toInt from by first | exact oz_aec871f755 e12 k46_3 g8 g7 | omega) (show (pf5 12).toInt ≤ 60 from by first | exact oz_1a76b13bbc e12 k46_3 k46_4 | omega) (show 0 ≤ (pf5 13).toInt from by first | exact oz_9c9d44701d e13 k46_9 g5 k46_7 k46_8 | omega) (show (pf5 13).toInt ≤ (pf5 11).toInt + 20 from by first | exact oz_c01acc94d8 e9 e13 k46_10 e8.1 g6 | omega) (show 0 ≤ (pf5 26).toInt from by first | exact oz_e2fef14871 e16 k46_2 g7 | omega) (show (pf5 26).toInt ≤ (pf5 12).toInt from by first | exact oz_fa9ebf953c e12 e16 k46_2 k46_3 g8 | omega) (show 61 ≤ (pf5 12).toInt + ((lv - 1 : Nat) : Int) from by first | with_reducible rfl | with_reducible assumption | omega) (show lv - 1 ≤ 61 from by first | with_reducible rfl | with_reducible assumption | omega) hlf htk (FsI.le (N' := (pf5 13).toInt) hfs (by first | with_reducible rfl | with_reducible assumption | omega))) S hT hw (oX_call (P := (fun A U H => (oN A U H) ∧ (oP A g U H))) (pr := []) (oG_and oG_N oG_P) hw hA ⟨hN, hP⟩) (px_recv hT hw 0 0 rfl rfl rfl) m12_38 m12_35 m12_37 ms_9_11 m1_21 q_Mpg_expression ⟨show (8 * (lv - 1) + 20) + 1 ≤ (8 * lv + 14) from by first | with_reducible rfl | with_reducible assumption | omega, show 8 + (7 + 11) + (220 * (lv - 1) + 720) ≤ (220 * lv + 540) from by first | with_reducible rfl | with_reducible assumption | omega⟩ hl.1 rfl (Nat.le_of_ble_eq_true rfl) d_Mpg_call_56 ⟨Nat.le_of_ble_eq_true rfl, Nat.le_of_ble_eq_true rfl⟩ hne hlk hA hAe (fun o t h => Or.inr h) ?_ (fun v42 p41 H locs hp41 hw => ?_)
        · exact fun p1 H1 locs1 hp hw => by obtain ⟨pq1, pq2, pq3, pq4, rfl, hq1, hq2⟩ := hp; exact ⟨_, ⟨pq1, pq2, pq3, pq4, rfl, hq1, hq2⟩, hw⟩
        obtain ⟨pf37, na38, ma39, wa40, rfl, e43, e44, e45, e46, e47, e48, e49, e50, e51, e52, e53, e54, e55⟩ := hp41
        have e43 : (pf5 11).toInt + 1 ≤ (pf37 11).toInt := e43
        have e44 : (pf37 11).toInt < (tf 6).toInt := e44
        have e45 : (pf5 13).toInt + 1 ≤ (pf37 13).toInt := e45
        have e46 : (pf37 13).toInt - (pf5 13).toInt ≤ (pf37 11).toInt - (pf5 11).toInt := e46
        have e47 : bp ta (pf5 11) + 1 ≤ bp ta (pf37 11) := e47
        have e48 : (pf37 12).toInt = (pf5 12).toInt := e48
        have e49 : (pf37 24).toInt = (pf5 24).toInt := e49
        have e50 : (pf37 25).toInt = (pf5 25).toInt := e50
        have e51 : (pf37 26).toInt = (pf5 26).toInt := e51
        have e52 : FrB (pf5 13).toInt na_46 ma_46 na38 ma39 := e52
        have har := har.kp (FrB.le e52 (by first | with_reducible rfl | with_reducible assumption | omega)) (by first | with_reducible rfl | with_reducible assumption | omega)
        have hnk_x46_2 := hnk_x46_2.kp e52 (by first | with_reducible rfl | with_reducible assumption | omega)
        have hd_x46_2 := dp_fb (x := x46_2) e52 (by first | with_reducible rfl | with_reducible assumption | omega) (by first | with_reducible rfl | with_reducible assumption | omega)
        have hfb := hfb.tr e52 (by first | with_reducible rfl | with_reducible assumption | omega)
        have e53 : FrW (pf5 26).toInt wa_46 wa40 := e53
        have hfw := hfw.tr e53 (by first | with_reducible rfl | with_reducible assumption | omega)
        have e54 : ExR ta (tf 6).toInt na38 ma39 v42 (pf5 13).toInt (pf37 13).toInt (3 * (bp ta (pf37 11) - bp ta (pf5 11))) (pf5 12).toInt := e54
        have ht_v42 := e54
        have hn_ht_v42 := ht_v42.num
        have e55 : FsI (tf 6).toInt (pf37 13).toInt na38 := e55
        have hfs := e55
        have hw : pw D A s.heap H locs [wdP cs h r g tf ta pf37 na38 ma39 wa40 cf ca ef ea xf xa] := hw
        have lv42 := Int32.le_toInt v42
        have uv42 := Int32.toInt_lt v42
        refine lv_istore (lv' := [(4, .int v42), (0, .ref h), (1, .int p0), (2, .int x46_2), (3, .int x46_3)]) S.x S.b d_Mpg_call_59 hl (by decide) rfl (fun ls hl => ?_)
        refine lv_aload_n S.x S.b d_Mpg_call_61 rfl (lv_at hl 1 rfl) ?_
        refine px_get S k_Mpg hT hw 0 0 21 (v := .ref (r 21)) rfl rfl rfl (by decide) m10_7 d_Mpg_call_62 ?_
        refine lv_iload_n S.x S.b d_Mpg_call_65 rfl (lv_at hl 4 rfl) ?_
        refine lv_iload S.x S.b d_Mpg_call_66 (lv_at hl 0 rfl) ?_
        refine px_iast S hT hw 0 17 (n := 2100) (f := (na38 21)) (x := x46_3) (y := v42) rfl gp_21 (vp_in_iff.mpr (by constructor <;> omega)) d_Mpg_call_68 (w' := wdP cs h r g tf ta pf37 (va_up na38 21 (upd (na38 21) x46_3.toNatClampNeg v42)) ma39 wa40 cf ca ef ea xf xa) (ps' := [wdP cs h r g tf ta pf37 (va_up na38 21 (upd (na38 21) x46_3.toNatClampNeg v42)) ma39 wa40 cf ca ef ea xf xa]) sp_21 rfl (fun H locs hw => ?_)
        refine lv_iload S.x S.b d_Mpg_call_69 (lv_at hl 0 rfl) ?_
        refine lv_istore_n (lv' := [(3, .int v42), (4, .int v42), (0, .ref h), (1, .int p0), (2, .int x46_2)]) S.x S.b d_Mpg_call_71 rfl hl (by decide) rfl (fun ls hl => ?_)
        refine lv_aload_n S.x S.b d_Mpg_call_72 rfl (lv_at hl 2 rfl) ?_
        refine px_get S k_Mpg hT hw 0 0 23 (v := .ref (r 23)) rfl rfl rfl (by decide) m10_11 d_Mpg_call_73 ?_
        refine lv_iload_n S.x S.b d_Mpg_call_76 rfl (lv_at hl 4 rfl) ?_
        refine lv_aload_n S.x S.b d_Mpg_call_77 rfl (lv_at hl 2 rfl) ?_
        refine px_get S k_Mpg hT hw 0 0 23 (v := .ref (r 23)) rfl rfl rfl (by decide) m10_11 d_Mpg_call_78 ?_
        refine lv_iload_n S.x S.b d_Mpg_call_81 rfl (lv_at hl 4 rfl) ?_
        refine px_iald S hT hw 0 19 (n := 2100) (f := ((va_up na38 21 (upd (na38 21) x46_3.toNatClampNeg v42)) 23)) rfl gp_23 (x := x46_2) (vp_in_iff.mpr (by first | exact oz_8a3d900f09 k46_7 g5 k46_8 g6 k46_9 k46_10 e9 g2 e8.1 e43 e44 | (constructor <;> omega))) d_Mpg_call_82 ?_
        refine lv_topi (fun z56 ez56 => ?_)
        have lz56 := Int32.le_toInt z56
        have uz56 := Int32.toInt_lt z56
        have rz56 : z56.toInt = dp na38 x46_2 := by have q9 : z56.toInt = dp (va_up na38 21 (upd (na38 21) x46_3.toNatClampNeg v42)) x46_2 := (by rw [ez56]; rfl); rw [dp_un (by decide)] at q9; exact q9
        refine lv_iconst (v := 1) S.x S.b d_Mpg_call_83 (by decide) ?_
        refine lv_aload_n S.x S.b d_Mpg_call_84 rfl (lv_at hl 2 rfl) ?_
        refine px_get S k_Mpg hT hw 0 0 23 (v := .ref (r 23)) rfl rfl rfl (by decide) m10_11 d_Mpg_call_85 ?_
        refine lv_iload S.x S.b d_Mpg_call_88 (lv_at hl 1 rfl) ?_
        refine px_iald S hT hw 0 19 (n := 2100) (f := ((va_up na38 21 (upd (na38 21) x46_3.toNatClampNeg v42)) 23)) rfl gp_23 (x := v42) (vp_in_iff.mpr (by first | exact oz_44361b87dd hn_ht_v42.1 e13 k46_9 g5 k46_7 k46_8 hn_ht_v42.2.1 e46 k46_10 e9 e44 g2 g6 e8.1 | (constructor <;> omega))) d_Mpg_call_90 ?_
        refine lv_topi (fun z57 ez57 => ?_)
        have lz57 := Int32.le_toInt z57
        have uz57 := Int32.toInt_lt z57
        have rz57 : z57.toInt = dp na38 v42 := by have q9 : z57.toInt = dp (va_up na38 21 (upd (na38 21) x46_3.toNatClampNeg v42)) v42 := (by rw [ez57]; rfl); rw [dp_un (by decide)] at q9; exact q9
        refine lv_iadd S.x S.b d_Mpg_call_91 ?_
        refine lv_topi (fun z58 ez58 => ?_)
        have tz58 : z58.toInt = ((1 : Int) + z57.toInt + 2147483648) % 4294967296 - 2147483648 := by rw [ez58]; exact i_add 1 z57
        have lz58 := Int32.le_toInt z58
        have uz58 := Int32.toInt_lt z58
        try replace tz58 : z58.toInt = (1 : Int) + z57.toInt := by omega
        refine px_calli (pr := [wdP cs h r g tf ta pf37 (va_up na38 21 (upd (na38 21) x46_3.toNatClampNeg v42)) ma39 wa40 cf ca ef ea xf xa]) (px_runS (As := [.int z56, .int z58]) (rest := [.int x46_2, .ref (r 23)]) S (c_mp_deeper l D cs  z56 z58   _) hT (pr := [wdP cs h r g tf ta pf37 (va_up na38 21 (upd (na38 21) x46_3.toNatClampNeg v42)) ma39 wa40 cf ca ef ea xf xa]) (pcs := []) hw px_X.tt m12_49 m12_47 m12_48 m1_21 q_Mpg_deeper ⟨show 0 + 1 ≤ (8 * lv + 14) from by first | with_reducible rfl | with_reducible assumption | omega, show 8 + (2 + 11) + 0 ≤ (220 * lv + 540) from by first | with_reducible rfl | with_reducible assumption | omega⟩ hl.1 rfl (Nat.le_of_ble_eq_true rfl) d_Mpg_call_92 ⟨Nat.le_of_ble_eq_true rfl, Nat.le_of_ble_eq_true rfl⟩) hw hA (fun v60 p59 H locs hp59 hw => ?_)
        obtain ⟨rfl, e61, e62, e63⟩ := hp59
        have e61 : z56.toInt ≤ v60.toInt := e61
        have e62 : z58.toInt ≤ v60.toInt := e62
        have e63 : v60.toInt = z56.toInt ∨ v60.toInt = z58.toInt := e63
        have hw : pw D A s.heap H locs [wdP cs h r g tf ta pf37 (va_up na38 21 (upd (na38 21) x46_3.toNatClampNeg v42)) ma39 wa40 cf ca ef ea xf xa] := hw
        have lv60 := Int32.le_toInt v60
        have uv60 := Int32.toInt_lt v60
        refine px_iast S hT hw 0 19 (n := 2100) (f := ((va_up na38 21 (upd (na38 21) x46_3.toNatClampNeg v42)) 23)) (x := x46_2) (y := v60) rfl gp_23 (vp_in_iff.mpr (by constructor <;> omega)) d_Mpg_call_95 (w' := wdP cs h r g tf ta pf37 (va_up (va_up na38 21 (upd (na38 21) x46_3.toNatClampNeg v42)) 23 (upd ((va_up na38 21 (upd (na38 21) x46_3.toNatClampNeg v42)) 23) x46_2.toNatClampNeg v60)) ma39 wa40 cf ca ef ea xf xa) (ps' := [wdP cs h r g tf ta pf37 (va_up (va_up na38 21 (upd (na38 21) x46_3.toNatClampNeg v42)) 23 (upd ((va_up na38 21 (upd (na38 21) x46_3.toNatClampNeg v42)) 23) x46_2.toNatClampNeg v60)) ma39 wa40 cf ca ef ea xf xa]) sp_23 rfl (fun H locs hw => ?_)
        refine lv_goto (tgt := 46) S.x S.b d_Mpg_call_96 (by decide) ?_
        exact ih46 pf37 (va_up (va_up na38 21 (upd (na38 21) x46_3.toNatClampNeg v42)) 23 (upd ((va_up na38 21 (upd (na38 21) x46_3.toNatClampNeg v42)) 23) x46_2.toNatClampNeg v60)) ma39 wa40 x46_2 v42 _ _ ls (show (pf37 24).toInt = (pf 24).toInt from by first | exact oz_e13fc83238 k46_0 e49 e14 | omega) (show (pf37 25).toInt = (pf 25).toInt from by first | exact oz_e13fc83238 k46_1 e50 e15 | omega) (show (pf37 26).toInt = (pf 26).toInt from by first | exact oz_e13fc83238 k46_2 e51 e16 | omega) (show (pf37 12).toInt = (pf 12).toInt + 1 from by first | exact oz_706b28522e k46_3 e48 e12 | omega) (show (pf 12).toInt < 60 from by first | exact k46_4 | omega) (show (pf 11).toInt + 1 ≤ (pf37 11).toInt from by first | exact oz_60a7c6baef k46_5 e43 e9 e8.1 | omega) (show (pf37 11).toInt < (tf 6).toInt from by first | exact e44 | omega) (show x46_2.toInt = (pf 13).toInt from by first | exact k46_7 | omega) (show x46_2.toInt < v42.toInt from by first | exact oz_fe47d4cd2a k46_8 hn_ht_v42.1 k46_9 e13 | omega) (show v42.toInt < (pf37 13).toInt from by first | exact oz_7fe81129bf hn_ht_v42.2.1 | omega) (show (pf37 13).toInt - (pf 13).toInt ≤ (pf37 11).toInt - (pf 11).toInt from by first | exact oz_69e545e602 k46_10 e46 e9 e13 e8.1 | omega) (show bp ta (pf 11) + 1 ≤ bp ta (pf37 11) from by first | exact oz_fe0e09c3b2 k46_11 e47 e11 e8.1 | omega) (show FrB (pf 13).toInt na ma (va_up (va_up na38 21 (upd (na38 21) x46_3.toNatClampNeg v42)) 23 (upd ((va_up na38 21 (upd (na38 21) x46_3.toNatClampNeg v42)) 23) x46_2.toNatClampNeg v60)) ma39 from (FrB.un (FrB.un hfb (by first | with_reducible rfl | with_reducible assumption | omega) (by first | with_reducible rfl | with_reducible assumption | omega)) (by first | with_reducible rfl | with_reducible assumption | omega) (by first | with_reducible rfl | with_reducible assumption | omega))) (show FrW (pf 26).toInt wa wa40 from hfw) (show NdK (va_up (va_up na38 21 (upd (na38 21) x46_3.toNatClampNeg v42)) 23 (upd ((va_up na38 21 (upd (na38 21) x46_3.toNatClampNeg v42)) 23) x46_2.toNatClampNeg v60)) ma39 x46_2 3 p0 from ⟨(by rw [va_up_n (by decide), va_up_n (by decide)]; exact hnk_x46_2.1), (by rw [va_up_n (by decide), va_up_n (by decide)]; exact hnk_x46_2.2.1), (by rw [va_up_n (by decide), va_up_s, pk_un (nat_ne (by first | with_reducible rfl | with_reducible assumption | omega) (by first | with_reducible rfl | with_reducible assumption | omega) (by first | with_reducible rfl | with_reducible assumption | omega))]; exact hnk_x46_2.2.2.1), hnk_x46_2.2.2.2.1, (by exact hnk_x46_2.2.2.2.2)⟩) (show DpN (va_up (va_up na38 21 (upd (na38 21) x46_3.toNatClampNeg v42)) 23 (upd ((va_up na38 21 (upd (na38 21) x46_3.toNatClampNeg v42)) 23) x46_2.toNatClampNeg v60)) x46_2 2 (61 - (pf 12).toInt) from (by unfold DpN; rw [dp_us]; constructor <;> omega)) (show ArV ta (tf 6).toInt (va_up (va_up na38 21 (upd (na38 21) x46_3.toNatClampNeg v42)) 23 (upd ((va_up na38 21 (upd (na38 21) x46_3.toNatClampNeg v42)) 23) x46_2.toNatClampNeg v60)) ma39 x46_2 v42 (pf37 13).toInt (3 * (bp ta (pf37 11) - bp ta (pf 11)) - 1) (dp (va_up (va_up na38 21 (upd (na38 21) x46_3.toNatClampNeg v42)) 23 (upd ((va_up na38 21 (upd (na38 21) x46_3.toNatClampNeg v42)) 23) x46_2.toNatClampNeg v60)) x46_2 + 59 - (pf 12).toInt) from (ArV.le (arv_s (hi' := 0) (Dm := v60.toInt + 59 - (pf 12).toInt) (ArV.le har (by first | with_reducible rfl | with_reducible assumption | omega) (Int.le_refl _) (by first | with_reducible rfl | with_reducible assumption | omega)) (ht_v42.1.le (Int.le_refl _) (Int.le_refl _) (Int.le_refl _) (by first | with_reducible rfl | with_reducible assumption | omega)) (by first | with_reducible rfl | with_reducible assumption | omega) (by first | with_reducible rfl | with_reducible assumption | omega) ht_v42.2.2.2.1 (fun y hy j => ⟨rfl, fun hx => by rw [up_far hy, up_far hx]⟩) (fun j hj => by rw [up_far (nat_ne (by first | with_reducible rfl | with_reducible assumption | omega) (by first | with_reducible rfl | with_reducible assumption | omega) (by first | with_reducible rfl | with_reducible assumption | omega)), va_up_n hj]) (by rw [va_up_n (by decide), va_up_s, pk_us]) ⟨(by rw [va_up_n (by decide), va_up_n (by decide)]), (by rw [va_up_n (by decide), va_up_n (by decide)]), (by rw [va_up_n (by decide), va_up_n (by decide)])⟩) (by first | with_reducible rfl | with_reducible assumption | omega) (by first | with_reducible rfl | with_reducible assumption | omega) (by rw [dp_us]; omega))) (show FsI (tf 6).toInt (pf37 13).toInt (va_up (va_up na38 21 (upd (na38 21) x46_3.toNatClampNeg v42)) 23 (upd ((va_up na38 21 (upd (na38 21) x46_3.toNatClampNeg v42)) 23) x46_2.toNatClampNeg v60)) from (FsI.le (FsI.un (FsI.un hfs (by decide)) (by decide)) (by first | with_reducible rfl | with_reducible assumption | omega))) (show (tf 6).toInt - (pf37 11).toInt < (n_46 : Int) from by first | exact oz_1bf882f997 hm e43 e9 e8.1 | omega) hw (lv_sub hl [2, 3, 4, 0] rfl)
  refine lv_aload_n S.x S.b d_Mpg_call_0 rfl (lv_at hl 0 rfl) ?_
  refine lv_iconst (v := 3) S.x S.b d_Mpg_call_1 (by decide) ?_
  refine lv_iload_n S.x S.b d_Mpg_call_2 rfl (lv_at hl 1 rfl) ?_
  refine px_calli (pr := []) (px_runV (As := [.int 3, .int p0]) (rest := []) S (c_mp_make l D cs h r g tf ta wa cf ca ef ea xf xa pf na ma 3 p0  (show 0 ≤ (pf 13).toInt from by first | exact g5 | omega) (show (pf 13).toInt < 2100 from by first | exact oz_95fb5198dc g6 g14 g2 | omega) _) hT (pr := []) (pcs := [wdP cs h r g tf ta pf na ma wa cf ca ef ea xf xa]) hw px_X.tt (px_recv hT hw 0 0 rfl rfl rfl) m11_209 m11_206 m11_208 ms_8_12 m1_21 q_Mpg_make ⟨show 0 + 1 ≤ (8 * lv + 14) from by first | with_reducible rfl | with_reducible assumption | omega, show 8 + (3 + 11) + 0 ≤ (220 * lv + 540) from by first | with_reducible rfl | with_reducible assumption | omega⟩ hl.1 rfl (Nat.le_of_ble_eq_true rfl) d_Mpg_call_3 ⟨Nat.le_of_ble_eq_true rfl, Nat.le_of_ble_eq_true rfl⟩) hw hA (fun v71 p70 H locs hp70 hw => ?_)
  obtain ⟨pf67, na68, ma69, rfl, e72, e73, e74, e75, e76, e77, e78, e79⟩ := hp70
  have e72 : v71.toInt = (pf 13).toInt := e72
  have e73 : (pf67 13).toInt = (pf 13).toInt + 1 := e73
  have e74 : (pf67 11).toInt = (pf 11).toInt := e74
  have e75 : (pf67 12).toInt = (pf 12).toInt := e75
  have e76 : (pf67 24).toInt = (pf 24).toInt := e76
  have e77 : (pf67 25).toInt = (pf 25).toInt := e77
  have e78 : (pf67 26).toInt = (pf 26).toInt := e78
  have e79 : MkN na ma na68 ma69 v71 (3 : Int32) p0 := e79
  obtain ⟨qb801, qb802, qb803, qb804⟩ := tk_eq (ta := ta) (x := (pf67 11)) (y := (pf 11)) (by first | with_reducible rfl | with_reducible assumption | omega)
  have hmk_v71 := e79
  have hfm_v71 := MkN.frb (b := v71.toInt) hmk_v71 (by first | with_reducible rfl | with_reducible assumption | omega) (by first | with_reducible rfl | with_reducible assumption | omega)
  have hfs := FsI.mk hfs hmk_v71 (by first | with_reducible rfl | with_reducible assumption | omega) (by first | with_reducible rfl | with_reducible assumption | omega) (by first | with_reducible rfl | with_reducible assumption | omega) (by first | with_reducible rfl | with_reducible assumption | omega)
  have hfb := hfb.tr hfm_v71 (by first | with_reducible rfl | with_reducible assumption | omega)
  have hnk_v71 := hmk_v71.nk (by decide) (by decide) (by first | with_reducible rfl | with_reducible assumption | omega)
  have hdn_v71 := dp_nk hmk_v71
  have hw : pw D A s.heap H locs [wdP cs h r g tf ta pf67 na68 ma69 wa cf ca ef ea xf xa] := hw
  have lv71 := Int32.le_toInt v71
  have uv71 := Int32.toInt_lt v71
  refine lv_istore_n (lv' := [(2, .int v71), (0, .ref h), (1, .int p0)]) S.x S.b d_Mpg_call_6 rfl hl (by decide) rfl (fun ls hl => ?_)
  refine lv_aload_n S.x S.b d_Mpg_call_7 rfl (lv_at hl 1 rfl) ?_
  refine th_callv (ps0 := [wdP cs h r g tf ta pf na ma wa cf ca ef ea xf xa]) (pr := []) (pcs := [wdP cs h r g tf ta pf67 na68 ma69 wa cf ca ef ea xf xa]) (As := []) (rest := []) (c_mp_opens l D cs h r g tf ta na68 ma69 wa cf ca ef ea xf xa pf67   (show 0 ≤ (pf67 11).toInt from by first | exact oz_f3ebed1ad0 e74 g0 | omega) (show (pf67 11).toInt < (tf 6).toInt from by first | exact oz_0f9fb0345d g14 e74 | omega) (show (tf 6).toInt ≤ 2049 from by first | exact g2 | omega) (show (pf67 11).toInt + 1 < (tf 6).toInt from by first | exact oz_4b6b8b2f72 g14 e74 | omega) (show 0 ≤ (pf67 12).toInt from by first | exact oz_f3ebed1ad0 e75 g3 | omega) (show (pf67 12).toInt ≤ 60 from by first | exact oz_a3db38fa3c e75 g4 | omega) hlf htk) S hT hw (oX_call (P := (fun A U H => (oN A U H) ∧ (oP A g U H))) (pr := []) (oG_and oG_N oG_P) hw hA ⟨hN, hP⟩) (px_recv hT hw 0 0 rfl rfl rfl) m11_238 m11_235 m11_237 ms_9_1 m1_21 q_Mpg_opens ⟨show 7 + 1 ≤ (8 * lv + 14) from by first | with_reducible rfl | with_reducible assumption | omega, show 8 + (1 + 11) + 150 ≤ (220 * lv + 540) from by first | with_reducible rfl | with_reducible assumption | omega⟩ hl.1 rfl (Nat.le_of_ble_eq_true rfl) d_Mpg_call_8 ⟨Nat.le_of_ble_eq_true rfl, Nat.le_of_ble_eq_true rfl⟩ hne hlk hA hAe (fun o t h => Or.inr h) ?_ (fun p83 H locs hp83 hw => ?_)
  · exact fun p1 H1 locs1 hp hw => by obtain ⟨pq1, pq2, pq3, pq4, rfl, hq1, hq2⟩ := hp; exact ⟨_, ⟨pq1, pq2, pq3, pq4, rfl, hq1, hq2⟩, hw⟩
  obtain ⟨pf82, rfl, e85, e86, e87, e88, e89, e90, e91, e92, e93, e94⟩ := hp83
  have e85 : (pf82 11).toInt = (pf67 11).toInt + 1 := e85
  have e86 : (pf82 11).toInt < (tf 6).toInt := e86
  have e87 : bp ta (pf67 11) + sz ta (pf67 11) ≤ bp ta (pf82 11) := e87
  have e88 : 1 ≤ sz ta (pf67 11) := e88
  have e89 : (pf82 12).toInt = (pf67 12).toInt + 1 := e89
  have e90 : (pf67 12).toInt < 60 := e90
  have e91 : (pf82 13).toInt = (pf67 13).toInt := e91
  have e92 : (pf82 24).toInt = (pf67 24).toInt := e92
  have e93 : (pf82 25).toInt = (pf67 25).toInt := e93
  have e94 : (pf82 26).toInt = (pf67 26).toInt := e94
  have hw : pw D A s.heap H locs [wdP cs h r g tf ta pf82 na68 ma69 wa cf ca ef ea xf xa] := hw
  refine lv_aload_n S.x S.b d_Mpg_call_11 rfl (lv_at hl 1 rfl) ?_
  obtain ⟨sk95, hRsk95, st96, sb97, hSsk95⟩ := oP_lit hP (k := 89) (tx := ")") (n := 1) (List.mem_of_getElem? (i := 36) rfl)
  refine va_ldcS S.x S.b S.own hRsk95 d_Mpg_call_12 ?_
  refine px_calli (pr := []) (px_runV (As := [.ref sk95]) (rest := []) S (c_mp_is l D cs sk95 1 h r g tf ta pf82 na68 ma69 wa cf ca ef ea xf xa   (show 0 ≤ (pf82 11).toInt from by first | exact oz_f3f97b7517 e85 e74 g0 | omega) (show (pf82 11).toInt < (tf 6).toInt from by first | exact e86 | omega) (show (tf 6).toInt ≤ 2049 from by first | exact g2 | omega) (show 1 ≤ 100 from by first | decide | omega) htk _) hT (pr := []) (pcs := [wdP cs h r g tf ta pf82 na68 ma69 wa cf ca ef ea xf xa]) hw (oX_call (P := (fun A U H => (oP A g U H) ∧ (StS A sk95 1 U H))) (pr := []) (oG_and oG_P oG_Q) hw hA ⟨hP, ⟨_, _, hSsk95⟩⟩) (px_recv hT hw 0 0 rfl rfl rfl) m11_217 m11_214 m11_216 ms_8_14 m1_21 q_Mpg_is ⟨show 3 + 1 ≤ (8 * lv + 14) from by first | with_reducible rfl | with_reducible assumption | omega, show 8 + (2 + 11) + 120 ≤ (220 * lv + 540) from by first | with_reducible rfl | with_reducible assumption | omega⟩ hl.1 rfl (Nat.le_of_ble_eq_true rfl) d_Mpg_call_14 ⟨Nat.le_of_ble_eq_true rfl, Nat.le_of_ble_eq_true rfl⟩) hw hA (fun v99 p98 H locs hp98 hw => ?_)
  obtain ⟨rfl, e100, e101⟩ := hp98
  have e100 := z_rng e100
  have e101 : v99.toInt = 1 → (pf82 11).toInt + 1 < (tf 6).toInt ∧ so ta (pf82 11) = 5 := e101
  have hw : pw D A s.heap H locs [wdP cs h r g tf ta pf82 na68 ma69 wa cf ca ef ea xf xa] := hw
  have lv99 := Int32.le_toInt v99
  have uv99 := Int32.toInt_lt v99
  refine lv_if_ne (tgt := 99) S.x S.b d_Mpg_call_17 (by decide) (fun c102 => ?_) (fun c102 => ?_)
  · have nc102 : ¬ v99.toInt = (0 : Int) := mt (i_eq (x := v99) (y := 0)).mpr c102
    refine lv_aload_n S.x S.b d_Mpg_call_99 rfl (lv_at hl 1 rfl) ?_
    obtain ⟨sk103, hRsk103, st104, sb105, hSsk103⟩ := oP_lit hP (k := 89) (tx := ")") (n := 1) (List.mem_of_getElem? (i := 36) rfl)
    refine va_ldcS S.x S.b S.own hRsk103 d_Mpg_call_100 ?_
    refine th_callv (ps0 := [wdP cs h r g tf ta pf na ma wa cf ca ef ea xf xa]) (pr := []) (pcs := [wdP cs h r g tf ta pf82 na68 ma69 wa cf ca ef ea xf xa]) (As := [.ref sk103]) (rest := []) (c_mp_closes l D cs sk103 1 h r g tf ta na68 ma69 wa cf ca ef ea xf xa pf82   (show 0 ≤ (pf82 11).toInt from by first | exact oz_f3f97b7517 e85 e74 g0 | omega) (show (pf82 11).toInt < (tf 6).toInt from by first | exact e86 | omega) (show (tf 6).toInt ≤ 2049 from by first | exact g2 | omega) (show 1 ≤ (pf82 12).toInt from by first | exact oz_7458231eca e89 e75 g8 g7 | omega) (show (pf82 12).toInt ≤ 60 from by first | exact oz_6710fd9021 e89 e90 | omega) (show 1 ≤ 100 from by first | decide | omega) hlf htk) S hT hw (oX_call (P := (fun A U H => (oN A U H) ∧ (oP A g U H) ∧ (StS A sk103 1 U H))) (pr := []) (oG_and oG_N (oG_and oG_P oG_Q)) hw hA ⟨hN, hP, ⟨_, _, hSsk103⟩⟩) (px_recv hT hw 0 0 rfl rfl rfl) m12_53 m12_50 m12_52 ms_9_14 m1_21 q_Mpg_closes ⟨show 8 + 1 ≤ (8 * lv + 14) from by first | with_reducible rfl | with_reducible assumption | omega, show 8 + (2 + 11) + 280 ≤ (220 * lv + 540) from by first | with_reducible rfl | with_reducible assumption | omega⟩ hl.1 rfl (Nat.le_of_ble_eq_true rfl) d_Mpg_call_102 ⟨Nat.le_of_ble_eq_true rfl, Nat.le_of_ble_eq_true rfl⟩ hne hlk hA hAe (fun o t h => Or.inr h) ?_ (fun p108 H locs hp108 hw => ?_)
    · exact fun p1 H1 locs1 hp hw => by obtain ⟨pq1, pq2, pq3, pq4, rfl, hq1, hq2⟩ := hp; exact ⟨_, ⟨pq1, pq2, pq3, pq4, rfl, hq1, hq2⟩, hw⟩
    obtain ⟨pf107, rfl, e110, e111, e112, e113, e114, e115, e116, e117⟩ := hp108
    have e110 : (pf107 11).toInt = (pf82 11).toInt + 1 := e110
    have e111 : (pf107 11).toInt < (tf 6).toInt := e111
    have e112 : bp ta (pf82 11) + 1 ≤ bp ta (pf107 11) := e112
    have e113 : (pf107 12).toInt = (pf82 12).toInt - 1 := e113
    have e114 : (pf107 13).toInt = (pf82 13).toInt := e114
    have e115 : (pf107 24).toInt = (pf82 24).toInt := e115
    have e116 : (pf107 25).toInt = (pf82 25).toInt := e116
    have e117 : (pf107 26).toInt = (pf82 26).toInt := e117
    have hw : pw D A s.heap H locs [wdP cs h r g tf ta pf107 na68 ma69 wa cf ca ef ea xf xa] := hw
    refine lv_iload_n S.x S.b d_Mpg_call_105 rfl (lv_at hl 0 rfl) ?_
    exact th_iret (v := v71) S hr rfl hlk hAe hw (⟨pf107, na68, ma69, wa, rfl, (show (pf 11).toInt + 1 ≤ (pf107 11).toInt from by first | exact oz_d676ac8af5 e74 e110 e85 | omega), (show (pf107 11).toInt < (tf 6).toInt from by first | exact e111 | omega), (show (pf 13).toInt + 1 ≤ (pf107 13).toInt from by first | exact oz_f8d6336c5f e73 e114 e91 | omega), (show (pf107 13).toInt - (pf 13).toInt ≤ (pf107 11).toInt - (pf 11).toInt from by first | exact oz_460844f3e7 e73 e74 e110 e114 e85 e91 | omega), (show bp ta (pf 11) + 1 ≤ bp ta (pf107 11) from by first | exact oz_5511bc8943 qb801 e112 e87 e88 | omega), (show (pf107 12).toInt = (pf 12).toInt from by first | exact oz_f93f789092 e75 e113 e89 | omega), (show (pf107 24).toInt = (pf 24).toInt from by first | exact oz_e13fc83238 e76 e115 e92 | omega), (show (pf107 25).toInt = (pf 25).toInt from by first | exact oz_e13fc83238 e77 e116 e93 | omega), (show (pf107 26).toInt = (pf 26).toInt from by first | exact oz_e13fc83238 e78 e117 e94 | omega), (show FrB (pf 13).toInt na ma na68 ma69 from hfb), (show FrW (pf 26).toInt wa wa from hfw), (show ExR ta (tf 6).toInt na68 ma69 v71 (pf 13).toInt (pf107 13).toInt (3 * (bp ta (pf107 11) - bp ta (pf 11))) (pf 12).toInt from (exr_call0 hmk_v71 (by first | with_reducible rfl | with_reducible assumption | omega) ⟨by first | with_reducible rfl | with_reducible assumption | omega, by first | with_reducible rfl | with_reducible assumption | omega⟩ (by first | with_reducible rfl | with_reducible assumption | omega) (by first | with_reducible rfl | with_reducible assumption | omega) (by first | with_reducible rfl | with_reducible assumption | omega) (by first | with_reducible rfl | with_reducible assumption | omega) (by first | with_reducible rfl | with_reducible assumption | omega))), (show FsI (tf 6).toInt (pf107 13).toInt na68 from (FsI.le hfs (by first | with_reducible rfl | with_reducible assumption | omega)))⟩) d_Mpg_call_106
  · have nc102 : v99.toInt = (0 : Int) := (i_eq (x := v99) (y := 0)).mp c102
    refine lv_aload_n S.x S.b d_Mpg_call_20 rfl (lv_at hl 1 rfl) ?_
    refine th_calli (ps0 := [wdP cs h r g tf ta pf na ma wa cf ca ef ea xf xa]) (pr := []) (pcs := [wdP cs h r g tf ta pf82 na68 ma69 wa cf ca ef ea xf xa]) (As := []) (rest := []) ((hE.go (by first | with_reducible rfl | with_reducible assumption | omega)).1 h r g tf ta cf ca ef ea xf xa pf82 na68 ma69 wa   (show 0 ≤ (pf82 11).toInt from by first | exact oz_f3f97b7517 e85 e74 g0 | omega) (show (pf82 11).toInt < (tf 6).toInt from by first | exact e86 | omega) (show (tf 6).toInt ≤ 2049 from by first | exact g2 | omega) (show 0 ≤ (pf82 12).toInt from by first | exact oz_87be06313f e89 e75 g8 g7 | omega) (show (pf82 12).toInt ≤ 60 from by first | exact oz_6710fd9021 e89 e90 | omega) (show 0 ≤ (pf82 13).toInt from by first | exact oz_78ad3463af e91 e73 g5 | omega) (show (pf82 13).toInt ≤ (pf82 11).toInt + 20 from by first | exact oz_1d04d0d44b e85 e91 e73 e74 g6 | omega) (show 0 ≤ (pf82 26).toInt from by first | exact oz_e2fef14871 e94 e78 g7 | omega) (show (pf82 26).toInt ≤ (pf82 12).toInt from by first | exact oz_e919e29b70 e89 e94 e75 e78 g8 | omega) (show 61 ≤ (pf82 12).toInt + ((lv - 1 : Nat) : Int) from by first | with_reducible rfl | with_reducible assumption | omega) (show lv - 1 ≤ 61 from by first | with_reducible rfl | with_reducible assumption | omega) hlf htk (FsI.le (N' := (pf82 13).toInt) hfs (by first | with_reducible rfl | with_reducible assumption | omega))) S hT hw (oX_call (P := (fun A U H => (oN A U H) ∧ (oP A g U H))) (pr := []) (oG_and oG_N oG_P) hw hA ⟨hN, hP⟩) (px_recv hT hw 0 0 rfl rfl rfl) m12_38 m12_35 m12_37 ms_9_11 m1_21 q_Mpg_expression ⟨show (8 * (lv - 1) + 20) + 1 ≤ (8 * lv + 14) from by first | with_reducible rfl | with_reducible assumption | omega, show 8 + (7 + 11) + (220 * (lv - 1) + 720) ≤ (220 * lv + 540) from by first | with_reducible rfl | with_reducible assumption | omega⟩ hl.1 rfl (Nat.le_of_ble_eq_true rfl) d_Mpg_call_21 ⟨Nat.le_of_ble_eq_true rfl, Nat.le_of_ble_eq_true rfl⟩ hne hlk hA hAe (fun o t h => Or.inr h) ?_ (fun v127 p126 H locs hp126 hw => ?_)
    · exact fun p1 H1 locs1 hp hw => by obtain ⟨pq1, pq2, pq3, pq4, rfl, hq1, hq2⟩ := hp; exact ⟨_, ⟨pq1, pq2, pq3, pq4, rfl, hq1, hq2⟩, hw⟩
    obtain ⟨pf122, na123, ma124, wa125, rfl, e128, e129, e130, e131, e132, e133, e134, e135, e136, e137, e138, e139, e140⟩ := hp126
    have e128 : (pf82 11).toInt + 1 ≤ (pf122 11).toInt := e128
    have e129 : (pf122 11).toInt < (tf 6).toInt := e129
    have e130 : (pf82 13).toInt + 1 ≤ (pf122 13).toInt := e130
    have e131 : (pf122 13).toInt - (pf82 13).toInt ≤ (pf122 11).toInt - (pf82 11).toInt := e131
    have e132 : bp ta (pf82 11) + 1 ≤ bp ta (pf122 11) := e132
    have e133 : (pf122 12).toInt = (pf82 12).toInt := e133
    have e134 : (pf122 24).toInt = (pf82 24).toInt := e134
    have e135 : (pf122 25).toInt = (pf82 25).toInt := e135
    have e136 : (pf122 26).toInt = (pf82 26).toInt := e136
    have e137 : FrB (pf82 13).toInt na68 ma69 na123 ma124 := e137
    have hnk_v71 := hnk_v71.kp e137 (by first | with_reducible rfl | with_reducible assumption | omega)
    have hfb := hfb.tr e137 (by first | with_reducible rfl | with_reducible assumption | omega)
    have e138 : FrW (pf82 26).toInt wa wa125 := e138
    have hfw := hfw.tr e138 (by first | with_reducible rfl | with_reducible assumption | omega)
    have e139 : ExR ta (tf 6).toInt na123 ma124 v127 (pf82 13).toInt (pf122 13).toInt (3 * (bp ta (pf122 11) - bp ta (pf82 11))) (pf82 12).toInt := e139
    have ht_v127 := e139
    have hn_ht_v127 := ht_v127.num
    have e140 : FsI (tf 6).toInt (pf122 13).toInt na123 := e140
    have hfs := e140
    have hw : pw D A s.heap H locs [wdP cs h r g tf ta pf122 na123 ma124 wa125 cf ca ef ea xf xa] := hw
    have lv127 := Int32.le_toInt v127
    have uv127 := Int32.toInt_lt v127
    refine lv_istore_n (lv' := [(3, .int v127), (2, .int v71), (0, .ref h), (1, .int p0)]) S.x S.b d_Mpg_call_24 rfl hl (by decide) rfl (fun ls hl => ?_)
    refine lv_aload_n S.x S.b d_Mpg_call_25 rfl (lv_at hl 2 rfl) ?_
    refine px_get S k_Mpg hT hw 0 0 17 (v := .ref (r 17)) rfl rfl rfl (by decide) m10_1 d_Mpg_call_26 ?_
    refine lv_iload_n S.x S.b d_Mpg_call_29 rfl (lv_at hl 1 rfl) ?_
    refine lv_iload_n S.x S.b d_Mpg_call_30 rfl (lv_at hl 0 rfl) ?_
    refine px_iast S hT hw 0 13 (n := 2100) (f := (na123 17)) (x := v71) (y := v127) rfl gp_17 (vp_in_iff.mpr (by constructor <;> omega)) d_Mpg_call_31 (w' := wdP cs h r g tf ta pf122 (va_up na123 17 (upd (na123 17) v71.toNatClampNeg v127)) ma124 wa125 cf ca ef ea xf xa) (ps' := [wdP cs h r g tf ta pf122 (va_up na123 17 (upd (na123 17) v71.toNatClampNeg v127)) ma124 wa125 cf ca ef ea xf xa]) sp_17 rfl (fun H locs hw => ?_)
    refine lv_aload_n S.x S.b d_Mpg_call_32 rfl (lv_at hl 2 rfl) ?_
    refine px_get S k_Mpg hT hw 0 0 23 (v := .ref (r 23)) rfl rfl rfl (by decide) m10_11 d_Mpg_call_33 ?_
    refine lv_iload_n S.x S.b d_Mpg_call_36 rfl (lv_at hl 1 rfl) ?_
    refine lv_iconst (v := 1) S.x S.b d_Mpg_call_37 (by decide) ?_
    refine lv_aload_n S.x S.b d_Mpg_call_38 rfl (lv_at hl 2 rfl) ?_
    refine px_get S k_Mpg hT hw 0 0 23 (v := .ref (r 23)) rfl rfl rfl (by decide) m10_11 d_Mpg_call_39 ?_
    refine lv_iload_n S.x S.b d_Mpg_call_42 rfl (lv_at hl 0 rfl) ?_
    refine px_iald S hT hw 0 19 (n := 2100) (f := ((va_up na123 17 (upd (na123 17) v71.toNatClampNeg v127)) 23)) rfl gp_23 (x := v127) (vp_in_iff.mpr (by first | exact oz_8b88cf7e2f hn_ht_v127.1 e91 e73 g5 hn_ht_v127.2.1 e131 e85 e129 g2 g6 e74 | (constructor <;> omega))) d_Mpg_call_43 ?_
    refine lv_topi (fun z141 ez141 => ?_)
    have lz141 := Int32.le_toInt z141
    have uz141 := Int32.toInt_lt z141
    have rz141 : z141.toInt = dp na123 v127 := by have q9 : z141.toInt = dp (va_up na123 17 (upd (na123 17) v71.toNatClampNeg v127)) v127 := (by rw [ez141]; rfl); rw [dp_un (by decide)] at q9; exact q9
    refine lv_iadd S.x S.b d_Mpg_call_44 ?_
    refine lv_topi (fun z142 ez142 => ?_)
    have tz142 : z142.toInt = ((1 : Int) + z141.toInt + 2147483648) % 4294967296 - 2147483648 := by rw [ez142]; exact i_add 1 z141
    have lz142 := Int32.le_toInt z142
    have uz142 := Int32.toInt_lt z142
    try replace tz142 : z142.toInt = (1 : Int) + z141.toInt := by omega
    refine px_iast S hT hw 0 19 (n := 2100) (f := ((va_up na123 17 (upd (na123 17) v71.toNatClampNeg v127)) 23)) (x := v71) (y := z142) rfl gp_23 (vp_in_iff.mpr (by constructor <;> omega)) d_Mpg_call_45 (w' := wdP cs h r g tf ta pf122 (va_up (va_up na123 17 (upd (na123 17) v71.toNatClampNeg v127)) 23 (upd ((va_up na123 17 (upd (na123 17) v71.toNatClampNeg v127)) 23) v71.toNatClampNeg z142)) ma124 wa125 cf ca ef ea xf xa) (ps' := [wdP cs h r g tf ta pf122 (va_up (va_up na123 17 (upd (na123 17) v71.toNatClampNeg v127)) 23 (upd ((va_up na123 17 (upd (na123 17) v71.toNatClampNeg v127)) 23) v71.toNatClampNeg z142)) ma124 wa125 cf ca ef ea xf xa]) sp_23 rfl (fun H locs hw => ?_)
    exact J46 (((tf 6).toInt - (pf122 11).toInt).toNat + 1) pf122 (va_up (va_up na123 17 (upd (na123 17) v71.toNatClampNeg v127)) 23 (upd ((va_up na123 17 (upd (na123 17) v71.toNatClampNeg v127)) 23) v71.toNatClampNeg z142)) ma124 wa125 v71 v127 _ _ ls (show (pf122 24).toInt = (pf 24).toInt from by first | exact oz_e13fc83238 e76 e134 e92 | omega) (show (pf122 25).toInt = (pf 25).toInt from by first | exact oz_e13fc83238 e77 e135 e93 | omega) (show (pf122 26).toInt = (pf 26).toInt from by first | exact oz_e13fc83238 e78 e136 e94 | omega) (show (pf122 12).toInt = (pf 12).toInt + 1 from by first | exact oz_1bb5b5edb9 e75 e133 e89 | omega) (show (pf 12).toInt < 60 from by first | exact oz_068c69ad0b e75 e90 | omega) (show (pf 11).toInt + 1 ≤ (pf122 11).toInt from by first | exact oz_331f126945 e74 e128 e85 | omega) (show (pf122 11).toInt < (tf 6).toInt from by first | exact e129 | omega) (show v71.toInt = (pf 13).toInt from by first | exact e72 | omega) (show v71.toInt < v127.toInt from by first | exact oz_c36bbba170 e72 hn_ht_v127.1 e73 e91 | omega) (show v127.toInt < (pf122 13).toInt from by first | exact oz_7fe81129bf hn_ht_v127.2.1 | omega) (show (pf122 13).toInt - (pf 13).toInt ≤ (pf122 11).toInt - (pf 11).toInt from by first | exact oz_43a90a5f17 e73 e74 e131 e85 e91 | omega) (show bp ta (pf 11) + 1 ≤ bp ta (pf122 11) from by first | exact oz_5511bc8943 qb801 e132 e87 e88 | omega) (show FrB (pf 13).toInt na ma (va_up (va_up na123 17 (upd (na123 17) v71.toNatClampNeg v127)) 23 (upd ((va_up na123 17 (upd (na123 17) v71.toNatClampNeg v127)) 23) v71.toNatClampNeg z142)) ma124 from (FrB.un (FrB.un hfb (by first | with_reducible rfl | with_reducible assumption | omega) (by first | with_reducible rfl | with_reducible assumption | omega)) (by first | with_reducible rfl | with_reducible assumption | omega) (by first | with_reducible rfl | with_reducible assumption | omega))) (show FrW (pf 26).toInt wa wa125 from hfw) (show NdK (va_up (va_up na123 17 (upd (na123 17) v71.toNatClampNeg v127)) 23 (upd ((va_up na123 17 (upd (na123 17) v71.toNatClampNeg v127)) 23) v71.toNatClampNeg z142)) ma124 v71 3 p0 from ⟨(by rw [va_up_n (by decide), va_up_n (by decide)]; exact hnk_v71.1), (by rw [va_up_n (by decide), va_up_n (by decide)]; exact hnk_v71.2.1), (by rw [va_up_n (by decide), va_up_n (by decide)]; exact hnk_v71.2.2.1), hnk_v71.2.2.2.1, (by exact hnk_v71.2.2.2.2)⟩) (show DpN (va_up (va_up na123 17 (upd (na123 17) v71.toNatClampNeg v127)) 23 (upd ((va_up na123 17 (upd (na123 17) v71.toNatClampNeg v127)) 23) v71.toNatClampNeg z142)) v71 2 (61 - (pf 12).toInt) from (by unfold DpN; rw [dp_us]; constructor <;> omega)) (show ArV ta (tf 6).toInt (va_up (va_up na123 17 (upd (na123 17) v71.toNatClampNeg v127)) 23 (upd ((va_up na123 17 (upd (na123 17) v71.toNatClampNeg v127)) 23) v71.toNatClampNeg z142)) ma124 v71 v127 (pf122 13).toInt (3 * (bp ta (pf122 11) - bp ta (pf 11)) - 1) (dp (va_up (va_up na123 17 (upd (na123 17) v71.toNatClampNeg v127)) 23 (upd ((va_up na123 17 (upd (na123 17) v71.toNatClampNeg v127)) 23) v71.toNatClampNeg z142)) v71 + 59 - (pf 12).toInt) from (ArV.le (arv_0 ht_v127.1 (by first | with_reducible rfl | with_reducible assumption | omega) (by first | with_reducible rfl | with_reducible assumption | omega) (fun x hx => ⟨fun j => by rw [up_far hx, up_far hx], fun _ => rfl⟩) (by rw [va_up_n (by decide), va_up_n (by decide), hnk_v71.1]; rfl) (ndt_of (by rw [va_up_n (by decide), va_up_n (by decide), hnk_v71.2.1]) (by first | with_reducible rfl | with_reducible assumption | omega) (by first | with_reducible rfl | with_reducible assumption | omega) (by first | with_reducible rfl | with_reducible assumption | omega)) (by rw [va_up_n (by decide), va_up_s, pk_us]) ht_v127.2.2.2.1) (by first | with_reducible rfl | with_reducible assumption | omega) (by first | with_reducible rfl | with_reducible assumption | omega) (by rw [dp_us]; omega))) (show FsI (tf 6).toInt (pf122 13).toInt (va_up (va_up na123 17 (upd (na123 17) v71.toNatClampNeg v127)) 23 (upd ((va_up na123 17 (upd (na123 17) v71.toNatClampNeg v127)) 23) v71.toNatClampNeg z142)) from (FsI.le (FsI.un (FsI.un hfs (by decide)) (by decide)) (by first | with_reducible rfl | with_reducible assumption | omega))) (show (tf 6).toInt - (pf122 11).toInt < (((((tf 6).toInt - (pf122 11).toInt).toNat + 1 : Nat) : Int) : Int) from by first | exact oz_natlt | omega) hw (lv_sub hl [2, 3, 1, 0] rfl)
abbrev b_Mpg_primary : ByteArray := prog_16_method_40_code
def y_Mpg_primary : MethodName := ⟨"HomeSystemModel$Program", "primary", "()I"⟩
theorem d_Mpg_primary_0 : decode b_Mpg_primary 0 = .ok (.aload_n 0, 1) := by decide +kernel
theorem d_Mpg_primary_1 : decode b_Mpg_primary 1 = .ok (.getfield 201, 3) := by decide +kernel
theorem d_Mpg_primary_4 : decode b_Mpg_primary 4 = .ok (.aload_n 0, 1) := by decide +kernel
theorem d_Mpg_primary_5 : decode b_Mpg_primary 5 = .ok (.getfield 360, 3) := by decide +kernel
theorem d_Mpg_primary_8 : decode b_Mpg_primary 8 = .ok (.baload, 1) := by decide +kernel
theorem d_Mpg_primary_9 : decode b_Mpg_primary 9 = .ok (.iconst 3, 1) := by decide +kernel
theorem d_Mpg_primary_10 : decode b_Mpg_primary 10 = .ok (.if_icmp .ne 25, 3) := by decide +kernel
theorem d_Mpg_primary_13 : decode b_Mpg_primary 13 = .ok (.aload_n 0, 1) := by decide +kernel
theorem d_Mpg_primary_14 : decode b_Mpg_primary 14 = .ok (.iconst 1, 1) := by decide +kernel
theorem d_Mpg_primary_15 : decode b_Mpg_primary 15 = .ok (.aload_n 0, 1) := by decide +kernel
theorem d_Mpg_primary_16 : decode b_Mpg_primary 16 = .ok (.getfield 360, 3) := by decide +kernel
theorem d_Mpg_primary_19 : decode b_Mpg_primary 19 = .ok (.invokevirtual 406, 3) := by decide +kernel
theorem d_Mpg_primary_22 : decode b_Mpg_primary 22 = .ok (.istore_n 1, 1) := by decide +kernel
theorem d_Mpg_primary_23 : decode b_Mpg_primary 23 = .ok (.aload_n 0, 1) := by decide +kernel
theorem d_Mpg_primary_24 : decode b_Mpg_primary 24 = .ok (.dup, 1) := by decide +kernel
theorem d_Mpg_primary_25 : decode b_Mpg_primary 25 = .ok (.getfield 360, 3) := by decide +kernel
theorem d_Mpg_primary_28 : decode b_Mpg_primary 28 = .ok (.iconst 1, 1) := by decide +kernel
theorem d_Mpg_primary_29 : decode b_Mpg_primary 29 = .ok (.iadd, 1) := by decide +kernel
theorem d_Mpg_primary_30 : decode b_Mpg_primary 30 = .ok (.putfield 360, 3) := by decide +kernel
theorem d_Mpg_primary_33 : decode b_Mpg_primary 33 = .ok (.iload_n 1, 1) := by decide +kernel
theorem d_Mpg_primary_34 : decode b_Mpg_primary 34 = .ok (.ireturn, 1) := by decide +kernel
theorem d_Mpg_primary_35 : decode b_Mpg_primary 35 = .ok (.aload_n 0, 1) := by decide +kernel
theorem d_Mpg_primary_36 : decode b_Mpg_primary 36 = .ok (.ldc 87, 2) := by decide +kernel
theorem d_Mpg_primary_38 : decode b_Mpg_primary 38 = .ok (.invokevirtual 366, 3) := by decide +kernel
theorem d_Mpg_primary_41 : decode b_Mpg_primary 41 = .ok (.ifCond .eq 32, 3) := by decide +kernel
theorem d_Mpg_primary_44 : decode b_Mpg_primary 44 = .ok (.aload_n 0, 1) := by decide +kernel
theorem d_Mpg_primary_45 : decode b_Mpg_primary 45 = .ok (.getfield 360, 3) := by decide +kernel
theorem d_Mpg_primary_48 : decode b_Mpg_primary 48 = .ok (.istore_n 1, 1) := by decide +kernel
theorem d_Mpg_primary_49 : decode b_Mpg_primary 49 = .ok (.aload_n 0, 1) := by decide +kernel
theorem d_Mpg_primary_50 : decode b_Mpg_primary 50 = .ok (.invokevirtual 383, 3) := by decide +kernel
theorem d_Mpg_primary_53 : decode b_Mpg_primary 53 = .ok (.aload_n 0, 1) := by decide +kernel
theorem d_Mpg_primary_54 : decode b_Mpg_primary 54 = .ok (.invokevirtual 403, 3) := by decide +kernel
theorem d_Mpg_primary_57 : decode b_Mpg_primary 57 = .ok (.istore_n 2, 1) := by decide +kernel
theorem d_Mpg_primary_58 : decode b_Mpg_primary 58 = .ok (.aload_n 0, 1) := by decide +kernel
theorem d_Mpg_primary_59 : decode b_Mpg_primary 59 = .ok (.ldc 89, 2) := by decide +kernel
theorem d_Mpg_primary_61 : decode b_Mpg_primary 61 = .ok (.invokevirtual 439, 3) := by decide +kernel
theorem d_Mpg_primary_64 : decode b_Mpg_primary 64 = .ok (.aload_n 0, 1) := by decide +kernel
theorem d_Mpg_primary_65 : decode b_Mpg_primary 65 = .ok (.getfield 213, 3) := by decide +kernel
theorem d_Mpg_primary_68 : decode b_Mpg_primary 68 = .ok (.iload_n 2, 1) := by decide +kernel
theorem d_Mpg_primary_69 : decode b_Mpg_primary 69 = .ok (.iload_n 1, 1) := by decide +kernel
theorem d_Mpg_primary_70 : decode b_Mpg_primary 70 = .ok (.iastore, 1) := by decide +kernel
theorem d_Mpg_primary_71 : decode b_Mpg_primary 71 = .ok (.iload_n 2, 1) := by decide +kernel
theorem d_Mpg_primary_72 : decode b_Mpg_primary 72 = .ok (.ireturn, 1) := by decide +kernel
theorem d_Mpg_primary_73 : decode b_Mpg_primary 73 = .ok (.aload_n 0, 1) := by decide +kernel
theorem d_Mpg_primary_74 : decode b_Mpg_primary 74 = .ok (.invokevirtual 442, 3) := by decide +kernel
theorem d_Mpg_primary_77 : decode b_Mpg_primary 77 = .ok (.istore_n 1, 1) := by decide +kernel
theorem d_Mpg_primary_78 : decode b_Mpg_primary 78 = .ok (.aload_n 0, 1) := by decide +kernel
theorem d_Mpg_primary_79 : decode b_Mpg_primary 79 = .ok (.ldc 87, 2) := by decide +kernel
theorem d_Mpg_primary_81 : decode b_Mpg_primary 81 = .ok (.invokevirtual 366, 3) := by decide +kernel
theorem d_Mpg_primary_84 : decode b_Mpg_primary 84 = .ok (.ifCond .eq 9, 3) := by decide +kernel
theorem d_Mpg_primary_87 : decode b_Mpg_primary 87 = .ok (.aload_n 0, 1) := by decide +kernel
theorem d_Mpg_primary_88 : decode b_Mpg_primary 88 = .ok (.iload_n 1, 1) := by decide +kernel
theorem d_Mpg_primary_89 : decode b_Mpg_primary 89 = .ok (.invokevirtual 445, 3) := by decide +kernel
theorem d_Mpg_primary_92 : decode b_Mpg_primary 92 = .ok (.ireturn, 1) := by decide +kernel
theorem d_Mpg_primary_93 : decode b_Mpg_primary 93 = .ok (.aload_n 0, 1) := by decide +kernel
theorem d_Mpg_primary_94 : decode b_Mpg_primary 94 = .ok (.ldc 95, 2) := by decide +kernel
theorem d_Mpg_primary_96 : decode b_Mpg_primary 96 = .ok (.invokevirtual 366, 3) := by decide +kernel
theorem d_Mpg_primary_99 : decode b_Mpg_primary 99 = .ok (.ifCond .eq 51, 3) := by decide +kernel
theorem d_Mpg_primary_102 : decode b_Mpg_primary 102 = .ok (.aload_n 0, 1) := by decide +kernel
theorem d_Mpg_primary_103 : decode b_Mpg_primary 103 = .ok (.iconst 4, 1) := by decide +kernel
theorem d_Mpg_primary_104 : decode b_Mpg_primary 104 = .ok (.iload_n 1, 1) := by decide +kernel
theorem d_Mpg_primary_105 : decode b_Mpg_primary 105 = .ok (.invokevirtual 406, 3) := by decide +kernel
theorem d_Mpg_primary_108 : decode b_Mpg_primary 108 = .ok (.istore_n 2, 1) := by decide +kernel
theorem d_Mpg_primary_109 : decode b_Mpg_primary 109 = .ok (.aload_n 0, 1) := by decide +kernel
theorem d_Mpg_primary_110 : decode b_Mpg_primary 110 = .ok (.invokevirtual 383, 3) := by decide +kernel
theorem d_Mpg_primary_113 : decode b_Mpg_primary 113 = .ok (.aload_n 0, 1) := by decide +kernel
theorem d_Mpg_primary_114 : decode b_Mpg_primary 114 = .ok (.getfield 216, 3) := by decide +kernel
theorem d_Mpg_primary_117 : decode b_Mpg_primary 117 = .ok (.iload_n 2, 1) := by decide +kernel
theorem d_Mpg_primary_118 : decode b_Mpg_primary 118 = .ok (.aload_n 0, 1) := by decide +kernel
theorem d_Mpg_primary_119 : decode b_Mpg_primary 119 = .ok (.invokevirtual 403, 3) := by decide +kernel
theorem d_Mpg_primary_122 : decode b_Mpg_primary 122 = .ok (.iastore, 1) := by decide +kernel
theorem d_Mpg_primary_123 : decode b_Mpg_primary 123 = .ok (.aload_n 0, 1) := by decide +kernel
theorem d_Mpg_primary_124 : decode b_Mpg_primary 124 = .ok (.getfield 234, 3) := by decide +kernel
theorem d_Mpg_primary_127 : decode b_Mpg_primary 127 = .ok (.iload_n 2, 1) := by decide +kernel
theorem d_Mpg_primary_128 : decode b_Mpg_primary 128 = .ok (.iconst 1, 1) := by decide +kernel
theorem d_Mpg_primary_129 : decode b_Mpg_primary 129 = .ok (.aload_n 0, 1) := by decide +kernel
theorem d_Mpg_primary_130 : decode b_Mpg_primary 130 = .ok (.getfield 234, 3) := by decide +kernel
theorem d_Mpg_primary_133 : decode b_Mpg_primary 133 = .ok (.aload_n 0, 1) := by decide +kernel
theorem d_Mpg_primary_134 : decode b_Mpg_primary 134 = .ok (.getfield 216, 3) := by decide +kernel
theorem d_Mpg_primary_137 : decode b_Mpg_primary 137 = .ok (.iload_n 2, 1) := by decide +kernel
theorem d_Mpg_primary_138 : decode b_Mpg_primary 138 = .ok (.iaload, 1) := by decide +kernel
theorem d_Mpg_primary_139 : decode b_Mpg_primary 139 = .ok (.iaload, 1) := by decide +kernel
theorem d_Mpg_primary_140 : decode b_Mpg_primary 140 = .ok (.iadd, 1) := by decide +kernel
theorem d_Mpg_primary_141 : decode b_Mpg_primary 141 = .ok (.iastore, 1) := by decide +kernel
theorem d_Mpg_primary_142 : decode b_Mpg_primary 142 = .ok (.aload_n 0, 1) := by decide +kernel
theorem d_Mpg_primary_143 : decode b_Mpg_primary 143 = .ok (.ldc 97, 2) := by decide +kernel
theorem d_Mpg_primary_145 : decode b_Mpg_primary 145 = .ok (.invokevirtual 439, 3) := by decide +kernel
theorem d_Mpg_primary_148 : decode b_Mpg_primary 148 = .ok (.iload_n 2, 1) := by decide +kernel
theorem d_Mpg_primary_149 : decode b_Mpg_primary 149 = .ok (.ireturn, 1) := by decide +kernel
theorem d_Mpg_primary_150 : decode b_Mpg_primary 150 = .ok (.aload_n 0, 1) := by decide +kernel
theorem d_Mpg_primary_151 : decode b_Mpg_primary 151 = .ok (.iconst 2, 1) := by decide +kernel
theorem d_Mpg_primary_152 : decode b_Mpg_primary 152 = .ok (.iload_n 1, 1) := by decide +kernel
theorem d_Mpg_primary_153 : decode b_Mpg_primary 153 = .ok (.invokevirtual 406, 3) := by decide +kernel
theorem d_Mpg_primary_156 : decode b_Mpg_primary 156 = .ok (.ireturn, 1) := by decide +kernel
theorem q_Mpg_primary : px_y y_Mpg_primary 0 := by unfold px_y; decide +kernel
set_option maxHeartbeats 4000000 in
set_option maxRecDepth 100000 in
theorem c_mp_primary (l : Launch) (D : va_G) (cs : Nat → ClassId) (h : Nat) (r : Nat → Nat) (g : Nat → Nat → Option Nat) (tf : Nat → Int32) (ta : Nat → Nat → Int32) (cf : Nat → Int32) (ca : Nat → Nat → Int32) (ef : Nat → Int32) (ea : Nat → Nat → Int32) (xf : Nat → Int32) (xa : Nat → Nat → Int32) (pf : Nat → Int32) (na : Nat → Nat → Int32) (ma : Nat → Nat → Int32) (wa : Nat → Nat → Int32) (lv : Nat) (g0 : 0 ≤ (pf 11).toInt) (g1 : (pf 11).toInt < (tf 6).toInt) (g2 : (tf 6).toInt ≤ 2049) (g3 : 0 ≤ (pf 12).toInt) (g4 : (pf 12).toInt ≤ 60) (g5 : 0 ≤ (pf 13).toInt) (g6 : (pf 13).toInt ≤ (pf 11).toInt + 20) (g7 : 0 ≤ (pf 26).toInt) (g8 : (pf 26).toInt ≤ (pf 12).toInt) (g9 : 61 ≤ (pf 12).toInt + (lv : Int)) (g10 : lv ≤ 61) (hlf : l.flags = pinnedFlags ++ [noTraceFlag]) (htk : TkI tf ta) (hfs : FsI (tf 6).toInt (pf 13).toInt na) (hE : LvE l D cs lv) : ThI l y_Mpg_primary b_Mpg_primary 3 (.int) D cs (8 * lv + 15) (220 * lv + 570) [.ref h] [wdP cs h r g tf ta pf na ma wa cf ca ef ea xf xa] (oX (fun A U H => (oN A U H) ∧ (oP A g U H)) [wdP cs h r g tf ta pf na ma wa cf ca ef ea xf xa]) "java/lang/IllegalArgumentException" (fun v ps => ∃ (pf' : Nat → Int32) (na' : Nat → Nat → Int32) (ma' : Nat → Nat → Int32) (wa' : Nat → Nat → Int32), (ps = [wdP cs h r g tf ta pf' na' ma' wa' cf ca ef ea xf xa]) ∧ ((pf 11).toInt + 1 ≤ (pf' 11).toInt) ∧ ((pf' 11).toInt < (tf 6).toInt) ∧ ((pf 13).toInt + 1 ≤ (pf' 13).toInt) ∧ ((pf' 13).toInt - (pf 13).toInt ≤ (pf' 11).toInt - (pf 11).toInt) ∧ (bp ta (pf 11) + 1 ≤ bp ta (pf' 11)) ∧ ((pf' 12).toInt = (pf 12).toInt) ∧ ((pf' 24).toInt = (pf 24).toInt) ∧ ((pf' 25).toInt = (pf 25).toInt) ∧ ((pf' 26).toInt = (pf 26).toInt) ∧ (FrB (pf 13).toInt na ma na' ma') ∧ (FrW (pf 26).toInt wa wa') ∧ (ExR ta (tf 6).toInt na' ma' v (pf 13).toInt (pf' 13).toInt (3 * (bp ta (pf' 11) - bp ta (pf 11))) (pf 12).toInt) ∧ (FsI (tf 6).toInt (pf' 13).toInt na')) (fun ps => ∃ (pf' : Nat → Int32) (na' : Nat → Nat → Int32) (ma' : Nat → Nat → Int32) (wa' : Nat → Nat → Int32), ps = [wdP cs h r g tf ta pf' na' ma' wa' cf ca ef ea xf xa] ∧ 0 ≤ (pf' 11).toInt ∧ (pf' 11).toInt + 1 ≤ (tf 6).toInt) := by
  refine th_enter (by decide) (Nat.le_of_ble_eq_true rfl) ?_
  intro p e s m below meth c A ls hAe S hr hlk hnm hA hT hX hw hl hne hadm
  have hl : lv_has ls 3 [(0, .ref h)] := hl
  have cst1 : (1 : Int32).toInt = 1 := rfl
  have cst2 : (2 : Int32).toInt = 2 := rfl
  have cst3 : (3 : Int32).toInt = 3 := rfl
  have cst4 : (4 : Int32).toInt = 4 := rfl
  have hX : (fun A U H => (oN A U H) ∧ (oP A g U H)) A s s.heap := by rw [hAe]; exact hX
  obtain ⟨hN, hP⟩ := hX
  have hZ := hP.1
  have hF0 := hP.2.1
  have hfb : FrB (pf 13).toInt na ma na ma := FrB.rf
  have hfw : FrW (pf 26).toInt wa wa := FrW.rf
  refine lv_aload_n S.x S.b d_Mpg_primary_0 rfl (lv_at hl 0 rfl) ?_
  refine px_get S k_Mpg hT hw 0 0 9 (v := .ref (r 9)) rfl rfl rfl (by decide) m9_233 d_Mpg_primary_1 ?_
  refine lv_aload_n S.x S.b d_Mpg_primary_4 rfl (lv_at hl 0 rfl) ?_
  refine px_get S k_Mpg hT hw 0 0 11 (v := .int (pf 11)) rfl rfl rfl (by decide) m9_235 d_Mpg_primary_5 ?_
  refine px_bald S hT hw 0 8 (n := 2060) (f := (ta 9)) rfl gp_9 (x := (pf 11)) (vp_in_iff.mpr (by first | exact oz_846323bf3a g0 g1 g2 | (constructor <;> omega))) d_Mpg_primary_8 ?_
  refine lv_topi (fun z1 ez1 => ?_)
  have lz1 := Int32.le_toInt z1
  have uz1 := Int32.toInt_lt z1
  have rz1 := tk_s htk (x := (pf 11)) (by first | with_reducible rfl | with_reducible assumption | omega) (by first | with_reducible rfl | with_reducible assumption | omega) ez1
  refine lv_iconst (v := 3) S.x S.b d_Mpg_primary_9 (by decide) ?_
  refine lv_icmp_ne (tgt := 35) S.x S.b d_Mpg_primary_10 (by decide) (fun c2 => ?_) (fun c2 => ?_)
  · have nc2 : ¬ z1.toInt = (3 : Int) := mt (i_eq (x := z1) (y := 3)).mpr c2
    refine lv_aload_n S.x S.b d_Mpg_primary_35 rfl (lv_at hl 0 rfl) ?_
    obtain ⟨sk3, hRsk3, st4, sb5, hSsk3⟩ := oP_lit hP (k := 87) (tx := "(") (n := 1) (List.mem_of_getElem? (i := 35) rfl)
    refine va_ldcS S.x S.b S.own hRsk3 d_Mpg_primary_36 ?_
    refine px_calli (pr := []) (px_runV (As := [.ref sk3]) (rest := []) S (c_mp_is l D cs sk3 1 h r g tf ta pf na ma wa cf ca ef ea xf xa   (show 0 ≤ (pf 11).toInt from by first | exact g0 | omega) (show (pf 11).toInt < (tf 6).toInt from by first | exact g1 | omega) (show (tf 6).toInt ≤ 2049 from by first | exact g2 | omega) (show 1 ≤ 100 from by first | decide | omega) htk _) hT (pr := []) (pcs := [wdP cs h r g tf ta pf na ma wa cf ca ef ea xf xa]) hw (oX_call (P := (fun A U H => (oP A g U H) ∧ (StS A sk3 1 U H))) (pr := []) (oG_and oG_P oG_Q) hw hA ⟨hP, ⟨_, _, hSsk3⟩⟩) (px_recv hT hw 0 0 rfl rfl rfl) m11_217 m11_214 m11_216 ms_8_14 m1_21 q_Mpg_is ⟨show 3 + 1 ≤ (8 * lv + 15) from by first | with_reducible rfl | with_reducible assumption | omega, show 8 + (2 + 11) + 120 ≤ (220 * lv + 570) from by first | with_reducible rfl | with_reducible assumption | omega⟩ hl.1 rfl (Nat.le_of_ble_eq_true rfl) d_Mpg_primary_38 ⟨Nat.le_of_ble_eq_true rfl, Nat.le_of_ble_eq_true rfl⟩) hw hA (fun v7 p6 H locs hp6 hw => ?_)
    obtain ⟨rfl, e8, e9⟩ := hp6
    have e8 := z_rng e8
    have e9 : v7.toInt = 1 → (pf 11).toInt + 1 < (tf 6).toInt ∧ so ta (pf 11) = 5 := e9
    have hw : pw D A s.heap H locs [wdP cs h r g tf ta pf na ma wa cf ca ef ea xf xa] := hw
    have lv7 := Int32.le_toInt v7
    have uv7 := Int32.toInt_lt v7
    refine lv_if_eq (tgt := 73) S.x S.b d_Mpg_primary_41 (by decide) (fun c10 => ?_) (fun c10 => ?_)
    · have nc10 : v7.toInt = (0 : Int) := (i_eq (x := v7) (y := 0)).mp c10
      refine lv_aload_n S.x S.b d_Mpg_primary_73 rfl (lv_at hl 0 rfl) ?_
      refine th_calli (ps0 := [wdP cs h r g tf ta pf na ma wa cf ca ef ea xf xa]) (pr := []) (pcs := [wdP cs h r g tf ta pf na ma wa cf ca ef ea xf xa]) (As := []) (rest := []) (c_mp_name l D cs h r g tf ta na ma wa cf ca ef ea xf xa pf   (show 0 ≤ (pf 11).toInt from by first | exact g0 | omega) (show (pf 11).toInt < (tf 6).toInt from by first | exact g1 | omega) (show (tf 6).toInt ≤ 2049 from by first | exact g2 | omega) hlf htk) S hT hw (oX_call (P := (fun A U H => (oN A U H) ∧ (oP A g U H))) (pr := []) (oG_and oG_N oG_P) hw hA ⟨hN, hP⟩) (px_recv hT hw 0 0 rfl rfl rfl) m12_2 m11_239 m12_1 ms_9_2 m1_21 q_Mpg_name ⟨show 7 + 1 ≤ (8 * lv + 15) from by first | with_reducible rfl | with_reducible assumption | omega, show 8 + (1 + 11) + 150 ≤ (220 * lv + 570) from by first | with_reducible rfl | with_reducible assumption | omega⟩ hl.1 rfl (Nat.le_of_ble_eq_true rfl) d_Mpg_primary_74 ⟨Nat.le_of_ble_eq_true rfl, Nat.le_of_ble_eq_true rfl⟩ hne hlk hA hAe (fun o t h => Or.inr h) ?_ (fun v14 p13 H locs hp13 hw => ?_)
      · exact fun p1 H1 locs1 hp hw => by obtain ⟨pq1, pq2, pq3, pq4, rfl, hq1, hq2⟩ := hp; exact ⟨_, ⟨pq1, pq2, pq3, pq4, rfl, hq1, hq2⟩, hw⟩
      obtain ⟨pf12, rfl, e15, e16, e17, e18, e19, e20, e21, e22, e23, e24⟩ := hp13
      have e15 : v14.toInt = (pf 11).toInt := e15
      have e16 : SoIs ta v14 1 := e16
      have e17 : (pf12 11).toInt = (pf 11).toInt + 1 := e17
      have e18 : (pf12 11).toInt < (tf 6).toInt := e18
      have e19 : bp ta (pf 11) + 1 ≤ bp ta (pf12 11) := e19
      have e20 : (pf12 12).toInt = (pf 12).toInt := e20
      have e21 : (pf12 13).toInt = (pf 13).toInt := e21
      have e22 : (pf12 24).toInt = (pf 24).toInt := e22
      have e23 : (pf12 25).toInt = (pf 25).toInt := e23
      have e24 : (pf12 26).toInt = (pf 26).toInt := e24
      have hw : pw D A s.heap H locs [wdP cs h r g tf ta pf12 na ma wa cf ca ef ea xf xa] := hw
      have lv14 := Int32.le_toInt v14
      have uv14 := Int32.toInt_lt v14
      refine lv_istore_n (lv' := [(1, .int v14), (0, .ref h)]) S.x S.b d_Mpg_primary_77 rfl hl (by decide) rfl (fun ls hl => ?_)
      have hso : so ta v14 = 1 := (show SoIs ta v14 1 by assumption)
      refine lv_aload_n S.x S.b d_Mpg_primary_78 rfl (lv_at hl 1 rfl) ?_
      obtain ⟨sk25, hRsk25, st26, sb27, hSsk25⟩ := oP_lit hP (k := 87) (tx := "(") (n := 1) (List.mem_of_getElem? (i := 35) rfl)
      refine va_ldcS S.x S.b S.own hRsk25 d_Mpg_primary_79 ?_
      refine px_calli (pr := []) (px_runV (As := [.ref sk25]) (rest := []) S (c_mp_is l D cs sk25 1 h r g tf ta pf12 na ma wa cf ca ef ea xf xa   (show 0 ≤ (pf12 11).toInt from by first | exact oz_ae613611c0 e17 g0 | omega) (show (pf12 11).toInt < (tf 6).toInt from by first | exact e18 | omega) (show (tf 6).toInt ≤ 2049 from by first | exact g2 | omega) (show 1 ≤ 100 from by first | decide | omega) htk _) hT (pr := []) (pcs := [wdP cs h r g tf ta pf12 na ma wa cf ca ef ea xf xa]) hw (oX_call (P := (fun A U H => (oP A g U H) ∧ (StS A sk25 1 U H))) (pr := []) (oG_and oG_P oG_Q) hw hA ⟨hP, ⟨_, _, hSsk25⟩⟩) (px_recv hT hw 0 0 rfl rfl rfl) m11_217 m11_214 m11_216 ms_8_14 m1_21 q_Mpg_is ⟨show 3 + 1 ≤ (8 * lv + 15) from by first | with_reducible rfl | with_reducible assumption | omega, show 8 + (2 + 11) + 120 ≤ (220 * lv + 570) from by first | with_reducible rfl | with_reducible assumption | omega⟩ hl.1 rfl (Nat.le_of_ble_eq_true rfl) d_Mpg_primary_81 ⟨Nat.le_of_ble_eq_true rfl, Nat.le_of_ble_eq_true rfl⟩) hw hA (fun v29 p28 H locs hp28 hw => ?_)
      obtain ⟨rfl, e30, e31⟩ := hp28
      have e30 := z_rng e30
      have e31 : v29.toInt = 1 → (pf12 11).toInt + 1 < (tf 6).toInt ∧ so ta (pf12 11) = 5 := e31
      have hw : pw D A s.heap H locs [wdP cs h r g tf ta pf12 na ma wa cf ca ef ea xf xa] := hw
      have lv29 := Int32.le_toInt v29
      have uv29 := Int32.toInt_lt v29
      refine lv_if_eq (tgt := 93) S.x S.b d_Mpg_primary_84 (by decide) (fun c32 => ?_) (fun c32 => ?_)
      · have nc32 : v29.toInt = (0 : Int) := (i_eq (x := v29) (y := 0)).mp c32
        refine lv_aload_n S.x S.b d_Mpg_primary_93 rfl (lv_at hl 1 rfl) ?_
        obtain ⟨sk33, hRsk33, st34, sb35, hSsk33⟩ := oP_lit hP (k := 95) (tx := "[") (n := 1) (List.mem_of_getElem? (i := 39) rfl)
        refine va_ldcS S.x S.b S.own hRsk33 d_Mpg_primary_94 ?_
        refine px_calli (pr := []) (px_runV (As := [.ref sk33]) (rest := []) S (c_mp_is l D cs sk33 1 h r g tf ta pf12 na ma wa cf ca ef ea xf xa   (show 0 ≤ (pf12 11).toInt from by first | exact oz_ae613611c0 e17 g0 | omega) (show (pf12 11).toInt < (tf 6).toInt from by first | exact e18 | omega) (show (tf 6).toInt ≤ 2049 from by first | exact g2 | omega) (show 1 ≤ 100 from by first | decide | omega) htk _) hT (pr := []) (pcs := [wdP cs h r g tf ta pf12 na ma wa cf ca ef ea xf xa]) hw (oX_call (P := (fun A U H => (oP A g U H) ∧ (StS A sk33 1 U H))) (pr := []) (oG_and oG_P oG_Q) hw hA ⟨hP, ⟨_, _, hSsk33⟩⟩) (px_recv hT hw 0 0 rfl rfl rfl) m11_217 m11_214 m11_216 ms_8_14 m1_21 q_Mpg_is ⟨show 3 + 1 ≤ (8 * lv + 15) from by first | with_reducible rfl | with_reducible assumption | omega, show 8 + (2 + 11) + 120 ≤ (220 * lv + 570) from by first | with_reducible rfl | with_reducible assumption | omega⟩ hl.1 rfl (Nat.le_of_ble_eq_true rfl) d_Mpg_primary_96 ⟨Nat.le_of_ble_eq_true rfl, Nat.le_of_ble_eq_true rfl⟩) hw hA (fun v37 p36 H locs hp36 hw => ?_)
        obtain ⟨rfl, e38, e39⟩ := hp36
        have e38 := z_rng e38
        have e39 : v37.toInt = 1 → (pf12 11).toInt + 1 < (tf 6).toInt ∧ so ta (pf12 11) = 5 := e39
        have hw : pw D A s.heap H locs [wdP cs h r g tf ta pf12 na ma wa cf ca ef ea xf xa] := hw
        have lv37 := Int32.le_toInt v37
        have uv37 := Int32.toInt_lt v37
        refine lv_if_eq (tgt := 150) S.x S.b d_Mpg_primary_99 (by decide) (fun c40 => ?_) (fun c40 => ?_)
        · have nc40 : v37.toInt = (0 : Int) := (i_eq (x := v37) (y := 0)).mp c40
          refine lv_aload_n S.x S.b d_Mpg_primary_150 rfl (lv_at hl 1 rfl) ?_
          refine lv_iconst (v := 2) S.x S.b d_Mpg_primary_151 (by decide) ?_
          refine lv_iload_n S.x S.b d_Mpg_primary_152 rfl (lv_at hl 0 rfl) ?_
          refine px_calli (pr := []) (px_runV (As := [.int 2, .int v14]) (rest := []) S (c_mp_make l D cs h r g tf ta wa cf ca ef ea xf xa pf12 na ma 2 v14  (show 0 ≤ (pf12 13).toInt from by first | exact oz_f3ebed1ad0 e21 g5 | omega) (show (pf12 13).toInt < 2100 from by first | exact oz_b475de3101 e21 g6 e17 g2 e18 | omega) _) hT (pr := []) (pcs := [wdP cs h r g tf ta pf12 na ma wa cf ca ef ea xf xa]) hw px_X.tt (px_recv hT hw 0 0 rfl rfl rfl) m11_209 m11_206 m11_208 ms_8_12 m1_21 q_Mpg_make ⟨show 0 + 1 ≤ (8 * lv + 15) from by first | with_reducible rfl | with_reducible assumption | omega, show 8 + (3 + 11) + 0 ≤ (220 * lv + 570) from by first | with_reducible rfl | with_reducible assumption | omega⟩ hl.1 rfl (Nat.le_of_ble_eq_true rfl) d_Mpg_primary_153 ⟨Nat.le_of_ble_eq_true rfl, Nat.le_of_ble_eq_true rfl⟩) hw hA (fun v48 p47 H locs hp47 hw => ?_)
          obtain ⟨pf44, na45, ma46, rfl, e49, e50, e51, e52, e53, e54, e55, e56⟩ := hp47
          have e49 : v48.toInt = (pf12 13).toInt := e49
          have e50 : (pf44 13).toInt = (pf12 13).toInt + 1 := e50
          have e51 : (pf44 11).toInt = (pf12 11).toInt := e51
          have e52 : (pf44 12).toInt = (pf12 12).toInt := e52
          have e53 : (pf44 24).toInt = (pf12 24).toInt := e53
          have e54 : (pf44 25).toInt = (pf12 25).toInt := e54
          have e55 : (pf44 26).toInt = (pf12 26).toInt := e55
          have e56 : MkN na ma na45 ma46 v48 (2 : Int32) v14 := e56
          obtain ⟨qb571, qb572, qb573, qb574⟩ := tk_eq (ta := ta) (x := (pf44 11)) (y := (pf12 11)) (by first | with_reducible rfl | with_reducible assumption | omega)
          have hmk_v48 := e56
          have hfm_v48 := MkN.frb (b := v48.toInt) hmk_v48 (by first | with_reducible rfl | with_reducible assumption | omega) (by first | with_reducible rfl | with_reducible assumption | omega)
          have hfs := FsI.mk hfs hmk_v48 (by first | with_reducible rfl | with_reducible assumption | omega) (by first | with_reducible rfl | with_reducible assumption | omega) (by first | with_reducible rfl | with_reducible assumption | omega) (by first | with_reducible rfl | with_reducible assumption | omega)
          have hfb := hfb.tr hfm_v48 (by first | with_reducible rfl | with_reducible assumption | omega)
          have hnk_v48 := hmk_v48.nk (by decide) (by decide) (by first | with_reducible rfl | with_reducible assumption | omega)
          have hdn_v48 := dp_nk hmk_v48
          have hw : pw D A s.heap H locs [wdP cs h r g tf ta pf44 na45 ma46 wa cf ca ef ea xf xa] := hw
          have lv48 := Int32.le_toInt v48
          have uv48 := Int32.toInt_lt v48
          exact th_iret (v := v48) S hr rfl hlk hAe hw (⟨pf44, na45, ma46, wa, rfl, (show (pf 11).toInt + 1 ≤ (pf44 11).toInt from by first | exact oz_08747c10a9 e17 e51 | omega), (show (pf44 11).toInt < (tf 6).toInt from by first | exact oz_5d2fbac15b e18 e51 | omega), (show (pf 13).toInt + 1 ≤ (pf44 13).toInt from by first | exact oz_5a83f0d431 e21 e50 | omega), (show (pf44 13).toInt - (pf 13).toInt ≤ (pf44 11).toInt - (pf 11).toInt from by first | exact oz_f93944bcb9 e17 e21 e50 e51 | omega), (show bp ta (pf 11) + 1 ≤ bp ta (pf44 11) from by first | exact oz_213e98d3f1 e19 qb571 | omega), (show (pf44 12).toInt = (pf 12).toInt from by first | exact oz_1687f4cc65 e20 e52 | omega), (show (pf44 24).toInt = (pf 24).toInt from by first | exact oz_1687f4cc65 e22 e53 | omega), (show (pf44 25).toInt = (pf 25).toInt from by first | exact oz_1687f4cc65 e23 e54 | omega), (show (pf44 26).toInt = (pf 26).toInt from by first | exact oz_1687f4cc65 e24 e55 | omega), (show FrB (pf 13).toInt na ma na45 ma46 from hfb), (show FrW (pf 26).toInt wa wa from hfw), (show ExR ta (tf 6).toInt na45 ma46 v48 (pf 13).toInt (pf44 13).toInt (3 * (bp ta (pf44 11) - bp ta (pf 11))) (pf 12).toInt from (exr_leaf hmk_v48 (Or.inr rfl) (by first | with_reducible rfl | with_reducible assumption | omega) ⟨by first | with_reducible rfl | with_reducible assumption | omega, by first | with_reducible rfl | with_reducible assumption | omega⟩ (by rw [if_neg (by decide)]; exact hso) (by first | with_reducible rfl | with_reducible assumption | omega) (by first | with_reducible rfl | with_reducible assumption | omega) (by first | with_reducible rfl | with_reducible assumption | omega) (by first | with_reducible rfl | with_reducible assumption | omega))), (show FsI (tf 6).toInt (pf44 13).toInt na45 from (FsI.le hfs (by first | with_reducible rfl | with_reducible assumption | omega)))⟩) d_Mpg_primary_156
        · have nc40 : ¬ v37.toInt = (0 : Int) := mt (i_eq (x := v37) (y := 0)).mpr c40
          refine lv_aload_n S.x S.b d_Mpg_primary_102 rfl (lv_at hl 1 rfl) ?_
          refine lv_iconst (v := 4) S.x S.b d_Mpg_primary_103 (by decide) ?_
          refine lv_iload_n S.x S.b d_Mpg_primary_104 rfl (lv_at hl 0 rfl) ?_
          refine px_calli (pr := []) (px_runV (As := [.int 4, .int v14]) (rest := []) S (c_mp_make l D cs h r g tf ta wa cf ca ef ea xf xa pf12 na ma 4 v14  (show 0 ≤ (pf12 13).toInt from by first | exact oz_f3ebed1ad0 e21 g5 | omega) (show (pf12 13).toInt < 2100 from by first | exact oz_b475de3101 e21 g6 e17 g2 e18 | omega) _) hT (pr := []) (pcs := [wdP cs h r g tf ta pf12 na ma wa cf ca ef ea xf xa]) hw px_X.tt (px_recv hT hw 0 0 rfl rfl rfl) m11_209 m11_206 m11_208 ms_8_12 m1_21 q_Mpg_make ⟨show 0 + 1 ≤ (8 * lv + 15) from by first | with_reducible rfl | with_reducible assumption | omega, show 8 + (3 + 11) + 0 ≤ (220 * lv + 570) from by first | with_reducible rfl | with_reducible assumption | omega⟩ hl.1 rfl (Nat.le_of_ble_eq_true rfl) d_Mpg_primary_105 ⟨Nat.le_of_ble_eq_true rfl, Nat.le_of_ble_eq_true rfl⟩) hw hA (fun v65 p64 H locs hp64 hw => ?_)
          obtain ⟨pf61, na62, ma63, rfl, e66, e67, e68, e69, e70, e71, e72, e73⟩ := hp64
          have e66 : v65.toInt = (pf12 13).toInt := e66
          have e67 : (pf61 13).toInt = (pf12 13).toInt + 1 := e67
          have e68 : (pf61 11).toInt = (pf12 11).toInt := e68
          have e69 : (pf61 12).toInt = (pf12 12).toInt := e69
          have e70 : (pf61 24).toInt = (pf12 24).toInt := e70
          have e71 : (pf61 25).toInt = (pf12 25).toInt := e71
          have e72 : (pf61 26).toInt = (pf12 26).toInt := e72
          have e73 : MkN na ma na62 ma63 v65 (4 : Int32) v14 := e73
          obtain ⟨qb741, qb742, qb743, qb744⟩ := tk_eq (ta := ta) (x := (pf61 11)) (y := (pf12 11)) (by first | with_reducible rfl | with_reducible assumption | omega)
          have hmk_v65 := e73
          have hfm_v65 := MkN.frb (b := v65.toInt) hmk_v65 (by first | with_reducible rfl | with_reducible assumption | omega) (by first | with_reducible rfl | with_reducible assumption | omega)
          have hfs := FsI.mk hfs hmk_v65 (by first | with_reducible rfl | with_reducible assumption | omega) (by first | with_reducible rfl | with_reducible assumption | omega) (by first | with_reducible rfl | with_reducible assumption | omega) (by first | with_reducible rfl | with_reducible assumption | omega)
          have hfb := hfb.tr hfm_v65 (by first | with_reducible rfl | with_reducible assumption | omega)
          have hnk_v65 := hmk_v65.nk (by decide) (by decide) (by first | with_reducible rfl | with_reducible assumption | omega)
          have hdn_v65 := dp_nk hmk_v65
          have hw : pw D A s.heap H locs [wdP cs h r g tf ta pf61 na62 ma63 wa cf ca ef ea xf xa] := hw
          have lv65 := Int32.le_toInt v65
          have uv65 := Int32.toInt_lt v65
          refine lv_istore_n (lv' := [(2, .int v65), (1, .int v14), (0, .ref h)]) S.x S.b d_Mpg_primary_108 rfl hl (by decide) rfl (fun ls hl => ?_)
          refine lv_aload_n S.x S.b d_Mpg_primary_109 rfl (lv_at hl 2 rfl) ?_
          refine th_callv (ps0 := [wdP cs h r g tf ta pf na ma wa cf ca ef ea xf xa]) (pr := []) (pcs := [wdP cs h r g tf ta pf61 na62 ma63 wa cf ca ef ea xf xa]) (As := []) (rest := []) (c_mp_opens l D cs h r g tf ta na62 ma63 wa cf ca ef ea xf xa pf61   (show 0 ≤ (pf61 11).toInt from by first | exact oz_78ad3463af e68 e17 g0 | omega) (show (pf61 11).toInt < (tf 6).toInt from by first | exact oz_5d2fbac15b e18 e68 | omega) (show (tf 6).toInt ≤ 2049 from by first | exact g2 | omega) (show (pf61 11).toInt + 1 < (tf 6).toInt from by first | with_reducible rfl | with_reducible assumption | omega) (show 0 ≤ (pf61 12).toInt from by first | exact oz_9bcc310e9c e69 e20 g8 g7 | omega) (show (pf61 12).toInt ≤ 60 from by first | exact oz_d791cd839d e69 e20 g4 | omega) hlf htk) S hT hw (oX_call (P := (fun A U H => (oN A U H) ∧ (oP A g U H))) (pr := []) (oG_and oG_N oG_P) hw hA ⟨hN, hP⟩) (px_recv hT hw 0 0 rfl rfl rfl) m11_238 m11_235 m11_237 ms_9_1 m1_21 q_Mpg_opens ⟨show 7 + 1 ≤ (8 * lv + 15) from by first | with_reducible rfl | with_reducible assumption | omega, show 8 + (1 + 11) + 150 ≤ (220 * lv + 570) from by first | with_reducible rfl | with_reducible assumption | omega⟩ hl.1 rfl (Nat.le_of_ble_eq_true rfl) d_Mpg_primary_110 ⟨Nat.le_of_ble_eq_true rfl, Nat.le_of_ble_eq_true rfl⟩ hne hlk hA hAe (fun o t h => Or.inr h) ?_ (fun p77 H locs hp77 hw => ?_)
          · exact fun p1 H1 locs1 hp hw => by obtain ⟨pq1, pq2, pq3, pq4, rfl, hq1, hq2⟩ := hp; exact ⟨_, ⟨pq1, pq2, pq3, pq4, rfl, hq1, hq2⟩, hw⟩
          obtain ⟨pf76, rfl, e79, e80, e81, e82, e83, e84, e85, e86, e87, e88⟩ := hp77
          have e79 : (pf76 11).toInt = (pf61 11).toInt + 1 := e79
          have e80 : (pf76 11).toInt < (tf 6).toInt := e80
          have e81 : bp ta (pf61 11) + sz ta (pf61 11) ≤ bp ta (pf76 11) := e81
          have e82 : 1 ≤ sz ta (pf61 11) := e82
          have e83 : (pf76 12).toInt = (pf61 12).toInt + 1 := e83
          have e84 : (pf61 12).toInt < 60 := e84
          have e85 : (pf76 13).toInt = (pf61 13).toInt := e85
          have e86 : (pf76 24).toInt = (pf61 24).toInt := e86
          have e87 : (pf76 25).toInt = (pf61 25).toInt := e87
          have e88 : (pf76 26).toInt = (pf61 26).toInt := e88
          have hw : pw D A s.heap H locs [wdP cs h r g tf ta pf76 na62 ma63 wa cf ca ef ea xf xa] := hw
          refine lv_aload_n S.x S.b d_Mpg_primary_113 rfl (lv_at hl 2 rfl) ?_
          refine px_get S k_Mpg hT hw 0 0 17 (v := .ref (r 17)) rfl rfl rfl (by decide) m10_1 d_Mpg_primary_114 ?_
          refine lv_iload_n S.x S.b d_Mpg_primary_117 rfl (lv_at hl 0 rfl) ?_
          refine lv_aload_n S.x S.b d_Mpg_primary_118 rfl (lv_at hl 2 rfl) ?_
          refine th_calli (ps0 := [wdP cs h r g tf ta pf na ma wa cf ca ef ea xf xa]) (pr := []) (pcs := [wdP cs h r g tf ta pf76 na62 ma63 wa cf ca ef ea xf xa]) (As := []) (rest := [.int v65, .ref (r 17)]) ((hE.go (by first | with_reducible rfl | with_reducible assumption | omega)).1 h r g tf ta cf ca ef ea xf xa pf76 na62 ma63 wa   (show 0 ≤ (pf76 11).toInt from by first | exact oz_5322ca43be e79 e68 g0 e17 | omega) (show (pf76 11).toInt < (tf 6).toInt from by first | exact e80 | omega) (show (tf 6).toInt ≤ 2049 from by first | exact g2 | omega) (show 0 ≤ (pf76 12).toInt from by first | exact oz_cf2f95fbac e83 e69 e20 g3 | omega) (show (pf76 12).toInt ≤ 60 from by first | exact oz_6710fd9021 e83 e84 | omega) (show 0 ≤ (pf76 13).toInt from by first | exact oz_18519da00e e85 e67 e21 g5 | omega) (show (pf76 13).toInt ≤ (pf76 11).toInt + 20 from by first | exact oz_bf84bfeeaf e79 e85 e67 e68 g6 e17 e21 | omega) (show 0 ≤ (pf76 26).toInt from by first | exact oz_11e71ee49a e88 e72 e24 g7 | omega) (show (pf76 26).toInt ≤ (pf76 12).toInt from by first | exact oz_0c528c1a49 e83 e88 e69 e72 e20 e24 g8 | omega) (show 61 ≤ (pf76 12).toInt + ((lv - 1 : Nat) : Int) from by first | with_reducible rfl | with_reducible assumption | omega) (show lv - 1 ≤ 61 from by first | with_reducible rfl | with_reducible assumption | omega) hlf htk (FsI.le (N' := (pf76 13).toInt) hfs (by first | with_reducible rfl | with_reducible assumption | omega))) S hT hw (oX_call (P := (fun A U H => (oN A U H) ∧ (oP A g U H))) (pr := []) (oG_and oG_N oG_P) hw hA ⟨hN, hP⟩) (px_recv hT hw 0 0 rfl rfl rfl) m12_38 m12_35 m12_37 ms_9_11 m1_21 q_Mpg_expression ⟨show (8 * (lv - 1) + 20) + 1 ≤ (8 * lv + 15) from by first | with_reducible rfl | with_reducible assumption | omega, show 8 + (7 + 11) + (220 * (lv - 1) + 720) ≤ (220 * lv + 570) from by first | with_reducible rfl | with_reducible assumption | omega⟩ hl.1 rfl (Nat.le_of_ble_eq_true rfl) d_Mpg_primary_119 ⟨Nat.le_of_ble_eq_true rfl, Nat.le_of_ble_eq_true rfl⟩ hne hlk hA hAe (fun o t h => Or.inr h) ?_ (fun v98 p97 H locs hp97 hw => ?_)
          · exact fun p1 H1 locs1 hp hw => by obtain ⟨pq1, pq2, pq3, pq4, rfl, hq1, hq2⟩ := hp; exact ⟨_, ⟨pq1, pq2, pq3, pq4, rfl, hq1, hq2⟩, hw⟩
          obtain ⟨pf93, na94, ma95, wa96, rfl, e99, e100, e101, e102, e103, e104, e105, e106, e107, e108, e109, e110, e111⟩ := hp97
          have e99 : (pf76 11).toInt + 1 ≤ (pf93 11).toInt := e99
          have e100 : (pf93 11).toInt < (tf 6).toInt := e100
          have e101 : (pf76 13).toInt + 1 ≤ (pf93 13).toInt := e101
          have e102 : (pf93 13).toInt - (pf76 13).toInt ≤ (pf93 11).toInt - (pf76 11).toInt := e102
          have e103 : bp ta (pf76 11) + 1 ≤ bp ta (pf93 11) := e103
          have e104 : (pf93 12).toInt = (pf76 12).toInt := e104
          have e105 : (pf93 24).toInt = (pf76 24).toInt := e105
          have e106 : (pf93 25).toInt = (pf76 25).toInt := e106
          have e107 : (pf93 26).toInt = (pf76 26).toInt := e107
          have e108 : FrB (pf76 13).toInt na62 ma63 na94 ma95 := e108
          have hnk_v65 := hnk_v65.kp e108 (by first | with_reducible rfl | with_reducible assumption | omega)
          have hfb := hfb.tr e108 (by first | with_reducible rfl | with_reducible assumption | omega)
          have e109 : FrW (pf76 26).toInt wa wa96 := e109
          have hfw := hfw.tr e109 (by first | with_reducible rfl | with_reducible assumption | omega)
          have e110 : ExR ta (tf 6).toInt na94 ma95 v98 (pf76 13).toInt (pf93 13).toInt (3 * (bp ta (pf93 11) - bp ta (pf76 11))) (pf76 12).toInt := e110
          have ht_v98 := e110
          have hn_ht_v98 := ht_v98.num
          have e111 : FsI (tf 6).toInt (pf93 13).toInt na94 := e111
          have hfs := e111
          have hw : pw D A s.heap H locs [wdP cs h r g tf ta pf93 na94 ma95 wa96 cf ca ef ea xf xa] := hw
          have lv98 := Int32.le_toInt v98
          have uv98 := Int32.toInt_lt v98
          refine px_iast S hT hw 0 13 (n := 2100) (f := (na94 17)) (x := v65) (y := v98) rfl gp_17 (vp_in_iff.mpr (by constructor <;> omega)) d_Mpg_primary_122 (w' := wdP cs h r g tf ta pf93 (va_up na94 17 (upd (na94 17) v65.toNatClampNeg v98)) ma95 wa96 cf ca ef ea xf xa) (ps' := [wdP cs h r g tf ta pf93 (va_up na94 17 (upd (na94 17) v65.toNatClampNeg v98)) ma95 wa96 cf ca ef ea xf xa]) sp_17 rfl (fun H locs hw => ?_)
          refine lv_aload_n S.x S.b d_Mpg_primary_123 rfl (lv_at hl 2 rfl) ?_
          refine px_get S k_Mpg hT hw 0 0 23 (v := .ref (r 23)) rfl rfl rfl (by decide) m10_11 d_Mpg_primary_124 ?_
          refine lv_iload_n S.x S.b d_Mpg_primary_127 rfl (lv_at hl 0 rfl) ?_
          refine lv_iconst (v := 1) S.x S.b d_Mpg_primary_128 (by decide) ?_
          refine lv_aload_n S.x S.b d_Mpg_primary_129 rfl (lv_at hl 2 rfl) ?_
          refine px_get S k_Mpg hT hw 0 0 23 (v := .ref (r 23)) rfl rfl rfl (by decide) m10_11 d_Mpg_primary_130 ?_
          refine lv_aload_n S.x S.b d_Mpg_primary_133 rfl (lv_at hl 2 rfl) ?_
          refine px_get S k_Mpg hT hw 0 0 17 (v := .ref (r 17)) rfl rfl rfl (by decide) m10_1 d_Mpg_primary_134 ?_
          refine lv_iload_n S.x S.b d_Mpg_primary_137 rfl (lv_at hl 0 rfl) ?_
          refine px_iald S hT hw 0 13 (n := 2100) (f := ((va_up na94 17 (upd (na94 17) v65.toNatClampNeg v98)) 17)) rfl gp_17 (x := v65) (vp_in_iff.mpr (by first | exact oz_81892ed073 e66 e21 g5 g6 e17 g2 e68 e79 e99 e100 | (constructor <;> omega))) d_Mpg_primary_138 ?_
          refine lv_topi (fun z112 ez112 => ?_)
          have lz112 := Int32.le_toInt z112
          have uz112 := Int32.toInt_lt z112
          have hsz112 : v98 = z112 := (by rw [ez112, va_up_s, pk_us]); subst hsz112
          refine px_iald S hT hw 0 19 (n := 2100) (f := ((va_up na94 17 (upd (na94 17) v65.toNatClampNeg v98)) 23)) rfl gp_23 (x := v98) (vp_in_iff.mpr (by first | exact oz_d4bfa098fc hn_ht_v98.1 e85 e67 e21 g5 hn_ht_v98.2.1 e102 e79 e100 g2 e68 g6 e17 | (constructor <;> omega))) d_Mpg_primary_139 ?_
          refine lv_topi (fun z113 ez113 => ?_)
          have lz113 := Int32.le_toInt z113
          have uz113 := Int32.toInt_lt z113
          have rz113 : z113.toInt = dp na94 v98 := by have q9 : z113.toInt = dp (va_up na94 17 (upd (na94 17) v65.toNatClampNeg v98)) v98 := (by rw [ez113]; rfl); rw [dp_un (by decide)] at q9; exact q9
          refine lv_iadd S.x S.b d_Mpg_primary_140 ?_
          refine lv_topi (fun z114 ez114 => ?_)
          have tz114 : z114.toInt = ((1 : Int) + z113.toInt + 2147483648) % 4294967296 - 2147483648 := by rw [ez114]; exact i_add 1 z113
          have lz114 := Int32.le_toInt z114
          have uz114 := Int32.toInt_lt z114
          try replace tz114 : z114.toInt = (1 : Int) + z113.toInt := by omega
          refine px_iast S hT hw 0 19 (n := 2100) (f := ((va_up na94 17 (upd (na94 17) v65.toNatClampNeg v98)) 23)) (x := v65) (y := z114) rfl gp_23 (vp_in_iff.mpr (by constructor <;> omega)) d_Mpg_primary_141 (w' := wdP cs h r g tf ta pf93 (va_up (va_up na94 17 (upd (na94 17) v65.toNatClampNeg v98)) 23 (upd ((va_up na94 17 (upd (na94 17) v65.toNatClampNeg v98)) 23) v65.toNatClampNeg z114)) ma95 wa96 cf ca ef ea xf xa) (ps' := [wdP cs h r g tf ta pf93 (va_up (va_up na94 17 (upd (na94 17) v65.toNatClampNeg v98)) 23 (upd ((va_up na94 17 (upd (na94 17) v65.toNatClampNeg v98)) 23) v65.toNatClampNeg z114)) ma95 wa96 cf ca ef ea xf xa]) sp_23 rfl (fun H locs hw => ?_)
          refine lv_aload_n S.x S.b d_Mpg_primary_142 rfl (lv_at hl 2 rfl) ?_
          obtain ⟨sk115, hRsk115, st116, sb117, hSsk115⟩ := oP_lit hP (k := 97) (tx := "]") (n := 1) (List.mem_of_getElem? (i := 40) rfl)
          refine va_ldcS S.x S.b S.own hRsk115 d_Mpg_primary_143 ?_
          refine th_callv (ps0 := [wdP cs h r g tf ta pf na ma wa cf ca ef ea xf xa]) (pr := []) (pcs := [wdP cs h r g tf ta pf93 (va_up (va_up na94 17 (upd (na94 17) v65.toNatClampNeg v98)) 23 (upd ((va_up na94 17 (upd (na94 17) v65.toNatClampNeg v98)) 23) v65.toNatClampNeg z114)) ma95 wa96 cf ca ef ea xf xa]) (As := [.ref sk115]) (rest := []) (c_mp_closes l D cs sk115 1 h r g tf ta (va_up (va_up na94 17 (upd (na94 17) v65.toNatClampNeg v98)) 23 (upd ((va_up na94 17 (upd (na94 17) v65.toNatClampNeg v98)) 23) v65.toNatClampNeg z114)) ma95 wa96 cf ca ef ea xf xa pf93   (show 0 ≤ (pf93 11).toInt from by first | exact oz_519ae28419 e99 e79 g0 e17 e68 | omega) (show (pf93 11).toInt < (tf 6).toInt from by first | exact e100 | omega) (show (tf 6).toInt ≤ 2049 from by first | exact g2 | omega) (show 1 ≤ (pf93 12).toInt from by first | exact oz_dcaedb610d e104 e83 e69 e20 g8 g7 | omega) (show (pf93 12).toInt ≤ 60 from by first | exact oz_1a76b13bbc e104 e83 e84 | omega) (show 1 ≤ 100 from by first | decide | omega) hlf htk) S hT hw (oX_call (P := (fun A U H => (oN A U H) ∧ (oP A g U H) ∧ (StS A sk115 1 U H))) (pr := []) (oG_and oG_N (oG_and oG_P oG_Q)) hw hA ⟨hN, hP, ⟨_, _, hSsk115⟩⟩) (px_recv hT hw 0 0 rfl rfl rfl) m12_53 m12_50 m12_52 ms_9_14 m1_21 q_Mpg_closes ⟨show 8 + 1 ≤ (8 * lv + 15) from by first | with_reducible rfl | with_reducible assumption | omega, show 8 + (2 + 11) + 280 ≤ (220 * lv + 570) from by first | with_reducible rfl | with_reducible assumption | omega⟩ hl.1 rfl (Nat.le_of_ble_eq_true rfl) d_Mpg_primary_145 ⟨Nat.le_of_ble_eq_true rfl, Nat.le_of_ble_eq_true rfl⟩ hne hlk hA hAe (fun o t h => Or.inr h) ?_ (fun p120 H locs hp120 hw => ?_)
          · exact fun p1 H1 locs1 hp hw => by obtain ⟨pq1, pq2, pq3, pq4, rfl, hq1, hq2⟩ := hp; exact ⟨_, ⟨pq1, pq2, pq3, pq4, rfl, hq1, hq2⟩, hw⟩
          obtain ⟨pf119, rfl, e122, e123, e124, e125, e126, e127, e128, e129⟩ := hp120
          have e122 : (pf119 11).toInt = (pf93 11).toInt + 1 := e122
          have e123 : (pf119 11).toInt < (tf 6).toInt := e123
          have e124 : bp ta (pf93 11) + 1 ≤ bp ta (pf119 11) := e124
          have e125 : (pf119 12).toInt = (pf93 12).toInt - 1 := e125
          have e126 : (pf119 13).toInt = (pf93 13).toInt := e126
          have e127 : (pf119 24).toInt = (pf93 24).toInt := e127
          have e128 : (pf119 25).toInt = (pf93 25).toInt := e128
          have e129 : (pf119 26).toInt = (pf93 26).toInt := e129
          have hw : pw D A s.heap H locs [wdP cs h r g tf ta pf119 (va_up (va_up na94 17 (upd (na94 17) v65.toNatClampNeg v98)) 23 (upd ((va_up na94 17 (upd (na94 17) v65.toNatClampNeg v98)) 23) v65.toNatClampNeg z114)) ma95 wa96 cf ca ef ea xf xa] := hw
          refine lv_iload_n S.x S.b d_Mpg_primary_148 rfl (lv_at hl 0 rfl) ?_
          exact th_iret (v := v65) S hr rfl hlk hAe hw (⟨pf119, (va_up (va_up na94 17 (upd (na94 17) v65.toNatClampNeg v98)) 23 (upd ((va_up na94 17 (upd (na94 17) v65.toNatClampNeg v98)) 23) v65.toNatClampNeg z114)), ma95, wa96, rfl, (show (pf 11).toInt + 1 ≤ (pf119 11).toInt from by first | exact oz_1e356fea56 e17 e122 e68 e99 e79 | omega), (show (pf119 11).toInt < (tf 6).toInt from by first | exact e123 | omega), (show (pf 13).toInt + 1 ≤ (pf119 13).toInt from by first | exact oz_a035d58e61 e21 e126 e67 e101 e85 | omega), (show (pf119 13).toInt - (pf 13).toInt ≤ (pf119 11).toInt - (pf 11).toInt from by first | exact oz_c43a9ae0a0 e17 e21 e122 e126 e67 e68 e102 e79 e85 | omega), (show bp ta (pf 11) + 1 ≤ bp ta (pf119 11) from by first | exact oz_1950e1fb70 e19 e124 qb741 e103 e81 e82 | omega), (show (pf119 12).toInt = (pf 12).toInt from by first | exact oz_313281b214 e20 e125 e69 e104 e83 | omega), (show (pf119 24).toInt = (pf 24).toInt from by first | exact oz_0867352dd7 e22 e127 e70 e105 e86 | omega), (show (pf119 25).toInt = (pf 25).toInt from by first | exact oz_0867352dd7 e23 e128 e71 e106 e87 | omega), (show (pf119 26).toInt = (pf 26).toInt from by first | exact oz_0867352dd7 e24 e129 e72 e107 e88 | omega), (show FrB (pf 13).toInt na ma (va_up (va_up na94 17 (upd (na94 17) v65.toNatClampNeg v98)) 23 (upd ((va_up na94 17 (upd (na94 17) v65.toNatClampNeg v98)) 23) v65.toNatClampNeg z114)) ma95 from (FrB.un (FrB.un hfb (by first | with_reducible rfl | with_reducible assumption | omega) (by first | with_reducible rfl | with_reducible assumption | omega)) (by first | with_reducible rfl | with_reducible assumption | omega) (by first | with_reducible rfl | with_reducible assumption | omega))), (show FrW (pf 26).toInt wa wa96 from hfw), (show ExR ta (tf 6).toInt (va_up (va_up na94 17 (upd (na94 17) v65.toNatClampNeg v98)) 23 (upd ((va_up na94 17 (upd (na94 17) v65.toNatClampNeg v98)) 23) v65.toNatClampNeg z114)) ma95 v65 (pf 13).toInt (pf119 13).toInt (3 * (bp ta (pf119 11) - bp ta (pf 11))) (pf 12).toInt from (ExR.le (exr_index ht_v98 (by first | with_reducible rfl | with_reducible assumption | omega) (by first | with_reducible rfl | with_reducible assumption | omega) (fun x hx => ⟨fun j => by rw [up_far hx, up_far hx], fun _ => rfl⟩) (by rw [va_up_n (by decide), va_up_n (by decide), hnk_v65.1]; rfl) (ndt_of (by rw [va_up_n (by decide), va_up_n (by decide), hnk_v65.2.1]) (by first | with_reducible rfl | with_reducible assumption | omega) (by first | with_reducible rfl | with_reducible assumption | omega) hso) (by rw [va_up_n (by decide), va_up_s, pk_us]) (by rw [dp_us]; omega) ⟨(by rw [va_up_n (by decide), va_up_n (by decide), hnk_v65.2.2.1]; decide), (by rw [hnk_v65.2.2.2.2]; decide)⟩ (show (pf 12).toInt + 1 ≤ _ from by first | with_reducible rfl | with_reducible assumption | omega)) (by first | with_reducible rfl | with_reducible assumption | omega) (by first | with_reducible rfl | with_reducible assumption | omega) (by first | with_reducible rfl | with_reducible assumption | omega) (Int.le_refl _))), (show FsI (tf 6).toInt (pf119 13).toInt (va_up (va_up na94 17 (upd (na94 17) v65.toNatClampNeg v98)) 23 (upd ((va_up na94 17 (upd (na94 17) v65.toNatClampNeg v98)) 23) v65.toNatClampNeg z114)) from (FsI.le (FsI.un (FsI.un hfs (by decide)) (by decide)) (by first | with_reducible rfl | with_reducible assumption | omega)))⟩) d_Mpg_primary_149
      · have nc32 : ¬ v29.toInt = (0 : Int) := mt (i_eq (x := v29) (y := 0)).mpr c32
        refine lv_aload_n S.x S.b d_Mpg_primary_87 rfl (lv_at hl 1 rfl) ?_
        refine lv_iload_n S.x S.b d_Mpg_primary_88 rfl (lv_at hl 0 rfl) ?_
        refine th_calli (ps0 := [wdP cs h r g tf ta pf na ma wa cf ca ef ea xf xa]) (pr := []) (pcs := [wdP cs h r g tf ta pf12 na ma wa cf ca ef ea xf xa]) (As := [.int v14]) (rest := []) (c_mp_call l D cs h r g tf ta cf ca ef ea xf xa pf12 na ma wa v14 lv (show 0 ≤ (pf12 11).toInt from by first | exact oz_ae613611c0 e17 g0 | omega) (show (pf12 11).toInt < (tf 6).toInt from by first | exact e18 | omega) (show (tf 6).toInt ≤ 2049 from by first | exact g2 | omega) (show 0 ≤ (pf12 12).toInt from by first | exact oz_f3ebed1ad0 e20 g3 | omega) (show (pf12 12).toInt ≤ 60 from by first | exact oz_a3db38fa3c e20 g4 | omega) (show 0 ≤ (pf12 13).toInt from by first | exact oz_f3ebed1ad0 e21 g5 | omega) (show (pf12 13).toInt ≤ (pf12 11).toInt + 20 from by first | exact oz_7ba96ac489 e17 e21 g6 | omega) (show 0 ≤ (pf12 26).toInt from by first | exact oz_f3ebed1ad0 e24 g7 | omega) (show (pf12 26).toInt ≤ (pf12 12).toInt from by first | exact oz_508dc9c651 e20 e24 g8 | omega) (show 61 ≤ (pf12 12).toInt + (lv : Int) from by first | exact oz_13a538c620 g9 e20 | omega) (show lv ≤ 61 from by first | exact g10 | omega) (show 0 ≤ v14.toInt from by first | exact oz_f3ebed1ad0 e15 g0 | omega) (show v14.toInt < (tf 6).toInt from by first | exact oz_7faa3985b4 e15 e18 e17 | omega) (show so ta v14 = 1 from by first | exact hso | omega) (show (pf12 11).toInt + 1 < (tf 6).toInt from by first | with_reducible rfl | with_reducible assumption | omega) hlf htk (FsI.le (N' := (pf12 13).toInt) hfs (by first | with_reducible rfl | with_reducible assumption | omega)) hE) S hT hw (oX_call (P := (fun A U H => (oN A U H) ∧ (oP A g U H))) (pr := []) (oG_and oG_N oG_P) hw hA ⟨hN, hP⟩) (px_recv hT hw 0 0 rfl rfl rfl) m12_61 m12_58 m12_60 ms_10_0 m1_21 q_Mpg_call ⟨show (8 * lv + 14) + 1 ≤ (8 * lv + 15) from by first | with_reducible rfl | with_reducible assumption | omega, show 8 + (5 + 11) + (220 * lv + 540) ≤ (220 * lv + 570) from by first | with_reducible rfl | with_reducible assumption | omega⟩ hl.1 rfl (Nat.le_of_ble_eq_true rfl) d_Mpg_primary_89 ⟨Nat.le_of_ble_eq_true rfl, Nat.le_of_ble_eq_true rfl⟩ hne hlk hA hAe (fun o t h => Or.inr h) ?_ (fun v139 p138 H locs hp138 hw => ?_)
        · exact fun p1 H1 locs1 hp hw => by obtain ⟨pq1, pq2, pq3, pq4, rfl, hq1, hq2⟩ := hp; exact ⟨_, ⟨pq1, pq2, pq3, pq4, rfl, hq1, hq2⟩, hw⟩
        obtain ⟨pf134, na135, ma136, wa137, rfl, e140, e141, e142, e143, e144, e145, e146, e147, e148, e149, e150, e151, e152⟩ := hp138
        have e140 : (pf12 11).toInt + 1 ≤ (pf134 11).toInt := e140
        have e141 : (pf134 11).toInt < (tf 6).toInt := e141
        have e142 : (pf12 13).toInt + 1 ≤ (pf134 13).toInt := e142
        have e143 : (pf134 13).toInt - (pf12 13).toInt ≤ (pf134 11).toInt - (pf12 11).toInt := e143
        have e144 : bp ta (pf12 11) + 1 ≤ bp ta (pf134 11) := e144
        have e145 : (pf134 12).toInt = (pf12 12).toInt := e145
        have e146 : (pf134 24).toInt = (pf12 24).toInt := e146
        have e147 : (pf134 25).toInt = (pf12 25).toInt := e147
        have e148 : (pf134 26).toInt = (pf12 26).toInt := e148
        have e149 : FrB (pf12 13).toInt na ma na135 ma136 := e149
        have hfb := hfb.tr e149 (by first | with_reducible rfl | with_reducible assumption | omega)
        have e150 : FrW (pf12 26).toInt wa wa137 := e150
        have hfw := hfw.tr e150 (by first | with_reducible rfl | with_reducible assumption | omega)
        have e151 : ExR ta (tf 6).toInt na135 ma136 v139 (pf12 13).toInt (pf134 13).toInt (3 * (bp ta (pf134 11) - bp ta (pf12 11))) (pf12 12).toInt := e151
        have ht_v139 := e151
        have hn_ht_v139 := ht_v139.num
        have e152 : FsI (tf 6).toInt (pf134 13).toInt na135 := e152
        have hfs := e152
        have hw : pw D A s.heap H locs [wdP cs h r g tf ta pf134 na135 ma136 wa137 cf ca ef ea xf xa] := hw
        have lv139 := Int32.le_toInt v139
        have uv139 := Int32.toInt_lt v139
        exact th_iret (v := v139) S hr rfl hlk hAe hw (⟨pf134, na135, ma136, wa137, rfl, (show (pf 11).toInt + 1 ≤ (pf134 11).toInt from by first | exact oz_36ba723014 e17 e140 | omega), (show (pf134 11).toInt < (tf 6).toInt from by first | exact e141 | omega), (show (pf 13).toInt + 1 ≤ (pf134 13).toInt from by first | exact oz_4495b4e10b e21 e142 | omega), (show (pf134 13).toInt - (pf 13).toInt ≤ (pf134 11).toInt - (pf 11).toInt from by first | exact oz_44664987d4 e17 e21 e143 | omega), (show bp ta (pf 11) + 1 ≤ bp ta (pf134 11) from by first | exact oz_132e547139 e19 e144 | omega), (show (pf134 12).toInt = (pf 12).toInt from by first | exact oz_1687f4cc65 e20 e145 | omega), (show (pf134 24).toInt = (pf 24).toInt from by first | exact oz_1687f4cc65 e22 e146 | omega), (show (pf134 25).toInt = (pf 25).toInt from by first | exact oz_1687f4cc65 e23 e147 | omega), (show (pf134 26).toInt = (pf 26).toInt from by first | exact oz_1687f4cc65 e24 e148 | omega), (show FrB (pf 13).toInt na ma na135 ma136 from hfb), (show FrW (pf 26).toInt wa wa137 from hfw), (show ExR ta (tf 6).toInt na135 ma136 v139 (pf 13).toInt (pf134 13).toInt (3 * (bp ta (pf134 11) - bp ta (pf 11))) (pf 12).toInt from (ExR.le ht_v139 (by first | with_reducible rfl | with_reducible assumption | omega) (by first | with_reducible rfl | with_reducible assumption | omega) (by first | with_reducible rfl | with_reducible assumption | omega) (by first | with_reducible rfl | with_reducible assumption | omega))), (show FsI (tf 6).toInt (pf134 13).toInt na135 from (FsI.le hfs (by first | with_reducible rfl | with_reducible assumption | omega)))⟩) d_Mpg_primary_92
    · have nc10 : ¬ v7.toInt = (0 : Int) := mt (i_eq (x := v7) (y := 0)).mpr c10
      refine lv_aload_n S.x S.b d_Mpg_primary_44 rfl (lv_at hl 0 rfl) ?_
      refine px_get S k_Mpg hT hw 0 0 11 (v := .int (pf 11)) rfl rfl rfl (by decide) m9_235 d_Mpg_primary_45 ?_
      refine lv_istore_n (lv' := [(1, .int (pf 11)), (0, .ref h)]) S.x S.b d_Mpg_primary_48 rfl hl (by decide) rfl (fun ls hl => ?_)
      refine lv_aload_n S.x S.b d_Mpg_primary_49 rfl (lv_at hl 1 rfl) ?_
      refine th_callv (ps0 := [wdP cs h r g tf ta pf na ma wa cf ca ef ea xf xa]) (pr := []) (pcs := [wdP cs h r g tf ta pf na ma wa cf ca ef ea xf xa]) (As := []) (rest := []) (c_mp_opens l D cs h r g tf ta na ma wa cf ca ef ea xf xa pf   (show 0 ≤ (pf 11).toInt from by first | exact g0 | omega) (show (pf 11).toInt < (tf 6).toInt from by first | exact g1 | omega) (show (tf 6).toInt ≤ 2049 from by first | exact g2 | omega) (show (pf 11).toInt + 1 < (tf 6).toInt from by first | with_reducible rfl | with_reducible assumption | omega) (show 0 ≤ (pf 12).toInt from by first | exact g3 | omega) (show (pf 12).toInt ≤ 60 from by first | exact g4 | omega) hlf htk) S hT hw (oX_call (P := (fun A U H => (oN A U H) ∧ (oP A g U H))) (pr := []) (oG_and oG_N oG_P) hw hA ⟨hN, hP⟩) (px_recv hT hw 0 0 rfl rfl rfl) m11_238 m11_235 m11_237 ms_9_1 m1_21 q_Mpg_opens ⟨show 7 + 1 ≤ (8 * lv + 15) from by first | with_reducible rfl | with_reducible assumption | omega, show 8 + (1 + 11) + 150 ≤ (220 * lv + 570) from by first | with_reducible rfl | with_reducible assumption | omega⟩ hl.1 rfl (Nat.le_of_ble_eq_true rfl) d_Mpg_primary_50 ⟨Nat.le_of_ble_eq_true rfl, Nat.le_of_ble_eq_true rfl⟩ hne hlk hA hAe (fun o t h => Or.inr h) ?_ (fun p155 H locs hp155 hw => ?_)
      · exact fun p1 H1 locs1 hp hw => by obtain ⟨pq1, pq2, pq3, pq4, rfl, hq1, hq2⟩ := hp; exact ⟨_, ⟨pq1, pq2, pq3, pq4, rfl, hq1, hq2⟩, hw⟩
      obtain ⟨pf154, rfl, e157, e158, e159, e160, e161, e162, e163, e164, e165, e166⟩ := hp155
      have e157 : (pf154 11).toInt = (pf 11).toInt + 1 := e157
      have e158 : (pf154 11).toInt < (tf 6).toInt := e158
      have e159 : bp ta (pf 11) + sz ta (pf 11) ≤ bp ta (pf154 11) := e159
      have e160 : 1 ≤ sz ta (pf 11) := e160
      have e161 : (pf154 12).toInt = (pf 12).toInt + 1 := e161
      have e162 : (pf 12).toInt < 60 := e162
      have e163 : (pf154 13).toInt = (pf 13).toInt := e163
      have e164 : (pf154 24).toInt = (pf 24).toInt := e164
      have e165 : (pf154 25).toInt = (pf 25).toInt := e165
      have e166 : (pf154 26).toInt = (pf 26).toInt := e166
      have hw : pw D A s.heap H locs [wdP cs h r g tf ta pf154 na ma wa cf ca ef ea xf xa] := hw
      refine lv_aload_n S.x S.b d_Mpg_primary_53 rfl (lv_at hl 1 rfl) ?_
      refine th_calli (ps0 := [wdP cs h r g tf ta pf na ma wa cf ca ef ea xf xa]) (pr := []) (pcs := [wdP cs h r g tf ta pf154 na ma wa cf ca ef ea xf xa]) (As := []) (rest := []) ((hE.go (by first | with_reducible rfl | with_reducible assumption | omega)).1 h r g tf ta cf ca ef ea xf xa pf154 na ma wa   (show 0 ≤ (pf154 11).toInt from by first | exact oz_ae613611c0 e157 g0 | omega) (show (pf154 11).toInt < (tf 6).toInt from by first | exact e158 | omega) (show (tf 6).toInt ≤ 2049 from by first | exact g2 | omega) (show 0 ≤ (pf154 12).toInt from by first | exact oz_ae613611c0 e161 g3 | omega) (show (pf154 12).toInt ≤ 60 from by first | exact oz_6710fd9021 e161 e162 | omega) (show 0 ≤ (pf154 13).toInt from by first | exact oz_f3ebed1ad0 e163 g5 | omega) (show (pf154 13).toInt ≤ (pf154 11).toInt + 20 from by first | exact oz_7ba96ac489 e157 e163 g6 | omega) (show 0 ≤ (pf154 26).toInt from by first | exact oz_f3ebed1ad0 e166 g7 | omega) (show (pf154 26).toInt ≤ (pf154 12).toInt from by first | exact oz_d87b110ba5 e161 e166 g8 | omega) (show 61 ≤ (pf154 12).toInt + ((lv - 1 : Nat) : Int) from by first | with_reducible rfl | with_reducible assumption | omega) (show lv - 1 ≤ 61 from by first | with_reducible rfl | with_reducible assumption | omega) hlf htk (FsI.le (N' := (pf154 13).toInt) hfs (by first | with_reducible rfl | with_reducible assumption | omega))) S hT hw (oX_call (P := (fun A U H => (oN A U H) ∧ (oP A g U H))) (pr := []) (oG_and oG_N oG_P) hw hA ⟨hN, hP⟩) (px_recv hT hw 0 0 rfl rfl rfl) m12_38 m12_35 m12_37 ms_9_11 m1_21 q_Mpg_expression ⟨show (8 * (lv - 1) + 20) + 1 ≤ (8 * lv + 15) from by first | with_reducible rfl | with_reducible assumption | omega, show 8 + (7 + 11) + (220 * (lv - 1) + 720) ≤ (220 * lv + 570) from by first | with_reducible rfl | with_reducible assumption | omega⟩ hl.1 rfl (Nat.le_of_ble_eq_true rfl) d_Mpg_primary_54 ⟨Nat.le_of_ble_eq_true rfl, Nat.le_of_ble_eq_true rfl⟩ hne hlk hA hAe (fun o t h => Or.inr h) ?_ (fun v176 p175 H locs hp175 hw => ?_)
      · exact fun p1 H1 locs1 hp hw => by obtain ⟨pq1, pq2, pq3, pq4, rfl, hq1, hq2⟩ := hp; exact ⟨_, ⟨pq1, pq2, pq3, pq4, rfl, hq1, hq2⟩, hw⟩
      obtain ⟨pf171, na172, ma173, wa174, rfl, e177, e178, e179, e180, e181, e182, e183, e184, e185, e186, e187, e188, e189⟩ := hp175
      have e177 : (pf154 11).toInt + 1 ≤ (pf171 11).toInt := e177
      have e178 : (pf171 11).toInt < (tf 6).toInt := e178
      have e179 : (pf154 13).toInt + 1 ≤ (pf171 13).toInt := e179
      have e180 : (pf171 13).toInt - (pf154 13).toInt ≤ (pf171 11).toInt - (pf154 11).toInt := e180
      have e181 : bp ta (pf154 11) + 1 ≤ bp ta (pf171 11) := e181
      have e182 : (pf171 12).toInt = (pf154 12).toInt := e182
      have e183 : (pf171 24).toInt = (pf154 24).toInt := e183
      have e184 : (pf171 25).toInt = (pf154 25).toInt := e184
      have e185 : (pf171 26).toInt = (pf154 26).toInt := e185
      have e186 : FrB (pf154 13).toInt na ma na172 ma173 := e186
      have hfb := hfb.tr e186 (by first | with_reducible rfl | with_reducible assumption | omega)
      have e187 : FrW (pf154 26).toInt wa wa174 := e187
      have hfw := hfw.tr e187 (by first | with_reducible rfl | with_reducible assumption | omega)
      have e188 : ExR ta (tf 6).toInt na172 ma173 v176 (pf154 13).toInt (pf171 13).toInt (3 * (bp ta (pf171 11) - bp ta (pf154 11))) (pf154 12).toInt := e188
      have ht_v176 := e188
      have hn_ht_v176 := ht_v176.num
      have e189 : FsI (tf 6).toInt (pf171 13).toInt na172 := e189
      have hfs := e189
      have hw : pw D A s.heap H locs [wdP cs h r g tf ta pf171 na172 ma173 wa174 cf ca ef ea xf xa] := hw
      have lv176 := Int32.le_toInt v176
      have uv176 := Int32.toInt_lt v176
      refine lv_istore_n (lv' := [(2, .int v176), (1, .int (pf 11)), (0, .ref h)]) S.x S.b d_Mpg_primary_57 rfl hl (by decide) rfl (fun ls hl => ?_)
      refine lv_aload_n S.x S.b d_Mpg_primary_58 rfl (lv_at hl 2 rfl) ?_
      obtain ⟨sk190, hRsk190, st191, sb192, hSsk190⟩ := oP_lit hP (k := 89) (tx := ")") (n := 1) (List.mem_of_getElem? (i := 36) rfl)
      refine va_ldcS S.x S.b S.own hRsk190 d_Mpg_primary_59 ?_
      refine th_callv (ps0 := [wdP cs h r g tf ta pf na ma wa cf ca ef ea xf xa]) (pr := []) (pcs := [wdP cs h r g tf ta pf171 na172 ma173 wa174 cf ca ef ea xf xa]) (As := [.ref sk190]) (rest := []) (c_mp_closes l D cs sk190 1 h r g tf ta na172 ma173 wa174 cf ca ef ea xf xa pf171   (show 0 ≤ (pf171 11).toInt from by first | exact oz_4606bbd1cf e177 e157 g0 | omega) (show (pf171 11).toInt < (tf 6).toInt from by first | exact e178 | omega) (show (tf 6).toInt ≤ 2049 from by first | exact g2 | omega) (show 1 ≤ (pf171 12).toInt from by first | exact oz_a564fc7457 e182 e161 g8 g7 | omega) (show (pf171 12).toInt ≤ 60 from by first | exact oz_1a76b13bbc e182 e161 e162 | omega) (show 1 ≤ 100 from by first | decide | omega) hlf htk) S hT hw (oX_call (P := (fun A U H => (oN A U H) ∧ (oP A g U H) ∧ (StS A sk190 1 U H))) (pr := []) (oG_and oG_N (oG_and oG_P oG_Q)) hw hA ⟨hN, hP, ⟨_, _, hSsk190⟩⟩) (px_recv hT hw 0 0 rfl rfl rfl) m12_53 m12_50 m12_52 ms_9_14 m1_21 q_Mpg_closes ⟨show 8 + 1 ≤ (8 * lv + 15) from by first | with_reducible rfl | with_reducible assumption | omega, show 8 + (2 + 11) + 280 ≤ (220 * lv + 570) from by first | with_reducible rfl | with_reducible assumption | omega⟩ hl.1 rfl (Nat.le_of_ble_eq_true rfl) d_Mpg_primary_61 ⟨Nat.le_of_ble_eq_true rfl, Nat.le_of_ble_eq_true rfl⟩ hne hlk hA hAe (fun o t h => Or.inr h) ?_ (fun p195 H locs hp195 hw => ?_)
      · exact fun p1 H1 locs1 hp hw => by obtain ⟨pq1, pq2, pq3, pq4, rfl, hq1, hq2⟩ := hp; exact ⟨_, ⟨pq1, pq2, pq3, pq4, rfl, hq1, hq2⟩, hw⟩
      obtain ⟨pf194, rfl, e197, e198, e199, e200, e201, e202, e203, e204⟩ := hp195
      have e197 : (pf194 11).toInt = (pf171 11).toInt + 1 := e197
      have e198 : (pf194 11).toInt < (tf 6).toInt := e198
      have e199 : bp ta (pf171 11) + 1 ≤ bp ta (pf194 11) := e199
      have e200 : (pf194 12).toInt = (pf171 12).toInt - 1 := e200
      have e201 : (pf194 13).toInt = (pf171 13).toInt := e201
      have e202 : (pf194 24).toInt = (pf171 24).toInt := e202
      have e203 : (pf194 25).toInt = (pf171 25).toInt := e203
      have e204 : (pf194 26).toInt = (pf171 26).toInt := e204
      have hw : pw D A s.heap H locs [wdP cs h r g tf ta pf194 na172 ma173 wa174 cf ca ef ea xf xa] := hw
      refine lv_aload_n S.x S.b d_Mpg_primary_64 rfl (lv_at hl 2 rfl) ?_
      refine px_get S k_Mpg hT hw 0 0 16 (v := .ref (r 16)) rfl rfl rfl (by decide) m10_0 d_Mpg_primary_65 ?_
      refine lv_iload_n S.x S.b d_Mpg_primary_68 rfl (lv_at hl 0 rfl) ?_
      refine lv_iload_n S.x S.b d_Mpg_primary_69 rfl (lv_at hl 1 rfl) ?_
      refine px_iast S hT hw 0 12 (n := 2100) (f := (na172 16)) (x := v176) (y := (pf 11)) rfl gp_16 (vp_in_iff.mpr (by constructor <;> omega)) d_Mpg_primary_70 (w' := wdP cs h r g tf ta pf194 (va_up na172 16 (upd (na172 16) v176.toNatClampNeg (pf 11))) ma173 wa174 cf ca ef ea xf xa) (ps' := [wdP cs h r g tf ta pf194 (va_up na172 16 (upd (na172 16) v176.toNatClampNeg (pf 11))) ma173 wa174 cf ca ef ea xf xa]) sp_16 rfl (fun H locs hw => ?_)
      refine lv_iload_n S.x S.b d_Mpg_primary_71 rfl (lv_at hl 0 rfl) ?_
      exact th_iret (v := v176) S hr rfl hlk hAe hw (⟨pf194, (va_up na172 16 (upd (na172 16) v176.toNatClampNeg (pf 11))), ma173, wa174, rfl, (show (pf 11).toInt + 1 ≤ (pf194 11).toInt from by first | exact oz_40adf82cfc e157 e197 e177 | omega), (show (pf194 11).toInt < (tf 6).toInt from by first | exact e198 | omega), (show (pf 13).toInt + 1 ≤ (pf194 13).toInt from by first | exact oz_56e011771b e163 e201 e179 | omega), (show (pf194 13).toInt - (pf 13).toInt ≤ (pf194 11).toInt - (pf 11).toInt from by first | exact oz_367be77e0e e157 e163 e197 e201 e180 | omega), (show bp ta (pf 11) + 1 ≤ bp ta (pf194 11) from by first | exact oz_666f9d906c e159 e199 e160 e181 | omega), (show (pf194 12).toInt = (pf 12).toInt from by first | exact oz_e2f0d2d242 e161 e200 e182 | omega), (show (pf194 24).toInt = (pf 24).toInt from by first | exact oz_e13fc83238 e164 e202 e183 | omega), (show (pf194 25).toInt = (pf 25).toInt from by first | exact oz_e13fc83238 e165 e203 e184 | omega), (show (pf194 26).toInt = (pf 26).toInt from by first | exact oz_e13fc83238 e166 e204 e185 | omega), (show FrB (pf 13).toInt na ma (va_up na172 16 (upd (na172 16) v176.toNatClampNeg (pf 11))) ma173 from (FrB.un hfb (by first | with_reducible rfl | with_reducible assumption | omega) (by first | with_reducible rfl | with_reducible assumption | omega))), (show FrW (pf 26).toInt wa wa174 from hfw), (show ExR ta (tf 6).toInt (va_up na172 16 (upd (na172 16) v176.toNatClampNeg (pf 11))) ma173 v176 (pf 13).toInt (pf194 13).toInt (3 * (bp ta (pf194 11) - bp ta (pf 11))) (pf 12).toInt from (ExR.le (exr_par ht_v176 (by first | with_reducible rfl | with_reducible assumption | omega) (show (pf 12).toInt ≤ _ from by first | with_reducible rfl | with_reducible assumption | omega)) (by first | with_reducible rfl | with_reducible assumption | omega) (by first | with_reducible rfl | with_reducible assumption | omega) (by first | with_reducible rfl | with_reducible assumption | omega) (Int.le_refl _))), (show FsI (tf 6).toInt (pf194 13).toInt (va_up na172 16 (upd (na172 16) v176.toNatClampNeg (pf 11))) from (FsI.le (FsI.us hfs (by first | with_reducible rfl | with_reducible assumption | omega) (by first | with_reducible rfl | with_reducible assumption | omega)) (by first | with_reducible rfl | with_reducible assumption | omega)))⟩) d_Mpg_primary_72
  · have nc2 : z1.toInt = (3 : Int) := (i_eq (x := z1) (y := 3)).mp c2
    refine lv_aload_n S.x S.b d_Mpg_primary_13 rfl (lv_at hl 0 rfl) ?_
    refine lv_iconst (v := 1) S.x S.b d_Mpg_primary_14 (by decide) ?_
    refine lv_aload_n S.x S.b d_Mpg_primary_15 rfl (lv_at hl 0 rfl) ?_
    refine px_get S k_Mpg hT hw 0 0 11 (v := .int (pf 11)) rfl rfl rfl (by decide) m9_235 d_Mpg_primary_16 ?_
    refine px_calli (pr := []) (px_runV (As := [.int 1, .int (pf 11)]) (rest := []) S (c_mp_make l D cs h r g tf ta wa cf ca ef ea xf xa pf na ma 1 (pf 11)  (show 0 ≤ (pf 13).toInt from by first | exact g5 | omega) (show (pf 13).toInt < 2100 from by first | exact oz_725fe6997c g6 g1 g2 | omega) _) hT (pr := []) (pcs := [wdP cs h r g tf ta pf na ma wa cf ca ef ea xf xa]) hw px_X.tt (px_recv hT hw 0 0 rfl rfl rfl) m11_209 m11_206 m11_208 ms_8_12 m1_21 q_Mpg_make ⟨show 0 + 1 ≤ (8 * lv + 15) from by first | with_reducible rfl | with_reducible assumption | omega, show 8 + (3 + 11) + 0 ≤ (220 * lv + 570) from by first | with_reducible rfl | with_reducible assumption | omega⟩ hl.1 rfl (Nat.le_of_ble_eq_true rfl) d_Mpg_primary_19 ⟨Nat.le_of_ble_eq_true rfl, Nat.le_of_ble_eq_true rfl⟩) hw hA (fun v212 p211 H locs hp211 hw => ?_)
    obtain ⟨pf208, na209, ma210, rfl, e213, e214, e215, e216, e217, e218, e219, e220⟩ := hp211
    have e213 : v212.toInt = (pf 13).toInt := e213
    have e214 : (pf208 13).toInt = (pf 13).toInt + 1 := e214
    have e215 : (pf208 11).toInt = (pf 11).toInt := e215
    have e216 : (pf208 12).toInt = (pf 12).toInt := e216
    have e217 : (pf208 24).toInt = (pf 24).toInt := e217
    have e218 : (pf208 25).toInt = (pf 25).toInt := e218
    have e219 : (pf208 26).toInt = (pf 26).toInt := e219
    have e220 : MkN na ma na209 ma210 v212 (1 : Int32) (pf 11) := e220
    obtain ⟨qb2211, qb2212, qb2213, qb2214⟩ := tk_eq (ta := ta) (x := (pf208 11)) (y := (pf 11)) (by first | with_reducible rfl | with_reducible assumption | omega)
    have hmk_v212 := e220
    have hfm_v212 := MkN.frb (b := v212.toInt) hmk_v212 (by first | with_reducible rfl | with_reducible assumption | omega) (by first | with_reducible rfl | with_reducible assumption | omega)
    have hfs := FsI.mk hfs hmk_v212 (by first | with_reducible rfl | with_reducible assumption | omega) (by first | with_reducible rfl | with_reducible assumption | omega) (by first | with_reducible rfl | with_reducible assumption | omega) (by first | with_reducible rfl | with_reducible assumption | omega)
    have hfb := hfb.tr hfm_v212 (by first | with_reducible rfl | with_reducible assumption | omega)
    have hnk_v212 := hmk_v212.nk (by decide) (by decide) (by first | with_reducible rfl | with_reducible assumption | omega)
    have hdn_v212 := dp_nk hmk_v212
    have hw : pw D A s.heap H locs [wdP cs h r g tf ta pf208 na209 ma210 wa cf ca ef ea xf xa] := hw
    have lv212 := Int32.le_toInt v212
    have uv212 := Int32.toInt_lt v212
    refine lv_istore_n (lv' := [(1, .int v212), (0, .ref h)]) S.x S.b d_Mpg_primary_22 rfl hl (by decide) rfl (fun ls hl => ?_)
    refine lv_aload_n S.x S.b d_Mpg_primary_23 rfl (lv_at hl 1 rfl) ?_
    refine lv_dup S.x S.b d_Mpg_primary_24 rfl ?_
    refine px_get S k_Mpg hT hw 0 0 11 (v := .int (pf208 11)) rfl rfl rfl (by decide) m9_235 d_Mpg_primary_25 ?_
    refine lv_iconst (v := 1) S.x S.b d_Mpg_primary_28 (by decide) ?_
    refine lv_iadd S.x S.b d_Mpg_primary_29 ?_
    have lr222 := Int32.le_toInt (pf208 11)
    have ur222 := Int32.toInt_lt (pf208 11)
    refine lv_topi (fun z223 ez223 => ?_)
    have tz223 : z223.toInt = ((pf208 11).toInt + (1 : Int) + 2147483648) % 4294967296 - 2147483648 := by rw [ez223]; exact i_add (pf208 11) 1
    have lz223 := Int32.le_toInt z223
    have uz223 := Int32.toInt_lt z223
    try replace tz223 : z223.toInt = (pf208 11).toInt + (1 : Int) := by omega
    have hnx29 := tk_n htk (x := (pf208 11)) (y := z223) (by first | with_reducible rfl | with_reducible assumption | omega) (by first | with_reducible rfl | with_reducible assumption | omega) (by first | with_reducible rfl | with_reducible assumption | omega)
    refine px_put S k_Mpg hT hw 0 0 11 rfl rfl (by decide) m9_235 rfl rfl rfl (Nat.le_of_ble_eq_true rfl) d_Mpg_primary_30 (w' := wdP cs h r g tf ta (upd pf208 11 z223) na209 ma210 wa cf ca ef ea xf xa) (ps' := [wdP cs h r g tf ta (upd pf208 11 z223) na209 ma210 wa cf ca ef ea xf xa]) rfl rfl (fun H locs hw => ?_)
    refine lv_iload_n S.x S.b d_Mpg_primary_33 rfl (lv_at hl 0 rfl) ?_
    exact th_iret (v := v212) S hr rfl hlk hAe hw (⟨(upd pf208 11 z223), na209, ma210, wa, rfl, (show (pf 11).toInt + 1 ≤ z223.toInt from by first | exact oz_67b8a35aa4 e215 tz223 | omega), (show z223.toInt < (tf 6).toInt from by first | with_reducible rfl | with_reducible assumption | omega), (show (pf 13).toInt + 1 ≤ (pf208 13).toInt from by first | exact oz_327f171f8a e214 | omega), (show (pf208 13).toInt - (pf 13).toInt ≤ z223.toInt - (pf 11).toInt from by first | exact oz_39060a0df1 e214 e215 tz223 | omega), (show bp ta (pf 11) + 1 ≤ bp ta z223 from by first | exact oz_01a688a826 qb2211 hnx29.1 hnx29.2 | omega), (show (pf208 12).toInt = (pf 12).toInt from by first | exact e216 | omega), (show (pf208 24).toInt = (pf 24).toInt from by first | exact e217 | omega), (show (pf208 25).toInt = (pf 25).toInt from by first | exact e218 | omega), (show (pf208 26).toInt = (pf 26).toInt from by first | exact e219 | omega), (show FrB (pf 13).toInt na ma na209 ma210 from hfb), (show FrW (pf 26).toInt wa wa from hfw), (show ExR ta (tf 6).toInt na209 ma210 v212 (pf 13).toInt (pf208 13).toInt (3 * (bp ta z223 - bp ta (pf 11))) (pf 12).toInt from (exr_leaf hmk_v212 (Or.inl rfl) (by first | with_reducible rfl | with_reducible assumption | omega) ⟨by first | with_reducible rfl | with_reducible assumption | omega, by first | with_reducible rfl | with_reducible assumption | omega⟩ (by rw [if_pos (by rfl)]; omega) (by first | with_reducible rfl | with_reducible assumption | omega) (by first | with_reducible rfl | with_reducible assumption | omega) (by first | with_reducible rfl | with_reducible assumption | omega) (by first | with_reducible rfl | with_reducible assumption | omega))), (show FsI (tf 6).toInt (pf208 13).toInt na209 from (FsI.le hfs (by first | with_reducible rfl | with_reducible assumption | omega)))⟩) d_Mpg_primary_34
