theorem oz_ec6586d852 {n0 : Nat}  : 4 + 1 ≤ (8 * n0 + 14) := by omega
theorem oz_b910afceef {n0 : Nat}  : 8 + (3 + 11) + 160 ≤ (220 * n0 + 540) := by omega
theorem oz_4f7430b7f2 {a0 a1 a2 a3 : Int} (h0 : a0 = a1 + a2) (h1 : a3 + 1 ≤ a1) (h2 : 0 ≤ a2) (h3 : 0 ≤ a3) : 0 ≤ a0 := by omega
theorem oz_a564fc7457 {a0 a1 a2 a3 : Int} (h0 : a0 = a1) (h1 : a1 = a2 + 1) (h2 : a3 ≤ a2) (h3 : 0 ≤ a3) : 1 ≤ a0 := by omega
theorem oz_1a76b13bbc {a0 a1 a2 : Int} (h0 : a0 = a1) (h1 : a1 = a2 + 1) (h2 : a2 < 60) : a0 ≤ 60 := by omega
theorem oz_b86471fd9e {n0 : Nat}  : 8 + 1 ≤ (8 * n0 + 14) := by omega
theorem oz_74e737be27 {n0 : Nat}  : 8 + (2 + 11) + 280 ≤ (220 * n0 + 540) := by omega
theorem oz_ee0c9de0fe {a0 a1 a2 a3 a4 : Int} (h0 : a0 + 1 ≤ a2) (h1 : a1 = a3 + 1) (h2 : a3 = a2 + a4) (h3 : 0 ≤ a4) : a0 + 1 ≤ a1 := by omega
theorem oz_5a5863b7fe {a0 a1 a2 a3 a4 a5 : Int} (h0 : a2 = a0) (h1 : a1 = a3) (h2 : a2 < a4) (h3 : a4 < a5) (h4 : a3 = a5) : a0 + 1 ≤ a1 := by omega
theorem oz_30a30b177f {a0 a1 a2 a3 a4 a5 a6 a7 a8 : Int} (h0 : a4 - a1 ≤ a5 - a3) (h1 : a2 = a6 + 1) (h2 : a0 = a7) (h3 : a6 = a5 + a8) (h4 : a7 = a4) (h5 : 0 ≤ a8) : a0 - a1 ≤ a2 - a3 := by omega
theorem oz_fe0e09c3b2 {a0 a1 a2 a3 a4 : Int} (h0 : a0 + 1 ≤ a2) (h1 : a3 + 1 ≤ a1) (h2 : a2 + a4 ≤ a3) (h3 : 0 ≤ a4) : a0 + 1 ≤ a1 := by omega
theorem oz_e2f0d2d242 {a0 a1 a2 a3 : Int} (h0 : a2 = a1 + 1) (h1 : a0 = a3 - 1) (h2 : a3 = a2) : a0 = a1 := by omega
theorem oz_7b42b0316e {a0 : Int} (h0 : 2 ≤ a0) : 1 ≤ a0 := by omega
theorem oz_4965c4c9a4 {a0 a1 : Int} (h0 : a0 ≤ (61 - a1)) : a0 + a1 ≤ 61 := by omega
theorem oz_aec871f755 {a0 a1 a2 a3 : Int} (h0 : a0 = a1) (h1 : a1 = a2 + 1) (h2 : a3 ≤ a2) (h3 : 0 ≤ a3) : 0 ≤ a0 := by omega
theorem oz_9c9d44701d {a0 a1 a2 a3 a4 : Int} (h0 : a0 = a1) (h1 : a2 < a1) (h2 : 0 ≤ a3) (h3 : a4 = a3) (h4 : a4 < a2) : 0 ≤ a0 := by omega
theorem oz_c01acc94d8 {a0 a1 a2 a3 a4 a5 a6 : Int} (h0 : a1 = a2 + a3) (h1 : a0 = a4) (h2 : a4 - a5 ≤ a2 - a6) (h3 : 0 ≤ a3) (h4 : a5 ≤ a6 + 20) : a0 ≤ a1 + 20 := by omega
theorem oz_fa9ebf953c {a0 a1 a2 a3 a4 a5 : Int} (h0 : a1 = a2) (h1 : a0 = a3) (h2 : a3 = a4) (h3 : a2 = a5 + 1) (h4 : a4 ≤ a5) : a0 ≤ a1 := by omega
theorem oz_9001e9f50b {a1 : Int} {n0 : Nat} (h0 : 61 ≤ a1 + (n0 : Int)) (h1 : a1 < 60) : 1 ≤ n0 := by omega
theorem oz_8a3d900f09 {a0 a1 a2 a3 a4 a5 a6 a7 a8 a9 : Int} (h0 : a0 = a1) (h1 : 0 ≤ a1) (h2 : a0 < a2) (h3 : a1 ≤ a3 + 20) (h4 : a2 < a4) (h5 : a4 - a1 ≤ a5 - a3) (h6 : a6 = a5 + a7) (h7 : a8 ≤ 2049) (h8 : 0 ≤ a7) (h9 : a6 + 1 ≤ a9) (h10 : a9 < a8) : 0 ≤ a0 ∧ a0 < ((2100 : Nat) : Int) := by omega
theorem oz_44361b87dd {a0 a1 a2 a3 a4 a5 a6 a7 a8 a9 a10 a11 a12 : Int} (h0 : (a1) ≤ a0) (h1 : a1 = a2) (h2 : a3 < a2) (h3 : 0 ≤ a4) (h4 : a5 = a4) (h5 : a5 < a3) (h6 : a0 < (a6)) (h7 : a6 - a1 ≤ a7 - a8) (h8 : a2 - a4 ≤ a9 - a10) (h9 : a8 = a9 + a11) (h10 : a7 < a12) (h11 : a12 ≤ 2049) (h12 : a4 ≤ a10 + 20) (h13 : 0 ≤ a11) : 0 ≤ a0 ∧ a0 < ((2100 : Nat) : Int) := by omega
theorem oz_4130c20cb1 {n0 : Nat}  : 0 + 1 ≤ (8 * n0 + 14) := by omega
theorem oz_5957db9e91 {n0 : Nat}  : 8 + (2 + 11) + 0 ≤ (220 * n0 + 540) := by omega
theorem oz_706b28522e {a0 a1 a2 a3 : Int} (h0 : a2 = a1 + 1) (h1 : a0 = a3) (h2 : a3 = a2) : a0 = a1 + 1 := by omega
theorem oz_60a7c6baef {a0 a1 a2 a3 a4 : Int} (h0 : a0 + 1 ≤ a2) (h1 : a3 + 1 ≤ a1) (h2 : a3 = a2 + a4) (h3 : 0 ≤ a4) : a0 + 1 ≤ a1 := by omega
theorem oz_fe47d4cd2a {a0 a1 a2 a3 a4 : Int} (h0 : a0 < a2) (h1 : (a3) ≤ a1) (h2 : a2 < a4) (h3 : a3 = a4) : a0 < a1 := by omega
theorem oz_7fe81129bf {a0 a1 : Int} (h0 : a0 < (a1)) : a0 < a1 := by omega
theorem oz_69e545e602 {a0 a1 a2 a3 a4 a5 a6 a7 a8 : Int} (h0 : a4 - a1 ≤ a5 - a3) (h1 : a0 - a6 ≤ a2 - a7) (h2 : a7 = a5 + a8) (h3 : a6 = a4) (h4 : 0 ≤ a8) : a0 - a1 ≤ a2 - a3 := by omega
theorem oz_1bf882f997 {a0 a1 a3 a4 a5 : Int} {n2 : Nat} (h0 : a0 - a3 < ((n2 + 1 : Nat) : Int)) (h1 : a4 + 1 ≤ a1) (h2 : a4 = a3 + a5) (h3 : 0 ≤ a5) : a0 - a1 < (n2 : Int) := by omega
theorem oz_95fb5198dc {a0 a1 a2 : Int} (h0 : a0 ≤ a1 + 20) (h1 : a1 + 1 < a2) (h2 : a2 ≤ 2049) : a0 < 2100 := by omega
theorem oz_5394fde33a {n0 : Nat}  : 8 + (3 + 11) + 0 ≤ (220 * n0 + 540) := by omega
theorem oz_0f9fb0345d {a0 a1 a2 : Int} (h0 : a2 + 1 < a1) (h1 : a0 = a2) : a0 < a1 := by omega
theorem oz_4b6b8b2f72 {a0 a1 a2 : Int} (h0 : a2 + 1 < a1) (h1 : a0 = a2) : a0 + 1 < a1 := by omega
theorem oz_a3db38fa3c {a0 a1 : Int} (h0 : a0 = a1) (h1 : a1 ≤ 60) : a0 ≤ 60 := by omega
theorem oz_d95e299dc3 {n0 : Nat}  : 7 + 1 ≤ (8 * n0 + 14) := by omega
theorem oz_c89b90b650 {n0 : Nat}  : 8 + (1 + 11) + 150 ≤ (220 * n0 + 540) := by omega
theorem oz_f3f97b7517 {a0 a1 a2 : Int} (h0 : a0 = a1 + 1) (h1 : a1 = a2) (h2 : 0 ≤ a2) : 0 ≤ a0 := by omega
theorem oz_bc2bbf7a2e {n0 : Nat}  : 3 + 1 ≤ (8 * n0 + 14) := by omega
theorem oz_29f4d9f73d {n0 : Nat}  : 8 + (2 + 11) + 120 ≤ (220 * n0 + 540) := by omega
theorem oz_7458231eca {a0 a1 a2 a3 : Int} (h0 : a0 = a1 + 1) (h1 : a1 = a2) (h2 : a3 ≤ a2) (h3 : 0 ≤ a3) : 1 ≤ a0 := by omega
theorem oz_6710fd9021 {a0 a1 : Int} (h0 : a0 = a1 + 1) (h1 : a1 < 60) : a0 ≤ 60 := by omega
theorem oz_d676ac8af5 {a0 a1 a2 a3 : Int} (h0 : a2 = a0) (h1 : a1 = a3 + 1) (h2 : a3 = a2 + 1) : a0 + 1 ≤ a1 := by omega
theorem oz_f8d6336c5f {a0 a1 a2 a3 : Int} (h0 : a2 = a0 + 1) (h1 : a1 = a3) (h2 : a3 = a2) : a0 + 1 ≤ a1 := by omega
theorem oz_460844f3e7 {a0 a1 a2 a3 a4 a5 a6 a7 : Int} (h0 : a4 = a1 + 1) (h1 : a5 = a3) (h2 : a2 = a6 + 1) (h3 : a0 = a7) (h4 : a6 = a5 + 1) (h5 : a7 = a4) : a0 - a1 ≤ a2 - a3 := by omega
theorem oz_5511bc8943 {a0 a1 a2 a3 a4 : Int} (h0 : a2 = a0) (h1 : a3 + 1 ≤ a1) (h2 : a2 + a4 ≤ a3) (h3 : 1 ≤ a4) : a0 + 1 ≤ a1 := by omega
theorem oz_f93f789092 {a0 a1 a2 a3 : Int} (h0 : a2 = a1) (h1 : a0 = a3 - 1) (h2 : a3 = a2 + 1) : a0 = a1 := by omega
theorem oz_87be06313f {a0 a1 a2 a3 : Int} (h0 : a0 = a1 + 1) (h1 : a1 = a2) (h2 : a3 ≤ a2) (h3 : 0 ≤ a3) : 0 ≤ a0 := by omega
theorem oz_78ad3463af {a0 a1 a2 : Int} (h0 : a0 = a1) (h1 : a1 = a2 + 1) (h2 : 0 ≤ a2) : 0 ≤ a0 := by omega
theorem oz_1d04d0d44b {a0 a1 a2 a3 a4 a5 : Int} (h0 : a1 = a2 + 1) (h1 : a0 = a3) (h2 : a3 = a4 + 1) (h3 : a2 = a5) (h4 : a4 ≤ a5 + 20) : a0 ≤ a1 + 20 := by omega
theorem oz_e919e29b70 {a0 a1 a2 a3 a4 a5 : Int} (h0 : a1 = a2 + 1) (h1 : a0 = a3) (h2 : a2 = a4) (h3 : a3 = a5) (h4 : a5 ≤ a4) : a0 ≤ a1 := by omega
theorem oz_6721671b0f {a1 : Int} {n0 : Nat} (h0 : 61 ≤ a1 + (n0 : Int)) (h1 : a1 ≤ 60) : 1 ≤ n0 := by omega
theorem oz_8b88cf7e2f {a0 a1 a2 a3 a4 a5 a6 a7 a8 a9 : Int} (h0 : (a1) ≤ a0) (h1 : a1 = a2) (h2 : a2 = a3 + 1) (h3 : 0 ≤ a3) (h4 : a0 < (a4)) (h5 : a4 - a1 ≤ a5 - a6) (h6 : a6 = a7 + 1) (h7 : a5 < a8) (h8 : a8 ≤ 2049) (h9 : a3 ≤ a9 + 20) (h10 : a7 = a9) : 0 ≤ a0 ∧ a0 < ((2100 : Nat) : Int) := by omega
theorem oz_1bb5b5edb9 {a0 a1 a2 a3 : Int} (h0 : a2 = a1) (h1 : a0 = a3) (h2 : a3 = a2 + 1) : a0 = a1 + 1 := by omega
theorem oz_068c69ad0b {a0 a1 : Int} (h0 : a1 = a0) (h1 : a1 < 60) : a0 < 60 := by omega
theorem oz_331f126945 {a0 a1 a2 a3 : Int} (h0 : a2 = a0) (h1 : a3 + 1 ≤ a1) (h2 : a3 = a2 + 1) : a0 + 1 ≤ a1 := by omega
theorem oz_c36bbba170 {a0 a1 a2 a3 a4 : Int} (h0 : a0 = a2) (h1 : (a3) ≤ a1) (h2 : a4 = a2 + 1) (h3 : a3 = a4) : a0 < a1 := by omega
theorem oz_43a90a5f17 {a0 a1 a2 a3 a4 a5 a6 a7 : Int} (h0 : a4 = a1 + 1) (h1 : a5 = a3) (h2 : a0 - a6 ≤ a2 - a7) (h3 : a7 = a5 + 1) (h4 : a6 = a4) : a0 - a1 ≤ a2 - a3 := by omega
theorem oz_f25544c41b {n0 : Nat}  : 3 + 1 ≤ (8 * n0 + 15) := by omega
theorem oz_f77d39ed65 {n0 : Nat}  : 8 + (2 + 11) + 120 ≤ (220 * n0 + 570) := by omega
theorem oz_cdd738e762 {n0 : Nat}  : 7 + 1 ≤ (8 * n0 + 15) := by omega
theorem oz_84593d395f {n0 : Nat}  : 8 + (1 + 11) + 150 ≤ (220 * n0 + 570) := by omega
theorem oz_b475de3101 {a0 a1 a2 a3 a4 : Int} (h0 : a0 = a1) (h1 : a1 ≤ a2 + 20) (h2 : a3 = a2 + 1) (h3 : a4 ≤ 2049) (h4 : a3 < a4) : a0 < 2100 := by omega
theorem oz_1aad6329bb {n0 : Nat}  : 0 + 1 ≤ (8 * n0 + 15) := by omega
theorem oz_96ad077f4a {n0 : Nat}  : 8 + (3 + 11) + 0 ≤ (220 * n0 + 570) := by omega
theorem oz_08747c10a9 {a0 a1 a2 : Int} (h0 : a2 = a0 + 1) (h1 : a1 = a2) : a0 + 1 ≤ a1 := by omega
theorem oz_5d2fbac15b {a0 a1 a2 : Int} (h0 : a2 < a1) (h1 : a0 = a2) : a0 < a1 := by omega
theorem oz_5a83f0d431 {a0 a1 a2 : Int} (h0 : a2 = a0) (h1 : a1 = a2 + 1) : a0 + 1 ≤ a1 := by omega
theorem oz_f93944bcb9 {a0 a1 a2 a3 a4 a5 : Int} (h0 : a4 = a3 + 1) (h1 : a5 = a1) (h2 : a0 = a5 + 1) (h3 : a2 = a4) : a0 - a1 ≤ a2 - a3 := by omega
theorem oz_9bcc310e9c {a0 a1 a2 a3 : Int} (h0 : a0 = a1) (h1 : a1 = a2) (h2 : a3 ≤ a2) (h3 : 0 ≤ a3) : 0 ≤ a0 := by omega
theorem oz_d791cd839d {a0 a1 a2 : Int} (h0 : a0 = a1) (h1 : a1 = a2) (h2 : a2 ≤ 60) : a0 ≤ 60 := by omega
theorem oz_5322ca43be {a0 a1 a2 a3 : Int} (h0 : a0 = a1 + 1) (h1 : a1 = a2) (h2 : 0 ≤ a3) (h3 : a2 = a3 + 1) : 0 ≤ a0 := by omega
theorem oz_cf2f95fbac {a0 a1 a2 a3 : Int} (h0 : a0 = a1 + 1) (h1 : a1 = a2) (h2 : a2 = a3) (h3 : 0 ≤ a3) : 0 ≤ a0 := by omega
theorem oz_18519da00e {a0 a1 a2 a3 : Int} (h0 : a0 = a1) (h1 : a1 = a2 + 1) (h2 : a2 = a3) (h3 : 0 ≤ a3) : 0 ≤ a0 := by omega
theorem oz_bf84bfeeaf {a0 a1 a2 a3 a4 a5 a6 a7 : Int} (h0 : a1 = a2 + 1) (h1 : a0 = a3) (h2 : a3 = a4 + 1) (h3 : a2 = a5) (h4 : a6 ≤ a7 + 20) (h5 : a5 = a7 + 1) (h6 : a4 = a6) : a0 ≤ a1 + 20 := by omega
theorem oz_11e71ee49a {a0 a1 a2 a3 : Int} (h0 : a0 = a1) (h1 : a1 = a2) (h2 : a2 = a3) (h3 : 0 ≤ a3) : 0 ≤ a0 := by omega
theorem oz_0c528c1a49 {a0 a1 a2 a3 a4 a5 a6 a7 : Int} (h0 : a1 = a2 + 1) (h1 : a0 = a3) (h2 : a2 = a4) (h3 : a3 = a5) (h4 : a4 = a6) (h5 : a5 = a7) (h6 : a7 ≤ a6) : a0 ≤ a1 := by omega
theorem oz_81892ed073 {a0 a1 a2 a3 a4 a5 a6 a7 a8 : Int} (h0 : a0 = a1) (h1 : a1 = a2) (h2 : 0 ≤ a2) (h3 : a2 ≤ a3 + 20) (h4 : a4 = a3 + 1) (h5 : a5 ≤ 2049) (h6 : a6 = a4) (h7 : a7 = a6 + 1) (h8 : a7 + 1 ≤ a8) (h9 : a8 < a5) : 0 ≤ a0 ∧ a0 < ((2100 : Nat) : Int) := by omega
theorem oz_d4bfa098fc {a0 a1 a2 a3 a4 a5 a6 a7 a8 a9 a10 a11 : Int} (h0 : (a1) ≤ a0) (h1 : a1 = a2) (h2 : a2 = a3 + 1) (h3 : a3 = a4) (h4 : 0 ≤ a4) (h5 : a0 < (a5)) (h6 : a5 - a1 ≤ a6 - a7) (h7 : a7 = a8 + 1) (h8 : a6 < a9) (h9 : a9 ≤ 2049) (h10 : a8 = a10) (h11 : a4 ≤ a11 + 20) (h12 : a10 = a11 + 1) : 0 ≤ a0 ∧ a0 < ((2100 : Nat) : Int) := by omega
theorem oz_519ae28419 {a0 a1 a2 a3 a4 : Int} (h0 : a1 + 1 ≤ a0) (h1 : a1 = a2 + 1) (h2 : 0 ≤ a3) (h3 : a4 = a3 + 1) (h4 : a2 = a4) : 0 ≤ a0 := by omega
theorem oz_dcaedb610d {a0 a1 a2 a3 a4 a5 : Int} (h0 : a0 = a1) (h1 : a1 = a2 + 1) (h2 : a2 = a3) (h3 : a3 = a4) (h4 : a5 ≤ a4) (h5 : 0 ≤ a5) : 1 ≤ a0 := by omega
theorem oz_e60676d27e {n0 : Nat}  : 8 + 1 ≤ (8 * n0 + 15) := by omega
theorem oz_9b9b709ee6 {n0 : Nat}  : 8 + (2 + 11) + 280 ≤ (220 * n0 + 570) := by omega
theorem oz_1e356fea56 {a0 a1 a2 a3 a4 a5 : Int} (h0 : a2 = a0 + 1) (h1 : a1 = a3 + 1) (h2 : a4 = a2) (h3 : a5 + 1 ≤ a3) (h4 : a5 = a4 + 1) : a0 + 1 ≤ a1 := by omega
theorem oz_a035d58e61 {a0 a1 a2 a3 a4 a5 : Int} (h0 : a2 = a0) (h1 : a1 = a3) (h2 : a4 = a2 + 1) (h3 : a5 + 1 ≤ a3) (h4 : a5 = a4) : a0 + 1 ≤ a1 := by omega
theorem oz_c43a9ae0a0 {a0 a1 a2 a3 a4 a5 a6 a7 a8 a9 a10 a11 : Int} (h0 : a4 = a3 + 1) (h1 : a5 = a1) (h2 : a2 = a6 + 1) (h3 : a0 = a7) (h4 : a8 = a5 + 1) (h5 : a9 = a4) (h6 : a7 - a10 ≤ a6 - a11) (h7 : a11 = a9 + 1) (h8 : a10 = a8) : a0 - a1 ≤ a2 - a3 := by omega
theorem oz_1950e1fb70 {a0 a1 a2 a3 a4 a5 a6 : Int} (h0 : a0 + 1 ≤ a2) (h1 : a3 + 1 ≤ a1) (h2 : a4 = a2) (h3 : a5 + 1 ≤ a3) (h4 : a4 + a6 ≤ a5) (h5 : 1 ≤ a6) : a0 + 1 ≤ a1 := by omega
theorem oz_313281b214 {a0 a1 a2 a3 a4 a5 : Int} (h0 : a2 = a1) (h1 : a0 = a3 - 1) (h2 : a4 = a2) (h3 : a3 = a5) (h4 : a5 = a4 + 1) : a0 = a1 := by omega
theorem oz_7ba96ac489 {a0 a1 a2 a3 : Int} (h0 : a1 = a2 + 1) (h1 : a0 = a3) (h2 : a3 ≤ a2 + 20) : a0 ≤ a1 + 20 := by omega
theorem oz_508dc9c651 {a0 a1 a2 a3 : Int} (h0 : a1 = a2) (h1 : a0 = a3) (h2 : a3 ≤ a2) : a0 ≤ a1 := by omega
theorem oz_13a538c620 {a0 a2 : Int} {n1 : Nat} (h0 : 61 ≤ a2 + (n1 : Int)) (h1 : a0 = a2) : 61 ≤ a0 + (n1 : Int) := by omega
theorem oz_7faa3985b4 {a0 a1 a2 a3 : Int} (h0 : a0 = a2) (h1 : a3 < a1) (h2 : a3 = a2 + 1) : a0 < a1 := by omega
theorem oz_9dcc9d0cd0 {n0 : Nat}  : (8 * n0 + 14) + 1 ≤ (8 * n0 + 15) := by omega
theorem oz_297b1c1cd1 {n0 : Nat}  : 8 + (5 + 11) + (220 * n0 + 540) ≤ (220 * n0 + 570) := by omega
theorem oz_36ba723014 {a0 a1 a2 : Int} (h0 : a2 = a0 + 1) (h1 : a2 + 1 ≤ a1) : a0 + 1 ≤ a1 := by omega
theorem oz_4495b4e10b {a0 a1 a2 : Int} (h0 : a2 = a0) (h1 : a2 + 1 ≤ a1) : a0 + 1 ≤ a1 := by omega
theorem oz_44664987d4 {a0 a1 a2 a3 a4 a5 : Int} (h0 : a4 = a3 + 1) (h1 : a5 = a1) (h2 : a0 - a5 ≤ a2 - a4) : a0 - a1 ≤ a2 - a3 := by omega
theorem oz_132e547139 {a0 a1 a2 : Int} (h0 : a0 + 1 ≤ a2) (h1 : a2 + 1 ≤ a1) : a0 + 1 ≤ a1 := by omega
theorem oz_d87b110ba5 {a0 a1 a2 a3 : Int} (h0 : a1 = a2 + 1) (h1 : a0 = a3) (h2 : a3 ≤ a2) : a0 ≤ a1 := by omega
theorem oz_4606bbd1cf {a0 a1 a2 : Int} (h0 : a1 + 1 ≤ a0) (h1 : a1 = a2 + 1) (h2 : 0 ≤ a2) : 0 ≤ a0 := by omega
theorem oz_40adf82cfc {a0 a1 a2 a3 : Int} (h0 : a2 = a0 + 1) (h1 : a1 = a3 + 1) (h2 : a2 + 1 ≤ a3) : a0 + 1 ≤ a1 := by omega
theorem oz_56e011771b {a0 a1 a2 a3 : Int} (h0 : a2 = a0) (h1 : a1 = a3) (h2 : a2 + 1 ≤ a3) : a0 + 1 ≤ a1 := by omega
theorem oz_367be77e0e {a0 a1 a2 a3 a4 a5 a6 a7 : Int} (h0 : a4 = a3 + 1) (h1 : a5 = a1) (h2 : a2 = a6 + 1) (h3 : a0 = a7) (h4 : a7 - a5 ≤ a6 - a4) : a0 - a1 ≤ a2 - a3 := by omega
theorem oz_666f9d906c {a0 a1 a2 a3 a4 : Int} (h0 : a0 + a2 ≤ a3) (h1 : a4 + 1 ≤ a1) (h2 : 1 ≤ a2) (h3 : a3 + 1 ≤ a4) : a0 + 1 ≤ a1 := by omega
theorem oz_725fe6997c {a0 a1 a2 : Int} (h0 : a0 ≤ a1 + 20) (h1 : a1 < a2) (h2 : a2 ≤ 2049) : a0 < 2100 := by omega
theorem oz_67b8a35aa4 {a0 a1 a2 : Int} (h0 : a2 = a0) (h1 : a1 = a2 + (1 : Int)) : a0 + 1 ≤ a1 := by omega
theorem oz_327f171f8a {a0 a1 : Int} (h0 : a1 = a0 + 1) : a0 + 1 ≤ a1 := by omega
theorem oz_39060a0df1 {a0 a1 a2 a3 a4 : Int} (h0 : a0 = a1 + 1) (h1 : a4 = a3) (h2 : a2 = a4 + (1 : Int)) : a0 - a1 ≤ a2 - a3 := by omega
theorem oz_01a688a826 {a0 a1 a2 a3 : Int} (h0 : a2 = a0) (h1 : a2 + a3 ≤ a1) (h2 : 1 ≤ a3) : a0 + 1 ≤ a1 := by omega
theorem m12_50 : Cond.methodLink "HomeSystemModel$Program" 439 ⟨"HomeSystemModel$Program", "closes", "(Ljava/lang/String;)V"⟩ ∈ AL := AL_12 (List.mem_of_getElem? (i := 50) rfl) rfl
theorem m12_53 : Cond.code ⟨"HomeSystemModel$Program", "closes", "(Ljava/lang/String;)V"⟩ prog_16_method_25_code 2 (Option.none : Option Jvm.ClassFile.FieldType) ∈ AL := AL_12 (List.mem_of_getElem? (i := 53) rfl) rfl
theorem ms_9_14 : Cond.selects "HomeSystemModel$Program" ⟨"HomeSystemModel$Program", "closes", "(Ljava/lang/String;)V"⟩ ⟨"HomeSystemModel$Program", "closes", "(Ljava/lang/String;)V"⟩ ∈ AL := AL_p (q := (⟨"HomeSystemModel$Program", "closes", "(Ljava/lang/String;)V"⟩, 69)) (by unfold lw_privs; exact List.mem_append_right _ (List.mem_append_right _ (List.mem_append_right _ (List.mem_append_right _ (List.mem_append_right _ (List.mem_append_right _ (List.mem_append_right _ (List.mem_append_right _ (List.mem_append_left _ (List.mem_of_getElem? (i := 14) rfl))))))))))
theorem m12_52 : Cond.instanceMethod ⟨"HomeSystemModel$Program", "closes", "(Ljava/lang/String;)V"⟩ ∈ AL := AL_12 (List.mem_of_getElem? (i := 52) rfl) rfl
theorem m12_35 : Cond.methodLink "HomeSystemModel$Program" 403 ⟨"HomeSystemModel$Program", "expression", "()I"⟩ ∈ AL := AL_12 (List.mem_of_getElem? (i := 35) rfl) rfl
theorem m12_38 : Cond.code ⟨"HomeSystemModel$Program", "expression", "()I"⟩ prog_16_method_31_code 7 (Option.some FieldType.int) ∈ AL := AL_12 (List.mem_of_getElem? (i := 38) rfl) rfl
theorem ms_9_11 : Cond.selects "HomeSystemModel$Program" ⟨"HomeSystemModel$Program", "expression", "()I"⟩ ⟨"HomeSystemModel$Program", "expression", "()I"⟩ ∈ AL := AL_p (q := (⟨"HomeSystemModel$Program", "expression", "()I"⟩, 69)) (by unfold lw_privs; exact List.mem_append_right _ (List.mem_append_right _ (List.mem_append_right _ (List.mem_append_right _ (List.mem_append_right _ (List.mem_append_right _ (List.mem_append_right _ (List.mem_append_right _ (List.mem_append_left _ (List.mem_of_getElem? (i := 11) rfl))))))))))
theorem m12_37 : Cond.instanceMethod ⟨"HomeSystemModel$Program", "expression", "()I"⟩ ∈ AL := AL_12 (List.mem_of_getElem? (i := 37) rfl) rfl
theorem m12_47 : Cond.methodLink "HomeSystemModel$Program" 409 ⟨"HomeSystemModel$Program", "deeper", "(II)I"⟩ ∈ AL := AL_12 (List.mem_of_getElem? (i := 47) rfl) rfl
theorem m12_49 : Cond.code ⟨"HomeSystemModel$Program", "deeper", "(II)I"⟩ prog_16_method_33_code 2 (Option.some FieldType.int) ∈ AL := AL_12 (List.mem_of_getElem? (i := 49) rfl) rfl
theorem m12_48 : Cond.static ⟨"HomeSystemModel$Program", "deeper", "(II)I"⟩ ∈ AL := AL_12 (List.mem_of_getElem? (i := 48) rfl) rfl
theorem m11_206 : Cond.methodLink "HomeSystemModel$Program" 406 ⟨"HomeSystemModel$Program", "make", "(II)I"⟩ ∈ AL := AL_11 (List.mem_of_getElem? (i := 206) rfl) rfl
theorem m11_209 : Cond.code ⟨"HomeSystemModel$Program", "make", "(II)I"⟩ prog_16_method_27_code 3 (Option.some FieldType.int) ∈ AL := AL_11 (List.mem_of_getElem? (i := 209) rfl) rfl
theorem ms_8_12 : Cond.selects "HomeSystemModel$Program" ⟨"HomeSystemModel$Program", "make", "(II)I"⟩ ⟨"HomeSystemModel$Program", "make", "(II)I"⟩ ∈ AL := AL_p (q := (⟨"HomeSystemModel$Program", "make", "(II)I"⟩, 69)) (by unfold lw_privs; exact List.mem_append_right _ (List.mem_append_right _ (List.mem_append_right _ (List.mem_append_right _ (List.mem_append_right _ (List.mem_append_right _ (List.mem_append_right _ (List.mem_append_left _ (List.mem_of_getElem? (i := 12) rfl)))))))))
theorem m11_208 : Cond.instanceMethod ⟨"HomeSystemModel$Program", "make", "(II)I"⟩ ∈ AL := AL_11 (List.mem_of_getElem? (i := 208) rfl) rfl
theorem m11_239 : Cond.methodLink "HomeSystemModel$Program" 442 ⟨"HomeSystemModel$Program", "name", "()I"⟩ ∈ AL := AL_11 (List.mem_of_getElem? (i := 239) rfl) rfl
theorem m12_2 : Cond.code ⟨"HomeSystemModel$Program", "name", "()I"⟩ prog_16_method_26_code 1 (Option.some FieldType.int) ∈ AL := AL_12 (List.mem_of_getElem? (i := 2) rfl) rfl
theorem ms_9_2 : Cond.selects "HomeSystemModel$Program" ⟨"HomeSystemModel$Program", "name", "()I"⟩ ⟨"HomeSystemModel$Program", "name", "()I"⟩ ∈ AL := AL_p (q := (⟨"HomeSystemModel$Program", "name", "()I"⟩, 69)) (by unfold lw_privs; exact List.mem_append_right _ (List.mem_append_right _ (List.mem_append_right _ (List.mem_append_right _ (List.mem_append_right _ (List.mem_append_right _ (List.mem_append_right _ (List.mem_append_right _ (List.mem_append_left _ (List.mem_of_getElem? (i := 2) rfl))))))))))
theorem m12_1 : Cond.instanceMethod ⟨"HomeSystemModel$Program", "name", "()I"⟩ ∈ AL := AL_12 (List.mem_of_getElem? (i := 1) rfl) rfl
theorem m12_58 : Cond.methodLink "HomeSystemModel$Program" 445 ⟨"HomeSystemModel$Program", "call", "(I)I"⟩ ∈ AL := AL_12 (List.mem_of_getElem? (i := 58) rfl) rfl
theorem m12_61 : Cond.code ⟨"HomeSystemModel$Program", "call", "(I)I"⟩ prog_16_method_41_code 5 (Option.some FieldType.int) ∈ AL := AL_12 (List.mem_of_getElem? (i := 61) rfl) rfl
theorem ms_10_0 : Cond.selects "HomeSystemModel$Program" ⟨"HomeSystemModel$Program", "call", "(I)I"⟩ ⟨"HomeSystemModel$Program", "call", "(I)I"⟩ ∈ AL := AL_p (q := (⟨"HomeSystemModel$Program", "call", "(I)I"⟩, 69)) (by unfold lw_privs; exact List.mem_append_right _ (List.mem_append_right _ (List.mem_append_right _ (List.mem_append_right _ (List.mem_append_right _ (List.mem_append_right _ (List.mem_append_right _ (List.mem_append_right _ (List.mem_append_right _ (List.mem_append_left _ (List.mem_of_getElem? (i := 0) rfl)))))))))))
theorem m12_60 : Cond.instanceMethod ⟨"HomeSystemModel$Program", "call", "(I)I"⟩ ∈ AL := AL_12 (List.mem_of_getElem? (i := 60) rfl) rfl
/-! what the parser's methods keep of nodes -/
theorem FrB.un {b : Int} {na ma na1 ma1 : Nat → Nat → Int32} {k : Nat} {i v : Int32} (h : FrB b na ma na1 ma1) (hi : b ≤ i.toInt) (h0 : 0 ≤ i.toInt) : FrB b na ma (va_up na1 k (upd (na1 k) i.toNatClampNeg v)) ma1 := fun x hx => by
  have hc := cl_nat h0
  exact ⟨fun j => (up_far (by omega)).trans ((h x hx).1 j), (h x hx).2⟩
theorem FrB.um {b : Int} {na ma na1 ma1 : Nat → Nat → Int32} {k : Nat} {i v : Int32} (h : FrB b na ma na1 ma1) (hi : b ≤ i.toInt) (h0 : 0 ≤ i.toInt) : FrB b na ma na1 (va_up ma1 k (upd (ma1 k) i.toNatClampNeg v)) := fun x hx => by
  have hc := cl_nat h0
  exact ⟨(h x hx).1, fun j => (up_far (by omega)).trans ((h x hx).2 j)⟩
/-- a node that was just made: its kind, its token, no next, depth 1 -/
def NdK (na ma : Nat → Nat → Int32) (n k t : Int32) : Prop := na 14 n.toNatClampNeg = k ∧ na 15 n.toNatClampNeg = t ∧ na 21 n.toNatClampNeg = -1 ∧ 0 ≤ n.toInt ∧ ma 20 n.toNatClampNeg = -1
theorem MkN.nk {na ma na' ma' : Nat → Nat → Int32} {n k t : Int32} (h : MkN na ma na' ma' n k t) (h0 : -128 ≤ k.toInt) (h1 : k.toInt ≤ 127) (hn : 0 ≤ n.toInt) : NdK na' ma' n k t := ⟨h.2.1 h0 h1, h.2.2.1, h.2.2.2.2.2.2.2.2.1, hn, h.2.2.2.2.2.2.2.1⟩
theorem NdK.kp {na ma na' ma' : Nat → Nat → Int32} {n k t : Int32} {b : Int} (h : NdK na ma n k t) (f : FrB b na ma na' ma') (hb : n.toInt < b) : NdK na' ma' n k t := by
  have hc := cl_nat h.2.2.2.1
  obtain ⟨q, q2⟩ := f n.toNatClampNeg (by omega)
  exact ⟨(q 14).trans h.1, (q 15).trans h.2.1, (q 21).trans h.2.2.1, h.2.2.2.1, (q2 20).trans h.2.2.2.2⟩
theorem dp_un {na : Nat → Nat → Int32} {k : Nat} {X : Nat → Int32} {x : Int32} (h : k ≠ 23) : dp (va_up na k X) x = dp na x := by unfold dp; rw [va_up_n (fun e => h e.symm)]
theorem dp_us {na : Nat → Nat → Int32} {i v : Int32} : dp (va_up na 23 (upd (na 23) i.toNatClampNeg v)) i = v.toInt := by unfold dp; rw [va_up_s, pk_us]
theorem dp_uf {na : Nat → Nat → Int32} {i v x : Int32} (h : x.toInt ≠ i.toInt) (h0 : 0 ≤ x.toInt) (h1 : 0 ≤ i.toInt) : dp (va_up na 23 (upd (na 23) i.toNatClampNeg v)) x = dp na x := by
  have := cl_nat h0
  have := cl_nat h1
  unfold dp; rw [va_up_s, pk_un (by omega)]
theorem nat_ne {x i : Int32} (h : x.toInt ≠ i.toInt) (h0 : 0 ≤ x.toInt) (h1 : 0 ≤ i.toInt) : x.toNatClampNeg ≠ i.toNatClampNeg := by
  have := cl_nat h0
  have := cl_nat h1
  omega
theorem dp_mk {na ma na' ma' : Nat → Nat → Int32} {n k t x : Int32} (h : MkN na ma na' ma' n k t) (hx : x.toInt ≠ n.toInt) (h0 : 0 ≤ x.toInt) (h1 : 0 ≤ n.toInt) : dp na' x = dp na x := by unfold dp; rw [(h.1 _ (nat_ne hx h0 h1)).1 23]
theorem dp_fb {na ma na' ma' : Nat → Nat → Int32} {x : Int32} {b : Int} (f : FrB b na ma na' ma') (hx : x.toInt < b) (h0 : 0 ≤ x.toInt) : dp na' x = dp na x := by
  have := cl_nat h0
  unfold dp; rw [(f x.toNatClampNeg (by omega)).1 23]
theorem dp_nk {na ma na' ma' : Nat → Nat → Int32} {n k t : Int32} (h : MkN na ma na' ma' n k t) : dp na' n = 1 := by unfold dp; rw [h.2.2.2.2.2.2.2.2.2.2]; rfl
theorem ArV.le {ta : Nat → Nat → Int32} {c : Int} {na ma : Nat → Nat → Int32} {n x : Int32} {hi W Dm hi' W' Dm' : Int} (h : ArV ta c na ma n x hi W Dm) (h1 : hi ≤ hi') (h2 : W ≤ W') (h3 : Dm ≤ Dm') : ArV ta c na ma n x hi' W' Dm' := by
  obtain ⟨hh, d, w, m, a1, a2, a3, a4, a5, a6, a7, a8⟩ := h
  exact ⟨hh, d, w, m, by omega, a2, a3, a4, a5, a6, by omega, by omega⟩
/-- a call with nothing in its brackets -/
theorem exr_call0 {ta : Nat → Nat → Int32} {c : Int} {na ma na' ma' : Nat → Nat → Int32} {n t : Int32} {lo hi W o : Int} (m : MkN na ma na' ma' n 3 t) (h0 : 0 ≤ n.toInt) (ht : 0 ≤ t.toInt ∧ t.toInt < c) (hs : so ta t = 1) (h1 : lo ≤ n.toInt) (h2 : n.toInt + 1 ≤ hi) (h3 : 1 ≤ W) (h4 : o ≤ 60) : ExR ta c na' ma' n lo hi W o := by
  have hc := cl_nat h0
  have e23 : dp na' n = 1 := dp_nk m
  have e14 := m.2.1 (by decide) (by decide)
  have e15 := m.2.2.1
  refine ⟨⟨n.toNatClampNeg, n.toNatClampNeg + 1, 1, 1, by omega, by omega, h0, ⟨⟨Nat.le_refl _, by omega⟩, Or.inr (Or.inr (Or.inl ⟨by rw [e14]; rfl, ?_, 0, Or.inl (by rw [m.2.2.2.2.1]; decide), Nat.le_refl _⟩))⟩, by omega, by omega⟩, by omega, by omega, ?_, ?_⟩
  · unfold NdT; rw [e15]; exact ⟨ht.1, ht.2, hs⟩
  · rw [m.2.2.2.2.2.2.2.2.1]; decide
  · rw [m.2.2.2.2.2.2.2.1]; decide
def DpN (na : Nat → Nat → Int32) (n : Int32) (a b : Int) : Prop := a ≤ dp na n ∧ dp na n ≤ b
theorem tk_eq {ta : Nat → Nat → Int32} {x y : Int32} (h : x.toInt = y.toInt) : bp ta x = bp ta y ∧ sz ta x = sz ta y ∧ so ta x = so ta y ∧ wh ta x = wh ta y := by
  have e : x = y := i_eq.mpr h
  rw [e]; exact ⟨rfl, rfl, rfl, rfl⟩
/-- all tokens from a on, below b, are marks -/
def Mks (ta : Nat → Nat → Int32) (a b : Int) : Prop := ∀ x : Int32, a ≤ x.toInt → x.toInt < b → so ta x = 5
theorem Mks.none {ta : Nat → Nat → Int32} {a b : Int} (h : b ≤ a) : Mks ta a b := fun x h1 h2 => absurd h2 (by omega)
theorem Mks.le {ta : Nat → Nat → Int32} {a b a' b' : Int} (h : Mks ta a b) (h1 : a ≤ a') (h2 : b' ≤ b) : Mks ta a' b' := fun x k1 k2 => h x (by omega) (by omega)
theorem Mks.step {ta : Nat → Nat → Int32} {a b b' : Int} (h : Mks ta a b) {y : Int32} (hy : y.toInt = b) (hs : so ta y = 5) (hb : b' = b + 1) : Mks ta a b' := fun x k1 k2 => by
  by_cases e : x.toInt < b
  · exact h x k1 e
  · have : x = y := i_eq.mpr (by omega)
    rw [this]; exact hs
theorem ExD.kp {ta : Nat → Nat → Int32} {c : Int} {na ma na' ma' : Nat → Nat → Int32} {v : Int32} {lo hi W o : Int} (h : ExD ta c na ma v lo hi W o) (k : FrB hi na ma na' ma') (h0 : 0 ≤ lo) : ExD ta c na' ma' v lo hi W o := by
  obtain ⟨u, h1, h2, h3⟩ := h
  exact ⟨u, h1, h2, h3.kp k h0⟩
theorem ExD.num {ta : Nat → Nat → Int32} {c : Int} {na ma : Nat → Nat → Int32} {v : Int32} {lo hi W o : Int} (h : ExD ta c na ma v lo hi W o) : v.toInt < hi ∧ -1 - hi < v.toInt := by
  obtain ⟨u, h1, h2, h3⟩ := h
  have := h3.num
  omega
abbrev b_Mpg_expression : ByteArray := prog_16_method_31_code
def y_Mpg_expression : MethodName := ⟨"HomeSystemModel$Program", "expression", "()I"⟩
theorem d_Mpg_expression_0 : decode b_Mpg_expression 0 = .ok (.aload_n 0, 1) := by decide +kernel
theorem d_Mpg_expression_1 : decode b_Mpg_expression 1 = .ok (.getfield 360, 3) := by decide +kernel
theorem d_Mpg_expression_4 : decode b_Mpg_expression 4 = .ok (.istore_n 1, 1) := by decide +kernel
theorem d_Mpg_expression_5 : decode b_Mpg_expression 5 = .ok (.aload_n 0, 1) := by decide +kernel
theorem d_Mpg_expression_6 : decode b_Mpg_expression 6 = .ok (.invokevirtual 393, 3) := by decide +kernel
theorem d_Mpg_expression_9 : decode b_Mpg_expression 9 = .ok (.istore_n 2, 1) := by decide +kernel
theorem d_Mpg_expression_10 : decode b_Mpg_expression 10 = .ok (.iload_n 2, 1) := by decide +kernel
theorem d_Mpg_expression_11 : decode b_Mpg_expression 11 = .ok (.ifCond .ge 7, 3) := by decide +kernel
theorem d_Mpg_expression_14 : decode b_Mpg_expression 14 = .ok (.iconst 1, 1) := by decide +kernel
theorem d_Mpg_expression_15 : decode b_Mpg_expression 15 = .ok (.goto 4, 3) := by decide +kernel
theorem d_Mpg_expression_18 : decode b_Mpg_expression 18 = .ok (.iconst 0, 1) := by decide +kernel
theorem d_Mpg_expression_19 : decode b_Mpg_expression 19 = .ok (.istore_n 3, 1) := by decide +kernel
theorem d_Mpg_expression_20 : decode b_Mpg_expression 20 = .ok (.iload_n 3, 1) := by decide +kernel
theorem d_Mpg_expression_21 : decode b_Mpg_expression 21 = .ok (.ifCond .eq 9, 3) := by decide +kernel
theorem d_Mpg_expression_24 : decode b_Mpg_expression 24 = .ok (.iconst (-1), 1) := by decide +kernel
theorem d_Mpg_expression_25 : decode b_Mpg_expression 25 = .ok (.iload_n 2, 1) := by decide +kernel
theorem d_Mpg_expression_26 : decode b_Mpg_expression 26 = .ok (.isub, 1) := by decide +kernel
theorem d_Mpg_expression_27 : decode b_Mpg_expression 27 = .ok (.goto 4, 3) := by decide +kernel
theorem d_Mpg_expression_30 : decode b_Mpg_expression 30 = .ok (.iload_n 2, 1) := by decide +kernel
theorem d_Mpg_expression_31 : decode b_Mpg_expression 31 = .ok (.istore_n 2, 1) := by decide +kernel
theorem d_Mpg_expression_32 : decode b_Mpg_expression 32 = .ok (.aload_n 0, 1) := by decide +kernel
theorem d_Mpg_expression_33 : decode b_Mpg_expression 33 = .ok (.invokevirtual 396, 3) := by decide +kernel
theorem d_Mpg_expression_36 : decode b_Mpg_expression 36 = .ok (.ifCond .eq 101, 3) := by decide +kernel
theorem d_Mpg_expression_39 : decode b_Mpg_expression 39 = .ok (.iload_n 3, 1) := by decide +kernel
theorem d_Mpg_expression_40 : decode b_Mpg_expression 40 = .ok (.ifCond .eq 97, 3) := by decide +kernel
theorem d_Mpg_expression_43 : decode b_Mpg_expression 43 = .ok (.aload_n 0, 1) := by decide +kernel
theorem d_Mpg_expression_44 : decode b_Mpg_expression 44 = .ok (.getfield 360, 3) := by decide +kernel
theorem d_Mpg_expression_47 : decode b_Mpg_expression 47 = .ok (.istore 4, 2) := by decide +kernel
theorem d_Mpg_expression_49 : decode b_Mpg_expression 49 = .ok (.aload_n 0, 1) := by decide +kernel
theorem d_Mpg_expression_50 : decode b_Mpg_expression 50 = .ok (.iload_n 2, 1) := by decide +kernel
theorem d_Mpg_expression_51 : decode b_Mpg_expression 51 = .ok (.invokevirtual 400, 3) := by decide +kernel
theorem d_Mpg_expression_54 : decode b_Mpg_expression 54 = .ok (.aload_n 0, 1) := by decide +kernel
theorem d_Mpg_expression_55 : decode b_Mpg_expression 55 = .ok (.invokevirtual 383, 3) := by decide +kernel
theorem d_Mpg_expression_58 : decode b_Mpg_expression 58 = .ok (.aload_n 0, 1) := by decide +kernel
theorem d_Mpg_expression_59 : decode b_Mpg_expression 59 = .ok (.invokevirtual 403, 3) := by decide +kernel
theorem d_Mpg_expression_62 : decode b_Mpg_expression 62 = .ok (.istore 5, 2) := by decide +kernel
theorem d_Mpg_expression_64 : decode b_Mpg_expression 64 = .ok (.aload_n 0, 1) := by decide +kernel
theorem d_Mpg_expression_65 : decode b_Mpg_expression 65 = .ok (.dup, 1) := by decide +kernel
theorem d_Mpg_expression_66 : decode b_Mpg_expression 66 = .ok (.getfield 380, 3) := by decide +kernel
theorem d_Mpg_expression_69 : decode b_Mpg_expression 69 = .ok (.iconst 1, 1) := by decide +kernel
theorem d_Mpg_expression_70 : decode b_Mpg_expression 70 = .ok (.isub, 1) := by decide +kernel
theorem d_Mpg_expression_71 : decode b_Mpg_expression 71 = .ok (.putfield 380, 3) := by decide +kernel
theorem d_Mpg_expression_74 : decode b_Mpg_expression 74 = .ok (.aload_n 0, 1) := by decide +kernel
theorem d_Mpg_expression_75 : decode b_Mpg_expression 75 = .ok (.bipush 9, 2) := by decide +kernel
theorem d_Mpg_expression_77 : decode b_Mpg_expression 77 = .ok (.iload 4, 2) := by decide +kernel
theorem d_Mpg_expression_79 : decode b_Mpg_expression 79 = .ok (.invokevirtual 406, 3) := by decide +kernel
theorem d_Mpg_expression_82 : decode b_Mpg_expression 82 = .ok (.istore 6, 2) := by decide +kernel
theorem d_Mpg_expression_84 : decode b_Mpg_expression 84 = .ok (.aload_n 0, 1) := by decide +kernel
theorem d_Mpg_expression_85 : decode b_Mpg_expression 85 = .ok (.getfield 234, 3) := by decide +kernel
theorem d_Mpg_expression_88 : decode b_Mpg_expression 88 = .ok (.iload 6, 2) := by decide +kernel
theorem d_Mpg_expression_90 : decode b_Mpg_expression 90 = .ok (.iconst 1, 1) := by decide +kernel
theorem d_Mpg_expression_91 : decode b_Mpg_expression 91 = .ok (.aload_n 0, 1) := by decide +kernel
theorem d_Mpg_expression_92 : decode b_Mpg_expression 92 = .ok (.getfield 234, 3) := by decide +kernel
theorem d_Mpg_expression_95 : decode b_Mpg_expression 95 = .ok (.iload_n 2, 1) := by decide +kernel
theorem d_Mpg_expression_96 : decode b_Mpg_expression 96 = .ok (.iaload, 1) := by decide +kernel
theorem d_Mpg_expression_97 : decode b_Mpg_expression 97 = .ok (.aload_n 0, 1) := by decide +kernel
theorem d_Mpg_expression_98 : decode b_Mpg_expression 98 = .ok (.getfield 234, 3) := by decide +kernel
theorem d_Mpg_expression_101 : decode b_Mpg_expression 101 = .ok (.iload 5, 2) := by decide +kernel
theorem d_Mpg_expression_103 : decode b_Mpg_expression 103 = .ok (.iaload, 1) := by decide +kernel
theorem d_Mpg_expression_104 : decode b_Mpg_expression 104 = .ok (.invokestatic 409, 3) := by decide +kernel
theorem d_Mpg_expression_107 : decode b_Mpg_expression 107 = .ok (.iadd, 1) := by decide +kernel
theorem d_Mpg_expression_108 : decode b_Mpg_expression 108 = .ok (.iastore, 1) := by decide +kernel
theorem d_Mpg_expression_109 : decode b_Mpg_expression 109 = .ok (.aload_n 0, 1) := by decide +kernel
theorem d_Mpg_expression_110 : decode b_Mpg_expression 110 = .ok (.getfield 213, 3) := by decide +kernel
theorem d_Mpg_expression_113 : decode b_Mpg_expression 113 = .ok (.iload 6, 2) := by decide +kernel
theorem d_Mpg_expression_115 : decode b_Mpg_expression 115 = .ok (.iload_n 1, 1) := by decide +kernel
theorem d_Mpg_expression_116 : decode b_Mpg_expression 116 = .ok (.iastore, 1) := by decide +kernel
theorem d_Mpg_expression_117 : decode b_Mpg_expression 117 = .ok (.aload_n 0, 1) := by decide +kernel
theorem d_Mpg_expression_118 : decode b_Mpg_expression 118 = .ok (.getfield 216, 3) := by decide +kernel
theorem d_Mpg_expression_121 : decode b_Mpg_expression 121 = .ok (.iload 6, 2) := by decide +kernel
theorem d_Mpg_expression_123 : decode b_Mpg_expression 123 = .ok (.iload_n 2, 1) := by decide +kernel
theorem d_Mpg_expression_124 : decode b_Mpg_expression 124 = .ok (.iastore, 1) := by decide +kernel
theorem d_Mpg_expression_125 : decode b_Mpg_expression 125 = .ok (.aload_n 0, 1) := by decide +kernel
theorem d_Mpg_expression_126 : decode b_Mpg_expression 126 = .ok (.getfield 219, 3) := by decide +kernel
theorem d_Mpg_expression_129 : decode b_Mpg_expression 129 = .ok (.iload 6, 2) := by decide +kernel
theorem d_Mpg_expression_131 : decode b_Mpg_expression 131 = .ok (.iload 5, 2) := by decide +kernel
theorem d_Mpg_expression_133 : decode b_Mpg_expression 133 = .ok (.iastore, 1) := by decide +kernel
theorem d_Mpg_expression_134 : decode b_Mpg_expression 134 = .ok (.iload 6, 2) := by decide +kernel
theorem d_Mpg_expression_136 : decode b_Mpg_expression 136 = .ok (.istore_n 2, 1) := by decide +kernel
theorem d_Mpg_expression_137 : decode b_Mpg_expression 137 = .ok (.iload_n 2, 1) := by decide +kernel
theorem d_Mpg_expression_138 : decode b_Mpg_expression 138 = .ok (.ireturn, 1) := by decide +kernel
theorem q_Mpg_expression : px_y y_Mpg_expression 0 := by unfold px_y; decide +kernel
abbrev b_Mpg_conditional : ByteArray := prog_16_method_32_code
def y_Mpg_conditional : MethodName := ⟨"HomeSystemModel$Program", "conditional", "()I"⟩
theorem d_Mpg_conditional_0 : decode b_Mpg_conditional 0 = .ok (.aload_n 0, 1) := by decide +kernel
theorem d_Mpg_conditional_1 : decode b_Mpg_conditional 1 = .ok (.getfield 360, 3) := by decide +kernel
theorem d_Mpg_conditional_4 : decode b_Mpg_conditional 4 = .ok (.istore_n 1, 1) := by decide +kernel
theorem d_Mpg_conditional_5 : decode b_Mpg_conditional 5 = .ok (.aload_n 0, 1) := by decide +kernel
theorem d_Mpg_conditional_6 : decode b_Mpg_conditional 6 = .ok (.invokevirtual 412, 3) := by decide +kernel
theorem d_Mpg_conditional_9 : decode b_Mpg_conditional 9 = .ok (.istore_n 2, 1) := by decide +kernel
theorem d_Mpg_conditional_10 : decode b_Mpg_conditional 10 = .ok (.aload_n 0, 1) := by decide +kernel
theorem d_Mpg_conditional_11 : decode b_Mpg_conditional 11 = .ok (.ldc 105, 2) := by decide +kernel
theorem d_Mpg_conditional_13 : decode b_Mpg_conditional 13 = .ok (.invokevirtual 366, 3) := by decide +kernel
theorem d_Mpg_conditional_16 : decode b_Mpg_conditional 16 = .ok (.ifCond .ne 5, 3) := by decide +kernel
theorem d_Mpg_conditional_19 : decode b_Mpg_conditional 19 = .ok (.iload_n 2, 1) := by decide +kernel
theorem d_Mpg_conditional_20 : decode b_Mpg_conditional 20 = .ok (.ireturn, 1) := by decide +kernel
theorem d_Mpg_conditional_21 : decode b_Mpg_conditional 21 = .ok (.aload_n 0, 1) := by decide +kernel
theorem d_Mpg_conditional_22 : decode b_Mpg_conditional 22 = .ok (.getfield 360, 3) := by decide +kernel
theorem d_Mpg_conditional_25 : decode b_Mpg_conditional 25 = .ok (.istore_n 3, 1) := by decide +kernel
theorem d_Mpg_conditional_26 : decode b_Mpg_conditional 26 = .ok (.aload_n 0, 1) := by decide +kernel
theorem d_Mpg_conditional_27 : decode b_Mpg_conditional 27 = .ok (.iload_n 2, 1) := by decide +kernel
theorem d_Mpg_conditional_28 : decode b_Mpg_conditional 28 = .ok (.ifCond .ge 9, 3) := by decide +kernel
theorem d_Mpg_conditional_31 : decode b_Mpg_conditional 31 = .ok (.iconst (-1), 1) := by decide +kernel
theorem d_Mpg_conditional_32 : decode b_Mpg_conditional 32 = .ok (.iload_n 2, 1) := by decide +kernel
theorem d_Mpg_conditional_33 : decode b_Mpg_conditional 33 = .ok (.isub, 1) := by decide +kernel
theorem d_Mpg_conditional_34 : decode b_Mpg_conditional 34 = .ok (.goto 4, 3) := by decide +kernel
theorem d_Mpg_conditional_37 : decode b_Mpg_conditional 37 = .ok (.iload_n 2, 1) := by decide +kernel
theorem d_Mpg_conditional_38 : decode b_Mpg_conditional 38 = .ok (.invokevirtual 400, 3) := by decide +kernel
theorem d_Mpg_conditional_41 : decode b_Mpg_conditional 41 = .ok (.aload_n 0, 1) := by decide +kernel
theorem d_Mpg_conditional_42 : decode b_Mpg_conditional 42 = .ok (.invokevirtual 383, 3) := by decide +kernel
theorem d_Mpg_conditional_45 : decode b_Mpg_conditional 45 = .ok (.aload_n 0, 1) := by decide +kernel
theorem d_Mpg_conditional_46 : decode b_Mpg_conditional 46 = .ok (.invokevirtual 403, 3) := by decide +kernel
theorem d_Mpg_conditional_49 : decode b_Mpg_conditional 49 = .ok (.istore 4, 2) := by decide +kernel
theorem d_Mpg_conditional_51 : decode b_Mpg_conditional 51 = .ok (.aload_n 0, 1) := by decide +kernel
theorem d_Mpg_conditional_52 : decode b_Mpg_conditional 52 = .ok (.ldc 103, 2) := by decide +kernel
theorem d_Mpg_conditional_54 : decode b_Mpg_conditional 54 = .ok (.invokevirtual 386, 3) := by decide +kernel
theorem d_Mpg_conditional_57 : decode b_Mpg_conditional 57 = .ok (.aload_n 0, 1) := by decide +kernel
theorem d_Mpg_conditional_58 : decode b_Mpg_conditional 58 = .ok (.invokevirtual 393, 3) := by decide +kernel
theorem d_Mpg_conditional_61 : decode b_Mpg_conditional 61 = .ok (.istore 5, 2) := by decide +kernel
theorem d_Mpg_conditional_63 : decode b_Mpg_conditional 63 = .ok (.aload_n 0, 1) := by decide +kernel
theorem d_Mpg_conditional_64 : decode b_Mpg_conditional 64 = .ok (.dup, 1) := by decide +kernel
theorem d_Mpg_conditional_65 : decode b_Mpg_conditional 65 = .ok (.getfield 380, 3) := by decide +kernel
theorem d_Mpg_conditional_68 : decode b_Mpg_conditional 68 = .ok (.iconst 1, 1) := by decide +kernel
theorem d_Mpg_conditional_69 : decode b_Mpg_conditional 69 = .ok (.isub, 1) := by decide +kernel
theorem d_Mpg_conditional_70 : decode b_Mpg_conditional 70 = .ok (.putfield 380, 3) := by decide +kernel
theorem d_Mpg_conditional_73 : decode b_Mpg_conditional 73 = .ok (.aload_n 0, 1) := by decide +kernel
theorem d_Mpg_conditional_74 : decode b_Mpg_conditional 74 = .ok (.bipush 8, 2) := by decide +kernel
theorem d_Mpg_conditional_76 : decode b_Mpg_conditional 76 = .ok (.iload_n 3, 1) := by decide +kernel
theorem d_Mpg_conditional_77 : decode b_Mpg_conditional 77 = .ok (.invokevirtual 406, 3) := by decide +kernel
theorem d_Mpg_conditional_80 : decode b_Mpg_conditional 80 = .ok (.istore 6, 2) := by decide +kernel
theorem d_Mpg_conditional_82 : decode b_Mpg_conditional 82 = .ok (.aload_n 0, 1) := by decide +kernel
theorem d_Mpg_conditional_83 : decode b_Mpg_conditional 83 = .ok (.getfield 234, 3) := by decide +kernel
theorem d_Mpg_conditional_86 : decode b_Mpg_conditional 86 = .ok (.iload 6, 2) := by decide +kernel
theorem d_Mpg_conditional_88 : decode b_Mpg_conditional 88 = .ok (.iconst 1, 1) := by decide +kernel
theorem d_Mpg_conditional_89 : decode b_Mpg_conditional 89 = .ok (.aload_n 0, 1) := by decide +kernel
theorem d_Mpg_conditional_90 : decode b_Mpg_conditional 90 = .ok (.getfield 234, 3) := by decide +kernel
theorem d_Mpg_conditional_93 : decode b_Mpg_conditional 93 = .ok (.iload_n 2, 1) := by decide +kernel
theorem d_Mpg_conditional_94 : decode b_Mpg_conditional 94 = .ok (.ifCond .ge 9, 3) := by decide +kernel
theorem d_Mpg_conditional_97 : decode b_Mpg_conditional 97 = .ok (.iconst (-1), 1) := by decide +kernel
theorem d_Mpg_conditional_98 : decode b_Mpg_conditional 98 = .ok (.iload_n 2, 1) := by decide +kernel
theorem d_Mpg_conditional_99 : decode b_Mpg_conditional 99 = .ok (.isub, 1) := by decide +kernel
theorem d_Mpg_conditional_100 : decode b_Mpg_conditional 100 = .ok (.goto 4, 3) := by decide +kernel
theorem d_Mpg_conditional_103 : decode b_Mpg_conditional 103 = .ok (.iload_n 2, 1) := by decide +kernel
theorem d_Mpg_conditional_104 : decode b_Mpg_conditional 104 = .ok (.iaload, 1) := by decide +kernel
theorem d_Mpg_conditional_105 : decode b_Mpg_conditional 105 = .ok (.aload_n 0, 1) := by decide +kernel
theorem d_Mpg_conditional_106 : decode b_Mpg_conditional 106 = .ok (.getfield 234, 3) := by decide +kernel
theorem d_Mpg_conditional_109 : decode b_Mpg_conditional 109 = .ok (.iload 4, 2) := by decide +kernel
theorem d_Mpg_conditional_111 : decode b_Mpg_conditional 111 = .ok (.iaload, 1) := by decide +kernel
theorem d_Mpg_conditional_112 : decode b_Mpg_conditional 112 = .ok (.aload_n 0, 1) := by decide +kernel
theorem d_Mpg_conditional_113 : decode b_Mpg_conditional 113 = .ok (.getfield 234, 3) := by decide +kernel
theorem d_Mpg_conditional_116 : decode b_Mpg_conditional 116 = .ok (.iload 5, 2) := by decide +kernel
theorem d_Mpg_conditional_118 : decode b_Mpg_conditional 118 = .ok (.ifCond .ge 10, 3) := by decide +kernel
theorem d_Mpg_conditional_121 : decode b_Mpg_conditional 121 = .ok (.iconst (-1), 1) := by decide +kernel
theorem d_Mpg_conditional_122 : decode b_Mpg_conditional 122 = .ok (.iload 5, 2) := by decide +kernel
theorem d_Mpg_conditional_124 : decode b_Mpg_conditional 124 = .ok (.isub, 1) := by decide +kernel
theorem d_Mpg_conditional_125 : decode b_Mpg_conditional 125 = .ok (.goto 5, 3) := by decide +kernel
theorem d_Mpg_conditional_128 : decode b_Mpg_conditional 128 = .ok (.iload 5, 2) := by decide +kernel
theorem d_Mpg_conditional_130 : decode b_Mpg_conditional 130 = .ok (.iaload, 1) := by decide +kernel
theorem d_Mpg_conditional_131 : decode b_Mpg_conditional 131 = .ok (.invokestatic 409, 3) := by decide +kernel
theorem d_Mpg_conditional_134 : decode b_Mpg_conditional 134 = .ok (.invokestatic 409, 3) := by decide +kernel
theorem d_Mpg_conditional_137 : decode b_Mpg_conditional 137 = .ok (.iadd, 1) := by decide +kernel
theorem d_Mpg_conditional_138 : decode b_Mpg_conditional 138 = .ok (.iastore, 1) := by decide +kernel
theorem d_Mpg_conditional_139 : decode b_Mpg_conditional 139 = .ok (.aload_n 0, 1) := by decide +kernel
theorem d_Mpg_conditional_140 : decode b_Mpg_conditional 140 = .ok (.getfield 213, 3) := by decide +kernel
theorem d_Mpg_conditional_143 : decode b_Mpg_conditional 143 = .ok (.iload 6, 2) := by decide +kernel
theorem d_Mpg_conditional_145 : decode b_Mpg_conditional 145 = .ok (.iload_n 1, 1) := by decide +kernel
theorem d_Mpg_conditional_146 : decode b_Mpg_conditional 146 = .ok (.iastore, 1) := by decide +kernel
theorem d_Mpg_conditional_147 : decode b_Mpg_conditional 147 = .ok (.aload_n 0, 1) := by decide +kernel
theorem d_Mpg_conditional_148 : decode b_Mpg_conditional 148 = .ok (.getfield 216, 3) := by decide +kernel
theorem d_Mpg_conditional_151 : decode b_Mpg_conditional 151 = .ok (.iload 6, 2) := by decide +kernel
theorem d_Mpg_conditional_153 : decode b_Mpg_conditional 153 = .ok (.iload_n 2, 1) := by decide +kernel
theorem d_Mpg_conditional_154 : decode b_Mpg_conditional 154 = .ok (.ifCond .ge 9, 3) := by decide +kernel
theorem d_Mpg_conditional_157 : decode b_Mpg_conditional 157 = .ok (.iconst (-1), 1) := by decide +kernel
theorem d_Mpg_conditional_158 : decode b_Mpg_conditional 158 = .ok (.iload_n 2, 1) := by decide +kernel
theorem d_Mpg_conditional_159 : decode b_Mpg_conditional 159 = .ok (.isub, 1) := by decide +kernel
theorem d_Mpg_conditional_160 : decode b_Mpg_conditional 160 = .ok (.goto 4, 3) := by decide +kernel
theorem d_Mpg_conditional_163 : decode b_Mpg_conditional 163 = .ok (.iload_n 2, 1) := by decide +kernel
theorem d_Mpg_conditional_164 : decode b_Mpg_conditional 164 = .ok (.iastore, 1) := by decide +kernel
theorem d_Mpg_conditional_165 : decode b_Mpg_conditional 165 = .ok (.aload_n 0, 1) := by decide +kernel
theorem d_Mpg_conditional_166 : decode b_Mpg_conditional 166 = .ok (.getfield 219, 3) := by decide +kernel
theorem d_Mpg_conditional_169 : decode b_Mpg_conditional 169 = .ok (.iload 6, 2) := by decide +kernel
theorem d_Mpg_conditional_171 : decode b_Mpg_conditional 171 = .ok (.iload 4, 2) := by decide +kernel
theorem d_Mpg_conditional_173 : decode b_Mpg_conditional 173 = .ok (.iastore, 1) := by decide +kernel
theorem d_Mpg_conditional_174 : decode b_Mpg_conditional 174 = .ok (.aload_n 0, 1) := by decide +kernel
theorem d_Mpg_conditional_175 : decode b_Mpg_conditional 175 = .ok (.getfield 222, 3) := by decide +kernel
theorem d_Mpg_conditional_178 : decode b_Mpg_conditional 178 = .ok (.iload 6, 2) := by decide +kernel
theorem d_Mpg_conditional_180 : decode b_Mpg_conditional 180 = .ok (.iload 5, 2) := by decide +kernel
theorem d_Mpg_conditional_182 : decode b_Mpg_conditional 182 = .ok (.ifCond .ge 10, 3) := by decide +kernel
theorem d_Mpg_conditional_185 : decode b_Mpg_conditional 185 = .ok (.iconst (-1), 1) := by decide +kernel
theorem d_Mpg_conditional_186 : decode b_Mpg_conditional 186 = .ok (.iload 5, 2) := by decide +kernel
theorem d_Mpg_conditional_188 : decode b_Mpg_conditional 188 = .ok (.isub, 1) := by decide +kernel
theorem d_Mpg_conditional_189 : decode b_Mpg_conditional 189 = .ok (.goto 5, 3) := by decide +kernel
theorem d_Mpg_conditional_192 : decode b_Mpg_conditional 192 = .ok (.iload 5, 2) := by decide +kernel
theorem d_Mpg_conditional_194 : decode b_Mpg_conditional 194 = .ok (.iastore, 1) := by decide +kernel
theorem d_Mpg_conditional_195 : decode b_Mpg_conditional 195 = .ok (.iload 6, 2) := by decide +kernel
theorem d_Mpg_conditional_197 : decode b_Mpg_conditional 197 = .ok (.ireturn, 1) := by decide +kernel
theorem q_Mpg_conditional : px_y y_Mpg_conditional 0 := by unfold px_y; decide +kernel
def ExpC (l : Launch) (D : va_G) (cs : Nat → ClassId) (lv : Nat) : Prop := ∀ (h : Nat) (r : Nat → Nat) (g : Nat → Nat → Option Nat) (tf : Nat → Int32) (ta : Nat → Nat → Int32) (cf : Nat → Int32) (ca : Nat → Nat → Int32) (ef : Nat → Int32) (ea : Nat → Nat → Int32) (xf : Nat → Int32) (xa : Nat → Nat → Int32) (pf : Nat → Int32) (na : Nat → Nat → Int32) (ma : Nat → Nat → Int32) (wa : Nat → Nat → Int32) (g0 : 0 ≤ (pf 11).toInt) (g1 : (pf 11).toInt < (tf 6).toInt) (g2 : (tf 6).toInt ≤ 2049) (g3 : 0 ≤ (pf 12).toInt) (g4 : (pf 12).toInt ≤ 60) (g5 : 0 ≤ (pf 13).toInt) (g6 : (pf 13).toInt ≤ (pf 11).toInt + 20) (g7 : 0 ≤ (pf 26).toInt) (g8 : (pf 26).toInt ≤ (pf 12).toInt) (g9 : 61 ≤ (pf 12).toInt + (lv : Int)) (g10 : lv ≤ 61) (hlf : l.flags = pinnedFlags ++ [noTraceFlag]) (htk : TkI tf ta) (hfs : FsI (tf 6).toInt (pf 13).toInt na), ThI l y_Mpg_expression b_Mpg_expression 7 (.int) D cs (8 * lv + 20) (220 * lv + 720) [.ref h] [wdP cs h r g tf ta pf na ma wa cf ca ef ea xf xa] (oX (fun A U H => (oN A U H) ∧ (oP A g U H)) [wdP cs h r g tf ta pf na ma wa cf ca ef ea xf xa]) "java/lang/IllegalArgumentException" (fun v ps => ∃ (pf' : Nat → Int32) (na' : Nat → Nat → Int32) (ma' : Nat → Nat → Int32) (wa' : Nat → Nat → Int32), (ps = [wdP cs h r g tf ta pf' na' ma' wa' cf ca ef ea xf xa]) ∧ ((pf 11).toInt + 1 ≤ (pf' 11).toInt) ∧ ((pf' 11).toInt < (tf 6).toInt) ∧ ((pf 13).toInt + 1 ≤ (pf' 13).toInt) ∧ ((pf' 13).toInt - (pf 13).toInt ≤ (pf' 11).toInt - (pf 11).toInt) ∧ (bp ta (pf 11) + 1 ≤ bp ta (pf' 11)) ∧ ((pf' 12).toInt = (pf 12).toInt) ∧ ((pf' 24).toInt = (pf 24).toInt) ∧ ((pf' 25).toInt = (pf 25).toInt) ∧ ((pf' 26).toInt = (pf 26).toInt) ∧ (FrB (pf 13).toInt na ma na' ma') ∧ (FrW (pf 26).toInt wa wa') ∧ (ExR ta (tf 6).toInt na' ma' v (pf 13).toInt (pf' 13).toInt (3 * (bp ta (pf' 11) - bp ta (pf 11))) (pf 12).toInt) ∧ (FsI (tf 6).toInt (pf' 13).toInt na') ∧ (R_mp_expression (RL_mp_expression lv) (RL_mp_conditional lv) ta pf na ma wa pf' na' ma' wa' v 0)) (fun ps => ∃ (pf' : Nat → Int32) (na' : Nat → Nat → Int32) (ma' : Nat → Nat → Int32) (wa' : Nat → Nat → Int32), ps = [wdP cs h r g tf ta pf' na' ma' wa' cf ca ef ea xf xa] ∧ 0 ≤ (pf' 11).toInt ∧ (pf' 11).toInt + 1 ≤ (tf 6).toInt ∧ R_mp_expression (RL_mp_expression lv) (RL_mp_conditional lv) ta pf na ma wa pf' na' ma' wa' 0 1)
def ConC (l : Launch) (D : va_G) (cs : Nat → ClassId) (lv : Nat) : Prop := ∀ (h : Nat) (r : Nat → Nat) (g : Nat → Nat → Option Nat) (tf : Nat → Int32) (ta : Nat → Nat → Int32) (cf : Nat → Int32) (ca : Nat → Nat → Int32) (ef : Nat → Int32) (ea : Nat → Nat → Int32) (xf : Nat → Int32) (xa : Nat → Nat → Int32) (pf : Nat → Int32) (na : Nat → Nat → Int32) (ma : Nat → Nat → Int32) (wa : Nat → Nat → Int32) (g0 : 0 ≤ (pf 11).toInt) (g1 : (pf 11).toInt < (tf 6).toInt) (g2 : (tf 6).toInt ≤ 2049) (g3 : 0 ≤ (pf 12).toInt) (g4 : (pf 12).toInt ≤ 60) (g5 : 0 ≤ (pf 13).toInt) (g6 : (pf 13).toInt ≤ (pf 11).toInt + 20) (g7 : 0 ≤ (pf 26).toInt) (g8 : (pf 26).toInt ≤ (pf 12).toInt) (g9 : 61 ≤ (pf 12).toInt + (lv : Int)) (g10 : lv ≤ 61) (hlf : l.flags = pinnedFlags ++ [noTraceFlag]) (htk : TkI tf ta) (hfs : FsI (tf 6).toInt (pf 13).toInt na), ThI l y_Mpg_conditional b_Mpg_conditional 7 (.int) D cs (8 * lv + 19) (220 * lv + 690) [.ref h] [wdP cs h r g tf ta pf na ma wa cf ca ef ea xf xa] (oX (fun A U H => (oN A U H) ∧ (oP A g U H)) [wdP cs h r g tf ta pf na ma wa cf ca ef ea xf xa]) "java/lang/IllegalArgumentException" (fun v ps => ∃ (pf' : Nat → Int32) (na' : Nat → Nat → Int32) (ma' : Nat → Nat → Int32) (wa' : Nat → Nat → Int32), (ps = [wdP cs h r g tf ta pf' na' ma' wa' cf ca ef ea xf xa]) ∧ ((pf 11).toInt + 1 ≤ (pf' 11).toInt) ∧ ((pf' 11).toInt < (tf 6).toInt) ∧ ((pf 13).toInt + 1 ≤ (pf' 13).toInt) ∧ ((pf' 13).toInt - (pf 13).toInt ≤ (pf' 11).toInt - (pf 11).toInt) ∧ (bp ta (pf 11) + 1 ≤ bp ta (pf' 11)) ∧ ((pf' 12).toInt = (pf 12).toInt) ∧ ((pf' 24).toInt = (pf 24).toInt) ∧ ((pf' 25).toInt = (pf 25).toInt) ∧ ((pf' 26).toInt = (pf 26).toInt) ∧ (FrB (pf 13).toInt na ma na' ma') ∧ (FrW (pf 26).toInt wa wa') ∧ (ExD ta (tf 6).toInt na' ma' v (pf 13).toInt (pf' 13).toInt (3 * (bp ta (pf' 11) - bp ta (pf 11))) (pf 12).toInt) ∧ (FsI (tf 6).toInt (pf' 13).toInt na') ∧ (R_mp_conditional (RL_mp_expression lv) (RL_mp_conditional lv) ta pf na ma wa pf' na' ma' wa' v 0)) (fun ps => ∃ (pf' : Nat → Int32) (na' : Nat → Nat → Int32) (ma' : Nat → Nat → Int32) (wa' : Nat → Nat → Int32), ps = [wdP cs h r g tf ta pf' na' ma' wa' cf ca ef ea xf xa] ∧ 0 ≤ (pf' 11).toInt ∧ (pf' 11).toInt + 1 ≤ (tf 6).toInt ∧ R_mp_conditional (RL_mp_expression lv) (RL_mp_conditional lv) ta pf na ma wa pf' na' ma' wa' 0 1)
def LvE (l : Launch) (D : va_G) (cs : Nat → ClassId) (lv : Nat) : Prop := 1 ≤ lv → ExpC l D cs (lv - 1) ∧ ConC l D cs (lv - 1)
theorem LvE.go {l : Launch} {D : va_G} {cs : Nat → ClassId} {lv : Nat} (h : LvE l D cs lv) (k : 1 ≤ lv) : ExpC l D cs (lv - 1) ∧ ConC l D cs (lv - 1) := h k
theorem lve_0 {l : Launch} {D : va_G} {cs : Nat → ClassId} : LvE l D cs 0 := fun h => absurd h (by decide)
theorem lve_s {l : Launch} {D : va_G} {cs : Nat → ClassId} {n : Nat} (h : ExpC l D cs n ∧ ConC l D cs n) : LvE l D cs (n + 1) := fun _ => h
abbrev b_Mpg_call : ByteArray := prog_16_method_41_code
def y_Mpg_call : MethodName := ⟨"HomeSystemModel$Program", "call", "(I)I"⟩
theorem d_Mpg_call_0 : decode b_Mpg_call 0 = .ok (.aload_n 0, 1) := by decide +kernel
theorem d_Mpg_call_1 : decode b_Mpg_call 1 = .ok (.iconst 3, 1) := by decide +kernel
theorem d_Mpg_call_2 : decode b_Mpg_call 2 = .ok (.iload_n 1, 1) := by decide +kernel
theorem d_Mpg_call_3 : decode b_Mpg_call 3 = .ok (.invokevirtual 406, 3) := by decide +kernel
theorem d_Mpg_call_6 : decode b_Mpg_call 6 = .ok (.istore_n 2, 1) := by decide +kernel
theorem d_Mpg_call_7 : decode b_Mpg_call 7 = .ok (.aload_n 0, 1) := by decide +kernel
theorem d_Mpg_call_8 : decode b_Mpg_call 8 = .ok (.invokevirtual 383, 3) := by decide +kernel
theorem d_Mpg_call_11 : decode b_Mpg_call 11 = .ok (.aload_n 0, 1) := by decide +kernel
theorem d_Mpg_call_12 : decode b_Mpg_call 12 = .ok (.ldc 89, 2) := by decide +kernel
theorem d_Mpg_call_14 : decode b_Mpg_call 14 = .ok (.invokevirtual 366, 3) := by decide +kernel
theorem d_Mpg_call_17 : decode b_Mpg_call 17 = .ok (.ifCond .ne 82, 3) := by decide +kernel
theorem d_Mpg_call_20 : decode b_Mpg_call 20 = .ok (.aload_n 0, 1) := by decide +kernel
theorem d_Mpg_call_21 : decode b_Mpg_call 21 = .ok (.invokevirtual 403, 3) := by decide +kernel
theorem d_Mpg_call_24 : decode b_Mpg_call 24 = .ok (.istore_n 3, 1) := by decide +kernel
theorem d_Mpg_call_25 : decode b_Mpg_call 25 = .ok (.aload_n 0, 1) := by decide +kernel
theorem d_Mpg_call_26 : decode b_Mpg_call 26 = .ok (.getfield 216, 3) := by decide +kernel
theorem d_Mpg_call_29 : decode b_Mpg_call 29 = .ok (.iload_n 2, 1) := by decide +kernel
theorem d_Mpg_call_30 : decode b_Mpg_call 30 = .ok (.iload_n 3, 1) := by decide +kernel
theorem d_Mpg_call_31 : decode b_Mpg_call 31 = .ok (.iastore, 1) := by decide +kernel
theorem d_Mpg_call_32 : decode b_Mpg_call 32 = .ok (.aload_n 0, 1) := by decide +kernel
theorem d_Mpg_call_33 : decode b_Mpg_call 33 = .ok (.getfield 234, 3) := by decide +kernel
theorem d_Mpg_call_36 : decode b_Mpg_call 36 = .ok (.iload_n 2, 1) := by decide +kernel
theorem d_Mpg_call_37 : decode b_Mpg_call 37 = .ok (.iconst 1, 1) := by decide +kernel
theorem d_Mpg_call_38 : decode b_Mpg_call 38 = .ok (.aload_n 0, 1) := by decide +kernel
theorem d_Mpg_call_39 : decode b_Mpg_call 39 = .ok (.getfield 234, 3) := by decide +kernel
theorem d_Mpg_call_42 : decode b_Mpg_call 42 = .ok (.iload_n 3, 1) := by decide +kernel
theorem d_Mpg_call_43 : decode b_Mpg_call 43 = .ok (.iaload, 1) := by decide +kernel
theorem d_Mpg_call_44 : decode b_Mpg_call 44 = .ok (.iadd, 1) := by decide +kernel
theorem d_Mpg_call_45 : decode b_Mpg_call 45 = .ok (.iastore, 1) := by decide +kernel
theorem d_Mpg_call_46 : decode b_Mpg_call 46 = .ok (.aload_n 0, 1) := by decide +kernel
theorem d_Mpg_call_47 : decode b_Mpg_call 47 = .ok (.ldc 99, 2) := by decide +kernel
theorem d_Mpg_call_49 : decode b_Mpg_call 49 = .ok (.invokevirtual 370, 3) := by decide +kernel
theorem d_Mpg_call_52 : decode b_Mpg_call 52 = .ok (.ifCond .eq 47, 3) := by decide +kernel
theorem d_Mpg_call_55 : decode b_Mpg_call 55 = .ok (.aload_n 0, 1) := by decide +kernel
theorem d_Mpg_call_56 : decode b_Mpg_call 56 = .ok (.invokevirtual 403, 3) := by decide +kernel
theorem d_Mpg_call_59 : decode b_Mpg_call 59 = .ok (.istore 4, 2) := by decide +kernel
theorem d_Mpg_call_61 : decode b_Mpg_call 61 = .ok (.aload_n 0, 1) := by decide +kernel
theorem d_Mpg_call_62 : decode b_Mpg_call 62 = .ok (.getfield 228, 3) := by decide +kernel
theorem d_Mpg_call_65 : decode b_Mpg_call 65 = .ok (.iload_n 3, 1) := by decide +kernel
theorem d_Mpg_call_66 : decode b_Mpg_call 66 = .ok (.iload 4, 2) := by decide +kernel
theorem d_Mpg_call_68 : decode b_Mpg_call 68 = .ok (.iastore, 1) := by decide +kernel
theorem d_Mpg_call_69 : decode b_Mpg_call 69 = .ok (.iload 4, 2) := by decide +kernel
theorem d_Mpg_call_71 : decode b_Mpg_call 71 = .ok (.istore_n 3, 1) := by decide +kernel
theorem d_Mpg_call_72 : decode b_Mpg_call 72 = .ok (.aload_n 0, 1) := by decide +kernel
theorem d_Mpg_call_73 : decode b_Mpg_call 73 = .ok (.getfield 234, 3) := by decide +kernel
theorem d_Mpg_call_76 : decode b_Mpg_call 76 = .ok (.iload_n 2, 1) := by decide +kernel
theorem d_Mpg_call_77 : decode b_Mpg_call 77 = .ok (.aload_n 0, 1) := by decide +kernel
theorem d_Mpg_call_78 : decode b_Mpg_call 78 = .ok (.getfield 234, 3) := by decide +kernel
theorem d_Mpg_call_81 : decode b_Mpg_call 81 = .ok (.iload_n 2, 1) := by decide +kernel
theorem d_Mpg_call_82 : decode b_Mpg_call 82 = .ok (.iaload, 1) := by decide +kernel
theorem d_Mpg_call_83 : decode b_Mpg_call 83 = .ok (.iconst 1, 1) := by decide +kernel
theorem d_Mpg_call_84 : decode b_Mpg_call 84 = .ok (.aload_n 0, 1) := by decide +kernel
theorem d_Mpg_call_85 : decode b_Mpg_call 85 = .ok (.getfield 234, 3) := by decide +kernel
theorem d_Mpg_call_88 : decode b_Mpg_call 88 = .ok (.iload 4, 2) := by decide +kernel
theorem d_Mpg_call_90 : decode b_Mpg_call 90 = .ok (.iaload, 1) := by decide +kernel
theorem d_Mpg_call_91 : decode b_Mpg_call 91 = .ok (.iadd, 1) := by decide +kernel
theorem d_Mpg_call_92 : decode b_Mpg_call 92 = .ok (.invokestatic 409, 3) := by decide +kernel
theorem d_Mpg_call_95 : decode b_Mpg_call 95 = .ok (.iastore, 1) := by decide +kernel
theorem d_Mpg_call_96 : decode b_Mpg_call 96 = .ok (.goto (-50), 3) := by decide +kernel
theorem d_Mpg_call_99 : decode b_Mpg_call 99 = .ok (.aload_n 0, 1) := by decide +kernel
theorem d_Mpg_call_100 : decode b_Mpg_call 100 = .ok (.ldc 89, 2) := by decide +kernel
theorem d_Mpg_call_102 : decode b_Mpg_call 102 = .ok (.invokevirtual 439, 3) := by decide +kernel
theorem d_Mpg_call_105 : decode b_Mpg_call 105 = .ok (.iload_n 2, 1) := by decide +kernel
theorem d_Mpg_call_106 : decode b_Mpg_call 106 = .ok (.ireturn, 1) := by decide +kernel
theorem q_Mpg_call : px_y y_Mpg_call 1 := by unfold px_y; decide +kernel
set_option maxHeartbeats 4000000 in
set_option maxRecDepth 100000 in
theorem c_mp_call (l : Launch) (D : va_G) (cs : Nat → ClassId) (h : Nat) (r : Nat → Nat) (g : Nat → Nat → Option Nat) (tf : Nat → Int32) (ta : Nat → Nat → Int32) (cf : Nat → Int32) (ca : Nat → Nat → Int32) (ef : Nat → Int32) (ea : Nat → Nat → Int32) (xf : Nat → Int32) (xa : Nat → Nat → Int32) (pf : Nat → Int32) (na : Nat → Nat → Int32) (ma : Nat → Nat → Int32) (wa : Nat → Nat → Int32) (p0 : Int32) (lv : Nat) (g0 : 0 ≤ (pf 11).toInt) (g1 : (pf 11).toInt < (tf 6).toInt) (g2 : (tf 6).toInt ≤ 2049) (g3 : 0 ≤ (pf 12).toInt) (g4 : (pf 12).toInt ≤ 60) (g5 : 0 ≤ (pf 13).toInt) (g6 : (pf 13).toInt ≤ (pf 11).toInt + 20) (g7 : 0 ≤ (pf 26).toInt) (g8 : (pf 26).toInt ≤ (pf 12).toInt) (g9 : 61 ≤ (pf 12).toInt + (lv : Int)) (g10 : lv ≤ 61) (g11 : 0 ≤ p0.toInt) (g12 : p0.toInt < (tf 6).toInt) (g13 : so ta p0 = 1) (g14 : (pf 11).toInt + 1 < (tf 6).toInt) (hlf : l.flags = pinnedFlags ++ [noTraceFlag]) (htk : TkI tf ta) (hfs : FsI (tf 6).toInt (pf 13).toInt na) (hE : LvE l D cs lv) : ThI l y_Mpg_call b_Mpg_call 5 (.int) D cs (8 * lv + 14) (220 * lv + 540) [.ref h, .int p0] [wdP cs h r g tf ta pf na ma wa cf ca ef ea xf xa] (oX (fun A U H => (oN A U H) ∧ (oP A g U H)) [wdP cs h r g tf ta pf na ma wa cf ca ef ea xf xa]) "java/lang/IllegalArgumentException" (fun v ps => ∃ (pf' : Nat → Int32) (na' : Nat → Nat → Int32) (ma' : Nat → Nat → Int32) (wa' : Nat → Nat → Int32), (ps = [wdP cs h r g tf ta pf' na' ma' wa' cf ca ef ea xf xa]) ∧ ((pf 11).toInt + 1 ≤ (pf' 11).toInt) ∧ ((pf' 11).toInt < (tf 6).toInt) ∧ ((pf 13).toInt + 1 ≤ (pf' 13).toInt) ∧ ((pf' 13).toInt - (pf 13).toInt ≤ (pf' 11).toInt - (pf 11).toInt) ∧ (bp ta (pf 11) + 1 ≤ bp ta (pf' 11)) ∧ ((pf' 12).toInt = (pf 12).toInt) ∧ ((pf' 24).toInt = (pf 24).toInt) ∧ ((pf' 25).toInt = (pf 25).toInt) ∧ ((pf' 26).toInt = (pf 26).toInt) ∧ (FrB (pf 13).toInt na ma na' ma') ∧ (FrW (pf 26).toInt wa wa') ∧ (ExR ta (tf 6).toInt na' ma' v (pf 13).toInt (pf' 13).toInt (3 * (bp ta (pf' 11) - bp ta (pf 11))) (pf 12).toInt) ∧ (FsI (tf 6).toInt (pf' 13).toInt na') ∧ (R_mp_call (RL_mp_expression lv) (RL_mp_conditional lv) ta p0 pf na ma wa pf' na' ma' wa' v 0)) (fun ps => ∃ (pf' : Nat → Int32) (na' : Nat → Nat → Int32) (ma' : Nat → Nat → Int32) (wa' : Nat → Nat → Int32), ps = [wdP cs h r g tf ta pf' na' ma' wa' cf ca ef ea xf xa] ∧ 0 ≤ (pf' 11).toInt ∧ (pf' 11).toInt + 1 ≤ (tf 6).toInt ∧ R_mp_call (RL_mp_expression lv) (RL_mp_conditional lv) ta p0 pf na ma wa pf' na' ma' wa' 0 1) := by
  refine th_enter (by decide) (Nat.le_of_ble_eq_true rfl) ?_
  intro p e s m below meth c A ls hAe S hr hlk hnm hA hT hX hw hl hne hadm
  have hl : lv_has ls 5 [(0, .ref h), (1, .int p0)] := hl
  have lp0 := Int32.le_toInt p0
  have up0 := Int32.toInt_lt p0
  have cst1 : (1 : Int32).toInt = 1 := rfl
  have cst3 : (3 : Int32).toInt = 3 := rfl
  have hX : (fun A U H => (oN A U H) ∧ (oP A g U H)) A s s.heap := by rw [hAe]; exact hX
  obtain ⟨hN, hP⟩ := hX
  have hZ := hP.1
  have hF0 := hP.2.1
  have hfb : FrB (pf 13).toInt na ma na ma := FrB.rf
  have hfw : FrW (pf 26).toInt wa wa := FrW.rf
  have J46 : ∀ (n_46 : Nat) (pf_46 : Nat → Int32) (na_46 : Nat → Nat → Int32) (ma_46 : Nat → Nat → Int32) (wa_46 : Nat → Nat → Int32) (x46_2 x46_3 : Int32) (H : Heap) (locs : List Loc) (ls : Array Slot), ((pf_46 24).toInt = (pf 24).toInt) → ((pf_46 25).toInt = (pf 25).toInt) → ((pf_46 26).toInt = (pf 26).toInt) → ((pf_46 12).toInt = (pf 12).toInt + 1) → ((pf 12).toInt < 60) → ((pf 11).toInt + 1 ≤ (pf_46 11).toInt) → ((pf_46 11).toInt < (tf 6).toInt) → (x46_2.toInt = (pf 13).toInt) → (x46_2.toInt < x46_3.toInt) → (x46_3.toInt < (pf_46 13).toInt) → ((pf_46 13).toInt - (pf 13).toInt ≤ (pf_46 11).toInt - (pf 11).toInt) → (bp ta (pf 11) + 1 ≤ bp ta (pf_46 11)) → (FrB (pf 13).toInt na ma na_46 ma_46) → (FrW (pf 26).toInt wa wa_46) → (NdK na_46 ma_46 x46_2 3 p0) → (DpN na_46 x46_2 2 (61 - (pf 12).toInt)) → (ArV ta (tf 6).toInt na_46 ma_46 x46_2 x46_3 (pf_46 13).toInt (3 * (bp ta (pf_46 11) - bp ta (pf 11)) - 1) (dp na_46 x46_2 + 59 - (pf 12).toInt)) → (FsI (tf 6).toInt (pf_46 13).toInt na_46) → (K_mp_call_46 (RL_mp_expression lv) (RL_mp_conditional lv) ta p0 pf na ma wa pf_46 na_46 ma_46 wa_46 x46_2 x46_3) → (tf 6).toInt - (pf_46 11).toInt < (n_46 : Int) → pw D A s.heap H locs [wdP cs h r g tf ta pf_46 na_46 ma_46 wa_46 cf ca ef ea xf xa] → lv_has ls 5 [(0, .ref h), (1, .int p0), (2, .int x46_2), (3, .int x46_3)] → W p l e { frames := (8 * lv + 14), cells := 1, slots := 6, locals := (220 * lv + 540) } s m [.ref h, .int p0].toArray below meth c H locs 0 0 (tx_MQ below (thQi D (va_A ([wdP cs h r g tf ta pf na ma wa cf ca ef ea xf xa] : List va_W).flatten s.heap.size) "java/lang/IllegalArgumentException" (fun v ps => ∃ (pf' : Nat → Int32) (na' : Nat → Nat → Int32) (ma' : Nat → Nat → Int32) (wa' : Nat → Nat → Int32), (ps = [wdP cs h r g tf ta pf' na' ma' wa' cf ca ef ea xf xa]) ∧ ((pf 11).toInt + 1 ≤ (pf' 11).toInt) ∧ ((pf' 11).toInt < (tf 6).toInt) ∧ ((pf 13).toInt + 1 ≤ (pf' 13).toInt) ∧ ((pf' 13).toInt - (pf 13).toInt ≤ (pf' 11).toInt - (pf 11).toInt) ∧ (bp ta (pf 11) + 1 ≤ bp ta (pf' 11)) ∧ ((pf' 12).toInt = (pf 12).toInt) ∧ ((pf' 24).toInt = (pf 24).toInt) ∧ ((pf' 25).toInt = (pf 25).toInt) ∧ ((pf' 26).toInt = (pf 26).toInt) ∧ (FrB (pf 13).toInt na ma na' ma') ∧ (FrW (pf 26).toInt wa wa') ∧ (ExR ta (tf 6).toInt na' ma' v (pf 13).toInt (pf' 13).toInt (3 * (bp ta (pf' 11) - bp ta (pf 11))) (pf 12).toInt) ∧ (FsI (tf 6).toInt (pf' 13).toInt na') ∧ (R_mp_call (RL_mp_expression lv) (RL_mp_conditional lv) ta p0 pf na ma wa pf' na' ma' wa' v 0)) (fun ps => ∃ (pf' : Nat → Int32) (na' : Nat → Nat → Int32) (ma' : Nat → Nat → Int32) (wa' : Nat → Nat → Int32), ps = [wdP cs h r g tf ta pf' na' ma' wa' cf ca ef ea xf xa] ∧ 0 ≤ (pf' 11).toInt ∧ (pf' 11).toInt + 1 ≤ (tf 6).toInt ∧ R_mp_call (RL_mp_expression lv) (RL_mp_conditional lv) ta p0 pf na ma wa pf' na' ma' wa' 0 1) s.heap.size (tot s.heap)) [.ref h, .int p0].toArray s 1 6 A) (F0 m 46 ls []) := by
    intro  n_46
    induction n_46 with
    | zero =>
      intro pf_46 na_46 ma_46 wa_46 x46_2 x46_3 H locs ls k46_0 k46_1 k46_2 k46_3 k46_4 k46_5 k46_6 k46_7 k46_8 k46_9 k46_10 k46_11 k46_12 k46_13 k46_14 k46_15 k46_16 k46_17 k46_18 hm hw hl
      have lx46_2 := Int32.le_toInt x46_2
      have ux46_2 := Int32.toInt_lt x46_2
      have lx46_3 := Int32.le_toInt x46_3
      have ux46_3 := Int32.toInt_lt x46_3
      have hfb := k46_12
      have hfw := k46_13
      have hnk_x46_2 := k46_14
      have hd_x46_2 := k46_15.1
      have hdu_x46_2 := k46_15.2
      have har := k46_16
      have hfs := k46_17
      exact absurd hm (by omega)
    | succ n_46 ih46 =>
      intro pf_46 na_46 ma_46 wa_46 x46_2 x46_3 H locs ls k46_0 k46_1 k46_2 k46_3 k46_4 k46_5 k46_6 k46_7 k46_8 k46_9 k46_10 k46_11 k46_12 k46_13 k46_14 k46_15 k46_16 k46_17 k46_18 hm hw hl
      have lx46_2 := Int32.le_toInt x46_2
      have ux46_2 := Int32.toInt_lt x46_2
      have lx46_3 := Int32.le_toInt x46_3
      have ux46_3 := Int32.toInt_lt x46_3
      have hfb := k46_12
      have hfw := k46_13
      have hnk_x46_2 := k46_14
      have hd_x46_2 := k46_15.1
      have hdu_x46_2 := k46_15.2
      have har := k46_16
      have hfs := k46_17
      refine lv_aload_n S.x S.b d_Mpg_call_46 rfl (lv_at hl 0 rfl) ?_
      obtain ⟨sk1, hRsk1, st2, hSsk1⟩ := oP_litB hP (k := 99) (tx := ",") (n := 1) (List.mem_of_getElem? (i := 41) rfl)
      refine va_ldcS S.x S.b S.own hRsk1 d_Mpg_call_47 ?_
      first | refine px_calli (pr := []) (px_runV (As := [.ref sk1]) (rest := []) S (c_mp_takes l D cs sk1 1 (lby ",") h r g tf ta na_46 ma_46 wa_46 cf ca ef ea xf xa pf_46   (show 0 ≤ (pf_46 11).toInt from (oz_06d7f15a5c k46_5 g0)) (show (pf_46 11).toInt < (tf 6).toInt from k46_6) (show (tf 6).toInt ≤ 2049 from g2) (show 1 ≤ 100 from by omega) htk _) hT (pr := []) (pcs := [wdP cs h r g tf ta pf_46 na_46 ma_46 wa_46 cf ca ef ea xf xa]) hw (oX_call (P := (fun A U H => (oP A g U H) ∧ (StLt A sk1 1 (lby ",") U H))) (pr := []) (oG_and oG_P oG_QB) hw hA ⟨hP, ⟨_, hSsk1⟩⟩) (px_recv hT hw 0 0 rfl rfl rfl) m12_6 m12_3 m12_5 ms_9_3 m1_21 q_Mpg_takes ⟨show 4 + 1 ≤ (8 * lv + 14) from (oz_ec6586d852), show 8 + (3 + 11) + 160 ≤ (220 * lv + 540) from (oz_b910afceef)⟩ hl.1 rfl (Nat.le_of_ble_eq_true rfl) d_Mpg_call_49 ⟨Nat.le_of_ble_eq_true rfl, Nat.le_of_ble_eq_true rfl⟩) hw hA (fun v7 p6 H locs hp6 hw => ?_) | (refine px_calli (pr := []) (px_runV (As := [.ref sk1]) (rest := []) S (c_mp_takes l D cs sk1 1 (lby ",") h r g tf ta na_46 ma_46 wa_46 cf ca ef ea xf xa pf_46   (show 0 ≤ (pf_46 11).toInt from by first | exact oz_06d7f15a5c k46_5 g0 | omega) (show (pf_46 11).toInt < (tf 6).toInt from by first | exact k46_6 | omega) (show (tf 6).toInt ≤ 2049 from by first | exact g2 | omega) (show 1 ≤ 100 from by omega) htk _) hT (pr := []) (pcs := [wdP cs h r g tf ta pf_46 na_46 ma_46 wa_46 cf ca ef ea xf xa]) hw (oX_call (P := (fun A U H => (oP A g U H) ∧ (StLt A sk1 1 (lby ",") U H))) (pr := []) (oG_and oG_P oG_QB) hw hA ⟨hP, ⟨_, hSsk1⟩⟩) (px_recv hT hw 0 0 rfl rfl rfl) m12_6 m12_3 m12_5 ms_9_3 m1_21 q_Mpg_takes ⟨show 4 + 1 ≤ (8 * lv + 14) from (by first | exact oz_ec6586d852 | omega), show 8 + (3 + 11) + 160 ≤ (220 * lv + 540) from (by first | exact oz_b910afceef | omega)⟩ hl.1 rfl (Nat.le_of_ble_eq_true rfl) d_Mpg_call_49 ⟨Nat.le_of_ble_eq_true rfl, Nat.le_of_ble_eq_true rfl⟩) hw hA (fun v7 p6 H locs hp6 hw => ?_))
      obtain ⟨pf5, rfl, e8, e9, e10, e11, e12, e13, e14, e15, e16, e17⟩ := hp6
      have e8 := z_rng e8
      have e9 : (pf5 11).toInt = (pf_46 11).toInt + v7.toInt := e9
      have e10 : (pf5 11).toInt < (tf 6).toInt := e10
      have e11 : bp ta (pf_46 11) + v7.toInt ≤ bp ta (pf5 11) := e11
      have e12 : (pf5 12).toInt = (pf_46 12).toInt := e12
      have e13 : (pf5 13).toInt = (pf_46 13).toInt := e13
      have e14 : (pf5 24).toInt = (pf_46 24).toInt := e14
      have e15 : (pf5 25).toInt = (pf_46 25).toInt := e15
      have e16 : (pf5 26).toInt = (pf_46 26).toInt := e16
      have e17 : R_mp_takes 1 (lby ",") ta pf_46 pf5 v7 := e17
      have lv7 := Int32.le_toInt v7
      have uv7 := Int32.toInt_lt v7
      refine lv_if_eq (tgt := 99) S.x S.b d_Mpg_call_52 (by decide) (fun c18 => ?_) (fun c18 => ?_)
      · have nc18 : v7.toInt = (0 : Int) := (i_eq (x := v7) (y := 0)).mp c18
        refine lv_aload_n S.x S.b d_Mpg_call_99 rfl (lv_at hl 0 rfl) ?_
        obtain ⟨sk20, hRsk20, st21, hSsk20⟩ := oP_litB hP (k := 89) (tx := ")") (n := 1) (List.mem_of_getElem? (i := 36) rfl)
        refine va_ldcS S.x S.b S.own hRsk20 d_Mpg_call_100 ?_
        first | refine th_callv (ps0 := [wdP cs h r g tf ta pf na ma wa cf ca ef ea xf xa]) (pr := []) (pcs := [wdP cs h r g tf ta pf5 na_46 ma_46 wa_46 cf ca ef ea xf xa]) (As := [.ref sk20]) (rest := []) (c_mp_closes l D cs sk20 1 (lby ")") h r g tf ta na_46 ma_46 wa_46 cf ca ef ea xf xa pf5   (show 0 ≤ (pf5 11).toInt from (oz_4f7430b7f2 e9 k46_5 e8.1 g0)) (show (pf5 11).toInt < (tf 6).toInt from e10) (show (tf 6).toInt ≤ 2049 from g2) (show 1 ≤ (pf5 12).toInt from (oz_a564fc7457 e12 k46_3 g8 g7)) (show (pf5 12).toInt ≤ 60 from (oz_1a76b13bbc e12 k46_3 k46_4)) (show 1 ≤ 100 from by omega) hlf htk) S hT hw (oX_call (P := (fun A U H => (oN A U H) ∧ (oP A g U H) ∧ (StLt A sk20 1 (lby ")") U H))) (pr := []) (oG_and oG_N (oG_and oG_P oG_QB)) hw hA ⟨hN, hP, ⟨_, hSsk20⟩⟩) (px_recv hT hw 0 0 rfl rfl rfl) m12_53 m12_50 m12_52 ms_9_14 m1_21 q_Mpg_closes ⟨show 8 + 1 ≤ (8 * lv + 14) from (oz_b86471fd9e), show 8 + (2 + 11) + 280 ≤ (220 * lv + 540) from (oz_74e737be27)⟩ hl.1 rfl (Nat.le_of_ble_eq_true rfl) d_Mpg_call_102 ⟨Nat.le_of_ble_eq_true rfl, Nat.le_of_ble_eq_true rfl⟩ hne hlk hA hAe (fun o t h => Or.inr h) ?_ (fun p25 H locs hp25 hw => ?_) | (refine th_callv (ps0 := [wdP cs h r g tf ta pf na ma wa cf ca ef ea xf xa]) (pr := []) (pcs := [wdP cs h r g tf ta pf5 na_46 ma_46 wa_46 cf ca ef ea xf xa]) (As := [.ref sk20]) (rest := []) (c_mp_closes l D cs sk20 1 (lby ")") h r g tf ta na_46 ma_46 wa_46 cf ca ef ea xf xa pf5   (show 0 ≤ (pf5 11).toInt from by first | exact oz_4f7430b7f2 e9 k46_5 e8.1 g0 | omega) (show (pf5 11).toInt < (tf 6).toInt from by first | exact e10 | omega) (show (tf 6).toInt ≤ 2049 from by first | exact g2 | omega) (show 1 ≤ (pf5 12).toInt from by first | exact oz_a564fc7457 e12 k46_3 g8 g7 | omega) (show (pf5 12).toInt ≤ 60 from by first | exact oz_1a76b13bbc e12 k46_3 k46_4 | omega) (show 1 ≤ 100 from by omega) hlf htk) S hT hw (oX_call (P := (fun A U H => (oN A U H) ∧ (oP A g U H) ∧ (StLt A sk20 1 (lby ")") U H))) (pr := []) (oG_and oG_N (oG_and oG_P oG_QB)) hw hA ⟨hN, hP, ⟨_, hSsk20⟩⟩) (px_recv hT hw 0 0 rfl rfl rfl) m12_53 m12_50 m12_52 ms_9_14 m1_21 q_Mpg_closes ⟨show 8 + 1 ≤ (8 * lv + 14) from (by first | exact oz_b86471fd9e | omega), show 8 + (2 + 11) + 280 ≤ (220 * lv + 540) from (by first | exact oz_74e737be27 | omega)⟩ hl.1 rfl (Nat.le_of_ble_eq_true rfl) d_Mpg_call_102 ⟨Nat.le_of_ble_eq_true rfl, Nat.le_of_ble_eq_true rfl⟩ hne hlk hA hAe (fun o t h => Or.inr h) ?_ (fun p25 H locs hp25 hw => ?_))
        · exact fun p1 H1 locs1 hp hw => by obtain ⟨pq1, pq2, pq3, pq4, rfl, hq1, hq2, hu_na, hu_ma, hu_wa, hq3⟩ := hp; exact ⟨_, ⟨pq1, pq2, pq3, pq4, rfl, hq1, hq2, (k46_18 _ _ _ _ _ _ 1 (Or.inr (Or.inl ⟨rfl, x46_2, x46_3, rfl, rfl, rfl, rfl, rfl, pf5, v7, e17, Or.inl ⟨nc18, Or.inl ⟨pq1, hq3, rfl, hu_na, hu_ma, hu_wa, rfl, rfl⟩⟩⟩)))⟩, hw⟩
        obtain ⟨pf24, rfl, e27, e28, e29, e30, e31, e32, e33, e34, e35⟩ := hp25
        have e27 : (pf24 11).toInt = (pf5 11).toInt + 1 := e27
        have e28 : (pf24 11).toInt < (tf 6).toInt := e28
        have e29 : bp ta (pf5 11) + 1 ≤ bp ta (pf24 11) := e29
        have e30 : (pf24 12).toInt = (pf5 12).toInt - 1 := e30
        have e31 : (pf24 13).toInt = (pf5 13).toInt := e31
        have e32 : (pf24 24).toInt = (pf5 24).toInt := e32
        have e33 : (pf24 25).toInt = (pf5 25).toInt := e33
        have e34 : (pf24 26).toInt = (pf5 26).toInt := e34
        have e35 : R_mp_closes 1 (lby ")") ta pf5 pf24 0 := e35
        refine lv_iload_n S.x S.b d_Mpg_call_105 rfl (lv_at hl 2 rfl) ?_
        first | exact th_iret (v := x46_2) S hr rfl hlk hAe hw (⟨pf24, na_46, ma_46, wa_46, rfl, (show (pf 11).toInt + 1 ≤ (pf24 11).toInt from (oz_ee0c9de0fe k46_5 e27 e9 e8.1)), (show (pf24 11).toInt < (tf 6).toInt from e28), (show (pf 13).toInt + 1 ≤ (pf24 13).toInt from (oz_5a5863b7fe k46_7 e31 k46_8 k46_9 e13)), (show (pf24 13).toInt - (pf 13).toInt ≤ (pf24 11).toInt - (pf 11).toInt from (oz_30a30b177f k46_10 e27 e31 e9 e13 e8.1)), (show bp ta (pf 11) + 1 ≤ bp ta (pf24 11) from (oz_fe0e09c3b2 k46_11 e29 e11 e8.1)), (show (pf24 12).toInt = (pf 12).toInt from (oz_e2f0d2d242 k46_3 e30 e12)), (show (pf24 24).toInt = (pf 24).toInt from (oz_e13fc83238 k46_0 e32 e14)), (show (pf24 25).toInt = (pf 25).toInt from (oz_e13fc83238 k46_1 e33 e15)), (show (pf24 26).toInt = (pf 26).toInt from (oz_e13fc83238 k46_2 e34 e16)), (show FrB (pf 13).toInt na ma na_46 ma_46 from hfb), (show FrW (pf 26).toInt wa wa_46 from hfw), (show ExR ta (tf 6).toInt na_46 ma_46 x46_2 (pf 13).toInt (pf24 13).toInt (3 * (bp ta (pf24 11) - bp ta (pf 11))) (pf 12).toInt from ⟨(arv_end har (by omega)).le (by omega) (by omega) (by omega) (by omega), (oz_7b42b0316e hd_x46_2), (oz_4965c4c9a4 hdu_x46_2), by rw [hnk_x46_2.2.2.1]; decide, by rw [hnk_x46_2.2.2.2.2]; decide⟩), (show FsI (tf 6).toInt (pf24 13).toInt na_46 from (FsI.le hfs (by omega))), (show R_mp_call (RL_mp_expression lv) (RL_mp_conditional lv) ta p0 pf na ma wa pf24 na_46 ma_46 wa_46 x46_2 0 from (k46_18 _ _ _ _ _ _ 1 (Or.inr (Or.inl ⟨rfl, x46_2, x46_3, rfl, rfl, rfl, rfl, rfl, pf5, v7, e17, Or.inl ⟨nc18, Or.inr ⟨pf24, e35, rfl, rfl, rfl, rfl, rfl, rfl⟩⟩⟩))))⟩) d_Mpg_call_106 | (exact th_iret (v := x46_2) S hr rfl hlk hAe hw (⟨pf24, na_46, ma_46, wa_46, rfl, (show (pf 11).toInt + 1 ≤ (pf24 11).toInt from by first | exact oz_ee0c9de0fe k46_5 e27 e9 e8.1 | omega), (show (pf24 11).toInt < (tf 6).toInt from by first | exact e28 | omega), (show (pf 13).toInt + 1 ≤ (pf24 13).toInt from by first | exact oz_5a5863b7fe k46_7 e31 k46_8 k46_9 e13 | omega), (show (pf24 13).toInt - (pf 13).toInt ≤ (pf24 11).toInt - (pf 11).toInt from by first | exact oz_30a30b177f k46_10 e27 e31 e9 e13 e8.1 | omega), (show bp ta (pf 11) + 1 ≤ bp ta (pf24 11) from by first | exact oz_fe0e09c3b2 k46_11 e29 e11 e8.1 | omega), (show (pf24 12).toInt = (pf 12).toInt from by first | exact oz_e2f0d2d242 k46_3 e30 e12 | omega), (show (pf24 24).toInt = (pf 24).toInt from by first | exact oz_e13fc83238 k46_0 e32 e14 | omega), (show (pf24 25).toInt = (pf 25).toInt from by first | exact oz_e13fc83238 k46_1 e33 e15 | omega), (show (pf24 26).toInt = (pf 26).toInt from by first | exact oz_e13fc83238 k46_2 e34 e16 | omega), (show FrB (pf 13).toInt na ma na_46 ma_46 from hfb), (show FrW (pf 26).toInt wa wa_46 from hfw), (show ExR ta (tf 6).toInt na_46 ma_46 x46_2 (pf 13).toInt (pf24 13).toInt (3 * (bp ta (pf24 11) - bp ta (pf 11))) (pf 12).toInt from ⟨(arv_end har (by omega)).le (by omega) (by omega) (by omega) (by omega), by first | exact oz_7b42b0316e hd_x46_2 | omega, by first | exact oz_4965c4c9a4 hdu_x46_2 | omega, by rw [hnk_x46_2.2.2.1]; decide, by rw [hnk_x46_2.2.2.2.2]; decide⟩), (show FsI (tf 6).toInt (pf24 13).toInt na_46 from (FsI.le hfs (by omega))), (show R_mp_call (RL_mp_expression lv) (RL_mp_conditional lv) ta p0 pf na ma wa pf24 na_46 ma_46 wa_46 x46_2 0 from (k46_18 _ _ _ _ _ _ 1 (Or.inr (Or.inl ⟨rfl, x46_2, x46_3, rfl, rfl, rfl, rfl, rfl, pf5, v7, e17, Or.inl ⟨nc18, Or.inr ⟨pf24, e35, rfl, rfl, rfl, rfl, rfl, rfl⟩⟩⟩))))⟩) d_Mpg_call_106)
      · have nc18 : ¬ v7.toInt = (0 : Int) := mt (i_eq (x := v7) (y := 0)).mpr c18
        refine lv_aload_n S.x S.b d_Mpg_call_55 rfl (lv_at hl 0 rfl) ?_
        first | refine th_calli (ps0 := [wdP cs h r g tf ta pf na ma wa cf ca ef ea xf xa]) (pr := []) (pcs := [wdP cs h r g tf ta pf5 na_46 ma_46 wa_46 cf ca ef ea xf xa]) (As := []) (rest := []) ((hE.go (by omega)).1 h r g tf ta cf ca ef ea xf xa pf5 na_46 ma_46 wa_46   (show 0 ≤ (pf5 11).toInt from (oz_4f7430b7f2 e9 k46_5 e8.1 g0)) (show (pf5 11).toInt < (tf 6).toInt from e10) (show (tf 6).toInt ≤ 2049 from g2) (show 0 ≤ (pf5 12).toInt from (oz_aec871f755 e12 k46_3 g8 g7)) (show (pf5 12).toInt ≤ 60 from (oz_1a76b13bbc e12 k46_3 k46_4)) (show 0 ≤ (pf5 13).toInt from (oz_9c9d44701d e13 k46_9 g5 k46_7 k46_8)) (show (pf5 13).toInt ≤ (pf5 11).toInt + 20 from (oz_c01acc94d8 e9 e13 k46_10 e8.1 g6)) (show 0 ≤ (pf5 26).toInt from (oz_e2fef14871 e16 k46_2 g7)) (show (pf5 26).toInt ≤ (pf5 12).toInt from (oz_fa9ebf953c e12 e16 k46_2 k46_3 g8)) (show 61 ≤ (pf5 12).toInt + ((lv - 1 : Nat) : Int) from by omega) (show lv - 1 ≤ 61 from by omega) hlf htk (FsI.le (N' := (pf5 13).toInt) hfs (by omega))) S hT hw (oX_call (P := (fun A U H => (oN A U H) ∧ (oP A g U H))) (pr := []) (oG_and oG_N oG_P) hw hA ⟨hN, hP⟩) (px_recv hT hw 0 0 rfl rfl rfl) m12_38 m12_35 m12_37 ms_9_11 m1_21 q_Mpg_expression ⟨show (8 * (lv - 1) + 20) + 1 ≤ (8 * lv + 14) from by omega, show 8 + (7 + 11) + (220 * (lv - 1) + 720) ≤ (220 * lv + 540) from by omega⟩ hl.1 rfl (Nat.le_of_ble_eq_true rfl) d_Mpg_call_56 ⟨Nat.le_of_ble_eq_true rfl, Nat.le_of_ble_eq_true rfl⟩ hne hlk hA hAe (fun o t h => Or.inr h) ?_ (fun v45 p44 H locs hp44 hw => ?_) | (refine th_calli (ps0 := [wdP cs h r g tf ta pf na ma wa cf ca ef ea xf xa]) (pr := []) (pcs := [wdP cs h r g tf ta pf5 na_46 ma_46 wa_46 cf ca ef ea xf xa]) (As := []) (rest := []) ((hE.go (by omega)).1 h r g tf ta cf ca ef ea xf xa pf5 na_46 ma_46 wa_46   (show 0 ≤ (pf5 11).toInt from by first | exact oz_4f7430b7f2 e9 k46_5 e8.1 g0 | omega) (show (pf5 11).toInt < (tf 6).toInt from by first | exact e10 | omega) (show (tf 6).toInt ≤ 2049 from by first | exact g2 | omega) (show 0 ≤ (pf5 12).toInt from by first | exact oz_aec871f755 e12 k46_3 g8 g7 | omega) (show (pf5 12).toInt ≤ 60 from by first | exact oz_1a76b13bbc e12 k46_3 k46_4 | omega) (show 0 ≤ (pf5 13).toInt from by first | exact oz_9c9d44701d e13 k46_9 g5 k46_7 k46_8 | omega) (show (pf5 13).toInt ≤ (pf5 11).toInt + 20 from by first | exact oz_c01acc94d8 e9 e13 k46_10 e8.1 g6 | omega) (show 0 ≤ (pf5 26).toInt from by first | exact oz_e2fef14871 e16 k46_2 g7 | omega) (show (pf5 26).toInt ≤ (pf5 12).toInt from by first | exact oz_fa9ebf953c e12 e16 k46_2 k46_3 g8 | omega) (show 61 ≤ (pf5 12).toInt + ((lv - 1 : Nat) : Int) from by omega) (show lv - 1 ≤ 61 from by omega) hlf htk (FsI.le (N' := (pf5 13).toInt) hfs (by omega))) S hT hw (oX_call (P := (fun A U H => (oN A U H) ∧ (oP A g U H))) (pr := []) (oG_and oG_N oG_P) hw hA ⟨hN, hP⟩) (px_recv hT hw 0 0 rfl rfl rfl) m12_38 m12_35 m12_37 ms_9_11 m1_21 q_Mpg_expression ⟨show (8 * (lv - 1) + 20) + 1 ≤ (8 * lv + 14) from by omega, show 8 + (7 + 11) + (220 * (lv - 1) + 720) ≤ (220 * lv + 540) from by omega⟩ hl.1 rfl (Nat.le_of_ble_eq_true rfl) d_Mpg_call_56 ⟨Nat.le_of_ble_eq_true rfl, Nat.le_of_ble_eq_true rfl⟩ hne hlk hA hAe (fun o t h => Or.inr h) ?_ (fun v45 p44 H locs hp44 hw => ?_))
        · exact fun p1 H1 locs1 hp hw => by obtain ⟨pq1, pq2, pq3, pq4, rfl, hq1, hq2, hq3⟩ := hp; (first | exact ⟨_, ⟨pq1, pq2, pq3, pq4, rfl, hq1, hq2, (k46_18 _ _ _ _ _ _ 1 (Or.inr (Or.inl ⟨rfl, x46_2, x46_3, rfl, rfl, rfl, rfl, rfl, pf5, v7, e17, Or.inr ⟨nc18, Or.inl ⟨pq1, pq2, pq3, pq4, (up_RL_mp_expression (show 1 ≤ lv from (oz_9001e9f50b g9 k46_4)) ▸ hq3), rfl, rfl, rfl, rfl, rfl, rfl⟩⟩⟩)))⟩, hw⟩ | (exact ⟨_, ⟨pq1, pq2, pq3, pq4, rfl, hq1, hq2, (k46_18 _ _ _ _ _ _ 1 (Or.inr (Or.inl ⟨rfl, x46_2, x46_3, rfl, rfl, rfl, rfl, rfl, pf5, v7, e17, Or.inr ⟨nc18, Or.inl ⟨pq1, pq2, pq3, pq4, (up_RL_mp_expression (show 1 ≤ lv from by first | exact oz_9001e9f50b g9 k46_4 | omega) ▸ hq3), rfl, rfl, rfl, rfl, rfl, rfl⟩⟩⟩)))⟩, hw⟩))
        obtain ⟨pf40, na41, ma42, wa43, rfl, e46, e47, e48, e49, e50, e51, e52, e53, e54, e55, e56, e57, e58, e59⟩ := hp44
        have e46 : (pf5 11).toInt + 1 ≤ (pf40 11).toInt := e46
        have e47 : (pf40 11).toInt < (tf 6).toInt := e47
        have e48 : (pf5 13).toInt + 1 ≤ (pf40 13).toInt := e48
        have e49 : (pf40 13).toInt - (pf5 13).toInt ≤ (pf40 11).toInt - (pf5 11).toInt := e49
        have e50 : bp ta (pf5 11) + 1 ≤ bp ta (pf40 11) := e50
        have e51 : (pf40 12).toInt = (pf5 12).toInt := e51
        have e52 : (pf40 24).toInt = (pf5 24).toInt := e52
        have e53 : (pf40 25).toInt = (pf5 25).toInt := e53
        have e54 : (pf40 26).toInt = (pf5 26).toInt := e54
        have e55 : FrB (pf5 13).toInt na_46 ma_46 na41 ma42 := e55
        have har := har.kp (FrB.le e55 (by omega)) (by omega)
        have hnk_x46_2 := hnk_x46_2.kp e55 (by omega)
        have hd_x46_2 := dp_fb (x := x46_2) e55 (by omega) (by omega)
        have hfb := hfb.tr e55 (by omega)
        have e56 : FrW (pf5 26).toInt wa_46 wa43 := e56
        have hfw := hfw.tr e56 (by omega)
        have e57 : ExR ta (tf 6).toInt na41 ma42 v45 (pf5 13).toInt (pf40 13).toInt (3 * (bp ta (pf40 11) - bp ta (pf5 11))) (pf5 12).toInt := e57
        have ht_v45 := e57
        have hn_ht_v45 := ht_v45.num
        have e58 : FsI (tf 6).toInt (pf40 13).toInt na41 := e58
        have hfs := e58
        have e59 : R_mp_expression (RL_mp_expression (lv - 1)) (RL_mp_conditional (lv - 1)) ta pf5 na_46 ma_46 wa_46 pf40 na41 ma42 wa43 v45 0 := e59
        first | have e59L : (RL_mp_expression lv) ta pf5 na_46 ma_46 wa_46 pf40 na41 ma42 wa43 v45 0 := up_RL_mp_expression (show 1 ≤ lv from (oz_9001e9f50b g9 k46_4)) ▸ e59 | (have e59L : (RL_mp_expression lv) ta pf5 na_46 ma_46 wa_46 pf40 na41 ma42 wa43 v45 0 := up_RL_mp_expression (show 1 ≤ lv from by first | exact oz_9001e9f50b g9 k46_4 | omega) ▸ e59)
        have lv45 := Int32.le_toInt v45
        have uv45 := Int32.toInt_lt v45
        refine lv_istore (lv' := [(4, .int v45), (0, .ref h), (1, .int p0), (2, .int x46_2), (3, .int x46_3)]) S.x S.b d_Mpg_call_59 hl (by decide) rfl (fun ls hl => ?_)
        refine lv_aload_n S.x S.b d_Mpg_call_61 rfl (lv_at hl 1 rfl) ?_
        refine gP_21 S hT hw 0 rfl m10_7 d_Mpg_call_62 ?_
        refine lv_iload_n S.x S.b d_Mpg_call_65 rfl (lv_at hl 4 rfl) ?_
        refine lv_iload S.x S.b d_Mpg_call_66 (lv_at hl 0 rfl) ?_
        refine px_iast S hT hw 0 17 (n := 2100) (f := (na41 21)) (x := x46_3) (y := v45) rfl gp_21 (vp_in_iff.mpr (by constructor <;> omega)) d_Mpg_call_68 (w' := wdP cs h r g tf ta pf40 (va_up na41 21 (upd (na41 21) x46_3.toNatClampNeg v45)) ma42 wa43 cf ca ef ea xf xa) (ps' := [wdP cs h r g tf ta pf40 (va_up na41 21 (upd (na41 21) x46_3.toNatClampNeg v45)) ma42 wa43 cf ca ef ea xf xa]) sp_21 rfl (fun H locs hw => ?_)
        refine lv_iload S.x S.b d_Mpg_call_69 (lv_at hl 0 rfl) ?_
        refine lv_istore_n (lv' := [(3, .int v45), (4, .int v45), (0, .ref h), (1, .int p0), (2, .int x46_2)]) S.x S.b d_Mpg_call_71 rfl hl (by decide) rfl (fun ls hl => ?_)
        refine lv_aload_n S.x S.b d_Mpg_call_72 rfl (lv_at hl 2 rfl) ?_
        refine gP_23 S hT hw 0 rfl m10_11 d_Mpg_call_73 ?_
        refine lv_iload_n S.x S.b d_Mpg_call_76 rfl (lv_at hl 4 rfl) ?_
        refine lv_aload_n S.x S.b d_Mpg_call_77 rfl (lv_at hl 2 rfl) ?_
        refine gP_23 S hT hw 0 rfl m10_11 d_Mpg_call_78 ?_
        refine lv_iload_n S.x S.b d_Mpg_call_81 rfl (lv_at hl 4 rfl) ?_
        refine px_iald S hT hw 0 19 (n := 2100) (f := ((va_up na41 21 (upd (na41 21) x46_3.toNatClampNeg v45)) 23)) rfl gp_23 (x := x46_2) (vp_in_iff.mpr (by first | exact oz_8a3d900f09 k46_7 g5 k46_8 g6 k46_9 k46_10 e9 g2 e8.1 e46 e47 | (constructor <;> omega))) d_Mpg_call_82 ?_
        refine lv_topi (fun z60 ez60 => ?_)
        have lz60 := Int32.le_toInt z60
        have uz60 := Int32.toInt_lt z60
        have rz60 : z60.toInt = dp na41 x46_2 := by have q9 : z60.toInt = dp (va_up na41 21 (upd (na41 21) x46_3.toNatClampNeg v45)) x46_2 := (by rw [ez60]; rfl); rw [dp_un (by decide)] at q9; exact q9
        refine lv_iconst (v := 1) S.x S.b d_Mpg_call_83 (by decide) ?_
        refine lv_aload_n S.x S.b d_Mpg_call_84 rfl (lv_at hl 2 rfl) ?_
        refine gP_23 S hT hw 0 rfl m10_11 d_Mpg_call_85 ?_
        refine lv_iload S.x S.b d_Mpg_call_88 (lv_at hl 1 rfl) ?_
        refine px_iald S hT hw 0 19 (n := 2100) (f := ((va_up na41 21 (upd (na41 21) x46_3.toNatClampNeg v45)) 23)) rfl gp_23 (x := v45) (vp_in_iff.mpr (by first | exact oz_44361b87dd hn_ht_v45.1 e13 k46_9 g5 k46_7 k46_8 hn_ht_v45.2.1 e49 k46_10 e9 e47 g2 g6 e8.1 | (constructor <;> omega))) d_Mpg_call_90 ?_
        refine lv_topi (fun z61 ez61 => ?_)
        have lz61 := Int32.le_toInt z61
        have uz61 := Int32.toInt_lt z61
        have rz61 : z61.toInt = dp na41 v45 := by have q9 : z61.toInt = dp (va_up na41 21 (upd (na41 21) x46_3.toNatClampNeg v45)) v45 := (by rw [ez61]; rfl); rw [dp_un (by decide)] at q9; exact q9
        refine lv_iadd S.x S.b d_Mpg_call_91 ?_
        refine lv_topi (fun z62 ez62 => ?_)
        have tz62 : z62.toInt = ((1 : Int) + z61.toInt + 2147483648) % 4294967296 - 2147483648 := by rw [ez62]; exact i_add 1 z61
        have lz62 := Int32.le_toInt z62
        have uz62 := Int32.toInt_lt z62
        try replace tz62 : z62.toInt = (1 : Int) + z61.toInt := by omega
        first | refine px_calli (pr := [wdP cs h r g tf ta pf40 (va_up na41 21 (upd (na41 21) x46_3.toNatClampNeg v45)) ma42 wa43 cf ca ef ea xf xa]) (px_runS (As := [.int z60, .int z62]) (rest := [.int x46_2, .ref (r 23)]) S (c_mp_deeper l D cs  z60 z62   _) hT (pr := [wdP cs h r g tf ta pf40 (va_up na41 21 (upd (na41 21) x46_3.toNatClampNeg v45)) ma42 wa43 cf ca ef ea xf xa]) (pcs := []) hw px_X.tt m12_49 m12_47 m12_48 m1_21 q_Mpg_deeper ⟨show 0 + 1 ≤ (8 * lv + 14) from (oz_4130c20cb1), show 8 + (2 + 11) + 0 ≤ (220 * lv + 540) from (oz_5957db9e91)⟩ hl.1 rfl (Nat.le_of_ble_eq_true rfl) d_Mpg_call_92 ⟨Nat.le_of_ble_eq_true rfl, Nat.le_of_ble_eq_true rfl⟩) hw hA (fun v64 p63 H locs hp63 hw => ?_) | (refine px_calli (pr := [wdP cs h r g tf ta pf40 (va_up na41 21 (upd (na41 21) x46_3.toNatClampNeg v45)) ma42 wa43 cf ca ef ea xf xa]) (px_runS (As := [.int z60, .int z62]) (rest := [.int x46_2, .ref (r 23)]) S (c_mp_deeper l D cs  z60 z62   _) hT (pr := [wdP cs h r g tf ta pf40 (va_up na41 21 (upd (na41 21) x46_3.toNatClampNeg v45)) ma42 wa43 cf ca ef ea xf xa]) (pcs := []) hw px_X.tt m12_49 m12_47 m12_48 m1_21 q_Mpg_deeper ⟨show 0 + 1 ≤ (8 * lv + 14) from (by first | exact oz_4130c20cb1 | omega), show 8 + (2 + 11) + 0 ≤ (220 * lv + 540) from (by first | exact oz_5957db9e91 | omega)⟩ hl.1 rfl (Nat.le_of_ble_eq_true rfl) d_Mpg_call_92 ⟨Nat.le_of_ble_eq_true rfl, Nat.le_of_ble_eq_true rfl⟩) hw hA (fun v64 p63 H locs hp63 hw => ?_))
        obtain ⟨rfl, e65, e66, e67, e68⟩ := hp63
        have e65 : z60.toInt ≤ v64.toInt := e65
        have e66 : z62.toInt ≤ v64.toInt := e66
        have e67 : v64.toInt = z60.toInt ∨ v64.toInt = z62.toInt := e67
        have e68 : R_mp_deeper z60 z62 v64 := e68
        have lv64 := Int32.le_toInt v64
        have uv64 := Int32.toInt_lt v64
        refine px_iast S hT hw 0 19 (n := 2100) (f := ((va_up na41 21 (upd (na41 21) x46_3.toNatClampNeg v45)) 23)) (x := x46_2) (y := v64) rfl gp_23 (vp_in_iff.mpr (by constructor <;> omega)) d_Mpg_call_95 (w' := wdP cs h r g tf ta pf40 (va_up (va_up na41 21 (upd (na41 21) x46_3.toNatClampNeg v45)) 23 (upd ((va_up na41 21 (upd (na41 21) x46_3.toNatClampNeg v45)) 23) x46_2.toNatClampNeg v64)) ma42 wa43 cf ca ef ea xf xa) (ps' := [wdP cs h r g tf ta pf40 (va_up (va_up na41 21 (upd (na41 21) x46_3.toNatClampNeg v45)) 23 (upd ((va_up na41 21 (upd (na41 21) x46_3.toNatClampNeg v45)) 23) x46_2.toNatClampNeg v64)) ma42 wa43 cf ca ef ea xf xa]) sp_23 rfl (fun H locs hw => ?_)
        refine lv_goto (tgt := 46) S.x S.b d_Mpg_call_96 (by decide) ?_
        first | exact ih46 pf40 (va_up (va_up na41 21 (upd (na41 21) x46_3.toNatClampNeg v45)) 23 (upd ((va_up na41 21 (upd (na41 21) x46_3.toNatClampNeg v45)) 23) x46_2.toNatClampNeg v64)) ma42 wa43 x46_2 v45 _ _ ls (show (pf40 24).toInt = (pf 24).toInt from (oz_e13fc83238 k46_0 e52 e14)) (show (pf40 25).toInt = (pf 25).toInt from (oz_e13fc83238 k46_1 e53 e15)) (show (pf40 26).toInt = (pf 26).toInt from (oz_e13fc83238 k46_2 e54 e16)) (show (pf40 12).toInt = (pf 12).toInt + 1 from (oz_706b28522e k46_3 e51 e12)) (show (pf 12).toInt < 60 from k46_4) (show (pf 11).toInt + 1 ≤ (pf40 11).toInt from (oz_60a7c6baef k46_5 e46 e9 e8.1)) (show (pf40 11).toInt < (tf 6).toInt from e47) (show x46_2.toInt = (pf 13).toInt from k46_7) (show x46_2.toInt < v45.toInt from (oz_fe47d4cd2a k46_8 hn_ht_v45.1 k46_9 e13)) (show v45.toInt < (pf40 13).toInt from (oz_7fe81129bf hn_ht_v45.2.1)) (show (pf40 13).toInt - (pf 13).toInt ≤ (pf40 11).toInt - (pf 11).toInt from (oz_69e545e602 k46_10 e49 e9 e13 e8.1)) (show bp ta (pf 11) + 1 ≤ bp ta (pf40 11) from (oz_fe0e09c3b2 k46_11 e50 e11 e8.1)) (show FrB (pf 13).toInt na ma (va_up (va_up na41 21 (upd (na41 21) x46_3.toNatClampNeg v45)) 23 (upd ((va_up na41 21 (upd (na41 21) x46_3.toNatClampNeg v45)) 23) x46_2.toNatClampNeg v64)) ma42 from (FrB.un (FrB.un hfb (by omega) (by omega)) (by omega) (by omega))) (show FrW (pf 26).toInt wa wa43 from hfw) (show NdK (va_up (va_up na41 21 (upd (na41 21) x46_3.toNatClampNeg v45)) 23 (upd ((va_up na41 21 (upd (na41 21) x46_3.toNatClampNeg v45)) 23) x46_2.toNatClampNeg v64)) ma42 x46_2 3 p0 from ⟨(by rw [va_up_n (by decide), va_up_n (by decide)]; exact hnk_x46_2.1), (by rw [va_up_n (by decide), va_up_n (by decide)]; exact hnk_x46_2.2.1), (by rw [va_up_n (by decide), va_up_s, pk_un (nat_ne (by omega) (by omega) (by omega))]; exact hnk_x46_2.2.2.1), hnk_x46_2.2.2.2.1, (by exact hnk_x46_2.2.2.2.2)⟩) (show DpN (va_up (va_up na41 21 (upd (na41 21) x46_3.toNatClampNeg v45)) 23 (upd ((va_up na41 21 (upd (na41 21) x46_3.toNatClampNeg v45)) 23) x46_2.toNatClampNeg v64)) x46_2 2 (61 - (pf 12).toInt) from (by unfold DpN; rw [dp_us]; constructor <;> omega)) (show ArV ta (tf 6).toInt (va_up (va_up na41 21 (upd (na41 21) x46_3.toNatClampNeg v45)) 23 (upd ((va_up na41 21 (upd (na41 21) x46_3.toNatClampNeg v45)) 23) x46_2.toNatClampNeg v64)) ma42 x46_2 v45 (pf40 13).toInt (3 * (bp ta (pf40 11) - bp ta (pf 11)) - 1) (dp (va_up (va_up na41 21 (upd (na41 21) x46_3.toNatClampNeg v45)) 23 (upd ((va_up na41 21 (upd (na41 21) x46_3.toNatClampNeg v45)) 23) x46_2.toNatClampNeg v64)) x46_2 + 59 - (pf 12).toInt) from (ArV.le (arv_s (hi' := 0) (Dm := v64.toInt + 59 - (pf 12).toInt) (ArV.le har (by omega) (Int.le_refl _) (by omega)) (ht_v45.1.le (Int.le_refl _) (Int.le_refl _) (Int.le_refl _) (by omega)) (by omega) (by omega) ht_v45.2.2.2.1 (fun y hy j => ⟨rfl, fun hx => by rw [up_far hy, up_far hx]⟩) (fun j hj => by rw [up_far (nat_ne (by omega) (by omega) (by omega)), va_up_n hj]) (by rw [va_up_n (by decide), va_up_s, pk_us]) ⟨(by rw [va_up_n (by decide), va_up_n (by decide)]), (by rw [va_up_n (by decide), va_up_n (by decide)]), (by rw [va_up_n (by decide), va_up_n (by decide)])⟩) (by omega) (by omega) (by rw [dp_us]; omega))) (show FsI (tf 6).toInt (pf40 13).toInt (va_up (va_up na41 21 (upd (na41 21) x46_3.toNatClampNeg v45)) 23 (upd ((va_up na41 21 (upd (na41 21) x46_3.toNatClampNeg v45)) 23) x46_2.toNatClampNeg v64)) from (FsI.le (FsI.un (FsI.un hfs (by decide)) (by decide)) (by omega))) (show K_mp_call_46 (RL_mp_expression lv) (RL_mp_conditional lv) ta p0 pf na ma wa pf40 (va_up (va_up na41 21 (upd (na41 21) x46_3.toNatClampNeg v45)) 23 (upd ((va_up na41 21 (upd (na41 21) x46_3.toNatClampNeg v45)) 23) x46_2.toNatClampNeg v64)) ma42 wa43 x46_2 v45 from (fun y_f0 y_f1 y_f2 y_f3 y_v y_t k hE => k46_18 y_f0 y_f1 y_f2 y_f3 y_v y_t (k + 1) (Or.inr (Or.inl ⟨rfl, x46_2, x46_3, rfl, rfl, rfl, rfl, rfl, pf5, v7, e17, Or.inr ⟨nc18, Or.inr ⟨pf40, na41, ma42, wa43, v45, e59L, z60, ez60, z61, ez61, z62, ez62, v64, e68, hE⟩⟩⟩)))) (show (tf 6).toInt - (pf40 11).toInt < (n_46 : Int) from (oz_1bf882f997 hm e46 e9 e8.1)) hw (lv_sub hl [2, 3, 4, 0] rfl) | (exact ih46 pf40 (va_up (va_up na41 21 (upd (na41 21) x46_3.toNatClampNeg v45)) 23 (upd ((va_up na41 21 (upd (na41 21) x46_3.toNatClampNeg v45)) 23) x46_2.toNatClampNeg v64)) ma42 wa43 x46_2 v45 _ _ ls (show (pf40 24).toInt = (pf 24).toInt from by first | exact oz_e13fc83238 k46_0 e52 e14 | omega) (show (pf40 25).toInt = (pf 25).toInt from by first | exact oz_e13fc83238 k46_1 e53 e15 | omega) (show (pf40 26).toInt = (pf 26).toInt from by first | exact oz_e13fc83238 k46_2 e54 e16 | omega) (show (pf40 12).toInt = (pf 12).toInt + 1 from by first | exact oz_706b28522e k46_3 e51 e12 | omega) (show (pf 12).toInt < 60 from by first | exact k46_4 | omega) (show (pf 11).toInt + 1 ≤ (pf40 11).toInt from by first | exact oz_60a7c6baef k46_5 e46 e9 e8.1 | omega) (show (pf40 11).toInt < (tf 6).toInt from by first | exact e47 | omega) (show x46_2.toInt = (pf 13).toInt from by first | exact k46_7 | omega) (show x46_2.toInt < v45.toInt from by first | exact oz_fe47d4cd2a k46_8 hn_ht_v45.1 k46_9 e13 | omega) (show v45.toInt < (pf40 13).toInt from by first | exact oz_7fe81129bf hn_ht_v45.2.1 | omega) (show (pf40 13).toInt - (pf 13).toInt ≤ (pf40 11).toInt - (pf 11).toInt from by first | exact oz_69e545e602 k46_10 e49 e9 e13 e8.1 | omega) (show bp ta (pf 11) + 1 ≤ bp ta (pf40 11) from by first | exact oz_fe0e09c3b2 k46_11 e50 e11 e8.1 | omega) (show FrB (pf 13).toInt na ma (va_up (va_up na41 21 (upd (na41 21) x46_3.toNatClampNeg v45)) 23 (upd ((va_up na41 21 (upd (na41 21) x46_3.toNatClampNeg v45)) 23) x46_2.toNatClampNeg v64)) ma42 from (FrB.un (FrB.un hfb (by omega) (by omega)) (by omega) (by omega))) (show FrW (pf 26).toInt wa wa43 from hfw) (show NdK (va_up (va_up na41 21 (upd (na41 21) x46_3.toNatClampNeg v45)) 23 (upd ((va_up na41 21 (upd (na41 21) x46_3.toNatClampNeg v45)) 23) x46_2.toNatClampNeg v64)) ma42 x46_2 3 p0 from ⟨(by rw [va_up_n (by decide), va_up_n (by decide)]; exact hnk_x46_2.1), (by rw [va_up_n (by decide), va_up_n (by decide)]; exact hnk_x46_2.2.1), (by rw [va_up_n (by decide), va_up_s, pk_un (nat_ne (by omega) (by omega) (by omega))]; exact hnk_x46_2.2.2.1), hnk_x46_2.2.2.2.1, (by exact hnk_x46_2.2.2.2.2)⟩) (show DpN (va_up (va_up na41 21 (upd (na41 21) x46_3.toNatClampNeg v45)) 23 (upd ((va_up na41 21 (upd (na41 21) x46_3.toNatClampNeg v45)) 23) x46_2.toNatClampNeg v64)) x46_2 2 (61 - (pf 12).toInt) from (by unfold DpN; rw [dp_us]; constructor <;> omega)) (show ArV ta (tf 6).toInt (va_up (va_up na41 21 (upd (na41 21) x46_3.toNatClampNeg v45)) 23 (upd ((va_up na41 21 (upd (na41 21) x46_3.toNatClampNeg v45)) 23) x46_2.toNatClampNeg v64)) ma42 x46_2 v45 (pf40 13).toInt (3 * (bp ta (pf40 11) - bp ta (pf 11)) - 1) (dp (va_up (va_up na41 21 (upd (na41 21) x46_3.toNatClampNeg v45)) 23 (upd ((va_up na41 21 (upd (na41 21) x46_3.toNatClampNeg v45)) 23) x46_2.toNatClampNeg v64)) x46_2 + 59 - (pf 12).toInt) from (ArV.le (arv_s (hi' := 0) (Dm := v64.toInt + 59 - (pf 12).toInt) (ArV.le har (by omega) (Int.le_refl _) (by omega)) (ht_v45.1.le (Int.le_refl _) (Int.le_refl _) (Int.le_refl _) (by omega)) (by omega) (by omega) ht_v45.2.2.2.1 (fun y hy j => ⟨rfl, fun hx => by rw [up_far hy, up_far hx]⟩) (fun j hj => by rw [up_far (nat_ne (by omega) (by omega) (by omega)), va_up_n hj]) (by rw [va_up_n (by decide), va_up_s, pk_us]) ⟨(by rw [va_up_n (by decide), va_up_n (by decide)]), (by rw [va_up_n (by decide), va_up_n (by decide)]), (by rw [va_up_n (by decide), va_up_n (by decide)])⟩) (by omega) (by omega) (by rw [dp_us]; omega))) (show FsI (tf 6).toInt (pf40 13).toInt (va_up (va_up na41 21 (upd (na41 21) x46_3.toNatClampNeg v45)) 23 (upd ((va_up na41 21 (upd (na41 21) x46_3.toNatClampNeg v45)) 23) x46_2.toNatClampNeg v64)) from (FsI.le (FsI.un (FsI.un hfs (by decide)) (by decide)) (by omega))) (show K_mp_call_46 (RL_mp_expression lv) (RL_mp_conditional lv) ta p0 pf na ma wa pf40 (va_up (va_up na41 21 (upd (na41 21) x46_3.toNatClampNeg v45)) 23 (upd ((va_up na41 21 (upd (na41 21) x46_3.toNatClampNeg v45)) 23) x46_2.toNatClampNeg v64)) ma42 wa43 x46_2 v45 from (fun y_f0 y_f1 y_f2 y_f3 y_v y_t k hE => k46_18 y_f0 y_f1 y_f2 y_f3 y_v y_t (k + 1) (Or.inr (Or.inl ⟨rfl, x46_2, x46_3, rfl, rfl, rfl, rfl, rfl, pf5, v7, e17, Or.inr ⟨nc18, Or.inr ⟨pf40, na41, ma42, wa43, v45, e59L, z60, ez60, z61, ez61, z62, ez62, v64, e68, hE⟩⟩⟩)))) (show (tf 6).toInt - (pf40 11).toInt < (n_46 : Int) from by first | exact oz_1bf882f997 hm e46 e9 e8.1 | omega) hw (lv_sub hl [2, 3, 4, 0] rfl))
  refine lv_aload_n S.x S.b d_Mpg_call_0 rfl (lv_at hl 0 rfl) ?_
  refine lv_iconst (v := 3) S.x S.b d_Mpg_call_1 (by decide) ?_
  refine lv_iload_n S.x S.b d_Mpg_call_2 rfl (lv_at hl 1 rfl) ?_
  first | refine px_calli (pr := []) (px_runV (As := [.int 3, .int p0]) (rest := []) S (c_mp_make l D cs h r g tf ta wa cf ca ef ea xf xa pf na ma 3 p0  (show 0 ≤ (pf 13).toInt from g5) (show (pf 13).toInt < 2100 from (oz_95fb5198dc g6 g14 g2)) _) hT (pr := []) (pcs := [wdP cs h r g tf ta pf na ma wa cf ca ef ea xf xa]) hw px_X.tt (px_recv hT hw 0 0 rfl rfl rfl) m11_209 m11_206 m11_208 ms_8_12 m1_21 q_Mpg_make ⟨show 0 + 1 ≤ (8 * lv + 14) from (oz_4130c20cb1), show 8 + (3 + 11) + 0 ≤ (220 * lv + 540) from (oz_5394fde33a)⟩ hl.1 rfl (Nat.le_of_ble_eq_true rfl) d_Mpg_call_3 ⟨Nat.le_of_ble_eq_true rfl, Nat.le_of_ble_eq_true rfl⟩) hw hA (fun v76 p75 H locs hp75 hw => ?_) | (refine px_calli (pr := []) (px_runV (As := [.int 3, .int p0]) (rest := []) S (c_mp_make l D cs h r g tf ta wa cf ca ef ea xf xa pf na ma 3 p0  (show 0 ≤ (pf 13).toInt from by first | exact g5 | omega) (show (pf 13).toInt < 2100 from by first | exact oz_95fb5198dc g6 g14 g2 | omega) _) hT (pr := []) (pcs := [wdP cs h r g tf ta pf na ma wa cf ca ef ea xf xa]) hw px_X.tt (px_recv hT hw 0 0 rfl rfl rfl) m11_209 m11_206 m11_208 ms_8_12 m1_21 q_Mpg_make ⟨show 0 + 1 ≤ (8 * lv + 14) from (by first | exact oz_4130c20cb1 | omega), show 8 + (3 + 11) + 0 ≤ (220 * lv + 540) from (by first | exact oz_5394fde33a | omega)⟩ hl.1 rfl (Nat.le_of_ble_eq_true rfl) d_Mpg_call_3 ⟨Nat.le_of_ble_eq_true rfl, Nat.le_of_ble_eq_true rfl⟩) hw hA (fun v76 p75 H locs hp75 hw => ?_))
  obtain ⟨pf72, na73, ma74, rfl, e77, e78, e79, e80, e81, e82, e83, e84, e85⟩ := hp75
  have e77 : v76.toInt = (pf 13).toInt := e77
  have e78 : (pf72 13).toInt = (pf 13).toInt + 1 := e78
  have e79 : (pf72 11).toInt = (pf 11).toInt := e79
  have e80 : (pf72 12).toInt = (pf 12).toInt := e80
  have e81 : (pf72 24).toInt = (pf 24).toInt := e81
  have e82 : (pf72 25).toInt = (pf 25).toInt := e82
  have e83 : (pf72 26).toInt = (pf 26).toInt := e83
  have e84 : MkN na ma na73 ma74 v76 (3 : Int32) p0 := e84
  have e85 : R_mp_make (3 : Int32) p0 pf na ma pf72 na73 ma74 v76 := e85
  obtain ⟨qb861, qb862, qb863, qb864⟩ := tk_eq (ta := ta) (x := (pf72 11)) (y := (pf 11)) (by omega)
  have hmk_v76 := e84
  have hfm_v76 := MkN.frb (b := v76.toInt) hmk_v76 (by omega) (by omega)
  have hfs := FsI.mk hfs hmk_v76 (by omega) (by omega) (by omega) (by omega)
  have hfb := hfb.tr hfm_v76 (by omega)
  have hnk_v76 := hmk_v76.nk (by decide) (by decide) (by omega)
  have hdn_v76 := dp_nk hmk_v76
  have lv76 := Int32.le_toInt v76
  have uv76 := Int32.toInt_lt v76
  refine lv_istore_n (lv' := [(2, .int v76), (0, .ref h), (1, .int p0)]) S.x S.b d_Mpg_call_6 rfl hl (by decide) rfl (fun ls hl => ?_)
  refine lv_aload_n S.x S.b d_Mpg_call_7 rfl (lv_at hl 1 rfl) ?_
  first | refine th_callv (ps0 := [wdP cs h r g tf ta pf na ma wa cf ca ef ea xf xa]) (pr := []) (pcs := [wdP cs h r g tf ta pf72 na73 ma74 wa cf ca ef ea xf xa]) (As := []) (rest := []) (c_mp_opens l D cs h r g tf ta na73 ma74 wa cf ca ef ea xf xa pf72   (show 0 ≤ (pf72 11).toInt from (oz_f3ebed1ad0 e79 g0)) (show (pf72 11).toInt < (tf 6).toInt from (oz_0f9fb0345d g14 e79)) (show (tf 6).toInt ≤ 2049 from g2) (show (pf72 11).toInt + 1 < (tf 6).toInt from (oz_4b6b8b2f72 g14 e79)) (show 0 ≤ (pf72 12).toInt from (oz_f3ebed1ad0 e80 g3)) (show (pf72 12).toInt ≤ 60 from (oz_a3db38fa3c e80 g4)) hlf htk) S hT hw (oX_call (P := (fun A U H => (oN A U H) ∧ (oP A g U H))) (pr := []) (oG_and oG_N oG_P) hw hA ⟨hN, hP⟩) (px_recv hT hw 0 0 rfl rfl rfl) m11_238 m11_235 m11_237 ms_9_1 m1_21 q_Mpg_opens ⟨show 7 + 1 ≤ (8 * lv + 14) from (oz_d95e299dc3), show 8 + (1 + 11) + 150 ≤ (220 * lv + 540) from (oz_c89b90b650)⟩ hl.1 rfl (Nat.le_of_ble_eq_true rfl) d_Mpg_call_8 ⟨Nat.le_of_ble_eq_true rfl, Nat.le_of_ble_eq_true rfl⟩ hne hlk hA hAe (fun o t h => Or.inr h) ?_ (fun p89 H locs hp89 hw => ?_) | (refine th_callv (ps0 := [wdP cs h r g tf ta pf na ma wa cf ca ef ea xf xa]) (pr := []) (pcs := [wdP cs h r g tf ta pf72 na73 ma74 wa cf ca ef ea xf xa]) (As := []) (rest := []) (c_mp_opens l D cs h r g tf ta na73 ma74 wa cf ca ef ea xf xa pf72   (show 0 ≤ (pf72 11).toInt from by first | exact oz_f3ebed1ad0 e79 g0 | omega) (show (pf72 11).toInt < (tf 6).toInt from by first | exact oz_0f9fb0345d g14 e79 | omega) (show (tf 6).toInt ≤ 2049 from by first | exact g2 | omega) (show (pf72 11).toInt + 1 < (tf 6).toInt from by first | exact oz_4b6b8b2f72 g14 e79 | omega) (show 0 ≤ (pf72 12).toInt from by first | exact oz_f3ebed1ad0 e80 g3 | omega) (show (pf72 12).toInt ≤ 60 from by first | exact oz_a3db38fa3c e80 g4 | omega) hlf htk) S hT hw (oX_call (P := (fun A U H => (oN A U H) ∧ (oP A g U H))) (pr := []) (oG_and oG_N oG_P) hw hA ⟨hN, hP⟩) (px_recv hT hw 0 0 rfl rfl rfl) m11_238 m11_235 m11_237 ms_9_1 m1_21 q_Mpg_opens ⟨show 7 + 1 ≤ (8 * lv + 14) from (by first | exact oz_d95e299dc3 | omega), show 8 + (1 + 11) + 150 ≤ (220 * lv + 540) from (by first | exact oz_c89b90b650 | omega)⟩ hl.1 rfl (Nat.le_of_ble_eq_true rfl) d_Mpg_call_8 ⟨Nat.le_of_ble_eq_true rfl, Nat.le_of_ble_eq_true rfl⟩ hne hlk hA hAe (fun o t h => Or.inr h) ?_ (fun p89 H locs hp89 hw => ?_))
  · exact fun p1 H1 locs1 hp hw => by obtain ⟨pq1, pq2, pq3, pq4, rfl, hq1, hq2, hu_na, hu_ma, hu_wa, hq3⟩ := hp; exact ⟨_, ⟨pq1, pq2, pq3, pq4, rfl, hq1, hq2, (Exists.intro 1 (Or.inl ⟨rfl, pf72, na73, ma74, v76, e85, Or.inl ⟨pq1, hq3, rfl, hu_na, hu_ma, hu_wa, rfl, rfl⟩⟩))⟩, hw⟩
  obtain ⟨pf88, rfl, e91, e92, e93, e94, e95, e96, e97, e98, e99, e100, e101⟩ := hp89
  have e91 : (pf88 11).toInt = (pf72 11).toInt + 1 := e91
  have e92 : (pf88 11).toInt < (tf 6).toInt := e92
  have e93 : bp ta (pf72 11) + sz ta (pf72 11) ≤ bp ta (pf88 11) := e93
  have e94 : 1 ≤ sz ta (pf72 11) := e94
  have e95 : (pf88 12).toInt = (pf72 12).toInt + 1 := e95
  have e96 : (pf72 12).toInt < 60 := e96
  have e97 : (pf88 13).toInt = (pf72 13).toInt := e97
  have e98 : (pf88 24).toInt = (pf72 24).toInt := e98
  have e99 : (pf88 25).toInt = (pf72 25).toInt := e99
  have e100 : (pf88 26).toInt = (pf72 26).toInt := e100
  have e101 : R_mp_opens pf72 pf88 0 := e101
  refine lv_aload_n S.x S.b d_Mpg_call_11 rfl (lv_at hl 1 rfl) ?_
  obtain ⟨sk102, hRsk102, st103, hSsk102⟩ := oP_litB hP (k := 89) (tx := ")") (n := 1) (List.mem_of_getElem? (i := 36) rfl)
  refine va_ldcS S.x S.b S.own hRsk102 d_Mpg_call_12 ?_
  first | refine px_calli (pr := []) (px_runV (As := [.ref sk102]) (rest := []) S (c_mp_is l D cs sk102 1 (lby ")") h r g tf ta pf88 na73 ma74 wa cf ca ef ea xf xa   (show 0 ≤ (pf88 11).toInt from (oz_f3f97b7517 e91 e79 g0)) (show (pf88 11).toInt < (tf 6).toInt from e92) (show (tf 6).toInt ≤ 2049 from g2) (show 1 ≤ 100 from by omega) htk _) hT (pr := []) (pcs := [wdP cs h r g tf ta pf88 na73 ma74 wa cf ca ef ea xf xa]) hw (oX_call (P := (fun A U H => (oP A g U H) ∧ (StLt A sk102 1 (lby ")") U H))) (pr := []) (oG_and oG_P oG_QB) hw hA ⟨hP, ⟨_, hSsk102⟩⟩) (px_recv hT hw 0 0 rfl rfl rfl) m11_217 m11_214 m11_216 ms_8_14 m1_21 q_Mpg_is ⟨show 3 + 1 ≤ (8 * lv + 14) from (oz_bc2bbf7a2e), show 8 + (2 + 11) + 120 ≤ (220 * lv + 540) from (oz_29f4d9f73d)⟩ hl.1 rfl (Nat.le_of_ble_eq_true rfl) d_Mpg_call_14 ⟨Nat.le_of_ble_eq_true rfl, Nat.le_of_ble_eq_true rfl⟩) hw hA (fun v106 p105 H locs hp105 hw => ?_) | (refine px_calli (pr := []) (px_runV (As := [.ref sk102]) (rest := []) S (c_mp_is l D cs sk102 1 (lby ")") h r g tf ta pf88 na73 ma74 wa cf ca ef ea xf xa   (show 0 ≤ (pf88 11).toInt from by first | exact oz_f3f97b7517 e91 e79 g0 | omega) (show (pf88 11).toInt < (tf 6).toInt from by first | exact e92 | omega) (show (tf 6).toInt ≤ 2049 from by first | exact g2 | omega) (show 1 ≤ 100 from by omega) htk _) hT (pr := []) (pcs := [wdP cs h r g tf ta pf88 na73 ma74 wa cf ca ef ea xf xa]) hw (oX_call (P := (fun A U H => (oP A g U H) ∧ (StLt A sk102 1 (lby ")") U H))) (pr := []) (oG_and oG_P oG_QB) hw hA ⟨hP, ⟨_, hSsk102⟩⟩) (px_recv hT hw 0 0 rfl rfl rfl) m11_217 m11_214 m11_216 ms_8_14 m1_21 q_Mpg_is ⟨show 3 + 1 ≤ (8 * lv + 14) from (by first | exact oz_bc2bbf7a2e | omega), show 8 + (2 + 11) + 120 ≤ (220 * lv + 540) from (by first | exact oz_29f4d9f73d | omega)⟩ hl.1 rfl (Nat.le_of_ble_eq_true rfl) d_Mpg_call_14 ⟨Nat.le_of_ble_eq_true rfl, Nat.le_of_ble_eq_true rfl⟩) hw hA (fun v106 p105 H locs hp105 hw => ?_))
  obtain ⟨rfl, e107, e108, e109⟩ := hp105
  have e107 := z_rng e107
  have e108 : v106.toInt = 1 → (pf88 11).toInt + 1 < (tf 6).toInt ∧ so ta (pf88 11) = 5 := e108
  have e109 : R_mp_is 1 (lby ")") ta pf88 v106 := e109
  have lv106 := Int32.le_toInt v106
  have uv106 := Int32.toInt_lt v106
  refine lv_if_ne (tgt := 99) S.x S.b d_Mpg_call_17 (by decide) (fun c110 => ?_) (fun c110 => ?_)
  · have nc110 : ¬ v106.toInt = (0 : Int) := mt (i_eq (x := v106) (y := 0)).mpr c110
    refine lv_aload_n S.x S.b d_Mpg_call_99 rfl (lv_at hl 1 rfl) ?_
    obtain ⟨sk112, hRsk112, st113, hSsk112⟩ := oP_litB hP (k := 89) (tx := ")") (n := 1) (List.mem_of_getElem? (i := 36) rfl)
    refine va_ldcS S.x S.b S.own hRsk112 d_Mpg_call_100 ?_
    first | refine th_callv (ps0 := [wdP cs h r g tf ta pf na ma wa cf ca ef ea xf xa]) (pr := []) (pcs := [wdP cs h r g tf ta pf88 na73 ma74 wa cf ca ef ea xf xa]) (As := [.ref sk112]) (rest := []) (c_mp_closes l D cs sk112 1 (lby ")") h r g tf ta na73 ma74 wa cf ca ef ea xf xa pf88   (show 0 ≤ (pf88 11).toInt from (oz_f3f97b7517 e91 e79 g0)) (show (pf88 11).toInt < (tf 6).toInt from e92) (show (tf 6).toInt ≤ 2049 from g2) (show 1 ≤ (pf88 12).toInt from (oz_7458231eca e95 e80 g8 g7)) (show (pf88 12).toInt ≤ 60 from (oz_6710fd9021 e95 e96)) (show 1 ≤ 100 from by omega) hlf htk) S hT hw (oX_call (P := (fun A U H => (oN A U H) ∧ (oP A g U H) ∧ (StLt A sk112 1 (lby ")") U H))) (pr := []) (oG_and oG_N (oG_and oG_P oG_QB)) hw hA ⟨hN, hP, ⟨_, hSsk112⟩⟩) (px_recv hT hw 0 0 rfl rfl rfl) m12_53 m12_50 m12_52 ms_9_14 m1_21 q_Mpg_closes ⟨show 8 + 1 ≤ (8 * lv + 14) from (oz_b86471fd9e), show 8 + (2 + 11) + 280 ≤ (220 * lv + 540) from (oz_74e737be27)⟩ hl.1 rfl (Nat.le_of_ble_eq_true rfl) d_Mpg_call_102 ⟨Nat.le_of_ble_eq_true rfl, Nat.le_of_ble_eq_true rfl⟩ hne hlk hA hAe (fun o t h => Or.inr h) ?_ (fun p117 H locs hp117 hw => ?_) | (refine th_callv (ps0 := [wdP cs h r g tf ta pf na ma wa cf ca ef ea xf xa]) (pr := []) (pcs := [wdP cs h r g tf ta pf88 na73 ma74 wa cf ca ef ea xf xa]) (As := [.ref sk112]) (rest := []) (c_mp_closes l D cs sk112 1 (lby ")") h r g tf ta na73 ma74 wa cf ca ef ea xf xa pf88   (show 0 ≤ (pf88 11).toInt from by first | exact oz_f3f97b7517 e91 e79 g0 | omega) (show (pf88 11).toInt < (tf 6).toInt from by first | exact e92 | omega) (show (tf 6).toInt ≤ 2049 from by first | exact g2 | omega) (show 1 ≤ (pf88 12).toInt from by first | exact oz_7458231eca e95 e80 g8 g7 | omega) (show (pf88 12).toInt ≤ 60 from by first | exact oz_6710fd9021 e95 e96 | omega) (show 1 ≤ 100 from by omega) hlf htk) S hT hw (oX_call (P := (fun A U H => (oN A U H) ∧ (oP A g U H) ∧ (StLt A sk112 1 (lby ")") U H))) (pr := []) (oG_and oG_N (oG_and oG_P oG_QB)) hw hA ⟨hN, hP, ⟨_, hSsk112⟩⟩) (px_recv hT hw 0 0 rfl rfl rfl) m12_53 m12_50 m12_52 ms_9_14 m1_21 q_Mpg_closes ⟨show 8 + 1 ≤ (8 * lv + 14) from (by first | exact oz_b86471fd9e | omega), show 8 + (2 + 11) + 280 ≤ (220 * lv + 540) from (by first | exact oz_74e737be27 | omega)⟩ hl.1 rfl (Nat.le_of_ble_eq_true rfl) d_Mpg_call_102 ⟨Nat.le_of_ble_eq_true rfl, Nat.le_of_ble_eq_true rfl⟩ hne hlk hA hAe (fun o t h => Or.inr h) ?_ (fun p117 H locs hp117 hw => ?_))
    · exact fun p1 H1 locs1 hp hw => by obtain ⟨pq1, pq2, pq3, pq4, rfl, hq1, hq2, hu_na, hu_ma, hu_wa, hq3⟩ := hp; exact ⟨_, ⟨pq1, pq2, pq3, pq4, rfl, hq1, hq2, (Exists.intro 1 (Or.inl ⟨rfl, pf72, na73, ma74, v76, e85, Or.inr ⟨pf88, e101, v106, e109, Or.inl ⟨nc110, Or.inl ⟨pq1, hq3, rfl, hu_na, hu_ma, hu_wa, rfl, rfl⟩⟩⟩⟩))⟩, hw⟩
    obtain ⟨pf116, rfl, e119, e120, e121, e122, e123, e124, e125, e126, e127⟩ := hp117
    have e119 : (pf116 11).toInt = (pf88 11).toInt + 1 := e119
    have e120 : (pf116 11).toInt < (tf 6).toInt := e120
    have e121 : bp ta (pf88 11) + 1 ≤ bp ta (pf116 11) := e121
    have e122 : (pf116 12).toInt = (pf88 12).toInt - 1 := e122
    have e123 : (pf116 13).toInt = (pf88 13).toInt := e123
    have e124 : (pf116 24).toInt = (pf88 24).toInt := e124
    have e125 : (pf116 25).toInt = (pf88 25).toInt := e125
    have e126 : (pf116 26).toInt = (pf88 26).toInt := e126
    have e127 : R_mp_closes 1 (lby ")") ta pf88 pf116 0 := e127
    refine lv_iload_n S.x S.b d_Mpg_call_105 rfl (lv_at hl 0 rfl) ?_
    first | exact th_iret (v := v76) S hr rfl hlk hAe hw (⟨pf116, na73, ma74, wa, rfl, (show (pf 11).toInt + 1 ≤ (pf116 11).toInt from (oz_d676ac8af5 e79 e119 e91)), (show (pf116 11).toInt < (tf 6).toInt from e120), (show (pf 13).toInt + 1 ≤ (pf116 13).toInt from (oz_f8d6336c5f e78 e123 e97)), (show (pf116 13).toInt - (pf 13).toInt ≤ (pf116 11).toInt - (pf 11).toInt from (oz_460844f3e7 e78 e79 e119 e123 e91 e97)), (show bp ta (pf 11) + 1 ≤ bp ta (pf116 11) from (oz_5511bc8943 qb861 e121 e93 e94)), (show (pf116 12).toInt = (pf 12).toInt from (oz_f93f789092 e80 e122 e95)), (show (pf116 24).toInt = (pf 24).toInt from (oz_e13fc83238 e81 e124 e98)), (show (pf116 25).toInt = (pf 25).toInt from (oz_e13fc83238 e82 e125 e99)), (show (pf116 26).toInt = (pf 26).toInt from (oz_e13fc83238 e83 e126 e100)), (show FrB (pf 13).toInt na ma na73 ma74 from hfb), (show FrW (pf 26).toInt wa wa from hfw), (show ExR ta (tf 6).toInt na73 ma74 v76 (pf 13).toInt (pf116 13).toInt (3 * (bp ta (pf116 11) - bp ta (pf 11))) (pf 12).toInt from (exr_call0 hmk_v76 (by omega) ⟨by omega, by omega⟩ (by omega) (by omega) (by omega) (by omega) (by omega))), (show FsI (tf 6).toInt (pf116 13).toInt na73 from (FsI.le hfs (by omega))), (show R_mp_call (RL_mp_expression lv) (RL_mp_conditional lv) ta p0 pf na ma wa pf116 na73 ma74 wa v76 0 from (Exists.intro 1 (Or.inl ⟨rfl, pf72, na73, ma74, v76, e85, Or.inr ⟨pf88, e101, v106, e109, Or.inl ⟨nc110, Or.inr ⟨pf116, e127, rfl, rfl, rfl, rfl, rfl, rfl⟩⟩⟩⟩)))⟩) d_Mpg_call_106 | (exact th_iret (v := v76) S hr rfl hlk hAe hw (⟨pf116, na73, ma74, wa, rfl, (show (pf 11).toInt + 1 ≤ (pf116 11).toInt from by first | exact oz_d676ac8af5 e79 e119 e91 | omega), (show (pf116 11).toInt < (tf 6).toInt from by first | exact e120 | omega), (show (pf 13).toInt + 1 ≤ (pf116 13).toInt from by first | exact oz_f8d6336c5f e78 e123 e97 | omega), (show (pf116 13).toInt - (pf 13).toInt ≤ (pf116 11).toInt - (pf 11).toInt from by first | exact oz_460844f3e7 e78 e79 e119 e123 e91 e97 | omega), (show bp ta (pf 11) + 1 ≤ bp ta (pf116 11) from by first | exact oz_5511bc8943 qb861 e121 e93 e94 | omega), (show (pf116 12).toInt = (pf 12).toInt from by first | exact oz_f93f789092 e80 e122 e95 | omega), (show (pf116 24).toInt = (pf 24).toInt from by first | exact oz_e13fc83238 e81 e124 e98 | omega), (show (pf116 25).toInt = (pf 25).toInt from by first | exact oz_e13fc83238 e82 e125 e99 | omega), (show (pf116 26).toInt = (pf 26).toInt from by first | exact oz_e13fc83238 e83 e126 e100 | omega), (show FrB (pf 13).toInt na ma na73 ma74 from hfb), (show FrW (pf 26).toInt wa wa from hfw), (show ExR ta (tf 6).toInt na73 ma74 v76 (pf 13).toInt (pf116 13).toInt (3 * (bp ta (pf116 11) - bp ta (pf 11))) (pf 12).toInt from (exr_call0 hmk_v76 (by omega) ⟨by omega, by omega⟩ (by omega) (by omega) (by omega) (by omega) (by omega))), (show FsI (tf 6).toInt (pf116 13).toInt na73 from (FsI.le hfs (by omega))), (show R_mp_call (RL_mp_expression lv) (RL_mp_conditional lv) ta p0 pf na ma wa pf116 na73 ma74 wa v76 0 from (Exists.intro 1 (Or.inl ⟨rfl, pf72, na73, ma74, v76, e85, Or.inr ⟨pf88, e101, v106, e109, Or.inl ⟨nc110, Or.inr ⟨pf116, e127, rfl, rfl, rfl, rfl, rfl, rfl⟩⟩⟩⟩)))⟩) d_Mpg_call_106)
  · have nc110 : v106.toInt = (0 : Int) := (i_eq (x := v106) (y := 0)).mp c110
    refine lv_aload_n S.x S.b d_Mpg_call_20 rfl (lv_at hl 1 rfl) ?_
    first | refine th_calli (ps0 := [wdP cs h r g tf ta pf na ma wa cf ca ef ea xf xa]) (pr := []) (pcs := [wdP cs h r g tf ta pf88 na73 ma74 wa cf ca ef ea xf xa]) (As := []) (rest := []) ((hE.go (by omega)).1 h r g tf ta cf ca ef ea xf xa pf88 na73 ma74 wa   (show 0 ≤ (pf88 11).toInt from (oz_f3f97b7517 e91 e79 g0)) (show (pf88 11).toInt < (tf 6).toInt from e92) (show (tf 6).toInt ≤ 2049 from g2) (show 0 ≤ (pf88 12).toInt from (oz_87be06313f e95 e80 g8 g7)) (show (pf88 12).toInt ≤ 60 from (oz_6710fd9021 e95 e96)) (show 0 ≤ (pf88 13).toInt from (oz_78ad3463af e97 e78 g5)) (show (pf88 13).toInt ≤ (pf88 11).toInt + 20 from (oz_1d04d0d44b e91 e97 e78 e79 g6)) (show 0 ≤ (pf88 26).toInt from (oz_e2fef14871 e100 e83 g7)) (show (pf88 26).toInt ≤ (pf88 12).toInt from (oz_e919e29b70 e95 e100 e80 e83 g8)) (show 61 ≤ (pf88 12).toInt + ((lv - 1 : Nat) : Int) from by omega) (show lv - 1 ≤ 61 from by omega) hlf htk (FsI.le (N' := (pf88 13).toInt) hfs (by omega))) S hT hw (oX_call (P := (fun A U H => (oN A U H) ∧ (oP A g U H))) (pr := []) (oG_and oG_N oG_P) hw hA ⟨hN, hP⟩) (px_recv hT hw 0 0 rfl rfl rfl) m12_38 m12_35 m12_37 ms_9_11 m1_21 q_Mpg_expression ⟨show (8 * (lv - 1) + 20) + 1 ≤ (8 * lv + 14) from by omega, show 8 + (7 + 11) + (220 * (lv - 1) + 720) ≤ (220 * lv + 540) from by omega⟩ hl.1 rfl (Nat.le_of_ble_eq_true rfl) d_Mpg_call_21 ⟨Nat.le_of_ble_eq_true rfl, Nat.le_of_ble_eq_true rfl⟩ hne hlk hA hAe (fun o t h => Or.inr h) ?_ (fun v137 p136 H locs hp136 hw => ?_) | (refine th_calli (ps0 := [wdP cs h r g tf ta pf na ma wa cf ca ef ea xf xa]) (pr := []) (pcs := [wdP cs h r g tf ta pf88 na73 ma74 wa cf ca ef ea xf xa]) (As := []) (rest := []) ((hE.go (by omega)).1 h r g tf ta cf ca ef ea xf xa pf88 na73 ma74 wa   (show 0 ≤ (pf88 11).toInt from by first | exact oz_f3f97b7517 e91 e79 g0 | omega) (show (pf88 11).toInt < (tf 6).toInt from by first | exact e92 | omega) (show (tf 6).toInt ≤ 2049 from by first | exact g2 | omega) (show 0 ≤ (pf88 12).toInt from by first | exact oz_87be06313f e95 e80 g8 g7 | omega) (show (pf88 12).toInt ≤ 60 from by first | exact oz_6710fd9021 e95 e96 | omega) (show 0 ≤ (pf88 13).toInt from by first | exact oz_78ad3463af e97 e78 g5 | omega) (show (pf88 13).toInt ≤ (pf88 11).toInt + 20 from by first | exact oz_1d04d0d44b e91 e97 e78 e79 g6 | omega) (show 0 ≤ (pf88 26).toInt from by first | exact oz_e2fef14871 e100 e83 g7 | omega) (show (pf88 26).toInt ≤ (pf88 12).toInt from by first | exact oz_e919e29b70 e95 e100 e80 e83 g8 | omega) (show 61 ≤ (pf88 12).toInt + ((lv - 1 : Nat) : Int) from by omega) (show lv - 1 ≤ 61 from by omega) hlf htk (FsI.le (N' := (pf88 13).toInt) hfs (by omega))) S hT hw (oX_call (P := (fun A U H => (oN A U H) ∧ (oP A g U H))) (pr := []) (oG_and oG_N oG_P) hw hA ⟨hN, hP⟩) (px_recv hT hw 0 0 rfl rfl rfl) m12_38 m12_35 m12_37 ms_9_11 m1_21 q_Mpg_expression ⟨show (8 * (lv - 1) + 20) + 1 ≤ (8 * lv + 14) from by omega, show 8 + (7 + 11) + (220 * (lv - 1) + 720) ≤ (220 * lv + 540) from by omega⟩ hl.1 rfl (Nat.le_of_ble_eq_true rfl) d_Mpg_call_21 ⟨Nat.le_of_ble_eq_true rfl, Nat.le_of_ble_eq_true rfl⟩ hne hlk hA hAe (fun o t h => Or.inr h) ?_ (fun v137 p136 H locs hp136 hw => ?_))
    · exact fun p1 H1 locs1 hp hw => by obtain ⟨pq1, pq2, pq3, pq4, rfl, hq1, hq2, hq3⟩ := hp; (first | exact ⟨_, ⟨pq1, pq2, pq3, pq4, rfl, hq1, hq2, (Exists.intro 1 (Or.inl ⟨rfl, pf72, na73, ma74, v76, e85, Or.inr ⟨pf88, e101, v106, e109, Or.inr ⟨nc110, Or.inl ⟨pq1, pq2, pq3, pq4, (up_RL_mp_expression (show 1 ≤ lv from (oz_6721671b0f g9 g4)) ▸ hq3), rfl, rfl, rfl, rfl, rfl, rfl⟩⟩⟩⟩))⟩, hw⟩ | (exact ⟨_, ⟨pq1, pq2, pq3, pq4, rfl, hq1, hq2, (Exists.intro 1 (Or.inl ⟨rfl, pf72, na73, ma74, v76, e85, Or.inr ⟨pf88, e101, v106, e109, Or.inr ⟨nc110, Or.inl ⟨pq1, pq2, pq3, pq4, (up_RL_mp_expression (show 1 ≤ lv from by first | exact oz_6721671b0f g9 g4 | omega) ▸ hq3), rfl, rfl, rfl, rfl, rfl, rfl⟩⟩⟩⟩))⟩, hw⟩))
    obtain ⟨pf132, na133, ma134, wa135, rfl, e138, e139, e140, e141, e142, e143, e144, e145, e146, e147, e148, e149, e150, e151⟩ := hp136
    have e138 : (pf88 11).toInt + 1 ≤ (pf132 11).toInt := e138
    have e139 : (pf132 11).toInt < (tf 6).toInt := e139
    have e140 : (pf88 13).toInt + 1 ≤ (pf132 13).toInt := e140
    have e141 : (pf132 13).toInt - (pf88 13).toInt ≤ (pf132 11).toInt - (pf88 11).toInt := e141
    have e142 : bp ta (pf88 11) + 1 ≤ bp ta (pf132 11) := e142
    have e143 : (pf132 12).toInt = (pf88 12).toInt := e143
    have e144 : (pf132 24).toInt = (pf88 24).toInt := e144
    have e145 : (pf132 25).toInt = (pf88 25).toInt := e145
    have e146 : (pf132 26).toInt = (pf88 26).toInt := e146
    have e147 : FrB (pf88 13).toInt na73 ma74 na133 ma134 := e147
    have hnk_v76 := hnk_v76.kp e147 (by omega)
    have hfb := hfb.tr e147 (by omega)
    have e148 : FrW (pf88 26).toInt wa wa135 := e148
    have hfw := hfw.tr e148 (by omega)
    have e149 : ExR ta (tf 6).toInt na133 ma134 v137 (pf88 13).toInt (pf132 13).toInt (3 * (bp ta (pf132 11) - bp ta (pf88 11))) (pf88 12).toInt := e149
    have ht_v137 := e149
    have hn_ht_v137 := ht_v137.num
    have e150 : FsI (tf 6).toInt (pf132 13).toInt na133 := e150
    have hfs := e150
    have e151 : R_mp_expression (RL_mp_expression (lv - 1)) (RL_mp_conditional (lv - 1)) ta pf88 na73 ma74 wa pf132 na133 ma134 wa135 v137 0 := e151
    first | have e151L : (RL_mp_expression lv) ta pf88 na73 ma74 wa pf132 na133 ma134 wa135 v137 0 := up_RL_mp_expression (show 1 ≤ lv from (oz_6721671b0f g9 g4)) ▸ e151 | (have e151L : (RL_mp_expression lv) ta pf88 na73 ma74 wa pf132 na133 ma134 wa135 v137 0 := up_RL_mp_expression (show 1 ≤ lv from by first | exact oz_6721671b0f g9 g4 | omega) ▸ e151)
    have lv137 := Int32.le_toInt v137
    have uv137 := Int32.toInt_lt v137
    refine lv_istore_n (lv' := [(3, .int v137), (2, .int v76), (0, .ref h), (1, .int p0)]) S.x S.b d_Mpg_call_24 rfl hl (by decide) rfl (fun ls hl => ?_)
    refine lv_aload_n S.x S.b d_Mpg_call_25 rfl (lv_at hl 2 rfl) ?_
    refine gP_17 S hT hw 0 rfl m10_1 d_Mpg_call_26 ?_
    refine lv_iload_n S.x S.b d_Mpg_call_29 rfl (lv_at hl 1 rfl) ?_
    refine lv_iload_n S.x S.b d_Mpg_call_30 rfl (lv_at hl 0 rfl) ?_
    refine px_iast S hT hw 0 13 (n := 2100) (f := (na133 17)) (x := v76) (y := v137) rfl gp_17 (vp_in_iff.mpr (by constructor <;> omega)) d_Mpg_call_31 (w' := wdP cs h r g tf ta pf132 (va_up na133 17 (upd (na133 17) v76.toNatClampNeg v137)) ma134 wa135 cf ca ef ea xf xa) (ps' := [wdP cs h r g tf ta pf132 (va_up na133 17 (upd (na133 17) v76.toNatClampNeg v137)) ma134 wa135 cf ca ef ea xf xa]) sp_17 rfl (fun H locs hw => ?_)
    refine lv_aload_n S.x S.b d_Mpg_call_32 rfl (lv_at hl 2 rfl) ?_
    refine gP_23 S hT hw 0 rfl m10_11 d_Mpg_call_33 ?_
    refine lv_iload_n S.x S.b d_Mpg_call_36 rfl (lv_at hl 1 rfl) ?_
    refine lv_iconst (v := 1) S.x S.b d_Mpg_call_37 (by decide) ?_
    refine lv_aload_n S.x S.b d_Mpg_call_38 rfl (lv_at hl 2 rfl) ?_
    refine gP_23 S hT hw 0 rfl m10_11 d_Mpg_call_39 ?_
    refine lv_iload_n S.x S.b d_Mpg_call_42 rfl (lv_at hl 0 rfl) ?_
    refine px_iald S hT hw 0 19 (n := 2100) (f := ((va_up na133 17 (upd (na133 17) v76.toNatClampNeg v137)) 23)) rfl gp_23 (x := v137) (vp_in_iff.mpr (by first | exact oz_8b88cf7e2f hn_ht_v137.1 e97 e78 g5 hn_ht_v137.2.1 e141 e91 e139 g2 g6 e79 | (constructor <;> omega))) d_Mpg_call_43 ?_
    refine lv_topi (fun z152 ez152 => ?_)
    have lz152 := Int32.le_toInt z152
    have uz152 := Int32.toInt_lt z152
    have rz152 : z152.toInt = dp na133 v137 := by have q9 : z152.toInt = dp (va_up na133 17 (upd (na133 17) v76.toNatClampNeg v137)) v137 := (by rw [ez152]; rfl); rw [dp_un (by decide)] at q9; exact q9
    refine lv_iadd S.x S.b d_Mpg_call_44 ?_
    refine lv_topi (fun z153 ez153 => ?_)
    have tz153 : z153.toInt = ((1 : Int) + z152.toInt + 2147483648) % 4294967296 - 2147483648 := by rw [ez153]; exact i_add 1 z152
    have lz153 := Int32.le_toInt z153
    have uz153 := Int32.toInt_lt z153
    try replace tz153 : z153.toInt = (1 : Int) + z152.toInt := by omega
    refine px_iast S hT hw 0 19 (n := 2100) (f := ((va_up na133 17 (upd (na133 17) v76.toNatClampNeg v137)) 23)) (x := v76) (y := z153) rfl gp_23 (vp_in_iff.mpr (by constructor <;> omega)) d_Mpg_call_45 (w' := wdP cs h r g tf ta pf132 (va_up (va_up na133 17 (upd (na133 17) v76.toNatClampNeg v137)) 23 (upd ((va_up na133 17 (upd (na133 17) v76.toNatClampNeg v137)) 23) v76.toNatClampNeg z153)) ma134 wa135 cf ca ef ea xf xa) (ps' := [wdP cs h r g tf ta pf132 (va_up (va_up na133 17 (upd (na133 17) v76.toNatClampNeg v137)) 23 (upd ((va_up na133 17 (upd (na133 17) v76.toNatClampNeg v137)) 23) v76.toNatClampNeg z153)) ma134 wa135 cf ca ef ea xf xa]) sp_23 rfl (fun H locs hw => ?_)
    first | exact J46 (((tf 6).toInt - (pf132 11).toInt).toNat + 1) pf132 (va_up (va_up na133 17 (upd (na133 17) v76.toNatClampNeg v137)) 23 (upd ((va_up na133 17 (upd (na133 17) v76.toNatClampNeg v137)) 23) v76.toNatClampNeg z153)) ma134 wa135 v76 v137 _ _ ls (show (pf132 24).toInt = (pf 24).toInt from (oz_e13fc83238 e81 e144 e98)) (show (pf132 25).toInt = (pf 25).toInt from (oz_e13fc83238 e82 e145 e99)) (show (pf132 26).toInt = (pf 26).toInt from (oz_e13fc83238 e83 e146 e100)) (show (pf132 12).toInt = (pf 12).toInt + 1 from (oz_1bb5b5edb9 e80 e143 e95)) (show (pf 12).toInt < 60 from (oz_068c69ad0b e80 e96)) (show (pf 11).toInt + 1 ≤ (pf132 11).toInt from (oz_331f126945 e79 e138 e91)) (show (pf132 11).toInt < (tf 6).toInt from e139) (show v76.toInt = (pf 13).toInt from e77) (show v76.toInt < v137.toInt from (oz_c36bbba170 e77 hn_ht_v137.1 e78 e97)) (show v137.toInt < (pf132 13).toInt from (oz_7fe81129bf hn_ht_v137.2.1)) (show (pf132 13).toInt - (pf 13).toInt ≤ (pf132 11).toInt - (pf 11).toInt from (oz_43a90a5f17 e78 e79 e141 e91 e97)) (show bp ta (pf 11) + 1 ≤ bp ta (pf132 11) from (oz_5511bc8943 qb861 e142 e93 e94)) (show FrB (pf 13).toInt na ma (va_up (va_up na133 17 (upd (na133 17) v76.toNatClampNeg v137)) 23 (upd ((va_up na133 17 (upd (na133 17) v76.toNatClampNeg v137)) 23) v76.toNatClampNeg z153)) ma134 from (FrB.un (FrB.un hfb (by omega) (by omega)) (by omega) (by omega))) (show FrW (pf 26).toInt wa wa135 from hfw) (show NdK (va_up (va_up na133 17 (upd (na133 17) v76.toNatClampNeg v137)) 23 (upd ((va_up na133 17 (upd (na133 17) v76.toNatClampNeg v137)) 23) v76.toNatClampNeg z153)) ma134 v76 3 p0 from ⟨(by rw [va_up_n (by decide), va_up_n (by decide)]; exact hnk_v76.1), (by rw [va_up_n (by decide), va_up_n (by decide)]; exact hnk_v76.2.1), (by rw [va_up_n (by decide), va_up_n (by decide)]; exact hnk_v76.2.2.1), hnk_v76.2.2.2.1, (by exact hnk_v76.2.2.2.2)⟩) (show DpN (va_up (va_up na133 17 (upd (na133 17) v76.toNatClampNeg v137)) 23 (upd ((va_up na133 17 (upd (na133 17) v76.toNatClampNeg v137)) 23) v76.toNatClampNeg z153)) v76 2 (61 - (pf 12).toInt) from (by unfold DpN; rw [dp_us]; constructor <;> omega)) (show ArV ta (tf 6).toInt (va_up (va_up na133 17 (upd (na133 17) v76.toNatClampNeg v137)) 23 (upd ((va_up na133 17 (upd (na133 17) v76.toNatClampNeg v137)) 23) v76.toNatClampNeg z153)) ma134 v76 v137 (pf132 13).toInt (3 * (bp ta (pf132 11) - bp ta (pf 11)) - 1) (dp (va_up (va_up na133 17 (upd (na133 17) v76.toNatClampNeg v137)) 23 (upd ((va_up na133 17 (upd (na133 17) v76.toNatClampNeg v137)) 23) v76.toNatClampNeg z153)) v76 + 59 - (pf 12).toInt) from (ArV.le (arv_0 ht_v137.1 (by omega) (by omega) (fun x hx => ⟨fun j => by rw [up_far hx, up_far hx], fun _ => rfl⟩) (by rw [va_up_n (by decide), va_up_n (by decide), hnk_v76.1]; rfl) (ndt_of (by rw [va_up_n (by decide), va_up_n (by decide), hnk_v76.2.1]) (by omega) (by omega) (by omega)) (by rw [va_up_n (by decide), va_up_s, pk_us]) ht_v137.2.2.2.1) (by omega) (by omega) (by rw [dp_us]; omega))) (show FsI (tf 6).toInt (pf132 13).toInt (va_up (va_up na133 17 (upd (na133 17) v76.toNatClampNeg v137)) 23 (upd ((va_up na133 17 (upd (na133 17) v76.toNatClampNeg v137)) 23) v76.toNatClampNeg z153)) from (FsI.le (FsI.un (FsI.un hfs (by decide)) (by decide)) (by omega))) (show K_mp_call_46 (RL_mp_expression lv) (RL_mp_conditional lv) ta p0 pf na ma wa pf132 (va_up (va_up na133 17 (upd (na133 17) v76.toNatClampNeg v137)) 23 (upd ((va_up na133 17 (upd (na133 17) v76.toNatClampNeg v137)) 23) v76.toNatClampNeg z153)) ma134 wa135 v76 v137 from (fun y_f0 y_f1 y_f2 y_f3 y_v y_t k hE => Exists.intro (k + 1) (Or.inl ⟨rfl, pf72, na73, ma74, v76, e85, Or.inr ⟨pf88, e101, v106, e109, Or.inr ⟨nc110, Or.inr ⟨pf132, na133, ma134, wa135, v137, e151L, z152, ez152, z153, ez153, hE⟩⟩⟩⟩))) (show (tf 6).toInt - (pf132 11).toInt < (((((tf 6).toInt - (pf132 11).toInt).toNat + 1 : Nat) : Int) : Int) from oz_natlt) hw (lv_sub hl [2, 3, 1, 0] rfl) | (exact J46 (((tf 6).toInt - (pf132 11).toInt).toNat + 1) pf132 (va_up (va_up na133 17 (upd (na133 17) v76.toNatClampNeg v137)) 23 (upd ((va_up na133 17 (upd (na133 17) v76.toNatClampNeg v137)) 23) v76.toNatClampNeg z153)) ma134 wa135 v76 v137 _ _ ls (show (pf132 24).toInt = (pf 24).toInt from by first | exact oz_e13fc83238 e81 e144 e98 | omega) (show (pf132 25).toInt = (pf 25).toInt from by first | exact oz_e13fc83238 e82 e145 e99 | omega) (show (pf132 26).toInt = (pf 26).toInt from by first | exact oz_e13fc83238 e83 e146 e100 | omega) (show (pf132 12).toInt = (pf 12).toInt + 1 from by first | exact oz_1bb5b5edb9 e80 e143 e95 | omega) (show (pf 12).toInt < 60 from by first | exact oz_068c69ad0b e80 e96 | omega) (show (pf 11).toInt + 1 ≤ (pf132 11).toInt from by first | exact oz_331f126945 e79 e138 e91 | omega) (show (pf132 11).toInt < (tf 6).toInt from by first | exact e139 | omega) (show v76.toInt = (pf 13).toInt from by first | exact e77 | omega) (show v76.toInt < v137.toInt from by first | exact oz_c36bbba170 e77 hn_ht_v137.1 e78 e97 | omega) (show v137.toInt < (pf132 13).toInt from by first | exact oz_7fe81129bf hn_ht_v137.2.1 | omega) (show (pf132 13).toInt - (pf 13).toInt ≤ (pf132 11).toInt - (pf 11).toInt from by first | exact oz_43a90a5f17 e78 e79 e141 e91 e97 | omega) (show bp ta (pf 11) + 1 ≤ bp ta (pf132 11) from by first | exact oz_5511bc8943 qb861 e142 e93 e94 | omega) (show FrB (pf 13).toInt na ma (va_up (va_up na133 17 (upd (na133 17) v76.toNatClampNeg v137)) 23 (upd ((va_up na133 17 (upd (na133 17) v76.toNatClampNeg v137)) 23) v76.toNatClampNeg z153)) ma134 from (FrB.un (FrB.un hfb (by omega) (by omega)) (by omega) (by omega))) (show FrW (pf 26).toInt wa wa135 from hfw) (show NdK (va_up (va_up na133 17 (upd (na133 17) v76.toNatClampNeg v137)) 23 (upd ((va_up na133 17 (upd (na133 17) v76.toNatClampNeg v137)) 23) v76.toNatClampNeg z153)) ma134 v76 3 p0 from ⟨(by rw [va_up_n (by decide), va_up_n (by decide)]; exact hnk_v76.1), (by rw [va_up_n (by decide), va_up_n (by decide)]; exact hnk_v76.2.1), (by rw [va_up_n (by decide), va_up_n (by decide)]; exact hnk_v76.2.2.1), hnk_v76.2.2.2.1, (by exact hnk_v76.2.2.2.2)⟩) (show DpN (va_up (va_up na133 17 (upd (na133 17) v76.toNatClampNeg v137)) 23 (upd ((va_up na133 17 (upd (na133 17) v76.toNatClampNeg v137)) 23) v76.toNatClampNeg z153)) v76 2 (61 - (pf 12).toInt) from (by unfold DpN; rw [dp_us]; constructor <;> omega)) (show ArV ta (tf 6).toInt (va_up (va_up na133 17 (upd (na133 17) v76.toNatClampNeg v137)) 23 (upd ((va_up na133 17 (upd (na133 17) v76.toNatClampNeg v137)) 23) v76.toNatClampNeg z153)) ma134 v76 v137 (pf132 13).toInt (3 * (bp ta (pf132 11) - bp ta (pf 11)) - 1) (dp (va_up (va_up na133 17 (upd (na133 17) v76.toNatClampNeg v137)) 23 (upd ((va_up na133 17 (upd (na133 17) v76.toNatClampNeg v137)) 23) v76.toNatClampNeg z153)) v76 + 59 - (pf 12).toInt) from (ArV.le (arv_0 ht_v137.1 (by omega) (by omega) (fun x hx => ⟨fun j => by rw [up_far hx, up_far hx], fun _ => rfl⟩) (by rw [va_up_n (by decide), va_up_n (by decide), hnk_v76.1]; rfl) (ndt_of (by rw [va_up_n (by decide), va_up_n (by decide), hnk_v76.2.1]) (by omega) (by omega) (by omega)) (by rw [va_up_n (by decide), va_up_s, pk_us]) ht_v137.2.2.2.1) (by omega) (by omega) (by rw [dp_us]; omega))) (show FsI (tf 6).toInt (pf132 13).toInt (va_up (va_up na133 17 (upd (na133 17) v76.toNatClampNeg v137)) 23 (upd ((va_up na133 17 (upd (na133 17) v76.toNatClampNeg v137)) 23) v76.toNatClampNeg z153)) from (FsI.le (FsI.un (FsI.un hfs (by decide)) (by decide)) (by omega))) (show K_mp_call_46 (RL_mp_expression lv) (RL_mp_conditional lv) ta p0 pf na ma wa pf132 (va_up (va_up na133 17 (upd (na133 17) v76.toNatClampNeg v137)) 23 (upd ((va_up na133 17 (upd (na133 17) v76.toNatClampNeg v137)) 23) v76.toNatClampNeg z153)) ma134 wa135 v76 v137 from (fun y_f0 y_f1 y_f2 y_f3 y_v y_t k hE => Exists.intro (k + 1) (Or.inl ⟨rfl, pf72, na73, ma74, v76, e85, Or.inr ⟨pf88, e101, v106, e109, Or.inr ⟨nc110, Or.inr ⟨pf132, na133, ma134, wa135, v137, e151L, z152, ez152, z153, ez153, hE⟩⟩⟩⟩))) (show (tf 6).toInt - (pf132 11).toInt < (((((tf 6).toInt - (pf132 11).toInt).toNat + 1 : Nat) : Int) : Int) from by first | exact oz_natlt | omega) hw (lv_sub hl [2, 3, 1, 0] rfl))
abbrev b_Mpg_primary : ByteArray := prog_16_method_40_code
def y_Mpg_primary : MethodName := ⟨"HomeSystemModel$Program", "primary", "()I"⟩
theorem d_Mpg_primary_0 : decode b_Mpg_primary 0 = .ok (.aload_n 0, 1) := by decide +kernel
theorem d_Mpg_primary_1 : decode b_Mpg_primary 1 = .ok (.getfield 201, 3) := by decide +kernel
theorem d_Mpg_primary_4 : decode b_Mpg_primary 4 = .ok (.aload_n 0, 1) := by decide +kernel
theorem d_Mpg_primary_5 : decode b_Mpg_primary 5 = .ok (.getfield 360, 3) := by decide +kernel
theorem d_Mpg_primary_8 : decode b_Mpg_primary 8 = .ok (.baload, 1) := by decide +kernel
theorem d_Mpg_primary_9 : decode b_Mpg_primary 9 = .ok (.iconst 3, 1) := by decide +kernel
theorem d_Mpg_primary_10 : decode b_Mpg_primary 10 = .ok (.if_icmp .ne 25, 3) := by decide +kernel
theorem d_Mpg_primary_13 : decode b_Mpg_primary 13 = .ok (.aload_n 0, 1) := by decide +kernel
theorem d_Mpg_primary_14 : decode b_Mpg_primary 14 = .ok (.iconst 1, 1) := by decide +kernel
theorem d_Mpg_primary_15 : decode b_Mpg_primary 15 = .ok (.aload_n 0, 1) := by decide +kernel
theorem d_Mpg_primary_16 : decode b_Mpg_primary 16 = .ok (.getfield 360, 3) := by decide +kernel
theorem d_Mpg_primary_19 : decode b_Mpg_primary 19 = .ok (.invokevirtual 406, 3) := by decide +kernel
theorem d_Mpg_primary_22 : decode b_Mpg_primary 22 = .ok (.istore_n 1, 1) := by decide +kernel
theorem d_Mpg_primary_23 : decode b_Mpg_primary 23 = .ok (.aload_n 0, 1) := by decide +kernel
theorem d_Mpg_primary_24 : decode b_Mpg_primary 24 = .ok (.dup, 1) := by decide +kernel
theorem d_Mpg_primary_25 : decode b_Mpg_primary 25 = .ok (.getfield 360, 3) := by decide +kernel
theorem d_Mpg_primary_28 : decode b_Mpg_primary 28 = .ok (.iconst 1, 1) := by decide +kernel
theorem d_Mpg_primary_29 : decode b_Mpg_primary 29 = .ok (.iadd, 1) := by decide +kernel
theorem d_Mpg_primary_30 : decode b_Mpg_primary 30 = .ok (.putfield 360, 3) := by decide +kernel
theorem d_Mpg_primary_33 : decode b_Mpg_primary 33 = .ok (.iload_n 1, 1) := by decide +kernel
theorem d_Mpg_primary_34 : decode b_Mpg_primary 34 = .ok (.ireturn, 1) := by decide +kernel
theorem d_Mpg_primary_35 : decode b_Mpg_primary 35 = .ok (.aload_n 0, 1) := by decide +kernel
theorem d_Mpg_primary_36 : decode b_Mpg_primary 36 = .ok (.ldc 87, 2) := by decide +kernel
theorem d_Mpg_primary_38 : decode b_Mpg_primary 38 = .ok (.invokevirtual 366, 3) := by decide +kernel
theorem d_Mpg_primary_41 : decode b_Mpg_primary 41 = .ok (.ifCond .eq 32, 3) := by decide +kernel
theorem d_Mpg_primary_44 : decode b_Mpg_primary 44 = .ok (.aload_n 0, 1) := by decide +kernel
theorem d_Mpg_primary_45 : decode b_Mpg_primary 45 = .ok (.getfield 360, 3) := by decide +kernel
theorem d_Mpg_primary_48 : decode b_Mpg_primary 48 = .ok (.istore_n 1, 1) := by decide +kernel
theorem d_Mpg_primary_49 : decode b_Mpg_primary 49 = .ok (.aload_n 0, 1) := by decide +kernel
theorem d_Mpg_primary_50 : decode b_Mpg_primary 50 = .ok (.invokevirtual 383, 3) := by decide +kernel
theorem d_Mpg_primary_53 : decode b_Mpg_primary 53 = .ok (.aload_n 0, 1) := by decide +kernel
theorem d_Mpg_primary_54 : decode b_Mpg_primary 54 = .ok (.invokevirtual 403, 3) := by decide +kernel
theorem d_Mpg_primary_57 : decode b_Mpg_primary 57 = .ok (.istore_n 2, 1) := by decide +kernel
theorem d_Mpg_primary_58 : decode b_Mpg_primary 58 = .ok (.aload_n 0, 1) := by decide +kernel
theorem d_Mpg_primary_59 : decode b_Mpg_primary 59 = .ok (.ldc 89, 2) := by decide +kernel
theorem d_Mpg_primary_61 : decode b_Mpg_primary 61 = .ok (.invokevirtual 439, 3) := by decide +kernel
theorem d_Mpg_primary_64 : decode b_Mpg_primary 64 = .ok (.aload_n 0, 1) := by decide +kernel
theorem d_Mpg_primary_65 : decode b_Mpg_primary 65 = .ok (.getfield 213, 3) := by decide +kernel
theorem d_Mpg_primary_68 : decode b_Mpg_primary 68 = .ok (.iload_n 2, 1) := by decide +kernel
theorem d_Mpg_primary_69 : decode b_Mpg_primary 69 = .ok (.iload_n 1, 1) := by decide +kernel
theorem d_Mpg_primary_70 : decode b_Mpg_primary 70 = .ok (.iastore, 1) := by decide +kernel
theorem d_Mpg_primary_71 : decode b_Mpg_primary 71 = .ok (.iload_n 2, 1) := by decide +kernel
theorem d_Mpg_primary_72 : decode b_Mpg_primary 72 = .ok (.ireturn, 1) := by decide +kernel
theorem d_Mpg_primary_73 : decode b_Mpg_primary 73 = .ok (.aload_n 0, 1) := by decide +kernel
theorem d_Mpg_primary_74 : decode b_Mpg_primary 74 = .ok (.invokevirtual 442, 3) := by decide +kernel
theorem d_Mpg_primary_77 : decode b_Mpg_primary 77 = .ok (.istore_n 1, 1) := by decide +kernel
theorem d_Mpg_primary_78 : decode b_Mpg_primary 78 = .ok (.aload_n 0, 1) := by decide +kernel
theorem d_Mpg_primary_79 : decode b_Mpg_primary 79 = .ok (.ldc 87, 2) := by decide +kernel
theorem d_Mpg_primary_81 : decode b_Mpg_primary 81 = .ok (.invokevirtual 366, 3) := by decide +kernel
theorem d_Mpg_primary_84 : decode b_Mpg_primary 84 = .ok (.ifCond .eq 9, 3) := by decide +kernel
theorem d_Mpg_primary_87 : decode b_Mpg_primary 87 = .ok (.aload_n 0, 1) := by decide +kernel
theorem d_Mpg_primary_88 : decode b_Mpg_primary 88 = .ok (.iload_n 1, 1) := by decide +kernel
theorem d_Mpg_primary_89 : decode b_Mpg_primary 89 = .ok (.invokevirtual 445, 3) := by decide +kernel
theorem d_Mpg_primary_92 : decode b_Mpg_primary 92 = .ok (.ireturn, 1) := by decide +kernel
theorem d_Mpg_primary_93 : decode b_Mpg_primary 93 = .ok (.aload_n 0, 1) := by decide +kernel
theorem d_Mpg_primary_94 : decode b_Mpg_primary 94 = .ok (.ldc 95, 2) := by decide +kernel
theorem d_Mpg_primary_96 : decode b_Mpg_primary 96 = .ok (.invokevirtual 366, 3) := by decide +kernel
theorem d_Mpg_primary_99 : decode b_Mpg_primary 99 = .ok (.ifCond .eq 51, 3) := by decide +kernel
theorem d_Mpg_primary_102 : decode b_Mpg_primary 102 = .ok (.aload_n 0, 1) := by decide +kernel
theorem d_Mpg_primary_103 : decode b_Mpg_primary 103 = .ok (.iconst 4, 1) := by decide +kernel
theorem d_Mpg_primary_104 : decode b_Mpg_primary 104 = .ok (.iload_n 1, 1) := by decide +kernel
theorem d_Mpg_primary_105 : decode b_Mpg_primary 105 = .ok (.invokevirtual 406, 3) := by decide +kernel
theorem d_Mpg_primary_108 : decode b_Mpg_primary 108 = .ok (.istore_n 2, 1) := by decide +kernel
theorem d_Mpg_primary_109 : decode b_Mpg_primary 109 = .ok (.aload_n 0, 1) := by decide +kernel
theorem d_Mpg_primary_110 : decode b_Mpg_primary 110 = .ok (.invokevirtual 383, 3) := by decide +kernel
theorem d_Mpg_primary_113 : decode b_Mpg_primary 113 = .ok (.aload_n 0, 1) := by decide +kernel
theorem d_Mpg_primary_114 : decode b_Mpg_primary 114 = .ok (.getfield 216, 3) := by decide +kernel
theorem d_Mpg_primary_117 : decode b_Mpg_primary 117 = .ok (.iload_n 2, 1) := by decide +kernel
theorem d_Mpg_primary_118 : decode b_Mpg_primary 118 = .ok (.aload_n 0, 1) := by decide +kernel
theorem d_Mpg_primary_119 : decode b_Mpg_primary 119 = .ok (.invokevirtual 403, 3) := by decide +kernel
theorem d_Mpg_primary_122 : decode b_Mpg_primary 122 = .ok (.iastore, 1) := by decide +kernel
theorem d_Mpg_primary_123 : decode b_Mpg_primary 123 = .ok (.aload_n 0, 1) := by decide +kernel
theorem d_Mpg_primary_124 : decode b_Mpg_primary 124 = .ok (.getfield 234, 3) := by decide +kernel
theorem d_Mpg_primary_127 : decode b_Mpg_primary 127 = .ok (.iload_n 2, 1) := by decide +kernel
theorem d_Mpg_primary_128 : decode b_Mpg_primary 128 = .ok (.iconst 1, 1) := by decide +kernel
theorem d_Mpg_primary_129 : decode b_Mpg_primary 129 = .ok (.aload_n 0, 1) := by decide +kernel
theorem d_Mpg_primary_130 : decode b_Mpg_primary 130 = .ok (.getfield 234, 3) := by decide +kernel
theorem d_Mpg_primary_133 : decode b_Mpg_primary 133 = .ok (.aload_n 0, 1) := by decide +kernel
theorem d_Mpg_primary_134 : decode b_Mpg_primary 134 = .ok (.getfield 216, 3) := by decide +kernel
theorem d_Mpg_primary_137 : decode b_Mpg_primary 137 = .ok (.iload_n 2, 1) := by decide +kernel
theorem d_Mpg_primary_138 : decode b_Mpg_primary 138 = .ok (.iaload, 1) := by decide +kernel
theorem d_Mpg_primary_139 : decode b_Mpg_primary 139 = .ok (.iaload, 1) := by decide +kernel
theorem d_Mpg_primary_140 : decode b_Mpg_primary 140 = .ok (.iadd, 1) := by decide +kernel
theorem d_Mpg_primary_141 : decode b_Mpg_primary 141 = .ok (.iastore, 1) := by decide +kernel
theorem d_Mpg_primary_142 : decode b_Mpg_primary 142 = .ok (.aload_n 0, 1) := by decide +kernel
theorem d_Mpg_primary_143 : decode b_Mpg_primary 143 = .ok (.ldc 97, 2) := by decide +kernel
theorem d_Mpg_primary_145 : decode b_Mpg_primary 145 = .ok (.invokevirtual 439, 3) := by decide +kernel
theorem d_Mpg_primary_148 : decode b_Mpg_primary 148 = .ok (.iload_n 2, 1) := by decide +kernel
theorem d_Mpg_primary_149 : decode b_Mpg_primary 149 = .ok (.ireturn, 1) := by decide +kernel
theorem d_Mpg_primary_150 : decode b_Mpg_primary 150 = .ok (.aload_n 0, 1) := by decide +kernel
theorem d_Mpg_primary_151 : decode b_Mpg_primary 151 = .ok (.iconst 2, 1) := by decide +kernel
theorem d_Mpg_primary_152 : decode b_Mpg_primary 152 = .ok (.iload_n 1, 1) := by decide +kernel
theorem d_Mpg_primary_153 : decode b_Mpg_primary 153 = .ok (.invokevirtual 406, 3) := by decide +kernel
theorem d_Mpg_primary_156 : decode b_Mpg_primary 156 = .ok (.ireturn, 1) := by decide +kernel
theorem q_Mpg_primary : px_y y_Mpg_primary 0 := by unfold px_y; decide +kernel
set_option maxHeartbeats 4000000 in
set_option maxRecDepth 100000 in
theorem c_mp_primary (l : Launch) (D : va_G) (cs : Nat → ClassId) (h : Nat) (r : Nat → Nat) (g : Nat → Nat → Option Nat) (tf : Nat → Int32) (ta : Nat → Nat → Int32) (cf : Nat → Int32) (ca : Nat → Nat → Int32) (ef : Nat → Int32) (ea : Nat → Nat → Int32) (xf : Nat → Int32) (xa : Nat → Nat → Int32) (pf : Nat → Int32) (na : Nat → Nat → Int32) (ma : Nat → Nat → Int32) (wa : Nat → Nat → Int32) (lv : Nat) (g0 : 0 ≤ (pf 11).toInt) (g1 : (pf 11).toInt < (tf 6).toInt) (g2 : (tf 6).toInt ≤ 2049) (g3 : 0 ≤ (pf 12).toInt) (g4 : (pf 12).toInt ≤ 60) (g5 : 0 ≤ (pf 13).toInt) (g6 : (pf 13).toInt ≤ (pf 11).toInt + 20) (g7 : 0 ≤ (pf 26).toInt) (g8 : (pf 26).toInt ≤ (pf 12).toInt) (g9 : 61 ≤ (pf 12).toInt + (lv : Int)) (g10 : lv ≤ 61) (hlf : l.flags = pinnedFlags ++ [noTraceFlag]) (htk : TkI tf ta) (hfs : FsI (tf 6).toInt (pf 13).toInt na) (hE : LvE l D cs lv) : ThI l y_Mpg_primary b_Mpg_primary 3 (.int) D cs (8 * lv + 15) (220 * lv + 570) [.ref h] [wdP cs h r g tf ta pf na ma wa cf ca ef ea xf xa] (oX (fun A U H => (oN A U H) ∧ (oP A g U H)) [wdP cs h r g tf ta pf na ma wa cf ca ef ea xf xa]) "java/lang/IllegalArgumentException" (fun v ps => ∃ (pf' : Nat → Int32) (na' : Nat → Nat → Int32) (ma' : Nat → Nat → Int32) (wa' : Nat → Nat → Int32), (ps = [wdP cs h r g tf ta pf' na' ma' wa' cf ca ef ea xf xa]) ∧ ((pf 11).toInt + 1 ≤ (pf' 11).toInt) ∧ ((pf' 11).toInt < (tf 6).toInt) ∧ ((pf 13).toInt + 1 ≤ (pf' 13).toInt) ∧ ((pf' 13).toInt - (pf 13).toInt ≤ (pf' 11).toInt - (pf 11).toInt) ∧ (bp ta (pf 11) + 1 ≤ bp ta (pf' 11)) ∧ ((pf' 12).toInt = (pf 12).toInt) ∧ ((pf' 24).toInt = (pf 24).toInt) ∧ ((pf' 25).toInt = (pf 25).toInt) ∧ ((pf' 26).toInt = (pf 26).toInt) ∧ (FrB (pf 13).toInt na ma na' ma') ∧ (FrW (pf 26).toInt wa wa') ∧ (ExR ta (tf 6).toInt na' ma' v (pf 13).toInt (pf' 13).toInt (3 * (bp ta (pf' 11) - bp ta (pf 11))) (pf 12).toInt) ∧ (FsI (tf 6).toInt (pf' 13).toInt na') ∧ (R_mp_primary (RL_mp_expression lv) (RL_mp_conditional lv) ta pf na ma wa pf' na' ma' wa' v 0)) (fun ps => ∃ (pf' : Nat → Int32) (na' : Nat → Nat → Int32) (ma' : Nat → Nat → Int32) (wa' : Nat → Nat → Int32), ps = [wdP cs h r g tf ta pf' na' ma' wa' cf ca ef ea xf xa] ∧ 0 ≤ (pf' 11).toInt ∧ (pf' 11).toInt + 1 ≤ (tf 6).toInt ∧ R_mp_primary (RL_mp_expression lv) (RL_mp_conditional lv) ta pf na ma wa pf' na' ma' wa' 0 1) := by
  refine th_enter (by decide) (Nat.le_of_ble_eq_true rfl) ?_
  intro p e s m below meth c A ls hAe S hr hlk hnm hA hT hX hw hl hne hadm
  have hl : lv_has ls 3 [(0, .ref h)] := hl
  have cst1 : (1 : Int32).toInt = 1 := rfl
  have cst2 : (2 : Int32).toInt = 2 := rfl
  have cst3 : (3 : Int32).toInt = 3 := rfl
  have cst4 : (4 : Int32).toInt = 4 := rfl
  have hX : (fun A U H => (oN A U H) ∧ (oP A g U H)) A s s.heap := by rw [hAe]; exact hX
  obtain ⟨hN, hP⟩ := hX
  have hZ := hP.1
  have hF0 := hP.2.1
  have hfb : FrB (pf 13).toInt na ma na ma := FrB.rf
  have hfw : FrW (pf 26).toInt wa wa := FrW.rf
  refine lv_aload_n S.x S.b d_Mpg_primary_0 rfl (lv_at hl 0 rfl) ?_
  refine gP_9 S hT hw 0 rfl m9_233 d_Mpg_primary_1 ?_
  refine lv_aload_n S.x S.b d_Mpg_primary_4 rfl (lv_at hl 0 rfl) ?_
  refine gP_11 (v := (pf 11)) S hT hw 0 rfl rfl m9_235 d_Mpg_primary_5 ?_
  refine px_bald S hT hw 0 8 (n := 2060) (f := (ta 9)) rfl gp_9 (x := (pf 11)) (vp_in_iff.mpr (by first | exact oz_846323bf3a g0 g1 g2 | (constructor <;> omega))) d_Mpg_primary_8 ?_
  refine lv_topi (fun z1 ez1 => ?_)
  have lz1 := Int32.le_toInt z1
  have uz1 := Int32.toInt_lt z1
  have rz1 := tk_s htk (x := (pf 11)) (by omega) (by omega) ez1
  refine lv_iconst (v := 3) S.x S.b d_Mpg_primary_9 (by decide) ?_
  refine lv_icmp_ne (tgt := 35) S.x S.b d_Mpg_primary_10 (by decide) (fun c2 => ?_) (fun c2 => ?_)
  · have nc2 : ¬ z1.toInt = (3 : Int) := mt (i_eq (x := z1) (y := 3)).mpr c2
    refine lv_aload_n S.x S.b d_Mpg_primary_35 rfl (lv_at hl 0 rfl) ?_
    obtain ⟨sk4, hRsk4, st5, hSsk4⟩ := oP_litB hP (k := 87) (tx := "(") (n := 1) (List.mem_of_getElem? (i := 35) rfl)
    refine va_ldcS S.x S.b S.own hRsk4 d_Mpg_primary_36 ?_
    first | refine px_calli (pr := []) (px_runV (As := [.ref sk4]) (rest := []) S (c_mp_is l D cs sk4 1 (lby "(") h r g tf ta pf na ma wa cf ca ef ea xf xa   (show 0 ≤ (pf 11).toInt from g0) (show (pf 11).toInt < (tf 6).toInt from g1) (show (tf 6).toInt ≤ 2049 from g2) (show 1 ≤ 100 from by omega) htk _) hT (pr := []) (pcs := [wdP cs h r g tf ta pf na ma wa cf ca ef ea xf xa]) hw (oX_call (P := (fun A U H => (oP A g U H) ∧ (StLt A sk4 1 (lby "(") U H))) (pr := []) (oG_and oG_P oG_QB) hw hA ⟨hP, ⟨_, hSsk4⟩⟩) (px_recv hT hw 0 0 rfl rfl rfl) m11_217 m11_214 m11_216 ms_8_14 m1_21 q_Mpg_is ⟨show 3 + 1 ≤ (8 * lv + 15) from (oz_f25544c41b), show 8 + (2 + 11) + 120 ≤ (220 * lv + 570) from (oz_f77d39ed65)⟩ hl.1 rfl (Nat.le_of_ble_eq_true rfl) d_Mpg_primary_38 ⟨Nat.le_of_ble_eq_true rfl, Nat.le_of_ble_eq_true rfl⟩) hw hA (fun v8 p7 H locs hp7 hw => ?_) | (refine px_calli (pr := []) (px_runV (As := [.ref sk4]) (rest := []) S (c_mp_is l D cs sk4 1 (lby "(") h r g tf ta pf na ma wa cf ca ef ea xf xa   (show 0 ≤ (pf 11).toInt from by first | exact g0 | omega) (show (pf 11).toInt < (tf 6).toInt from by first | exact g1 | omega) (show (tf 6).toInt ≤ 2049 from by first | exact g2 | omega) (show 1 ≤ 100 from by omega) htk _) hT (pr := []) (pcs := [wdP cs h r g tf ta pf na ma wa cf ca ef ea xf xa]) hw (oX_call (P := (fun A U H => (oP A g U H) ∧ (StLt A sk4 1 (lby "(") U H))) (pr := []) (oG_and oG_P oG_QB) hw hA ⟨hP, ⟨_, hSsk4⟩⟩) (px_recv hT hw 0 0 rfl rfl rfl) m11_217 m11_214 m11_216 ms_8_14 m1_21 q_Mpg_is ⟨show 3 + 1 ≤ (8 * lv + 15) from (by first | exact oz_f25544c41b | omega), show 8 + (2 + 11) + 120 ≤ (220 * lv + 570) from (by first | exact oz_f77d39ed65 | omega)⟩ hl.1 rfl (Nat.le_of_ble_eq_true rfl) d_Mpg_primary_38 ⟨Nat.le_of_ble_eq_true rfl, Nat.le_of_ble_eq_true rfl⟩) hw hA (fun v8 p7 H locs hp7 hw => ?_))
    obtain ⟨rfl, e9, e10, e11⟩ := hp7
    have e9 := z_rng e9
    have e10 : v8.toInt = 1 → (pf 11).toInt + 1 < (tf 6).toInt ∧ so ta (pf 11) = 5 := e10
    have e11 : R_mp_is 1 (lby "(") ta pf v8 := e11
    have lv8 := Int32.le_toInt v8
    have uv8 := Int32.toInt_lt v8
    refine lv_if_eq (tgt := 73) S.x S.b d_Mpg_primary_41 (by decide) (fun c12 => ?_) (fun c12 => ?_)
    · have nc12 : v8.toInt = (0 : Int) := (i_eq (x := v8) (y := 0)).mp c12
      refine lv_aload_n S.x S.b d_Mpg_primary_73 rfl (lv_at hl 0 rfl) ?_
      first | refine th_calli (ps0 := [wdP cs h r g tf ta pf na ma wa cf ca ef ea xf xa]) (pr := []) (pcs := [wdP cs h r g tf ta pf na ma wa cf ca ef ea xf xa]) (As := []) (rest := []) (c_mp_name l D cs h r g tf ta na ma wa cf ca ef ea xf xa pf   (show 0 ≤ (pf 11).toInt from g0) (show (pf 11).toInt < (tf 6).toInt from g1) (show (tf 6).toInt ≤ 2049 from g2) hlf htk) S hT hw (oX_call (P := (fun A U H => (oN A U H) ∧ (oP A g U H))) (pr := []) (oG_and oG_N oG_P) hw hA ⟨hN, hP⟩) (px_recv hT hw 0 0 rfl rfl rfl) m12_2 m11_239 m12_1 ms_9_2 m1_21 q_Mpg_name ⟨show 7 + 1 ≤ (8 * lv + 15) from (oz_cdd738e762), show 8 + (1 + 11) + 150 ≤ (220 * lv + 570) from (oz_84593d395f)⟩ hl.1 rfl (Nat.le_of_ble_eq_true rfl) d_Mpg_primary_74 ⟨Nat.le_of_ble_eq_true rfl, Nat.le_of_ble_eq_true rfl⟩ hne hlk hA hAe (fun o t h => Or.inr h) ?_ (fun v17 p16 H locs hp16 hw => ?_) | (refine th_calli (ps0 := [wdP cs h r g tf ta pf na ma wa cf ca ef ea xf xa]) (pr := []) (pcs := [wdP cs h r g tf ta pf na ma wa cf ca ef ea xf xa]) (As := []) (rest := []) (c_mp_name l D cs h r g tf ta na ma wa cf ca ef ea xf xa pf   (show 0 ≤ (pf 11).toInt from by first | exact g0 | omega) (show (pf 11).toInt < (tf 6).toInt from by first | exact g1 | omega) (show (tf 6).toInt ≤ 2049 from by first | exact g2 | omega) hlf htk) S hT hw (oX_call (P := (fun A U H => (oN A U H) ∧ (oP A g U H))) (pr := []) (oG_and oG_N oG_P) hw hA ⟨hN, hP⟩) (px_recv hT hw 0 0 rfl rfl rfl) m12_2 m11_239 m12_1 ms_9_2 m1_21 q_Mpg_name ⟨show 7 + 1 ≤ (8 * lv + 15) from (by first | exact oz_cdd738e762 | omega), show 8 + (1 + 11) + 150 ≤ (220 * lv + 570) from (by first | exact oz_84593d395f | omega)⟩ hl.1 rfl (Nat.le_of_ble_eq_true rfl) d_Mpg_primary_74 ⟨Nat.le_of_ble_eq_true rfl, Nat.le_of_ble_eq_true rfl⟩ hne hlk hA hAe (fun o t h => Or.inr h) ?_ (fun v17 p16 H locs hp16 hw => ?_))
      · exact fun p1 H1 locs1 hp hw => by obtain ⟨pq1, pq2, pq3, pq4, rfl, hq1, hq2, hu_na, hu_ma, hu_wa, hq3⟩ := hp; exact ⟨_, ⟨pq1, pq2, pq3, pq4, rfl, hq1, hq2, (Or.inl ⟨z1, ez1, Or.inl ⟨nc2, v8, e11, Or.inl ⟨nc12, Or.inl ⟨pq1, hq3, rfl, hu_na, hu_ma, hu_wa, rfl, rfl⟩⟩⟩⟩)⟩, hw⟩
      obtain ⟨pf15, rfl, e18, e19, e20, e21, e22, e23, e24, e25, e26, e27, e28⟩ := hp16
      have e18 : v17.toInt = (pf 11).toInt := e18
      have e19 : SoIs ta v17 1 := e19
      have e20 : (pf15 11).toInt = (pf 11).toInt + 1 := e20
      have e21 : (pf15 11).toInt < (tf 6).toInt := e21
      have e22 : bp ta (pf 11) + 1 ≤ bp ta (pf15 11) := e22
      have e23 : (pf15 12).toInt = (pf 12).toInt := e23
      have e24 : (pf15 13).toInt = (pf 13).toInt := e24
      have e25 : (pf15 24).toInt = (pf 24).toInt := e25
      have e26 : (pf15 25).toInt = (pf 25).toInt := e26
      have e27 : (pf15 26).toInt = (pf 26).toInt := e27
      have e28 : R_mp_name ta pf pf15 v17 0 := e28
      have lv17 := Int32.le_toInt v17
      have uv17 := Int32.toInt_lt v17
      refine lv_istore_n (lv' := [(1, .int v17), (0, .ref h)]) S.x S.b d_Mpg_primary_77 rfl hl (by decide) rfl (fun ls hl => ?_)
      have hso : so ta v17 = 1 := (show SoIs ta v17 1 by assumption)
      refine lv_aload_n S.x S.b d_Mpg_primary_78 rfl (lv_at hl 1 rfl) ?_
      obtain ⟨sk29, hRsk29, st30, hSsk29⟩ := oP_litB hP (k := 87) (tx := "(") (n := 1) (List.mem_of_getElem? (i := 35) rfl)
      refine va_ldcS S.x S.b S.own hRsk29 d_Mpg_primary_79 ?_
      first | refine px_calli (pr := []) (px_runV (As := [.ref sk29]) (rest := []) S (c_mp_is l D cs sk29 1 (lby "(") h r g tf ta pf15 na ma wa cf ca ef ea xf xa   (show 0 ≤ (pf15 11).toInt from (oz_ae613611c0 e20 g0)) (show (pf15 11).toInt < (tf 6).toInt from e21) (show (tf 6).toInt ≤ 2049 from g2) (show 1 ≤ 100 from by omega) htk _) hT (pr := []) (pcs := [wdP cs h r g tf ta pf15 na ma wa cf ca ef ea xf xa]) hw (oX_call (P := (fun A U H => (oP A g U H) ∧ (StLt A sk29 1 (lby "(") U H))) (pr := []) (oG_and oG_P oG_QB) hw hA ⟨hP, ⟨_, hSsk29⟩⟩) (px_recv hT hw 0 0 rfl rfl rfl) m11_217 m11_214 m11_216 ms_8_14 m1_21 q_Mpg_is ⟨show 3 + 1 ≤ (8 * lv + 15) from (oz_f25544c41b), show 8 + (2 + 11) + 120 ≤ (220 * lv + 570) from (oz_f77d39ed65)⟩ hl.1 rfl (Nat.le_of_ble_eq_true rfl) d_Mpg_primary_81 ⟨Nat.le_of_ble_eq_true rfl, Nat.le_of_ble_eq_true rfl⟩) hw hA (fun v33 p32 H locs hp32 hw => ?_) | (refine px_calli (pr := []) (px_runV (As := [.ref sk29]) (rest := []) S (c_mp_is l D cs sk29 1 (lby "(") h r g tf ta pf15 na ma wa cf ca ef ea xf xa   (show 0 ≤ (pf15 11).toInt from by first | exact oz_ae613611c0 e20 g0 | omega) (show (pf15 11).toInt < (tf 6).toInt from by first | exact e21 | omega) (show (tf 6).toInt ≤ 2049 from by first | exact g2 | omega) (show 1 ≤ 100 from by omega) htk _) hT (pr := []) (pcs := [wdP cs h r g tf ta pf15 na ma wa cf ca ef ea xf xa]) hw (oX_call (P := (fun A U H => (oP A g U H) ∧ (StLt A sk29 1 (lby "(") U H))) (pr := []) (oG_and oG_P oG_QB) hw hA ⟨hP, ⟨_, hSsk29⟩⟩) (px_recv hT hw 0 0 rfl rfl rfl) m11_217 m11_214 m11_216 ms_8_14 m1_21 q_Mpg_is ⟨show 3 + 1 ≤ (8 * lv + 15) from (by first | exact oz_f25544c41b | omega), show 8 + (2 + 11) + 120 ≤ (220 * lv + 570) from (by first | exact oz_f77d39ed65 | omega)⟩ hl.1 rfl (Nat.le_of_ble_eq_true rfl) d_Mpg_primary_81 ⟨Nat.le_of_ble_eq_true rfl, Nat.le_of_ble_eq_true rfl⟩) hw hA (fun v33 p32 H locs hp32 hw => ?_))
      obtain ⟨rfl, e34, e35, e36⟩ := hp32
      have e34 := z_rng e34
      have e35 : v33.toInt = 1 → (pf15 11).toInt + 1 < (tf 6).toInt ∧ so ta (pf15 11) = 5 := e35
      have e36 : R_mp_is 1 (lby "(") ta pf15 v33 := e36
      have lv33 := Int32.le_toInt v33
      have uv33 := Int32.toInt_lt v33
      refine lv_if_eq (tgt := 93) S.x S.b d_Mpg_primary_84 (by decide) (fun c37 => ?_) (fun c37 => ?_)
      · have nc37 : v33.toInt = (0 : Int) := (i_eq (x := v33) (y := 0)).mp c37
        refine lv_aload_n S.x S.b d_Mpg_primary_93 rfl (lv_at hl 1 rfl) ?_
        obtain ⟨sk39, hRsk39, st40, hSsk39⟩ := oP_litB hP (k := 95) (tx := "[") (n := 1) (List.mem_of_getElem? (i := 39) rfl)
        refine va_ldcS S.x S.b S.own hRsk39 d_Mpg_primary_94 ?_
        first | refine px_calli (pr := []) (px_runV (As := [.ref sk39]) (rest := []) S (c_mp_is l D cs sk39 1 (lby "[") h r g tf ta pf15 na ma wa cf ca ef ea xf xa   (show 0 ≤ (pf15 11).toInt from (oz_ae613611c0 e20 g0)) (show (pf15 11).toInt < (tf 6).toInt from e21) (show (tf 6).toInt ≤ 2049 from g2) (show 1 ≤ 100 from by omega) htk _) hT (pr := []) (pcs := [wdP cs h r g tf ta pf15 na ma wa cf ca ef ea xf xa]) hw (oX_call (P := (fun A U H => (oP A g U H) ∧ (StLt A sk39 1 (lby "[") U H))) (pr := []) (oG_and oG_P oG_QB) hw hA ⟨hP, ⟨_, hSsk39⟩⟩) (px_recv hT hw 0 0 rfl rfl rfl) m11_217 m11_214 m11_216 ms_8_14 m1_21 q_Mpg_is ⟨show 3 + 1 ≤ (8 * lv + 15) from (oz_f25544c41b), show 8 + (2 + 11) + 120 ≤ (220 * lv + 570) from (oz_f77d39ed65)⟩ hl.1 rfl (Nat.le_of_ble_eq_true rfl) d_Mpg_primary_96 ⟨Nat.le_of_ble_eq_true rfl, Nat.le_of_ble_eq_true rfl⟩) hw hA (fun v43 p42 H locs hp42 hw => ?_) | (refine px_calli (pr := []) (px_runV (As := [.ref sk39]) (rest := []) S (c_mp_is l D cs sk39 1 (lby "[") h r g tf ta pf15 na ma wa cf ca ef ea xf xa   (show 0 ≤ (pf15 11).toInt from by first | exact oz_ae613611c0 e20 g0 | omega) (show (pf15 11).toInt < (tf 6).toInt from by first | exact e21 | omega) (show (tf 6).toInt ≤ 2049 from by first | exact g2 | omega) (show 1 ≤ 100 from by omega) htk _) hT (pr := []) (pcs := [wdP cs h r g tf ta pf15 na ma wa cf ca ef ea xf xa]) hw (oX_call (P := (fun A U H => (oP A g U H) ∧ (StLt A sk39 1 (lby "[") U H))) (pr := []) (oG_and oG_P oG_QB) hw hA ⟨hP, ⟨_, hSsk39⟩⟩) (px_recv hT hw 0 0 rfl rfl rfl) m11_217 m11_214 m11_216 ms_8_14 m1_21 q_Mpg_is ⟨show 3 + 1 ≤ (8 * lv + 15) from (by first | exact oz_f25544c41b | omega), show 8 + (2 + 11) + 120 ≤ (220 * lv + 570) from (by first | exact oz_f77d39ed65 | omega)⟩ hl.1 rfl (Nat.le_of_ble_eq_true rfl) d_Mpg_primary_96 ⟨Nat.le_of_ble_eq_true rfl, Nat.le_of_ble_eq_true rfl⟩) hw hA (fun v43 p42 H locs hp42 hw => ?_))
        obtain ⟨rfl, e44, e45, e46⟩ := hp42
        have e44 := z_rng e44
        have e45 : v43.toInt = 1 → (pf15 11).toInt + 1 < (tf 6).toInt ∧ so ta (pf15 11) = 5 := e45
        have e46 : R_mp_is 1 (lby "[") ta pf15 v43 := e46
        have lv43 := Int32.le_toInt v43
        have uv43 := Int32.toInt_lt v43
        refine lv_if_eq (tgt := 150) S.x S.b d_Mpg_primary_99 (by decide) (fun c47 => ?_) (fun c47 => ?_)
        · have nc47 : v43.toInt = (0 : Int) := (i_eq (x := v43) (y := 0)).mp c47
          refine lv_aload_n S.x S.b d_Mpg_primary_150 rfl (lv_at hl 1 rfl) ?_
          refine lv_iconst (v := 2) S.x S.b d_Mpg_primary_151 (by decide) ?_
          refine lv_iload_n S.x S.b d_Mpg_primary_152 rfl (lv_at hl 0 rfl) ?_
          first | refine px_calli (pr := []) (px_runV (As := [.int 2, .int v17]) (rest := []) S (c_mp_make l D cs h r g tf ta wa cf ca ef ea xf xa pf15 na ma 2 v17  (show 0 ≤ (pf15 13).toInt from (oz_f3ebed1ad0 e24 g5)) (show (pf15 13).toInt < 2100 from (oz_b475de3101 e24 g6 e20 g2 e21)) _) hT (pr := []) (pcs := [wdP cs h r g tf ta pf15 na ma wa cf ca ef ea xf xa]) hw px_X.tt (px_recv hT hw 0 0 rfl rfl rfl) m11_209 m11_206 m11_208 ms_8_12 m1_21 q_Mpg_make ⟨show 0 + 1 ≤ (8 * lv + 15) from (oz_1aad6329bb), show 8 + (3 + 11) + 0 ≤ (220 * lv + 570) from (oz_96ad077f4a)⟩ hl.1 rfl (Nat.le_of_ble_eq_true rfl) d_Mpg_primary_153 ⟨Nat.le_of_ble_eq_true rfl, Nat.le_of_ble_eq_true rfl⟩) hw hA (fun v56 p55 H locs hp55 hw => ?_) | (refine px_calli (pr := []) (px_runV (As := [.int 2, .int v17]) (rest := []) S (c_mp_make l D cs h r g tf ta wa cf ca ef ea xf xa pf15 na ma 2 v17  (show 0 ≤ (pf15 13).toInt from by first | exact oz_f3ebed1ad0 e24 g5 | omega) (show (pf15 13).toInt < 2100 from by first | exact oz_b475de3101 e24 g6 e20 g2 e21 | omega) _) hT (pr := []) (pcs := [wdP cs h r g tf ta pf15 na ma wa cf ca ef ea xf xa]) hw px_X.tt (px_recv hT hw 0 0 rfl rfl rfl) m11_209 m11_206 m11_208 ms_8_12 m1_21 q_Mpg_make ⟨show 0 + 1 ≤ (8 * lv + 15) from (by first | exact oz_1aad6329bb | omega), show 8 + (3 + 11) + 0 ≤ (220 * lv + 570) from (by first | exact oz_96ad077f4a | omega)⟩ hl.1 rfl (Nat.le_of_ble_eq_true rfl) d_Mpg_primary_153 ⟨Nat.le_of_ble_eq_true rfl, Nat.le_of_ble_eq_true rfl⟩) hw hA (fun v56 p55 H locs hp55 hw => ?_))
          obtain ⟨pf52, na53, ma54, rfl, e57, e58, e59, e60, e61, e62, e63, e64, e65⟩ := hp55
          have e57 : v56.toInt = (pf15 13).toInt := e57
          have e58 : (pf52 13).toInt = (pf15 13).toInt + 1 := e58
          have e59 : (pf52 11).toInt = (pf15 11).toInt := e59
          have e60 : (pf52 12).toInt = (pf15 12).toInt := e60
          have e61 : (pf52 24).toInt = (pf15 24).toInt := e61
          have e62 : (pf52 25).toInt = (pf15 25).toInt := e62
          have e63 : (pf52 26).toInt = (pf15 26).toInt := e63
          have e64 : MkN na ma na53 ma54 v56 (2 : Int32) v17 := e64
          have e65 : R_mp_make (2 : Int32) v17 pf15 na ma pf52 na53 ma54 v56 := e65
          obtain ⟨qb661, qb662, qb663, qb664⟩ := tk_eq (ta := ta) (x := (pf52 11)) (y := (pf15 11)) (by omega)
          have hmk_v56 := e64
          have hfm_v56 := MkN.frb (b := v56.toInt) hmk_v56 (by omega) (by omega)
          have hfs := FsI.mk hfs hmk_v56 (by omega) (by omega) (by omega) (by omega)
          have hfb := hfb.tr hfm_v56 (by omega)
          have hnk_v56 := hmk_v56.nk (by decide) (by decide) (by omega)
          have hdn_v56 := dp_nk hmk_v56
          have lv56 := Int32.le_toInt v56
          have uv56 := Int32.toInt_lt v56
          first | exact th_iret (v := v56) S hr rfl hlk hAe hw (⟨pf52, na53, ma54, wa, rfl, (show (pf 11).toInt + 1 ≤ (pf52 11).toInt from (oz_08747c10a9 e20 e59)), (show (pf52 11).toInt < (tf 6).toInt from (oz_5d2fbac15b e21 e59)), (show (pf 13).toInt + 1 ≤ (pf52 13).toInt from (oz_5a83f0d431 e24 e58)), (show (pf52 13).toInt - (pf 13).toInt ≤ (pf52 11).toInt - (pf 11).toInt from (oz_f93944bcb9 e20 e24 e58 e59)), (show bp ta (pf 11) + 1 ≤ bp ta (pf52 11) from (oz_213e98d3f1 e22 qb661)), (show (pf52 12).toInt = (pf 12).toInt from (oz_1687f4cc65 e23 e60)), (show (pf52 24).toInt = (pf 24).toInt from (oz_1687f4cc65 e25 e61)), (show (pf52 25).toInt = (pf 25).toInt from (oz_1687f4cc65 e26 e62)), (show (pf52 26).toInt = (pf 26).toInt from (oz_1687f4cc65 e27 e63)), (show FrB (pf 13).toInt na ma na53 ma54 from hfb), (show FrW (pf 26).toInt wa wa from hfw), (show ExR ta (tf 6).toInt na53 ma54 v56 (pf 13).toInt (pf52 13).toInt (3 * (bp ta (pf52 11) - bp ta (pf 11))) (pf 12).toInt from (exr_leaf hmk_v56 (Or.inr rfl) (by omega) ⟨by omega, by omega⟩ (by rw [if_neg (by decide)]; exact hso) (by omega) (by omega) (by omega) (by omega))), (show FsI (tf 6).toInt (pf52 13).toInt na53 from (FsI.le hfs (by omega))), (show R_mp_primary (RL_mp_expression lv) (RL_mp_conditional lv) ta pf na ma wa pf52 na53 ma54 wa v56 0 from (Or.inl ⟨z1, ez1, Or.inl ⟨nc2, v8, e11, Or.inl ⟨nc12, Or.inr ⟨pf15, v17, e28, v33, e36, Or.inl ⟨nc37, v43, e46, Or.inl ⟨nc47, pf52, na53, ma54, v56, e65, rfl, rfl, rfl, rfl, rfl, rfl⟩⟩⟩⟩⟩⟩))⟩) d_Mpg_primary_156 | (exact th_iret (v := v56) S hr rfl hlk hAe hw (⟨pf52, na53, ma54, wa, rfl, (show (pf 11).toInt + 1 ≤ (pf52 11).toInt from by first | exact oz_08747c10a9 e20 e59 | omega), (show (pf52 11).toInt < (tf 6).toInt from by first | exact oz_5d2fbac15b e21 e59 | omega), (show (pf 13).toInt + 1 ≤ (pf52 13).toInt from by first | exact oz_5a83f0d431 e24 e58 | omega), (show (pf52 13).toInt - (pf 13).toInt ≤ (pf52 11).toInt - (pf 11).toInt from by first | exact oz_f93944bcb9 e20 e24 e58 e59 | omega), (show bp ta (pf 11) + 1 ≤ bp ta (pf52 11) from by first | exact oz_213e98d3f1 e22 qb661 | omega), (show (pf52 12).toInt = (pf 12).toInt from by first | exact oz_1687f4cc65 e23 e60 | omega), (show (pf52 24).toInt = (pf 24).toInt from by first | exact oz_1687f4cc65 e25 e61 | omega), (show (pf52 25).toInt = (pf 25).toInt from by first | exact oz_1687f4cc65 e26 e62 | omega), (show (pf52 26).toInt = (pf 26).toInt from by first | exact oz_1687f4cc65 e27 e63 | omega), (show FrB (pf 13).toInt na ma na53 ma54 from hfb), (show FrW (pf 26).toInt wa wa from hfw), (show ExR ta (tf 6).toInt na53 ma54 v56 (pf 13).toInt (pf52 13).toInt (3 * (bp ta (pf52 11) - bp ta (pf 11))) (pf 12).toInt from (exr_leaf hmk_v56 (Or.inr rfl) (by omega) ⟨by omega, by omega⟩ (by rw [if_neg (by decide)]; exact hso) (by omega) (by omega) (by omega) (by omega))), (show FsI (tf 6).toInt (pf52 13).toInt na53 from (FsI.le hfs (by omega))), (show R_mp_primary (RL_mp_expression lv) (RL_mp_conditional lv) ta pf na ma wa pf52 na53 ma54 wa v56 0 from (Or.inl ⟨z1, ez1, Or.inl ⟨nc2, v8, e11, Or.inl ⟨nc12, Or.inr ⟨pf15, v17, e28, v33, e36, Or.inl ⟨nc37, v43, e46, Or.inl ⟨nc47, pf52, na53, ma54, v56, e65, rfl, rfl, rfl, rfl, rfl, rfl⟩⟩⟩⟩⟩⟩))⟩) d_Mpg_primary_156)
        · have nc47 : ¬ v43.toInt = (0 : Int) := mt (i_eq (x := v43) (y := 0)).mpr c47
          refine lv_aload_n S.x S.b d_Mpg_primary_102 rfl (lv_at hl 1 rfl) ?_
          refine lv_iconst (v := 4) S.x S.b d_Mpg_primary_103 (by decide) ?_
          refine lv_iload_n S.x S.b d_Mpg_primary_104 rfl (lv_at hl 0 rfl) ?_
          first | refine px_calli (pr := []) (px_runV (As := [.int 4, .int v17]) (rest := []) S (c_mp_make l D cs h r g tf ta wa cf ca ef ea xf xa pf15 na ma 4 v17  (show 0 ≤ (pf15 13).toInt from (oz_f3ebed1ad0 e24 g5)) (show (pf15 13).toInt < 2100 from (oz_b475de3101 e24 g6 e20 g2 e21)) _) hT (pr := []) (pcs := [wdP cs h r g tf ta pf15 na ma wa cf ca ef ea xf xa]) hw px_X.tt (px_recv hT hw 0 0 rfl rfl rfl) m11_209 m11_206 m11_208 ms_8_12 m1_21 q_Mpg_make ⟨show 0 + 1 ≤ (8 * lv + 15) from (oz_1aad6329bb), show 8 + (3 + 11) + 0 ≤ (220 * lv + 570) from (oz_96ad077f4a)⟩ hl.1 rfl (Nat.le_of_ble_eq_true rfl) d_Mpg_primary_105 ⟨Nat.le_of_ble_eq_true rfl, Nat.le_of_ble_eq_true rfl⟩) hw hA (fun v74 p73 H locs hp73 hw => ?_) | (refine px_calli (pr := []) (px_runV (As := [.int 4, .int v17]) (rest := []) S (c_mp_make l D cs h r g tf ta wa cf ca ef ea xf xa pf15 na ma 4 v17  (show 0 ≤ (pf15 13).toInt from by first | exact oz_f3ebed1ad0 e24 g5 | omega) (show (pf15 13).toInt < 2100 from by first | exact oz_b475de3101 e24 g6 e20 g2 e21 | omega) _) hT (pr := []) (pcs := [wdP cs h r g tf ta pf15 na ma wa cf ca ef ea xf xa]) hw px_X.tt (px_recv hT hw 0 0 rfl rfl rfl) m11_209 m11_206 m11_208 ms_8_12 m1_21 q_Mpg_make ⟨show 0 + 1 ≤ (8 * lv + 15) from (by first | exact oz_1aad6329bb | omega), show 8 + (3 + 11) + 0 ≤ (220 * lv + 570) from (by first | exact oz_96ad077f4a | omega)⟩ hl.1 rfl (Nat.le_of_ble_eq_true rfl) d_Mpg_primary_105 ⟨Nat.le_of_ble_eq_true rfl, Nat.le_of_ble_eq_true rfl⟩) hw hA (fun v74 p73 H locs hp73 hw => ?_))
          obtain ⟨pf70, na71, ma72, rfl, e75, e76, e77, e78, e79, e80, e81, e82, e83⟩ := hp73
          have e75 : v74.toInt = (pf15 13).toInt := e75
          have e76 : (pf70 13).toInt = (pf15 13).toInt + 1 := e76
          have e77 : (pf70 11).toInt = (pf15 11).toInt := e77
          have e78 : (pf70 12).toInt = (pf15 12).toInt := e78
          have e79 : (pf70 24).toInt = (pf15 24).toInt := e79
          have e80 : (pf70 25).toInt = (pf15 25).toInt := e80
          have e81 : (pf70 26).toInt = (pf15 26).toInt := e81
          have e82 : MkN na ma na71 ma72 v74 (4 : Int32) v17 := e82
          have e83 : R_mp_make (4 : Int32) v17 pf15 na ma pf70 na71 ma72 v74 := e83
          obtain ⟨qb841, qb842, qb843, qb844⟩ := tk_eq (ta := ta) (x := (pf70 11)) (y := (pf15 11)) (by omega)
          have hmk_v74 := e82
          have hfm_v74 := MkN.frb (b := v74.toInt) hmk_v74 (by omega) (by omega)
          have hfs := FsI.mk hfs hmk_v74 (by omega) (by omega) (by omega) (by omega)
          have hfb := hfb.tr hfm_v74 (by omega)
          have hnk_v74 := hmk_v74.nk (by decide) (by decide) (by omega)
          have hdn_v74 := dp_nk hmk_v74
          have lv74 := Int32.le_toInt v74
          have uv74 := Int32.toInt_lt v74
          refine lv_istore_n (lv' := [(2, .int v74), (1, .int v17), (0, .ref h)]) S.x S.b d_Mpg_primary_108 rfl hl (by decide) rfl (fun ls hl => ?_)
          refine lv_aload_n S.x S.b d_Mpg_primary_109 rfl (lv_at hl 2 rfl) ?_
          first | refine th_callv (ps0 := [wdP cs h r g tf ta pf na ma wa cf ca ef ea xf xa]) (pr := []) (pcs := [wdP cs h r g tf ta pf70 na71 ma72 wa cf ca ef ea xf xa]) (As := []) (rest := []) (c_mp_opens l D cs h r g tf ta na71 ma72 wa cf ca ef ea xf xa pf70   (show 0 ≤ (pf70 11).toInt from (oz_78ad3463af e77 e20 g0)) (show (pf70 11).toInt < (tf 6).toInt from (oz_5d2fbac15b e21 e77)) (show (tf 6).toInt ≤ 2049 from g2) (show (pf70 11).toInt + 1 < (tf 6).toInt from by omega) (show 0 ≤ (pf70 12).toInt from (oz_9bcc310e9c e78 e23 g8 g7)) (show (pf70 12).toInt ≤ 60 from (oz_d791cd839d e78 e23 g4)) hlf htk) S hT hw (oX_call (P := (fun A U H => (oN A U H) ∧ (oP A g U H))) (pr := []) (oG_and oG_N oG_P) hw hA ⟨hN, hP⟩) (px_recv hT hw 0 0 rfl rfl rfl) m11_238 m11_235 m11_237 ms_9_1 m1_21 q_Mpg_opens ⟨show 7 + 1 ≤ (8 * lv + 15) from (oz_cdd738e762), show 8 + (1 + 11) + 150 ≤ (220 * lv + 570) from (oz_84593d395f)⟩ hl.1 rfl (Nat.le_of_ble_eq_true rfl) d_Mpg_primary_110 ⟨Nat.le_of_ble_eq_true rfl, Nat.le_of_ble_eq_true rfl⟩ hne hlk hA hAe (fun o t h => Or.inr h) ?_ (fun p87 H locs hp87 hw => ?_) | (refine th_callv (ps0 := [wdP cs h r g tf ta pf na ma wa cf ca ef ea xf xa]) (pr := []) (pcs := [wdP cs h r g tf ta pf70 na71 ma72 wa cf ca ef ea xf xa]) (As := []) (rest := []) (c_mp_opens l D cs h r g tf ta na71 ma72 wa cf ca ef ea xf xa pf70   (show 0 ≤ (pf70 11).toInt from by first | exact oz_78ad3463af e77 e20 g0 | omega) (show (pf70 11).toInt < (tf 6).toInt from by first | exact oz_5d2fbac15b e21 e77 | omega) (show (tf 6).toInt ≤ 2049 from by first | exact g2 | omega) (show (pf70 11).toInt + 1 < (tf 6).toInt from by omega) (show 0 ≤ (pf70 12).toInt from by first | exact oz_9bcc310e9c e78 e23 g8 g7 | omega) (show (pf70 12).toInt ≤ 60 from by first | exact oz_d791cd839d e78 e23 g4 | omega) hlf htk) S hT hw (oX_call (P := (fun A U H => (oN A U H) ∧ (oP A g U H))) (pr := []) (oG_and oG_N oG_P) hw hA ⟨hN, hP⟩) (px_recv hT hw 0 0 rfl rfl rfl) m11_238 m11_235 m11_237 ms_9_1 m1_21 q_Mpg_opens ⟨show 7 + 1 ≤ (8 * lv + 15) from (by first | exact oz_cdd738e762 | omega), show 8 + (1 + 11) + 150 ≤ (220 * lv + 570) from (by first | exact oz_84593d395f | omega)⟩ hl.1 rfl (Nat.le_of_ble_eq_true rfl) d_Mpg_primary_110 ⟨Nat.le_of_ble_eq_true rfl, Nat.le_of_ble_eq_true rfl⟩ hne hlk hA hAe (fun o t h => Or.inr h) ?_ (fun p87 H locs hp87 hw => ?_))
          · exact fun p1 H1 locs1 hp hw => by obtain ⟨pq1, pq2, pq3, pq4, rfl, hq1, hq2, hu_na, hu_ma, hu_wa, hq3⟩ := hp; exact ⟨_, ⟨pq1, pq2, pq3, pq4, rfl, hq1, hq2, (Or.inl ⟨z1, ez1, Or.inl ⟨nc2, v8, e11, Or.inl ⟨nc12, Or.inr ⟨pf15, v17, e28, v33, e36, Or.inl ⟨nc37, v43, e46, Or.inr ⟨nc47, pf70, na71, ma72, v74, e83, Or.inl ⟨pq1, hq3, rfl, hu_na, hu_ma, hu_wa, rfl, rfl⟩⟩⟩⟩⟩⟩⟩)⟩, hw⟩
          obtain ⟨pf86, rfl, e89, e90, e91, e92, e93, e94, e95, e96, e97, e98, e99⟩ := hp87
          have e89 : (pf86 11).toInt = (pf70 11).toInt + 1 := e89
          have e90 : (pf86 11).toInt < (tf 6).toInt := e90
          have e91 : bp ta (pf70 11) + sz ta (pf70 11) ≤ bp ta (pf86 11) := e91
          have e92 : 1 ≤ sz ta (pf70 11) := e92
          have e93 : (pf86 12).toInt = (pf70 12).toInt + 1 := e93
          have e94 : (pf70 12).toInt < 60 := e94
          have e95 : (pf86 13).toInt = (pf70 13).toInt := e95
          have e96 : (pf86 24).toInt = (pf70 24).toInt := e96
          have e97 : (pf86 25).toInt = (pf70 25).toInt := e97
          have e98 : (pf86 26).toInt = (pf70 26).toInt := e98
          have e99 : R_mp_opens pf70 pf86 0 := e99
          refine lv_aload_n S.x S.b d_Mpg_primary_113 rfl (lv_at hl 2 rfl) ?_
          refine gP_17 S hT hw 0 rfl m10_1 d_Mpg_primary_114 ?_
          refine lv_iload_n S.x S.b d_Mpg_primary_117 rfl (lv_at hl 0 rfl) ?_
          refine lv_aload_n S.x S.b d_Mpg_primary_118 rfl (lv_at hl 2 rfl) ?_
          first | refine th_calli (ps0 := [wdP cs h r g tf ta pf na ma wa cf ca ef ea xf xa]) (pr := []) (pcs := [wdP cs h r g tf ta pf86 na71 ma72 wa cf ca ef ea xf xa]) (As := []) (rest := [.int v74, .ref (r 17)]) ((hE.go (by omega)).1 h r g tf ta cf ca ef ea xf xa pf86 na71 ma72 wa   (show 0 ≤ (pf86 11).toInt from (oz_5322ca43be e89 e77 g0 e20)) (show (pf86 11).toInt < (tf 6).toInt from e90) (show (tf 6).toInt ≤ 2049 from g2) (show 0 ≤ (pf86 12).toInt from (oz_cf2f95fbac e93 e78 e23 g3)) (show (pf86 12).toInt ≤ 60 from (oz_6710fd9021 e93 e94)) (show 0 ≤ (pf86 13).toInt from (oz_18519da00e e95 e76 e24 g5)) (show (pf86 13).toInt ≤ (pf86 11).toInt + 20 from (oz_bf84bfeeaf e89 e95 e76 e77 g6 e20 e24)) (show 0 ≤ (pf86 26).toInt from (oz_11e71ee49a e98 e81 e27 g7)) (show (pf86 26).toInt ≤ (pf86 12).toInt from (oz_0c528c1a49 e93 e98 e78 e81 e23 e27 g8)) (show 61 ≤ (pf86 12).toInt + ((lv - 1 : Nat) : Int) from by omega) (show lv - 1 ≤ 61 from by omega) hlf htk (FsI.le (N' := (pf86 13).toInt) hfs (by omega))) S hT hw (oX_call (P := (fun A U H => (oN A U H) ∧ (oP A g U H))) (pr := []) (oG_and oG_N oG_P) hw hA ⟨hN, hP⟩) (px_recv hT hw 0 0 rfl rfl rfl) m12_38 m12_35 m12_37 ms_9_11 m1_21 q_Mpg_expression ⟨show (8 * (lv - 1) + 20) + 1 ≤ (8 * lv + 15) from by omega, show 8 + (7 + 11) + (220 * (lv - 1) + 720) ≤ (220 * lv + 570) from by omega⟩ hl.1 rfl (Nat.le_of_ble_eq_true rfl) d_Mpg_primary_119 ⟨Nat.le_of_ble_eq_true rfl, Nat.le_of_ble_eq_true rfl⟩ hne hlk hA hAe (fun o t h => Or.inr h) ?_ (fun v109 p108 H locs hp108 hw => ?_) | (refine th_calli (ps0 := [wdP cs h r g tf ta pf na ma wa cf ca ef ea xf xa]) (pr := []) (pcs := [wdP cs h r g tf ta pf86 na71 ma72 wa cf ca ef ea xf xa]) (As := []) (rest := [.int v74, .ref (r 17)]) ((hE.go (by omega)).1 h r g tf ta cf ca ef ea xf xa pf86 na71 ma72 wa   (show 0 ≤ (pf86 11).toInt from by first | exact oz_5322ca43be e89 e77 g0 e20 | omega) (show (pf86 11).toInt < (tf 6).toInt from by first | exact e90 | omega) (show (tf 6).toInt ≤ 2049 from by first | exact g2 | omega) (show 0 ≤ (pf86 12).toInt from by first | exact oz_cf2f95fbac e93 e78 e23 g3 | omega) (show (pf86 12).toInt ≤ 60 from by first | exact oz_6710fd9021 e93 e94 | omega) (show 0 ≤ (pf86 13).toInt from by first | exact oz_18519da00e e95 e76 e24 g5 | omega) (show (pf86 13).toInt ≤ (pf86 11).toInt + 20 from by first | exact oz_bf84bfeeaf e89 e95 e76 e77 g6 e20 e24 | omega) (show 0 ≤ (pf86 26).toInt from by first | exact oz_11e71ee49a e98 e81 e27 g7 | omega) (show (pf86 26).toInt ≤ (pf86 12).toInt from by first | exact oz_0c528c1a49 e93 e98 e78 e81 e23 e27 g8 | omega) (show 61 ≤ (pf86 12).toInt + ((lv - 1 : Nat) : Int) from by omega) (show lv - 1 ≤ 61 from by omega) hlf htk (FsI.le (N' := (pf86 13).toInt) hfs (by omega))) S hT hw (oX_call (P := (fun A U H => (oN A U H) ∧ (oP A g U H))) (pr := []) (oG_and oG_N oG_P) hw hA ⟨hN, hP⟩) (px_recv hT hw 0 0 rfl rfl rfl) m12_38 m12_35 m12_37 ms_9_11 m1_21 q_Mpg_expression ⟨show (8 * (lv - 1) + 20) + 1 ≤ (8 * lv + 15) from by omega, show 8 + (7 + 11) + (220 * (lv - 1) + 720) ≤ (220 * lv + 570) from by omega⟩ hl.1 rfl (Nat.le_of_ble_eq_true rfl) d_Mpg_primary_119 ⟨Nat.le_of_ble_eq_true rfl, Nat.le_of_ble_eq_true rfl⟩ hne hlk hA hAe (fun o t h => Or.inr h) ?_ (fun v109 p108 H locs hp108 hw => ?_))
          · exact fun p1 H1 locs1 hp hw => by obtain ⟨pq1, pq2, pq3, pq4, rfl, hq1, hq2, hq3⟩ := hp; (first | exact ⟨_, ⟨pq1, pq2, pq3, pq4, rfl, hq1, hq2, (Or.inl ⟨z1, ez1, Or.inl ⟨nc2, v8, e11, Or.inl ⟨nc12, Or.inr ⟨pf15, v17, e28, v33, e36, Or.inl ⟨nc37, v43, e46, Or.inr ⟨nc47, pf70, na71, ma72, v74, e83, Or.inr ⟨pf86, e99, Or.inl ⟨pq1, pq2, pq3, pq4, (up_RL_mp_expression (show 1 ≤ lv from (oz_6721671b0f g9 g4)) ▸ hq3), rfl, rfl, rfl, rfl, rfl, rfl⟩⟩⟩⟩⟩⟩⟩⟩)⟩, hw⟩ | (exact ⟨_, ⟨pq1, pq2, pq3, pq4, rfl, hq1, hq2, (Or.inl ⟨z1, ez1, Or.inl ⟨nc2, v8, e11, Or.inl ⟨nc12, Or.inr ⟨pf15, v17, e28, v33, e36, Or.inl ⟨nc37, v43, e46, Or.inr ⟨nc47, pf70, na71, ma72, v74, e83, Or.inr ⟨pf86, e99, Or.inl ⟨pq1, pq2, pq3, pq4, (up_RL_mp_expression (show 1 ≤ lv from by first | exact oz_6721671b0f g9 g4 | omega) ▸ hq3), rfl, rfl, rfl, rfl, rfl, rfl⟩⟩⟩⟩⟩⟩⟩⟩)⟩, hw⟩))
          obtain ⟨pf104, na105, ma106, wa107, rfl, e110, e111, e112, e113, e114, e115, e116, e117, e118, e119, e120, e121, e122, e123⟩ := hp108
          have e110 : (pf86 11).toInt + 1 ≤ (pf104 11).toInt := e110
          have e111 : (pf104 11).toInt < (tf 6).toInt := e111
          have e112 : (pf86 13).toInt + 1 ≤ (pf104 13).toInt := e112
          have e113 : (pf104 13).toInt - (pf86 13).toInt ≤ (pf104 11).toInt - (pf86 11).toInt := e113
          have e114 : bp ta (pf86 11) + 1 ≤ bp ta (pf104 11) := e114
          have e115 : (pf104 12).toInt = (pf86 12).toInt := e115
          have e116 : (pf104 24).toInt = (pf86 24).toInt := e116
          have e117 : (pf104 25).toInt = (pf86 25).toInt := e117
          have e118 : (pf104 26).toInt = (pf86 26).toInt := e118
          have e119 : FrB (pf86 13).toInt na71 ma72 na105 ma106 := e119
          have hnk_v74 := hnk_v74.kp e119 (by omega)
          have hfb := hfb.tr e119 (by omega)
          have e120 : FrW (pf86 26).toInt wa wa107 := e120
          have hfw := hfw.tr e120 (by omega)
          have e121 : ExR ta (tf 6).toInt na105 ma106 v109 (pf86 13).toInt (pf104 13).toInt (3 * (bp ta (pf104 11) - bp ta (pf86 11))) (pf86 12).toInt := e121
          have ht_v109 := e121
          have hn_ht_v109 := ht_v109.num
          have e122 : FsI (tf 6).toInt (pf104 13).toInt na105 := e122
          have hfs := e122
          have e123 : R_mp_expression (RL_mp_expression (lv - 1)) (RL_mp_conditional (lv - 1)) ta pf86 na71 ma72 wa pf104 na105 ma106 wa107 v109 0 := e123
          first | have e123L : (RL_mp_expression lv) ta pf86 na71 ma72 wa pf104 na105 ma106 wa107 v109 0 := up_RL_mp_expression (show 1 ≤ lv from (oz_6721671b0f g9 g4)) ▸ e123 | (have e123L : (RL_mp_expression lv) ta pf86 na71 ma72 wa pf104 na105 ma106 wa107 v109 0 := up_RL_mp_expression (show 1 ≤ lv from by first | exact oz_6721671b0f g9 g4 | omega) ▸ e123)
          have lv109 := Int32.le_toInt v109
          have uv109 := Int32.toInt_lt v109
          refine px_iast S hT hw 0 13 (n := 2100) (f := (na105 17)) (x := v74) (y := v109) rfl gp_17 (vp_in_iff.mpr (by constructor <;> omega)) d_Mpg_primary_122 (w' := wdP cs h r g tf ta pf104 (va_up na105 17 (upd (na105 17) v74.toNatClampNeg v109)) ma106 wa107 cf ca ef ea xf xa) (ps' := [wdP cs h r g tf ta pf104 (va_up na105 17 (upd (na105 17) v74.toNatClampNeg v109)) ma106 wa107 cf ca ef ea xf xa]) sp_17 rfl (fun H locs hw => ?_)
          refine lv_aload_n S.x S.b d_Mpg_primary_123 rfl (lv_at hl 2 rfl) ?_
          refine gP_23 S hT hw 0 rfl m10_11 d_Mpg_primary_124 ?_
          refine lv_iload_n S.x S.b d_Mpg_primary_127 rfl (lv_at hl 0 rfl) ?_
          refine lv_iconst (v := 1) S.x S.b d_Mpg_primary_128 (by decide) ?_
          refine lv_aload_n S.x S.b d_Mpg_primary_129 rfl (lv_at hl 2 rfl) ?_
          refine gP_23 S hT hw 0 rfl m10_11 d_Mpg_primary_130 ?_
          refine lv_aload_n S.x S.b d_Mpg_primary_133 rfl (lv_at hl 2 rfl) ?_
          refine gP_17 S hT hw 0 rfl m10_1 d_Mpg_primary_134 ?_
          refine lv_iload_n S.x S.b d_Mpg_primary_137 rfl (lv_at hl 0 rfl) ?_
          refine px_iald S hT hw 0 13 (n := 2100) (f := ((va_up na105 17 (upd (na105 17) v74.toNatClampNeg v109)) 17)) rfl gp_17 (x := v74) (vp_in_iff.mpr (by first | exact oz_81892ed073 e75 e24 g5 g6 e20 g2 e77 e89 e110 e111 | (constructor <;> omega))) d_Mpg_primary_138 ?_
          refine lv_topi (fun z124 ez124 => ?_)
          have lz124 := Int32.le_toInt z124
          have uz124 := Int32.toInt_lt z124
          have hsz124 : v109 = z124 := (by rw [ez124, va_up_s, pk_us]); subst hsz124
          refine px_iald S hT hw 0 19 (n := 2100) (f := ((va_up na105 17 (upd (na105 17) v74.toNatClampNeg v109)) 23)) rfl gp_23 (x := v109) (vp_in_iff.mpr (by first | exact oz_d4bfa098fc hn_ht_v109.1 e95 e76 e24 g5 hn_ht_v109.2.1 e113 e89 e111 g2 e77 g6 e20 | (constructor <;> omega))) d_Mpg_primary_139 ?_
          refine lv_topi (fun z125 ez125 => ?_)
          have lz125 := Int32.le_toInt z125
          have uz125 := Int32.toInt_lt z125
          have rz125 : z125.toInt = dp na105 v109 := by have q9 : z125.toInt = dp (va_up na105 17 (upd (na105 17) v74.toNatClampNeg v109)) v109 := (by rw [ez125]; rfl); rw [dp_un (by decide)] at q9; exact q9
          refine lv_iadd S.x S.b d_Mpg_primary_140 ?_
          refine lv_topi (fun z126 ez126 => ?_)
          have tz126 : z126.toInt = ((1 : Int) + z125.toInt + 2147483648) % 4294967296 - 2147483648 := by rw [ez126]; exact i_add 1 z125
          have lz126 := Int32.le_toInt z126
          have uz126 := Int32.toInt_lt z126
          try replace tz126 : z126.toInt = (1 : Int) + z125.toInt := by omega
          refine px_iast S hT hw 0 19 (n := 2100) (f := ((va_up na105 17 (upd (na105 17) v74.toNatClampNeg v109)) 23)) (x := v74) (y := z126) rfl gp_23 (vp_in_iff.mpr (by constructor <;> omega)) d_Mpg_primary_141 (w' := wdP cs h r g tf ta pf104 (va_up (va_up na105 17 (upd (na105 17) v74.toNatClampNeg v109)) 23 (upd ((va_up na105 17 (upd (na105 17) v74.toNatClampNeg v109)) 23) v74.toNatClampNeg z126)) ma106 wa107 cf ca ef ea xf xa) (ps' := [wdP cs h r g tf ta pf104 (va_up (va_up na105 17 (upd (na105 17) v74.toNatClampNeg v109)) 23 (upd ((va_up na105 17 (upd (na105 17) v74.toNatClampNeg v109)) 23) v74.toNatClampNeg z126)) ma106 wa107 cf ca ef ea xf xa]) sp_23 rfl (fun H locs hw => ?_)
          refine lv_aload_n S.x S.b d_Mpg_primary_142 rfl (lv_at hl 2 rfl) ?_
          obtain ⟨sk127, hRsk127, st128, hSsk127⟩ := oP_litB hP (k := 97) (tx := "]") (n := 1) (List.mem_of_getElem? (i := 40) rfl)
          refine va_ldcS S.x S.b S.own hRsk127 d_Mpg_primary_143 ?_
          first | refine th_callv (ps0 := [wdP cs h r g tf ta pf na ma wa cf ca ef ea xf xa]) (pr := []) (pcs := [wdP cs h r g tf ta pf104 (va_up (va_up na105 17 (upd (na105 17) v74.toNatClampNeg v109)) 23 (upd ((va_up na105 17 (upd (na105 17) v74.toNatClampNeg v109)) 23) v74.toNatClampNeg z126)) ma106 wa107 cf ca ef ea xf xa]) (As := [.ref sk127]) (rest := []) (c_mp_closes l D cs sk127 1 (lby "]") h r g tf ta (va_up (va_up na105 17 (upd (na105 17) v74.toNatClampNeg v109)) 23 (upd ((va_up na105 17 (upd (na105 17) v74.toNatClampNeg v109)) 23) v74.toNatClampNeg z126)) ma106 wa107 cf ca ef ea xf xa pf104   (show 0 ≤ (pf104 11).toInt from (oz_519ae28419 e110 e89 g0 e20 e77)) (show (pf104 11).toInt < (tf 6).toInt from e111) (show (tf 6).toInt ≤ 2049 from g2) (show 1 ≤ (pf104 12).toInt from (oz_dcaedb610d e115 e93 e78 e23 g8 g7)) (show (pf104 12).toInt ≤ 60 from (oz_1a76b13bbc e115 e93 e94)) (show 1 ≤ 100 from by omega) hlf htk) S hT hw (oX_call (P := (fun A U H => (oN A U H) ∧ (oP A g U H) ∧ (StLt A sk127 1 (lby "]") U H))) (pr := []) (oG_and oG_N (oG_and oG_P oG_QB)) hw hA ⟨hN, hP, ⟨_, hSsk127⟩⟩) (px_recv hT hw 0 0 rfl rfl rfl) m12_53 m12_50 m12_52 ms_9_14 m1_21 q_Mpg_closes ⟨show 8 + 1 ≤ (8 * lv + 15) from (oz_e60676d27e), show 8 + (2 + 11) + 280 ≤ (220 * lv + 570) from (oz_9b9b709ee6)⟩ hl.1 rfl (Nat.le_of_ble_eq_true rfl) d_Mpg_primary_145 ⟨Nat.le_of_ble_eq_true rfl, Nat.le_of_ble_eq_true rfl⟩ hne hlk hA hAe (fun o t h => Or.inr h) ?_ (fun p132 H locs hp132 hw => ?_) | (refine th_callv (ps0 := [wdP cs h r g tf ta pf na ma wa cf ca ef ea xf xa]) (pr := []) (pcs := [wdP cs h r g tf ta pf104 (va_up (va_up na105 17 (upd (na105 17) v74.toNatClampNeg v109)) 23 (upd ((va_up na105 17 (upd (na105 17) v74.toNatClampNeg v109)) 23) v74.toNatClampNeg z126)) ma106 wa107 cf ca ef ea xf xa]) (As := [.ref sk127]) (rest := []) (c_mp_closes l D cs sk127 1 (lby "]") h r g tf ta (va_up (va_up na105 17 (upd (na105 17) v74.toNatClampNeg v109)) 23 (upd ((va_up na105 17 (upd (na105 17) v74.toNatClampNeg v109)) 23) v74.toNatClampNeg z126)) ma106 wa107 cf ca ef ea xf xa pf104   (show 0 ≤ (pf104 11).toInt from by first | exact oz_519ae28419 e110 e89 g0 e20 e77 | omega) (show (pf104 11).toInt < (tf 6).toInt from by first | exact e111 | omega) (show (tf 6).toInt ≤ 2049 from by first | exact g2 | omega) (show 1 ≤ (pf104 12).toInt from by first | exact oz_dcaedb610d e115 e93 e78 e23 g8 g7 | omega) (show (pf104 12).toInt ≤ 60 from by first | exact oz_1a76b13bbc e115 e93 e94 | omega) (show 1 ≤ 100 from by omega) hlf htk) S hT hw (oX_call (P := (fun A U H => (oN A U H) ∧ (oP A g U H) ∧ (StLt A sk127 1 (lby "]") U H))) (pr := []) (oG_and oG_N (oG_and oG_P oG_QB)) hw hA ⟨hN, hP, ⟨_, hSsk127⟩⟩) (px_recv hT hw 0 0 rfl rfl rfl) m12_53 m12_50 m12_52 ms_9_14 m1_21 q_Mpg_closes ⟨show 8 + 1 ≤ (8 * lv + 15) from (by first | exact oz_e60676d27e | omega), show 8 + (2 + 11) + 280 ≤ (220 * lv + 570) from (by first | exact oz_9b9b709ee6 | omega)⟩ hl.1 rfl (Nat.le_of_ble_eq_true rfl) d_Mpg_primary_145 ⟨Nat.le_of_ble_eq_true rfl, Nat.le_of_ble_eq_true rfl⟩ hne hlk hA hAe (fun o t h => Or.inr h) ?_ (fun p132 H locs hp132 hw => ?_))
          · exact fun p1 H1 locs1 hp hw => by obtain ⟨pq1, pq2, pq3, pq4, rfl, hq1, hq2, hu_na, hu_ma, hu_wa, hq3⟩ := hp; exact ⟨_, ⟨pq1, pq2, pq3, pq4, rfl, hq1, hq2, (Or.inl ⟨z1, ez1, Or.inl ⟨nc2, v8, e11, Or.inl ⟨nc12, Or.inr ⟨pf15, v17, e28, v33, e36, Or.inl ⟨nc37, v43, e46, Or.inr ⟨nc47, pf70, na71, ma72, v74, e83, Or.inr ⟨pf86, e99, Or.inr ⟨pf104, na105, ma106, wa107, v109, e123L, v109, ez124, z125, ez125, z126, ez126, Or.inl ⟨pq1, hq3, rfl, hu_na, hu_ma, hu_wa, rfl, rfl⟩⟩⟩⟩⟩⟩⟩⟩⟩)⟩, hw⟩
          obtain ⟨pf131, rfl, e134, e135, e136, e137, e138, e139, e140, e141, e142⟩ := hp132
          have e134 : (pf131 11).toInt = (pf104 11).toInt + 1 := e134
          have e135 : (pf131 11).toInt < (tf 6).toInt := e135
          have e136 : bp ta (pf104 11) + 1 ≤ bp ta (pf131 11) := e136
          have e137 : (pf131 12).toInt = (pf104 12).toInt - 1 := e137
          have e138 : (pf131 13).toInt = (pf104 13).toInt := e138
          have e139 : (pf131 24).toInt = (pf104 24).toInt := e139
          have e140 : (pf131 25).toInt = (pf104 25).toInt := e140
          have e141 : (pf131 26).toInt = (pf104 26).toInt := e141
          have e142 : R_mp_closes 1 (lby "]") ta pf104 pf131 0 := e142
          refine lv_iload_n S.x S.b d_Mpg_primary_148 rfl (lv_at hl 0 rfl) ?_
          first | exact th_iret (v := v74) S hr rfl hlk hAe hw (⟨pf131, (va_up (va_up na105 17 (upd (na105 17) v74.toNatClampNeg v109)) 23 (upd ((va_up na105 17 (upd (na105 17) v74.toNatClampNeg v109)) 23) v74.toNatClampNeg z126)), ma106, wa107, rfl, (show (pf 11).toInt + 1 ≤ (pf131 11).toInt from (oz_1e356fea56 e20 e134 e77 e110 e89)), (show (pf131 11).toInt < (tf 6).toInt from e135), (show (pf 13).toInt + 1 ≤ (pf131 13).toInt from (oz_a035d58e61 e24 e138 e76 e112 e95)), (show (pf131 13).toInt - (pf 13).toInt ≤ (pf131 11).toInt - (pf 11).toInt from (oz_c43a9ae0a0 e20 e24 e134 e138 e76 e77 e113 e89 e95)), (show bp ta (pf 11) + 1 ≤ bp ta (pf131 11) from (oz_1950e1fb70 e22 e136 qb841 e114 e91 e92)), (show (pf131 12).toInt = (pf 12).toInt from (oz_313281b214 e23 e137 e78 e115 e93)), (show (pf131 24).toInt = (pf 24).toInt from (oz_0867352dd7 e25 e139 e79 e116 e96)), (show (pf131 25).toInt = (pf 25).toInt from (oz_0867352dd7 e26 e140 e80 e117 e97)), (show (pf131 26).toInt = (pf 26).toInt from (oz_0867352dd7 e27 e141 e81 e118 e98)), (show FrB (pf 13).toInt na ma (va_up (va_up na105 17 (upd (na105 17) v74.toNatClampNeg v109)) 23 (upd ((va_up na105 17 (upd (na105 17) v74.toNatClampNeg v109)) 23) v74.toNatClampNeg z126)) ma106 from (FrB.un (FrB.un hfb (by omega) (by omega)) (by omega) (by omega))), (show FrW (pf 26).toInt wa wa107 from hfw), (show ExR ta (tf 6).toInt (va_up (va_up na105 17 (upd (na105 17) v74.toNatClampNeg v109)) 23 (upd ((va_up na105 17 (upd (na105 17) v74.toNatClampNeg v109)) 23) v74.toNatClampNeg z126)) ma106 v74 (pf 13).toInt (pf131 13).toInt (3 * (bp ta (pf131 11) - bp ta (pf 11))) (pf 12).toInt from (ExR.le (exr_index ht_v109 (by omega) (by omega) (fun x hx => ⟨fun j => by rw [up_far hx, up_far hx], fun _ => rfl⟩) (by rw [va_up_n (by decide), va_up_n (by decide), hnk_v74.1]; rfl) (ndt_of (by rw [va_up_n (by decide), va_up_n (by decide), hnk_v74.2.1]) (by omega) (by omega) hso) (by rw [va_up_n (by decide), va_up_s, pk_us]) (by rw [dp_us]; omega) ⟨(by rw [va_up_n (by decide), va_up_n (by decide), hnk_v74.2.2.1]; decide), (by rw [hnk_v74.2.2.2.2]; decide)⟩ (show (pf 12).toInt + 1 ≤ _ from by omega)) (by omega) (by omega) (by omega) (Int.le_refl _))), (show FsI (tf 6).toInt (pf131 13).toInt (va_up (va_up na105 17 (upd (na105 17) v74.toNatClampNeg v109)) 23 (upd ((va_up na105 17 (upd (na105 17) v74.toNatClampNeg v109)) 23) v74.toNatClampNeg z126)) from (FsI.le (FsI.un (FsI.un hfs (by decide)) (by decide)) (by omega))), (show R_mp_primary (RL_mp_expression lv) (RL_mp_conditional lv) ta pf na ma wa pf131 (va_up (va_up na105 17 (upd (na105 17) v74.toNatClampNeg v109)) 23 (upd ((va_up na105 17 (upd (na105 17) v74.toNatClampNeg v109)) 23) v74.toNatClampNeg z126)) ma106 wa107 v74 0 from (Or.inl ⟨z1, ez1, Or.inl ⟨nc2, v8, e11, Or.inl ⟨nc12, Or.inr ⟨pf15, v17, e28, v33, e36, Or.inl ⟨nc37, v43, e46, Or.inr ⟨nc47, pf70, na71, ma72, v74, e83, Or.inr ⟨pf86, e99, Or.inr ⟨pf104, na105, ma106, wa107, v109, e123L, v109, ez124, z125, ez125, z126, ez126, Or.inr ⟨pf131, e142, rfl, rfl, rfl, rfl, rfl, rfl⟩⟩⟩⟩⟩⟩⟩⟩⟩))⟩) d_Mpg_primary_149 | (exact th_iret (v := v74) S hr rfl hlk hAe hw (⟨pf131, (va_up (va_up na105 17 (upd (na105 17) v74.toNatClampNeg v109)) 23 (upd ((va_up na105 17 (upd (na105 17) v74.toNatClampNeg v109)) 23) v74.toNatClampNeg z126)), ma106, wa107, rfl, (show (pf 11).toInt + 1 ≤ (pf131 11).toInt from by first | exact oz_1e356fea56 e20 e134 e77 e110 e89 | omega), (show (pf131 11).toInt < (tf 6).toInt from by first | exact e135 | omega), (show (pf 13).toInt + 1 ≤ (pf131 13).toInt from by first | exact oz_a035d58e61 e24 e138 e76 e112 e95 | omega), (show (pf131 13).toInt - (pf 13).toInt ≤ (pf131 11).toInt - (pf 11).toInt from by first | exact oz_c43a9ae0a0 e20 e24 e134 e138 e76 e77 e113 e89 e95 | omega), (show bp ta (pf 11) + 1 ≤ bp ta (pf131 11) from by first | exact oz_1950e1fb70 e22 e136 qb841 e114 e91 e92 | omega), (show (pf131 12).toInt = (pf 12).toInt from by first | exact oz_313281b214 e23 e137 e78 e115 e93 | omega), (show (pf131 24).toInt = (pf 24).toInt from by first | exact oz_0867352dd7 e25 e139 e79 e116 e96 | omega), (show (pf131 25).toInt = (pf 25).toInt from by first | exact oz_0867352dd7 e26 e140 e80 e117 e97 | omega), (show (pf131 26).toInt = (pf 26).toInt from by first | exact oz_0867352dd7 e27 e141 e81 e118 e98 | omega), (show FrB (pf 13).toInt na ma (va_up (va_up na105 17 (upd (na105 17) v74.toNatClampNeg v109)) 23 (upd ((va_up na105 17 (upd (na105 17) v74.toNatClampNeg v109)) 23) v74.toNatClampNeg z126)) ma106 from (FrB.un (FrB.un hfb (by omega) (by omega)) (by omega) (by omega))), (show FrW (pf 26).toInt wa wa107 from hfw), (show ExR ta (tf 6).toInt (va_up (va_up na105 17 (upd (na105 17) v74.toNatClampNeg v109)) 23 (upd ((va_up na105 17 (upd (na105 17) v74.toNatClampNeg v109)) 23) v74.toNatClampNeg z126)) ma106 v74 (pf 13).toInt (pf131 13).toInt (3 * (bp ta (pf131 11) - bp ta (pf 11))) (pf 12).toInt from (ExR.le (exr_index ht_v109 (by omega) (by omega) (fun x hx => ⟨fun j => by rw [up_far hx, up_far hx], fun _ => rfl⟩) (by rw [va_up_n (by decide), va_up_n (by decide), hnk_v74.1]; rfl) (ndt_of (by rw [va_up_n (by decide), va_up_n (by decide), hnk_v74.2.1]) (by omega) (by omega) hso) (by rw [va_up_n (by decide), va_up_s, pk_us]) (by rw [dp_us]; omega) ⟨(by rw [va_up_n (by decide), va_up_n (by decide), hnk_v74.2.2.1]; decide), (by rw [hnk_v74.2.2.2.2]; decide)⟩ (show (pf 12).toInt + 1 ≤ _ from by omega)) (by omega) (by omega) (by omega) (Int.le_refl _))), (show FsI (tf 6).toInt (pf131 13).toInt (va_up (va_up na105 17 (upd (na105 17) v74.toNatClampNeg v109)) 23 (upd ((va_up na105 17 (upd (na105 17) v74.toNatClampNeg v109)) 23) v74.toNatClampNeg z126)) from (FsI.le (FsI.un (FsI.un hfs (by decide)) (by decide)) (by omega))), (show R_mp_primary (RL_mp_expression lv) (RL_mp_conditional lv) ta pf na ma wa pf131 (va_up (va_up na105 17 (upd (na105 17) v74.toNatClampNeg v109)) 23 (upd ((va_up na105 17 (upd (na105 17) v74.toNatClampNeg v109)) 23) v74.toNatClampNeg z126)) ma106 wa107 v74 0 from (Or.inl ⟨z1, ez1, Or.inl ⟨nc2, v8, e11, Or.inl ⟨nc12, Or.inr ⟨pf15, v17, e28, v33, e36, Or.inl ⟨nc37, v43, e46, Or.inr ⟨nc47, pf70, na71, ma72, v74, e83, Or.inr ⟨pf86, e99, Or.inr ⟨pf104, na105, ma106, wa107, v109, e123L, v109, ez124, z125, ez125, z126, ez126, Or.inr ⟨pf131, e142, rfl, rfl, rfl, rfl, rfl, rfl⟩⟩⟩⟩⟩⟩⟩⟩⟩))⟩) d_Mpg_primary_149)
      · have nc37 : ¬ v33.toInt = (0 : Int) := mt (i_eq (x := v33) (y := 0)).mpr c37
        refine lv_aload_n S.x S.b d_Mpg_primary_87 rfl (lv_at hl 1 rfl) ?_
        refine lv_iload_n S.x S.b d_Mpg_primary_88 rfl (lv_at hl 0 rfl) ?_
        first | refine th_calli (ps0 := [wdP cs h r g tf ta pf na ma wa cf ca ef ea xf xa]) (pr := []) (pcs := [wdP cs h r g tf ta pf15 na ma wa cf ca ef ea xf xa]) (As := [.int v17]) (rest := []) (c_mp_call l D cs h r g tf ta cf ca ef ea xf xa pf15 na ma wa v17 lv (show 0 ≤ (pf15 11).toInt from (oz_ae613611c0 e20 g0)) (show (pf15 11).toInt < (tf 6).toInt from e21) (show (tf 6).toInt ≤ 2049 from g2) (show 0 ≤ (pf15 12).toInt from (oz_f3ebed1ad0 e23 g3)) (show (pf15 12).toInt ≤ 60 from (oz_a3db38fa3c e23 g4)) (show 0 ≤ (pf15 13).toInt from (oz_f3ebed1ad0 e24 g5)) (show (pf15 13).toInt ≤ (pf15 11).toInt + 20 from (oz_7ba96ac489 e20 e24 g6)) (show 0 ≤ (pf15 26).toInt from (oz_f3ebed1ad0 e27 g7)) (show (pf15 26).toInt ≤ (pf15 12).toInt from (oz_508dc9c651 e23 e27 g8)) (show 61 ≤ (pf15 12).toInt + (lv : Int) from (oz_13a538c620 g9 e23)) (show lv ≤ 61 from g10) (show 0 ≤ v17.toInt from (oz_f3ebed1ad0 e18 g0)) (show v17.toInt < (tf 6).toInt from (oz_7faa3985b4 e18 e21 e20)) (show so ta v17 = 1 from hso) (show (pf15 11).toInt + 1 < (tf 6).toInt from by omega) hlf htk (FsI.le (N' := (pf15 13).toInt) hfs (by omega)) hE) S hT hw (oX_call (P := (fun A U H => (oN A U H) ∧ (oP A g U H))) (pr := []) (oG_and oG_N oG_P) hw hA ⟨hN, hP⟩) (px_recv hT hw 0 0 rfl rfl rfl) m12_61 m12_58 m12_60 ms_10_0 m1_21 q_Mpg_call ⟨show (8 * lv + 14) + 1 ≤ (8 * lv + 15) from (oz_9dcc9d0cd0), show 8 + (5 + 11) + (220 * lv + 540) ≤ (220 * lv + 570) from (oz_297b1c1cd1)⟩ hl.1 rfl (Nat.le_of_ble_eq_true rfl) d_Mpg_primary_89 ⟨Nat.le_of_ble_eq_true rfl, Nat.le_of_ble_eq_true rfl⟩ hne hlk hA hAe (fun o t h => Or.inr h) ?_ (fun v152 p151 H locs hp151 hw => ?_) | (refine th_calli (ps0 := [wdP cs h r g tf ta pf na ma wa cf ca ef ea xf xa]) (pr := []) (pcs := [wdP cs h r g tf ta pf15 na ma wa cf ca ef ea xf xa]) (As := [.int v17]) (rest := []) (c_mp_call l D cs h r g tf ta cf ca ef ea xf xa pf15 na ma wa v17 lv (show 0 ≤ (pf15 11).toInt from by first | exact oz_ae613611c0 e20 g0 | omega) (show (pf15 11).toInt < (tf 6).toInt from by first | exact e21 | omega) (show (tf 6).toInt ≤ 2049 from by first | exact g2 | omega) (show 0 ≤ (pf15 12).toInt from by first | exact oz_f3ebed1ad0 e23 g3 | omega) (show (pf15 12).toInt ≤ 60 from by first | exact oz_a3db38fa3c e23 g4 | omega) (show 0 ≤ (pf15 13).toInt from by first | exact oz_f3ebed1ad0 e24 g5 | omega) (show (pf15 13).toInt ≤ (pf15 11).toInt + 20 from by first | exact oz_7ba96ac489 e20 e24 g6 | omega) (show 0 ≤ (pf15 26).toInt from by first | exact oz_f3ebed1ad0 e27 g7 | omega) (show (pf15 26).toInt ≤ (pf15 12).toInt from by first | exact oz_508dc9c651 e23 e27 g8 | omega) (show 61 ≤ (pf15 12).toInt + (lv : Int) from by first | exact oz_13a538c620 g9 e23 | omega) (show lv ≤ 61 from by first | exact g10 | omega) (show 0 ≤ v17.toInt from by first | exact oz_f3ebed1ad0 e18 g0 | omega) (show v17.toInt < (tf 6).toInt from by first | exact oz_7faa3985b4 e18 e21 e20 | omega) (show so ta v17 = 1 from by first | exact hso | omega) (show (pf15 11).toInt + 1 < (tf 6).toInt from by omega) hlf htk (FsI.le (N' := (pf15 13).toInt) hfs (by omega)) hE) S hT hw (oX_call (P := (fun A U H => (oN A U H) ∧ (oP A g U H))) (pr := []) (oG_and oG_N oG_P) hw hA ⟨hN, hP⟩) (px_recv hT hw 0 0 rfl rfl rfl) m12_61 m12_58 m12_60 ms_10_0 m1_21 q_Mpg_call ⟨show (8 * lv + 14) + 1 ≤ (8 * lv + 15) from (by first | exact oz_9dcc9d0cd0 | omega), show 8 + (5 + 11) + (220 * lv + 540) ≤ (220 * lv + 570) from (by first | exact oz_297b1c1cd1 | omega)⟩ hl.1 rfl (Nat.le_of_ble_eq_true rfl) d_Mpg_primary_89 ⟨Nat.le_of_ble_eq_true rfl, Nat.le_of_ble_eq_true rfl⟩ hne hlk hA hAe (fun o t h => Or.inr h) ?_ (fun v152 p151 H locs hp151 hw => ?_))
        · exact fun p1 H1 locs1 hp hw => by obtain ⟨pq1, pq2, pq3, pq4, rfl, hq1, hq2, hq3⟩ := hp; exact ⟨_, ⟨pq1, pq2, pq3, pq4, rfl, hq1, hq2, (Or.inl ⟨z1, ez1, Or.inl ⟨nc2, v8, e11, Or.inl ⟨nc12, Or.inr ⟨pf15, v17, e28, v33, e36, Or.inr ⟨nc37, Or.inl ⟨pq1, pq2, pq3, pq4, hq3, rfl, rfl, rfl, rfl, rfl, rfl⟩⟩⟩⟩⟩⟩)⟩, hw⟩
        obtain ⟨pf147, na148, ma149, wa150, rfl, e153, e154, e155, e156, e157, e158, e159, e160, e161, e162, e163, e164, e165, e166⟩ := hp151
        have e153 : (pf15 11).toInt + 1 ≤ (pf147 11).toInt := e153
        have e154 : (pf147 11).toInt < (tf 6).toInt := e154
        have e155 : (pf15 13).toInt + 1 ≤ (pf147 13).toInt := e155
        have e156 : (pf147 13).toInt - (pf15 13).toInt ≤ (pf147 11).toInt - (pf15 11).toInt := e156
        have e157 : bp ta (pf15 11) + 1 ≤ bp ta (pf147 11) := e157
        have e158 : (pf147 12).toInt = (pf15 12).toInt := e158
        have e159 : (pf147 24).toInt = (pf15 24).toInt := e159
        have e160 : (pf147 25).toInt = (pf15 25).toInt := e160
        have e161 : (pf147 26).toInt = (pf15 26).toInt := e161
        have e162 : FrB (pf15 13).toInt na ma na148 ma149 := e162
        have hfb := hfb.tr e162 (by omega)
        have e163 : FrW (pf15 26).toInt wa wa150 := e163
        have hfw := hfw.tr e163 (by omega)
        have e164 : ExR ta (tf 6).toInt na148 ma149 v152 (pf15 13).toInt (pf147 13).toInt (3 * (bp ta (pf147 11) - bp ta (pf15 11))) (pf15 12).toInt := e164
        have ht_v152 := e164
        have hn_ht_v152 := ht_v152.num
        have e165 : FsI (tf 6).toInt (pf147 13).toInt na148 := e165
        have hfs := e165
        have e166 : R_mp_call (RL_mp_expression lv) (RL_mp_conditional lv) ta v17 pf15 na ma wa pf147 na148 ma149 wa150 v152 0 := e166
        have lv152 := Int32.le_toInt v152
        have uv152 := Int32.toInt_lt v152
        first | exact th_iret (v := v152) S hr rfl hlk hAe hw (⟨pf147, na148, ma149, wa150, rfl, (show (pf 11).toInt + 1 ≤ (pf147 11).toInt from (oz_36ba723014 e20 e153)), (show (pf147 11).toInt < (tf 6).toInt from e154), (show (pf 13).toInt + 1 ≤ (pf147 13).toInt from (oz_4495b4e10b e24 e155)), (show (pf147 13).toInt - (pf 13).toInt ≤ (pf147 11).toInt - (pf 11).toInt from (oz_44664987d4 e20 e24 e156)), (show bp ta (pf 11) + 1 ≤ bp ta (pf147 11) from (oz_132e547139 e22 e157)), (show (pf147 12).toInt = (pf 12).toInt from (oz_1687f4cc65 e23 e158)), (show (pf147 24).toInt = (pf 24).toInt from (oz_1687f4cc65 e25 e159)), (show (pf147 25).toInt = (pf 25).toInt from (oz_1687f4cc65 e26 e160)), (show (pf147 26).toInt = (pf 26).toInt from (oz_1687f4cc65 e27 e161)), (show FrB (pf 13).toInt na ma na148 ma149 from hfb), (show FrW (pf 26).toInt wa wa150 from hfw), (show ExR ta (tf 6).toInt na148 ma149 v152 (pf 13).toInt (pf147 13).toInt (3 * (bp ta (pf147 11) - bp ta (pf 11))) (pf 12).toInt from (ExR.le ht_v152 (by omega) (by omega) (by omega) (by omega))), (show FsI (tf 6).toInt (pf147 13).toInt na148 from (FsI.le hfs (by omega))), (show R_mp_primary (RL_mp_expression lv) (RL_mp_conditional lv) ta pf na ma wa pf147 na148 ma149 wa150 v152 0 from (Or.inl ⟨z1, ez1, Or.inl ⟨nc2, v8, e11, Or.inl ⟨nc12, Or.inr ⟨pf15, v17, e28, v33, e36, Or.inr ⟨nc37, Or.inr ⟨pf147, na148, ma149, wa150, v152, e166, rfl, rfl, rfl, rfl, rfl, rfl⟩⟩⟩⟩⟩⟩))⟩) d_Mpg_primary_92 | (exact th_iret (v := v152) S hr rfl hlk hAe hw (⟨pf147, na148, ma149, wa150, rfl, (show (pf 11).toInt + 1 ≤ (pf147 11).toInt from by first | exact oz_36ba723014 e20 e153 | omega), (show (pf147 11).toInt < (tf 6).toInt from by first | exact e154 | omega), (show (pf 13).toInt + 1 ≤ (pf147 13).toInt from by first | exact oz_4495b4e10b e24 e155 | omega), (show (pf147 13).toInt - (pf 13).toInt ≤ (pf147 11).toInt - (pf 11).toInt from by first | exact oz_44664987d4 e20 e24 e156 | omega), (show bp ta (pf 11) + 1 ≤ bp ta (pf147 11) from by first | exact oz_132e547139 e22 e157 | omega), (show (pf147 12).toInt = (pf 12).toInt from by first | exact oz_1687f4cc65 e23 e158 | omega), (show (pf147 24).toInt = (pf 24).toInt from by first | exact oz_1687f4cc65 e25 e159 | omega), (show (pf147 25).toInt = (pf 25).toInt from by first | exact oz_1687f4cc65 e26 e160 | omega), (show (pf147 26).toInt = (pf 26).toInt from by first | exact oz_1687f4cc65 e27 e161 | omega), (show FrB (pf 13).toInt na ma na148 ma149 from hfb), (show FrW (pf 26).toInt wa wa150 from hfw), (show ExR ta (tf 6).toInt na148 ma149 v152 (pf 13).toInt (pf147 13).toInt (3 * (bp ta (pf147 11) - bp ta (pf 11))) (pf 12).toInt from (ExR.le ht_v152 (by omega) (by omega) (by omega) (by omega))), (show FsI (tf 6).toInt (pf147 13).toInt na148 from (FsI.le hfs (by omega))), (show R_mp_primary (RL_mp_expression lv) (RL_mp_conditional lv) ta pf na ma wa pf147 na148 ma149 wa150 v152 0 from (Or.inl ⟨z1, ez1, Or.inl ⟨nc2, v8, e11, Or.inl ⟨nc12, Or.inr ⟨pf15, v17, e28, v33, e36, Or.inr ⟨nc37, Or.inr ⟨pf147, na148, ma149, wa150, v152, e166, rfl, rfl, rfl, rfl, rfl, rfl⟩⟩⟩⟩⟩⟩))⟩) d_Mpg_primary_92)
    · have nc12 : ¬ v8.toInt = (0 : Int) := mt (i_eq (x := v8) (y := 0)).mpr c12
      refine lv_aload_n S.x S.b d_Mpg_primary_44 rfl (lv_at hl 0 rfl) ?_
      refine gP_11 (v := (pf 11)) S hT hw 0 rfl rfl m9_235 d_Mpg_primary_45 ?_
      refine lv_istore_n (lv' := [(1, .int (pf 11)), (0, .ref h)]) S.x S.b d_Mpg_primary_48 rfl hl (by decide) rfl (fun ls hl => ?_)
      refine lv_aload_n S.x S.b d_Mpg_primary_49 rfl (lv_at hl 1 rfl) ?_
      first | refine th_callv (ps0 := [wdP cs h r g tf ta pf na ma wa cf ca ef ea xf xa]) (pr := []) (pcs := [wdP cs h r g tf ta pf na ma wa cf ca ef ea xf xa]) (As := []) (rest := []) (c_mp_opens l D cs h r g tf ta na ma wa cf ca ef ea xf xa pf   (show 0 ≤ (pf 11).toInt from g0) (show (pf 11).toInt < (tf 6).toInt from g1) (show (tf 6).toInt ≤ 2049 from g2) (show (pf 11).toInt + 1 < (tf 6).toInt from by omega) (show 0 ≤ (pf 12).toInt from g3) (show (pf 12).toInt ≤ 60 from g4) hlf htk) S hT hw (oX_call (P := (fun A U H => (oN A U H) ∧ (oP A g U H))) (pr := []) (oG_and oG_N oG_P) hw hA ⟨hN, hP⟩) (px_recv hT hw 0 0 rfl rfl rfl) m11_238 m11_235 m11_237 ms_9_1 m1_21 q_Mpg_opens ⟨show 7 + 1 ≤ (8 * lv + 15) from (oz_cdd738e762), show 8 + (1 + 11) + 150 ≤ (220 * lv + 570) from (oz_84593d395f)⟩ hl.1 rfl (Nat.le_of_ble_eq_true rfl) d_Mpg_primary_50 ⟨Nat.le_of_ble_eq_true rfl, Nat.le_of_ble_eq_true rfl⟩ hne hlk hA hAe (fun o t h => Or.inr h) ?_ (fun p169 H locs hp169 hw => ?_) | (refine th_callv (ps0 := [wdP cs h r g tf ta pf na ma wa cf ca ef ea xf xa]) (pr := []) (pcs := [wdP cs h r g tf ta pf na ma wa cf ca ef ea xf xa]) (As := []) (rest := []) (c_mp_opens l D cs h r g tf ta na ma wa cf ca ef ea xf xa pf   (show 0 ≤ (pf 11).toInt from by first | exact g0 | omega) (show (pf 11).toInt < (tf 6).toInt from by first | exact g1 | omega) (show (tf 6).toInt ≤ 2049 from by first | exact g2 | omega) (show (pf 11).toInt + 1 < (tf 6).toInt from by omega) (show 0 ≤ (pf 12).toInt from by first | exact g3 | omega) (show (pf 12).toInt ≤ 60 from by first | exact g4 | omega) hlf htk) S hT hw (oX_call (P := (fun A U H => (oN A U H) ∧ (oP A g U H))) (pr := []) (oG_and oG_N oG_P) hw hA ⟨hN, hP⟩) (px_recv hT hw 0 0 rfl rfl rfl) m11_238 m11_235 m11_237 ms_9_1 m1_21 q_Mpg_opens ⟨show 7 + 1 ≤ (8 * lv + 15) from (by first | exact oz_cdd738e762 | omega), show 8 + (1 + 11) + 150 ≤ (220 * lv + 570) from (by first | exact oz_84593d395f | omega)⟩ hl.1 rfl (Nat.le_of_ble_eq_true rfl) d_Mpg_primary_50 ⟨Nat.le_of_ble_eq_true rfl, Nat.le_of_ble_eq_true rfl⟩ hne hlk hA hAe (fun o t h => Or.inr h) ?_ (fun p169 H locs hp169 hw => ?_))
      · exact fun p1 H1 locs1 hp hw => by obtain ⟨pq1, pq2, pq3, pq4, rfl, hq1, hq2, hu_na, hu_ma, hu_wa, hq3⟩ := hp; exact ⟨_, ⟨pq1, pq2, pq3, pq4, rfl, hq1, hq2, (Or.inl ⟨z1, ez1, Or.inl ⟨nc2, v8, e11, Or.inr ⟨nc12, Or.inl ⟨pq1, hq3, rfl, hu_na, hu_ma, hu_wa, rfl, rfl⟩⟩⟩⟩)⟩, hw⟩
      obtain ⟨pf168, rfl, e171, e172, e173, e174, e175, e176, e177, e178, e179, e180, e181⟩ := hp169
      have e171 : (pf168 11).toInt = (pf 11).toInt + 1 := e171
      have e172 : (pf168 11).toInt < (tf 6).toInt := e172
      have e173 : bp ta (pf 11) + sz ta (pf 11) ≤ bp ta (pf168 11) := e173
      have e174 : 1 ≤ sz ta (pf 11) := e174
      have e175 : (pf168 12).toInt = (pf 12).toInt + 1 := e175
      have e176 : (pf 12).toInt < 60 := e176
      have e177 : (pf168 13).toInt = (pf 13).toInt := e177
      have e178 : (pf168 24).toInt = (pf 24).toInt := e178
      have e179 : (pf168 25).toInt = (pf 25).toInt := e179
      have e180 : (pf168 26).toInt = (pf 26).toInt := e180
      have e181 : R_mp_opens pf pf168 0 := e181
      refine lv_aload_n S.x S.b d_Mpg_primary_53 rfl (lv_at hl 1 rfl) ?_
      first | refine th_calli (ps0 := [wdP cs h r g tf ta pf na ma wa cf ca ef ea xf xa]) (pr := []) (pcs := [wdP cs h r g tf ta pf168 na ma wa cf ca ef ea xf xa]) (As := []) (rest := []) ((hE.go (by omega)).1 h r g tf ta cf ca ef ea xf xa pf168 na ma wa   (show 0 ≤ (pf168 11).toInt from (oz_ae613611c0 e171 g0)) (show (pf168 11).toInt < (tf 6).toInt from e172) (show (tf 6).toInt ≤ 2049 from g2) (show 0 ≤ (pf168 12).toInt from (oz_ae613611c0 e175 g3)) (show (pf168 12).toInt ≤ 60 from (oz_6710fd9021 e175 e176)) (show 0 ≤ (pf168 13).toInt from (oz_f3ebed1ad0 e177 g5)) (show (pf168 13).toInt ≤ (pf168 11).toInt + 20 from (oz_7ba96ac489 e171 e177 g6)) (show 0 ≤ (pf168 26).toInt from (oz_f3ebed1ad0 e180 g7)) (show (pf168 26).toInt ≤ (pf168 12).toInt from (oz_d87b110ba5 e175 e180 g8)) (show 61 ≤ (pf168 12).toInt + ((lv - 1 : Nat) : Int) from by omega) (show lv - 1 ≤ 61 from by omega) hlf htk (FsI.le (N' := (pf168 13).toInt) hfs (by omega))) S hT hw (oX_call (P := (fun A U H => (oN A U H) ∧ (oP A g U H))) (pr := []) (oG_and oG_N oG_P) hw hA ⟨hN, hP⟩) (px_recv hT hw 0 0 rfl rfl rfl) m12_38 m12_35 m12_37 ms_9_11 m1_21 q_Mpg_expression ⟨show (8 * (lv - 1) + 20) + 1 ≤ (8 * lv + 15) from by omega, show 8 + (7 + 11) + (220 * (lv - 1) + 720) ≤ (220 * lv + 570) from by omega⟩ hl.1 rfl (Nat.le_of_ble_eq_true rfl) d_Mpg_primary_54 ⟨Nat.le_of_ble_eq_true rfl, Nat.le_of_ble_eq_true rfl⟩ hne hlk hA hAe (fun o t h => Or.inr h) ?_ (fun v191 p190 H locs hp190 hw => ?_) | (refine th_calli (ps0 := [wdP cs h r g tf ta pf na ma wa cf ca ef ea xf xa]) (pr := []) (pcs := [wdP cs h r g tf ta pf168 na ma wa cf ca ef ea xf xa]) (As := []) (rest := []) ((hE.go (by omega)).1 h r g tf ta cf ca ef ea xf xa pf168 na ma wa   (show 0 ≤ (pf168 11).toInt from by first | exact oz_ae613611c0 e171 g0 | omega) (show (pf168 11).toInt < (tf 6).toInt from by first | exact e172 | omega) (show (tf 6).toInt ≤ 2049 from by first | exact g2 | omega) (show 0 ≤ (pf168 12).toInt from by first | exact oz_ae613611c0 e175 g3 | omega) (show (pf168 12).toInt ≤ 60 from by first | exact oz_6710fd9021 e175 e176 | omega) (show 0 ≤ (pf168 13).toInt from by first | exact oz_f3ebed1ad0 e177 g5 | omega) (show (pf168 13).toInt ≤ (pf168 11).toInt + 20 from by first | exact oz_7ba96ac489 e171 e177 g6 | omega) (show 0 ≤ (pf168 26).toInt from by first | exact oz_f3ebed1ad0 e180 g7 | omega) (show (pf168 26).toInt ≤ (pf168 12).toInt from by first | exact oz_d87b110ba5 e175 e180 g8 | omega) (show 61 ≤ (pf168 12).toInt + ((lv - 1 : Nat) : Int) from by omega) (show lv - 1 ≤ 61 from by omega) hlf htk (FsI.le (N' := (pf168 13).toInt) hfs (by omega))) S hT hw (oX_call (P := (fun A U H => (oN A U H) ∧ (oP A g U H))) (pr := []) (oG_and oG_N oG_P) hw hA ⟨hN, hP⟩) (px_recv hT hw 0 0 rfl rfl rfl) m12_38 m12_35 m12_37 ms_9_11 m1_21 q_Mpg_expression ⟨show (8 * (lv - 1) + 20) + 1 ≤ (8 * lv + 15) from by omega, show 8 + (7 + 11) + (220 * (lv - 1) + 720) ≤ (220 * lv + 570) from by omega⟩ hl.1 rfl (Nat.le_of_ble_eq_true rfl) d_Mpg_primary_54 ⟨Nat.le_of_ble_eq_true rfl, Nat.le_of_ble_eq_true rfl⟩ hne hlk hA hAe (fun o t h => Or.inr h) ?_ (fun v191 p190 H locs hp190 hw => ?_))
      · exact fun p1 H1 locs1 hp hw => by obtain ⟨pq1, pq2, pq3, pq4, rfl, hq1, hq2, hq3⟩ := hp; (first | exact ⟨_, ⟨pq1, pq2, pq3, pq4, rfl, hq1, hq2, (Or.inl ⟨z1, ez1, Or.inl ⟨nc2, v8, e11, Or.inr ⟨nc12, Or.inr ⟨pf168, e181, Or.inl ⟨pq1, pq2, pq3, pq4, (up_RL_mp_expression (show 1 ≤ lv from (oz_9001e9f50b g9 e176)) ▸ hq3), rfl, rfl, rfl, rfl, rfl, rfl⟩⟩⟩⟩⟩)⟩, hw⟩ | (exact ⟨_, ⟨pq1, pq2, pq3, pq4, rfl, hq1, hq2, (Or.inl ⟨z1, ez1, Or.inl ⟨nc2, v8, e11, Or.inr ⟨nc12, Or.inr ⟨pf168, e181, Or.inl ⟨pq1, pq2, pq3, pq4, (up_RL_mp_expression (show 1 ≤ lv from by first | exact oz_9001e9f50b g9 e176 | omega) ▸ hq3), rfl, rfl, rfl, rfl, rfl, rfl⟩⟩⟩⟩⟩)⟩, hw⟩))
      obtain ⟨pf186, na187, ma188, wa189, rfl, e192, e193, e194, e195, e196, e197, e198, e199, e200, e201, e202, e203, e204, e205⟩ := hp190
      have e192 : (pf168 11).toInt + 1 ≤ (pf186 11).toInt := e192
      have e193 : (pf186 11).toInt < (tf 6).toInt := e193
      have e194 : (pf168 13).toInt + 1 ≤ (pf186 13).toInt := e194
      have e195 : (pf186 13).toInt - (pf168 13).toInt ≤ (pf186 11).toInt - (pf168 11).toInt := e195
      have e196 : bp ta (pf168 11) + 1 ≤ bp ta (pf186 11) := e196
      have e197 : (pf186 12).toInt = (pf168 12).toInt := e197
      have e198 : (pf186 24).toInt = (pf168 24).toInt := e198
      have e199 : (pf186 25).toInt = (pf168 25).toInt := e199
      have e200 : (pf186 26).toInt = (pf168 26).toInt := e200
      have e201 : FrB (pf168 13).toInt na ma na187 ma188 := e201
      have hfb := hfb.tr e201 (by omega)
      have e202 : FrW (pf168 26).toInt wa wa189 := e202
      have hfw := hfw.tr e202 (by omega)
      have e203 : ExR ta (tf 6).toInt na187 ma188 v191 (pf168 13).toInt (pf186 13).toInt (3 * (bp ta (pf186 11) - bp ta (pf168 11))) (pf168 12).toInt := e203
      have ht_v191 := e203
      have hn_ht_v191 := ht_v191.num
      have e204 : FsI (tf 6).toInt (pf186 13).toInt na187 := e204
      have hfs := e204
      have e205 : R_mp_expression (RL_mp_expression (lv - 1)) (RL_mp_conditional (lv - 1)) ta pf168 na ma wa pf186 na187 ma188 wa189 v191 0 := e205
      first | have e205L : (RL_mp_expression lv) ta pf168 na ma wa pf186 na187 ma188 wa189 v191 0 := up_RL_mp_expression (show 1 ≤ lv from (oz_9001e9f50b g9 e176)) ▸ e205 | (have e205L : (RL_mp_expression lv) ta pf168 na ma wa pf186 na187 ma188 wa189 v191 0 := up_RL_mp_expression (show 1 ≤ lv from by first | exact oz_9001e9f50b g9 e176 | omega) ▸ e205)
      have lv191 := Int32.le_toInt v191
      have uv191 := Int32.toInt_lt v191
      refine lv_istore_n (lv' := [(2, .int v191), (1, .int (pf 11)), (0, .ref h)]) S.x S.b d_Mpg_primary_57 rfl hl (by decide) rfl (fun ls hl => ?_)
      refine lv_aload_n S.x S.b d_Mpg_primary_58 rfl (lv_at hl 2 rfl) ?_
      obtain ⟨sk206, hRsk206, st207, hSsk206⟩ := oP_litB hP (k := 89) (tx := ")") (n := 1) (List.mem_of_getElem? (i := 36) rfl)
      refine va_ldcS S.x S.b S.own hRsk206 d_Mpg_primary_59 ?_
      first | refine th_callv (ps0 := [wdP cs h r g tf ta pf na ma wa cf ca ef ea xf xa]) (pr := []) (pcs := [wdP cs h r g tf ta pf186 na187 ma188 wa189 cf ca ef ea xf xa]) (As := [.ref sk206]) (rest := []) (c_mp_closes l D cs sk206 1 (lby ")") h r g tf ta na187 ma188 wa189 cf ca ef ea xf xa pf186   (show 0 ≤ (pf186 11).toInt from (oz_4606bbd1cf e192 e171 g0)) (show (pf186 11).toInt < (tf 6).toInt from e193) (show (tf 6).toInt ≤ 2049 from g2) (show 1 ≤ (pf186 12).toInt from (oz_a564fc7457 e197 e175 g8 g7)) (show (pf186 12).toInt ≤ 60 from (oz_1a76b13bbc e197 e175 e176)) (show 1 ≤ 100 from by omega) hlf htk) S hT hw (oX_call (P := (fun A U H => (oN A U H) ∧ (oP A g U H) ∧ (StLt A sk206 1 (lby ")") U H))) (pr := []) (oG_and oG_N (oG_and oG_P oG_QB)) hw hA ⟨hN, hP, ⟨_, hSsk206⟩⟩) (px_recv hT hw 0 0 rfl rfl rfl) m12_53 m12_50 m12_52 ms_9_14 m1_21 q_Mpg_closes ⟨show 8 + 1 ≤ (8 * lv + 15) from (oz_e60676d27e), show 8 + (2 + 11) + 280 ≤ (220 * lv + 570) from (oz_9b9b709ee6)⟩ hl.1 rfl (Nat.le_of_ble_eq_true rfl) d_Mpg_primary_61 ⟨Nat.le_of_ble_eq_true rfl, Nat.le_of_ble_eq_true rfl⟩ hne hlk hA hAe (fun o t h => Or.inr h) ?_ (fun p211 H locs hp211 hw => ?_) | (refine th_callv (ps0 := [wdP cs h r g tf ta pf na ma wa cf ca ef ea xf xa]) (pr := []) (pcs := [wdP cs h r g tf ta pf186 na187 ma188 wa189 cf ca ef ea xf xa]) (As := [.ref sk206]) (rest := []) (c_mp_closes l D cs sk206 1 (lby ")") h r g tf ta na187 ma188 wa189 cf ca ef ea xf xa pf186   (show 0 ≤ (pf186 11).toInt from by first | exact oz_4606bbd1cf e192 e171 g0 | omega) (show (pf186 11).toInt < (tf 6).toInt from by first | exact e193 | omega) (show (tf 6).toInt ≤ 2049 from by first | exact g2 | omega) (show 1 ≤ (pf186 12).toInt from by first | exact oz_a564fc7457 e197 e175 g8 g7 | omega) (show (pf186 12).toInt ≤ 60 from by first | exact oz_1a76b13bbc e197 e175 e176 | omega) (show 1 ≤ 100 from by omega) hlf htk) S hT hw (oX_call (P := (fun A U H => (oN A U H) ∧ (oP A g U H) ∧ (StLt A sk206 1 (lby ")") U H))) (pr := []) (oG_and oG_N (oG_and oG_P oG_QB)) hw hA ⟨hN, hP, ⟨_, hSsk206⟩⟩) (px_recv hT hw 0 0 rfl rfl rfl) m12_53 m12_50 m12_52 ms_9_14 m1_21 q_Mpg_closes ⟨show 8 + 1 ≤ (8 * lv + 15) from (by first | exact oz_e60676d27e | omega), show 8 + (2 + 11) + 280 ≤ (220 * lv + 570) from (by first | exact oz_9b9b709ee6 | omega)⟩ hl.1 rfl (Nat.le_of_ble_eq_true rfl) d_Mpg_primary_61 ⟨Nat.le_of_ble_eq_true rfl, Nat.le_of_ble_eq_true rfl⟩ hne hlk hA hAe (fun o t h => Or.inr h) ?_ (fun p211 H locs hp211 hw => ?_))
      · exact fun p1 H1 locs1 hp hw => by obtain ⟨pq1, pq2, pq3, pq4, rfl, hq1, hq2, hu_na, hu_ma, hu_wa, hq3⟩ := hp; exact ⟨_, ⟨pq1, pq2, pq3, pq4, rfl, hq1, hq2, (Or.inl ⟨z1, ez1, Or.inl ⟨nc2, v8, e11, Or.inr ⟨nc12, Or.inr ⟨pf168, e181, Or.inr ⟨pf186, na187, ma188, wa189, v191, e205L, Or.inl ⟨pq1, hq3, rfl, hu_na, hu_ma, hu_wa, rfl, rfl⟩⟩⟩⟩⟩⟩)⟩, hw⟩
      obtain ⟨pf210, rfl, e213, e214, e215, e216, e217, e218, e219, e220, e221⟩ := hp211
      have e213 : (pf210 11).toInt = (pf186 11).toInt + 1 := e213
      have e214 : (pf210 11).toInt < (tf 6).toInt := e214
      have e215 : bp ta (pf186 11) + 1 ≤ bp ta (pf210 11) := e215
      have e216 : (pf210 12).toInt = (pf186 12).toInt - 1 := e216
      have e217 : (pf210 13).toInt = (pf186 13).toInt := e217
      have e218 : (pf210 24).toInt = (pf186 24).toInt := e218
      have e219 : (pf210 25).toInt = (pf186 25).toInt := e219
      have e220 : (pf210 26).toInt = (pf186 26).toInt := e220
      have e221 : R_mp_closes 1 (lby ")") ta pf186 pf210 0 := e221
      refine lv_aload_n S.x S.b d_Mpg_primary_64 rfl (lv_at hl 2 rfl) ?_
      refine gP_16 S hT hw 0 rfl m10_0 d_Mpg_primary_65 ?_
      refine lv_iload_n S.x S.b d_Mpg_primary_68 rfl (lv_at hl 0 rfl) ?_
      refine lv_iload_n S.x S.b d_Mpg_primary_69 rfl (lv_at hl 1 rfl) ?_
      refine px_iast S hT hw 0 12 (n := 2100) (f := (na187 16)) (x := v191) (y := (pf 11)) rfl gp_16 (vp_in_iff.mpr (by constructor <;> omega)) d_Mpg_primary_70 (w' := wdP cs h r g tf ta pf210 (va_up na187 16 (upd (na187 16) v191.toNatClampNeg (pf 11))) ma188 wa189 cf ca ef ea xf xa) (ps' := [wdP cs h r g tf ta pf210 (va_up na187 16 (upd (na187 16) v191.toNatClampNeg (pf 11))) ma188 wa189 cf ca ef ea xf xa]) sp_16 rfl (fun H locs hw => ?_)
      refine lv_iload_n S.x S.b d_Mpg_primary_71 rfl (lv_at hl 0 rfl) ?_
      first | exact th_iret (v := v191) S hr rfl hlk hAe hw (⟨pf210, (va_up na187 16 (upd (na187 16) v191.toNatClampNeg (pf 11))), ma188, wa189, rfl, (show (pf 11).toInt + 1 ≤ (pf210 11).toInt from (oz_40adf82cfc e171 e213 e192)), (show (pf210 11).toInt < (tf 6).toInt from e214), (show (pf 13).toInt + 1 ≤ (pf210 13).toInt from (oz_56e011771b e177 e217 e194)), (show (pf210 13).toInt - (pf 13).toInt ≤ (pf210 11).toInt - (pf 11).toInt from (oz_367be77e0e e171 e177 e213 e217 e195)), (show bp ta (pf 11) + 1 ≤ bp ta (pf210 11) from (oz_666f9d906c e173 e215 e174 e196)), (show (pf210 12).toInt = (pf 12).toInt from (oz_e2f0d2d242 e175 e216 e197)), (show (pf210 24).toInt = (pf 24).toInt from (oz_e13fc83238 e178 e218 e198)), (show (pf210 25).toInt = (pf 25).toInt from (oz_e13fc83238 e179 e219 e199)), (show (pf210 26).toInt = (pf 26).toInt from (oz_e13fc83238 e180 e220 e200)), (show FrB (pf 13).toInt na ma (va_up na187 16 (upd (na187 16) v191.toNatClampNeg (pf 11))) ma188 from (FrB.un hfb (by omega) (by omega))), (show FrW (pf 26).toInt wa wa189 from hfw), (show ExR ta (tf 6).toInt (va_up na187 16 (upd (na187 16) v191.toNatClampNeg (pf 11))) ma188 v191 (pf 13).toInt (pf210 13).toInt (3 * (bp ta (pf210 11) - bp ta (pf 11))) (pf 12).toInt from (ExR.le (exr_par ht_v191 (by omega) (show (pf 12).toInt ≤ _ from by omega)) (by omega) (by omega) (by omega) (Int.le_refl _))), (show FsI (tf 6).toInt (pf210 13).toInt (va_up na187 16 (upd (na187 16) v191.toNatClampNeg (pf 11))) from (FsI.le (FsI.us hfs (by omega) (by omega)) (by omega))), (show R_mp_primary (RL_mp_expression lv) (RL_mp_conditional lv) ta pf na ma wa pf210 (va_up na187 16 (upd (na187 16) v191.toNatClampNeg (pf 11))) ma188 wa189 v191 0 from (Or.inl ⟨z1, ez1, Or.inl ⟨nc2, v8, e11, Or.inr ⟨nc12, Or.inr ⟨pf168, e181, Or.inr ⟨pf186, na187, ma188, wa189, v191, e205L, Or.inr ⟨pf210, e221, rfl, rfl, rfl, rfl, rfl, rfl⟩⟩⟩⟩⟩⟩))⟩) d_Mpg_primary_72 | (exact th_iret (v := v191) S hr rfl hlk hAe hw (⟨pf210, (va_up na187 16 (upd (na187 16) v191.toNatClampNeg (pf 11))), ma188, wa189, rfl, (show (pf 11).toInt + 1 ≤ (pf210 11).toInt from by first | exact oz_40adf82cfc e171 e213 e192 | omega), (show (pf210 11).toInt < (tf 6).toInt from by first | exact e214 | omega), (show (pf 13).toInt + 1 ≤ (pf210 13).toInt from by first | exact oz_56e011771b e177 e217 e194 | omega), (show (pf210 13).toInt - (pf 13).toInt ≤ (pf210 11).toInt - (pf 11).toInt from by first | exact oz_367be77e0e e171 e177 e213 e217 e195 | omega), (show bp ta (pf 11) + 1 ≤ bp ta (pf210 11) from by first | exact oz_666f9d906c e173 e215 e174 e196 | omega), (show (pf210 12).toInt = (pf 12).toInt from by first | exact oz_e2f0d2d242 e175 e216 e197 | omega), (show (pf210 24).toInt = (pf 24).toInt from by first | exact oz_e13fc83238 e178 e218 e198 | omega), (show (pf210 25).toInt = (pf 25).toInt from by first | exact oz_e13fc83238 e179 e219 e199 | omega), (show (pf210 26).toInt = (pf 26).toInt from by first | exact oz_e13fc83238 e180 e220 e200 | omega), (show FrB (pf 13).toInt na ma (va_up na187 16 (upd (na187 16) v191.toNatClampNeg (pf 11))) ma188 from (FrB.un hfb (by omega) (by omega))), (show FrW (pf 26).toInt wa wa189 from hfw), (show ExR ta (tf 6).toInt (va_up na187 16 (upd (na187 16) v191.toNatClampNeg (pf 11))) ma188 v191 (pf 13).toInt (pf210 13).toInt (3 * (bp ta (pf210 11) - bp ta (pf 11))) (pf 12).toInt from (ExR.le (exr_par ht_v191 (by omega) (show (pf 12).toInt ≤ _ from by omega)) (by omega) (by omega) (by omega) (Int.le_refl _))), (show FsI (tf 6).toInt (pf210 13).toInt (va_up na187 16 (upd (na187 16) v191.toNatClampNeg (pf 11))) from (FsI.le (FsI.us hfs (by omega) (by omega)) (by omega))), (show R_mp_primary (RL_mp_expression lv) (RL_mp_conditional lv) ta pf na ma wa pf210 (va_up na187 16 (upd (na187 16) v191.toNatClampNeg (pf 11))) ma188 wa189 v191 0 from (Or.inl ⟨z1, ez1, Or.inl ⟨nc2, v8, e11, Or.inr ⟨nc12, Or.inr ⟨pf168, e181, Or.inr ⟨pf186, na187, ma188, wa189, v191, e205L, Or.inr ⟨pf210, e221, rfl, rfl, rfl, rfl, rfl, rfl⟩⟩⟩⟩⟩⟩))⟩) d_Mpg_primary_72)
  · have nc2 : z1.toInt = (3 : Int) := (i_eq (x := z1) (y := 3)).mp c2
    refine lv_aload_n S.x S.b d_Mpg_primary_13 rfl (lv_at hl 0 rfl) ?_
    refine lv_iconst (v := 1) S.x S.b d_Mpg_primary_14 (by decide) ?_
    refine lv_aload_n S.x S.b d_Mpg_primary_15 rfl (lv_at hl 0 rfl) ?_
    refine gP_11 (v := (pf 11)) S hT hw 0 rfl rfl m9_235 d_Mpg_primary_16 ?_
    first | refine px_calli (pr := []) (px_runV (As := [.int 1, .int (pf 11)]) (rest := []) S (c_mp_make l D cs h r g tf ta wa cf ca ef ea xf xa pf na ma 1 (pf 11)  (show 0 ≤ (pf 13).toInt from g5) (show (pf 13).toInt < 2100 from (oz_725fe6997c g6 g1 g2)) _) hT (pr := []) (pcs := [wdP cs h r g tf ta pf na ma wa cf ca ef ea xf xa]) hw px_X.tt (px_recv hT hw 0 0 rfl rfl rfl) m11_209 m11_206 m11_208 ms_8_12 m1_21 q_Mpg_make ⟨show 0 + 1 ≤ (8 * lv + 15) from (oz_1aad6329bb), show 8 + (3 + 11) + 0 ≤ (220 * lv + 570) from (oz_96ad077f4a)⟩ hl.1 rfl (Nat.le_of_ble_eq_true rfl) d_Mpg_primary_19 ⟨Nat.le_of_ble_eq_true rfl, Nat.le_of_ble_eq_true rfl⟩) hw hA (fun v229 p228 H locs hp228 hw => ?_) | (refine px_calli (pr := []) (px_runV (As := [.int 1, .int (pf 11)]) (rest := []) S (c_mp_make l D cs h r g tf ta wa cf ca ef ea xf xa pf na ma 1 (pf 11)  (show 0 ≤ (pf 13).toInt from by first | exact g5 | omega) (show (pf 13).toInt < 2100 from by first | exact oz_725fe6997c g6 g1 g2 | omega) _) hT (pr := []) (pcs := [wdP cs h r g tf ta pf na ma wa cf ca ef ea xf xa]) hw px_X.tt (px_recv hT hw 0 0 rfl rfl rfl) m11_209 m11_206 m11_208 ms_8_12 m1_21 q_Mpg_make ⟨show 0 + 1 ≤ (8 * lv + 15) from (by first | exact oz_1aad6329bb | omega), show 8 + (3 + 11) + 0 ≤ (220 * lv + 570) from (by first | exact oz_96ad077f4a | omega)⟩ hl.1 rfl (Nat.le_of_ble_eq_true rfl) d_Mpg_primary_19 ⟨Nat.le_of_ble_eq_true rfl, Nat.le_of_ble_eq_true rfl⟩) hw hA (fun v229 p228 H locs hp228 hw => ?_))
    obtain ⟨pf225, na226, ma227, rfl, e230, e231, e232, e233, e234, e235, e236, e237, e238⟩ := hp228
    have e230 : v229.toInt = (pf 13).toInt := e230
    have e231 : (pf225 13).toInt = (pf 13).toInt + 1 := e231
    have e232 : (pf225 11).toInt = (pf 11).toInt := e232
    have e233 : (pf225 12).toInt = (pf 12).toInt := e233
    have e234 : (pf225 24).toInt = (pf 24).toInt := e234
    have e235 : (pf225 25).toInt = (pf 25).toInt := e235
    have e236 : (pf225 26).toInt = (pf 26).toInt := e236
    have e237 : MkN na ma na226 ma227 v229 (1 : Int32) (pf 11) := e237
    have e238 : R_mp_make (1 : Int32) (pf 11) pf na ma pf225 na226 ma227 v229 := e238
    obtain ⟨qb2391, qb2392, qb2393, qb2394⟩ := tk_eq (ta := ta) (x := (pf225 11)) (y := (pf 11)) (by omega)
    have hmk_v229 := e237
    have hfm_v229 := MkN.frb (b := v229.toInt) hmk_v229 (by omega) (by omega)
    have hfs := FsI.mk hfs hmk_v229 (by omega) (by omega) (by omega) (by omega)
    have hfb := hfb.tr hfm_v229 (by omega)
    have hnk_v229 := hmk_v229.nk (by decide) (by decide) (by omega)
    have hdn_v229 := dp_nk hmk_v229
    have lv229 := Int32.le_toInt v229
    have uv229 := Int32.toInt_lt v229
    refine lv_istore_n (lv' := [(1, .int v229), (0, .ref h)]) S.x S.b d_Mpg_primary_22 rfl hl (by decide) rfl (fun ls hl => ?_)
    refine lv_aload_n S.x S.b d_Mpg_primary_23 rfl (lv_at hl 1 rfl) ?_
    refine lv_dup S.x S.b d_Mpg_primary_24 rfl ?_
    refine gP_11 (v := (pf225 11)) S hT hw 0 rfl rfl m9_235 d_Mpg_primary_25 ?_
    refine lv_iconst (v := 1) S.x S.b d_Mpg_primary_28 (by decide) ?_
    refine lv_iadd S.x S.b d_Mpg_primary_29 ?_
    have lr240 := Int32.le_toInt (pf225 11)
    have ur240 := Int32.toInt_lt (pf225 11)
    refine lv_topi (fun z241 ez241 => ?_)
    have tz241 : z241.toInt = ((pf225 11).toInt + (1 : Int) + 2147483648) % 4294967296 - 2147483648 := by rw [ez241]; exact i_add (pf225 11) 1
    have lz241 := Int32.le_toInt z241
    have uz241 := Int32.toInt_lt z241
    try replace tz241 : z241.toInt = (pf225 11).toInt + (1 : Int) := by omega
    have hnx29 := tk_n htk (x := (pf225 11)) (y := z241) (by omega) (by omega) (by omega)
    refine pP_11 S hT hw 0 rfl m9_235 rfl rfl rfl d_Mpg_primary_30 (ps' := [wdP cs h r g tf ta (upd pf225 11 z241) na226 ma227 wa cf ca ef ea xf xa]) rfl (fun H locs hw => ?_)
    refine lv_iload_n S.x S.b d_Mpg_primary_33 rfl (lv_at hl 0 rfl) ?_
    first | exact th_iret (v := v229) S hr rfl hlk hAe hw (⟨(upd pf225 11 z241), na226, ma227, wa, rfl, (show (pf 11).toInt + 1 ≤ z241.toInt from (oz_67b8a35aa4 e232 tz241)), (show z241.toInt < (tf 6).toInt from by omega), (show (pf 13).toInt + 1 ≤ (pf225 13).toInt from (oz_327f171f8a e231)), (show (pf225 13).toInt - (pf 13).toInt ≤ z241.toInt - (pf 11).toInt from (oz_39060a0df1 e231 e232 tz241)), (show bp ta (pf 11) + 1 ≤ bp ta z241 from (oz_01a688a826 qb2391 hnx29.1 hnx29.2)), (show (pf225 12).toInt = (pf 12).toInt from e233), (show (pf225 24).toInt = (pf 24).toInt from e234), (show (pf225 25).toInt = (pf 25).toInt from e235), (show (pf225 26).toInt = (pf 26).toInt from e236), (show FrB (pf 13).toInt na ma na226 ma227 from hfb), (show FrW (pf 26).toInt wa wa from hfw), (show ExR ta (tf 6).toInt na226 ma227 v229 (pf 13).toInt (pf225 13).toInt (3 * (bp ta z241 - bp ta (pf 11))) (pf 12).toInt from (exr_leaf hmk_v229 (Or.inl rfl) (by omega) ⟨by omega, by omega⟩ (by rw [if_pos (by rfl)]; omega) (by omega) (by omega) (by omega) (by omega))), (show FsI (tf 6).toInt (pf225 13).toInt na226 from (FsI.le hfs (by omega))), (show R_mp_primary (RL_mp_expression lv) (RL_mp_conditional lv) ta pf na ma wa (upd pf225 11 z241) na226 ma227 wa v229 0 from (Or.inl ⟨z1, ez1, Or.inr ⟨nc2, pf225, na226, ma227, v229, e238, z241, ez241, rfl, rfl, rfl, rfl, rfl, rfl⟩⟩))⟩) d_Mpg_primary_34 | (exact th_iret (v := v229) S hr rfl hlk hAe hw (⟨(upd pf225 11 z241), na226, ma227, wa, rfl, (show (pf 11).toInt + 1 ≤ z241.toInt from by first | exact oz_67b8a35aa4 e232 tz241 | omega), (show z241.toInt < (tf 6).toInt from by omega), (show (pf 13).toInt + 1 ≤ (pf225 13).toInt from by first | exact oz_327f171f8a e231 | omega), (show (pf225 13).toInt - (pf 13).toInt ≤ z241.toInt - (pf 11).toInt from by first | exact oz_39060a0df1 e231 e232 tz241 | omega), (show bp ta (pf 11) + 1 ≤ bp ta z241 from by first | exact oz_01a688a826 qb2391 hnx29.1 hnx29.2 | omega), (show (pf225 12).toInt = (pf 12).toInt from by first | exact e233 | omega), (show (pf225 24).toInt = (pf 24).toInt from by first | exact e234 | omega), (show (pf225 25).toInt = (pf 25).toInt from by first | exact e235 | omega), (show (pf225 26).toInt = (pf 26).toInt from by first | exact e236 | omega), (show FrB (pf 13).toInt na ma na226 ma227 from hfb), (show FrW (pf 26).toInt wa wa from hfw), (show ExR ta (tf 6).toInt na226 ma227 v229 (pf 13).toInt (pf225 13).toInt (3 * (bp ta z241 - bp ta (pf 11))) (pf 12).toInt from (exr_leaf hmk_v229 (Or.inl rfl) (by omega) ⟨by omega, by omega⟩ (by rw [if_pos (by rfl)]; omega) (by omega) (by omega) (by omega) (by omega))), (show FsI (tf 6).toInt (pf225 13).toInt na226 from (FsI.le hfs (by omega))), (show R_mp_primary (RL_mp_expression lv) (RL_mp_conditional lv) ta pf na ma wa (upd pf225 11 z241) na226 ma227 wa v229 0 from (Or.inl ⟨z1, ez1, Or.inr ⟨nc2, pf225, na226, ma227, v229, e238, z241, ez241, rfl, rfl, rfl, rfl, rfl, rfl⟩⟩))⟩) d_Mpg_primary_34)
