theorem oz_1e76c4e141 {n0 : Nat}  : 0 + 1 ≤ (2 * n0 + 11) := by omega
theorem oz_13b734c000 {n0 : Nat}  : 8 + (4 + 11) + 0 ≤ (120 * n0 + 380) := by omega
theorem oz_dcd8ea39e2 {a0 a1 : Int} (h0 : a0 + a1 ≤ 7000) : a0 + (a1 - 1 - 1) ≤ 7000 := by omega
theorem oz_46e39a2e06 {n0 : Nat}  : (2 * n0 + 10) + 1 ≤ (2 * n0 + 11) := by omega
theorem oz_9fbef5a402 {n0 : Nat}  : 8 + (8 + 11) + (120 * n0 + 320) ≤ (120 * n0 + 380) := by omega
theorem oz_edfa6af01b {a0 a1 a2 : Int} (h0 : a0 ≤ a1 + (a2 - 1 - 1)) (h1 : a1 + a2 ≤ 7000) : a0 < 7000 := by omega
theorem oz_b6fafccf18 {a0 a1 a2 a3 : Int} (h0 : a3 ≤ a1 + (a2 - 1 - 1)) (h1 : a0 = a3 + 1) : a0 ≤ a1 + a2 := by omega
theorem oz_b8fc81f128 {a0 a1 a2 a3 : Int} (h0 : a0 + a1 + 1 ≤ a2 + a3) (h1 : a2 + a3 ≤ 7000) (h2 : 0 ≤ a1) : a0 < 7000 := by omega
theorem oz_e5e3eaa915 {n0 : Nat}  : 0 + 1 ≤ (2 * (n0 + 1) + 10) := by omega
theorem oz_de8ca50626 {n0 : Nat}  : 8 + (4 + 11) + 0 ≤ (120 * (n0 + 1) + 320) := by omega
theorem oz_0e1976b1ec {a0 a1 a2 a3 a4 : Int} (h0 : a3 + a4 + 1 ≤ a1 + a2) (h1 : a0 = a3 + 1) (h2 : 0 ≤ a4) : a0 ≤ a1 + a2 := by omega
theorem oz_be64971c68 {n0 : Nat}  : 4 + 1 ≤ (2 * (n0 + 1) + 10) := by omega
theorem oz_cd18bc19c4 {n0 : Nat}  : 8 + (6 + 11) + 140 ≤ (120 * (n0 + 1) + 320) := by omega
theorem oz_e6f6ba9544 {a0 a1 : Int} (h0 : ¬ a0 < (0 : Int)) (h1 : a0 < (a1)) (h2 : a1 ≤ 2100) : 0 ≤ a0 ∧ a0 < ((2100 : Nat) : Int) := by omega
theorem oz_e7dfbedcfe {a0 a1 a2 a3 a4 a5 : Int} (h0 : a3 + a1 + 1 ≤ a4) (h1 : a5 < a2) (h2 : a0 = a3 + 1) (h3 : a4 ≤ a5) : a0 + a1 + 1 ≤ a2 := by omega
theorem oz_fdad9fdf0a {a0 a1 : Int} (h0 : a0 ≤ (a1)) : a0 ≤ a1 := by omega
theorem oz_2b66180fc4 {a0 a1 a3 a4 : Int} {n2 : Nat} (h0 : a0 - a3 < ((n2 + 1 : Nat) : Int)) (h1 : a4 < a1) (h2 : a3 ≤ a4) : a0 - a1 < (n2 : Int) := by omega
theorem oz_1681cdb94e {a0 a1 a2 a3 a4 : Int} (h0 : a0 + a2 + 1 ≤ a3 + a4) (h1 : a1 ≤ a2) (h2 : a3 + a4 ≤ 7000) : a0 + a1 ≤ 7000 := by omega
theorem oz_ab1a9076e0 {n0 : Nat}  : (2 * n0 + 10) + 1 ≤ (2 * (n0 + 1) + 10) := by omega
theorem oz_59e4787ab3 {n0 : Nat}  : 8 + (8 + 11) + (120 * n0 + 320) ≤ (120 * (n0 + 1) + 320) := by omega
theorem oz_d132d24d7f {a0 a1 a2 a3 a4 a5 : Int} (h0 : a5 + a1 + 1 ≤ a3 + a4) (h1 : a0 ≤ a5 + a2) : a0 + (a1 - a2) + 1 ≤ a3 + a4 := by omega
theorem oz_b0880afea6 {a0 a1 a2 a3 : Int} (h0 : a0 = a1 - (100 : Int)) (h1 : a1 = a2) (h2 : a3 = a2) (h3 : ¬ a3 < (100 : Int)) : -1 ≤ a0 := by omega
theorem oz_812b27d4c5 {a0 a1 a2 a3 : Int} (h0 : a0 + a3 ≤ a1 + a2) (h1 : 0 ≤ a3) : a0 ≤ a1 + a2 := by omega
theorem oz_12ebf431cf {a0 a1 a2 a3 a4 a5 : Int} (h0 : a1 = a2) (h1 : ¬ (3 : Int) ≤ a1) (h2 : a2 < 3 → a0 + a3 + 4 ≤ a4 + a5) (h3 : a4 + a5 ≤ 7000) (h4 : 0 ≤ a3) : a0 < 7000 := by omega
theorem oz_2188d1bf01 {a0 a1 a2 : Int} (h0 : a0 = a1 + 1) (h1 : a2 ≤ a1) (h2 : 0 ≤ a2) : 0 ≤ a0 := by omega
theorem oz_2792def35f {a0 a1 a2 a3 a4 a5 a6 : Int} (h0 : a0 = a1 + 1) (h1 : a2 = a3) (h2 : ¬ (3 : Int) ≤ a2) (h3 : a3 < 3 → a1 + a4 + 4 ≤ a5 + a6) (h4 : a5 + a6 ≤ 7000) (h5 : 0 ≤ a4) : a0 < 7000 := by omega
theorem oz_18e4c16450 {a0 a1 a2 a3 : Int} (h0 : a0 = a1 + 1) (h1 : a1 = a2 + 1) (h2 : a3 ≤ a2) (h3 : 0 ≤ a3) : 0 ≤ a0 := by omega
theorem oz_7af1ceb46f {a0 a1 a2 a3 a4 a5 a6 a7 : Int} (h0 : a0 = a1 + 1) (h1 : a1 = a2 + 1) (h2 : a3 = a4) (h3 : ¬ (3 : Int) ≤ a3) (h4 : a4 < 3 → a2 + a5 + 4 ≤ a6 + a7) (h5 : a6 + a7 ≤ 7000) (h6 : 0 ≤ a5) : a0 < 7000 := by omega
theorem oz_07157e5546 {n0 : Nat}  : 8 + (5 + 11) + 0 ≤ (120 * (n0 + 1) + 320) := by omega
theorem oz_d59a0bbb71 {a0 a1 a2 a3 a4 : Int} (h0 : a0 = a1 + 1) (h1 : a1 = a2 + 1) (h2 : a2 = a3 + 1) (h3 : a4 ≤ a3) (h4 : 0 ≤ a4) : 0 ≤ a0 := by omega
theorem oz_562b32fd06 {a0 a1 a2 a3 a4 a5 a6 a7 a8 : Int} (h0 : a0 = a1 + 1) (h1 : a1 = a2 + 1) (h2 : a2 = a3 + 1) (h3 : a4 = a5) (h4 : ¬ (3 : Int) ≤ a4) (h5 : a5 < 3 → a3 + a6 + 4 ≤ a7 + a8) (h6 : a7 + a8 ≤ 7000) (h7 : 0 ≤ a6) : a0 < 7000 := by omega
theorem oz_c9a960d9b4 {a0 a1 a2 a3 a4 : Int} (h0 : a0 = a1) (h1 : a1 = a2 + 1) (h2 : a2 = a3 + 1) (h3 : a4 ≤ a3) (h4 : 0 ≤ a4) : 0 ≤ a0 := by omega
theorem oz_c70dba619f {a0 a1 a2 a3 a4 a5 a6 a7 a8 : Int} (h0 : a0 = a1) (h1 : a1 = a2 + 1) (h2 : a2 = a3 + 1) (h3 : a4 = a5) (h4 : ¬ (3 : Int) ≤ a4) (h5 : a5 < 3 → a3 + a6 + 4 ≤ a7 + a8) (h6 : a7 + a8 ≤ 7000) (h7 : 0 ≤ a6) : a0 < 7000 := by omega
theorem oz_05fdf8690f {n0 : Nat}  : 8 + (2 + 11) + 0 ≤ (120 * (n0 + 1) + 320) := by omega
theorem oz_cc9f43beab {a0 a1 a2 a3 a4 a5 : Int} (h0 : a0 ≤ a2) (h1 : a1 = a3 + 1) (h2 : a4 = a2 + 1) (h3 : a3 = a5 + 1) (h4 : a5 = a4 + 1) : a0 ≤ a1 := by omega
theorem oz_08922051d3 {a0 a1 a2 a3 a4 a5 a6 a7 a8 a9 : Int} (h0 : a0 = a3 + 1) (h1 : a4 = a5) (h2 : ¬ (3 : Int) ≤ a4) (h3 : a5 < 3 → a6 + a7 + 4 ≤ a1 + a2) (h4 : 0 ≤ a7) (h5 : a8 = a6 + 1) (h6 : a3 = a9 + 1) (h7 : a9 = a8 + 1) : a0 ≤ a1 + a2 := by omega
theorem oz_b89bf23c89 {a0 a1 a2 a3 a4 a5 : Int} (h0 : a1 = a2) (h1 : a1 = (1 : Int)) (h2 : a2 < 3 → a0 + a3 + 4 ≤ a4 + a5) (h3 : a4 + a5 ≤ 7000) (h4 : 0 ≤ a3) : a0 < 7000 := by omega
theorem oz_d7a85cbe39 {a0 a1 a2 a3 a4 a5 a6 : Int} (h0 : a0 = a1 + 1) (h1 : a2 = a3) (h2 : a2 = (1 : Int)) (h3 : a3 < 3 → a1 + a4 + 4 ≤ a5 + a6) (h4 : a5 + a6 ≤ 7000) (h5 : 0 ≤ a4) : a0 < 7000 := by omega
theorem oz_4b894d747b {a0 a1 a2 a3 a4 a5 a6 a7 : Int} (h0 : a0 = a1 + 1) (h1 : a1 = a2 + 1) (h2 : a3 = a4) (h3 : a3 = (1 : Int)) (h4 : a4 < 3 → a2 + a5 + 4 ≤ a6 + a7) (h5 : a6 + a7 ≤ 7000) (h6 : 0 ≤ a5) : a0 < 7000 := by omega
theorem oz_edd4c7e1e4 {a0 a1 a2 a3 a4 a5 a6 a7 a8 : Int} (h0 : a0 = a1 + 1) (h1 : a1 = a2 + 1) (h2 : a2 = a3 + 1) (h3 : a4 = a5) (h4 : a4 = (1 : Int)) (h5 : a5 < 3 → a3 + a6 + 4 ≤ a7 + a8) (h6 : a7 + a8 ≤ 7000) (h7 : 0 ≤ a6) : a0 < 7000 := by omega
theorem oz_7d4addd146 {a0 a1 a2 a3 a4 a5 a6 a7 a8 : Int} (h0 : a0 = a1) (h1 : a1 = a2 + 1) (h2 : a2 = a3 + 1) (h3 : a4 = a5) (h4 : a4 = (1 : Int)) (h5 : a5 < 3 → a3 + a6 + 4 ≤ a7 + a8) (h6 : a7 + a8 ≤ 7000) (h7 : 0 ≤ a6) : a0 < 7000 := by omega
theorem oz_3ea94e08a2 {a0 a1 a2 a3 a4 a5 a6 a7 a8 a9 : Int} (h0 : a0 = a3 + 1) (h1 : a4 = a5) (h2 : a4 = (1 : Int)) (h3 : a5 < 3 → a6 + a7 + 4 ≤ a1 + a2) (h4 : 0 ≤ a7) (h5 : a8 = a6 + 1) (h6 : a3 = a9 + 1) (h7 : a9 = a8 + 1) : a0 ≤ a1 + a2 := by omega
theorem oz_57a12d68bd {a0 a1 a2 a3 a4 : Int} (h0 : a0 + a2 ≤ a3 + a4) (h1 : a1 ≤ a2) (h2 : a3 + a4 ≤ 7000) : a0 + (a1 - 1) ≤ 7000 := by omega
theorem oz_235fb477f2 {a0 a1 a2 : Int} (h0 : ¬ a0 < (0 : Int)) (h1 : a0 < a1) (h2 : a1 ≤ (a2)) (h3 : a2 ≤ 2100) : 0 ≤ a0 ∧ a0 < ((2100 : Nat) : Int) := by omega
theorem oz_1f4c617182 {a0 a1 a2 a3 a4 a5 : Int} (h0 : a0 ≤ a1 + (a2 - 1)) (h1 : a1 + a3 ≤ a4 + a5) (h2 : a2 ≤ a3) (h3 : a4 + a5 ≤ 7000) : a0 < 7000 := by omega
theorem oz_3eddb8f087 {a0 a1 a2 a3 : Int} (h0 : a0 ≤ a2) (h1 : a1 = a3 + 1) (h2 : a2 ≤ a3) : a0 ≤ a1 := by omega
theorem oz_603b99282c {a0 a1 a2 a3 a4 a5 a6 : Int} (h0 : a5 + a1 ≤ a3 + a4) (h1 : a6 ≤ a5 + (a2 - 1)) (h2 : a0 = a6 + 1) : a0 + (a1 - a2) ≤ a3 + a4 := by omega
theorem oz_ad11a34479 {a0 a1 a2 a3 a4 : Int} (h0 : a0 + a1 ≤ a2 + a3) (h1 : a2 + a3 ≤ 7000) (h2 : a4 ≤ a1) (h3 : 0 ≤ (a4 - 1)) : a0 < 7000 := by omega
theorem oz_f188fd5d8d {a0 a1 a2 a3 a4 a5 : Int} (h0 : a1 ≤ a2) (h1 : a0 = a3 + 1) (h2 : a3 + a2 ≤ a4 + a5) (h3 : a4 + a5 ≤ 7000) : a0 + (a1 - 1) ≤ 7000 := by omega
theorem oz_db0ccc982f {a0 a1 a2 a3 : Int} (h0 : a0 ≤ a2) (h1 : a3 ≤ a1) (h2 : a3 = a2 + 1) : a0 ≤ a1 := by omega
theorem oz_942662209a {a0 a1 a2 a3 a4 a5 a6 : Int} (h0 : a5 + a1 ≤ a3 + a4) (h1 : a0 ≤ a6 + (a2 - 1)) (h2 : a6 = a5 + 1) : a0 + (a1 - a2) ≤ a3 + a4 := by omega
theorem oz_4c96eb7639 {a0 a1 a2 a3 a4 a5 a6 a7 a8 : Int} (h0 : a0 ≤ a5 + (a2 - 1)) (h1 : a6 = a7) (h2 : ¬ (3 : Int) ≤ a6) (h3 : a7 < 3 → a8 + a1 + 4 ≤ a3 + a4) (h4 : a5 = a8 + 1) : a0 + (a1 - a2) + 4 ≤ a3 + a4 := by omega
theorem oz_e0543921b5 {a0 a1 a2 a3 a4 a5 a6 a7 a8 : Int} (h0 : a0 ≤ a5 + (a2 - 1)) (h1 : a6 = a7) (h2 : a6 = (1 : Int)) (h3 : a7 < 3 → a8 + a1 + 4 ≤ a3 + a4) (h4 : a5 = a8 + 1) : a0 + (a1 - a2) + 4 ≤ a3 + a4 := by omega
theorem oz_b0899bab4c {a0 a1 : Int} (h0 : 0 ≤ a0) (h1 : a0 < (a1)) (h2 : a1 ≤ 2100) : 0 ≤ a0 ∧ a0 < ((2100 : Nat) : Int) := by omega
theorem oz_07cb4656eb {n0 : Nat}  : 8 + (6 + 11) + 160 ≤ (120 * (n0 + 1) + 320) := by omega
theorem oz_ef3889ada3 {a0 a1 a2 a3 a4 : Int} (h0 : a2 + a1 + 1 ≤ a3) (h1 : a0 ≤ a4 + (a2 - 1)) (h2 : a4 + a3 ≤ 7000) : a0 + a1 ≤ 7000 := by omega
theorem oz_0d476d6751 {a0 a1 a2 a3 a4 a5 : Int} (h0 : a0 ≤ a1 + a2) (h1 : a3 + a2 + 1 ≤ a4) (h2 : a1 ≤ a5 + (a3 - 1)) (h3 : a5 + a4 ≤ 7000) : a0 < 7000 := by omega
theorem oz_003cf3ba25 {a0 a1 a2 a3 a4 a5 a6 : Int} (h0 : a3 + a4 + 1 ≤ a2) (h1 : a5 ≤ a1 + (a3 - 1)) (h2 : a0 = a6 + 1) (h3 : a6 ≤ a5 + a4) : a0 ≤ a1 + a2 := by omega
theorem oz_a47963ef3b {a0 a1 : Int} (h0 : a0 + a1 ≤ 7000) (h1 : 1 ≤ a1) : a0 < 7000 := by omega
theorem oz_33b972cc46 {a0 a1 a2 : Int} (h0 : 1 ≤ a2) (h1 : a0 = a1 + 1) : a0 ≤ a1 + a2 := by omega
theorem oz_b266494760 {a0 a1 : Int}  : a0 + (a1 - 1) + 1 ≤ a0 + a1 := by omega
theorem oz_689fc9b9cc {a0 a1 : Int} (h0 : a0 + a1 ≤ 7000) : a0 + (a1 - 1) ≤ 7000 := by omega
theorem oz_f17f6cd5d6 {a0 a1 a2 : Int} (h0 : a0 ≤ a1 + (a2 - 1)) (h1 : a1 + a2 ≤ 7000) : a0 < 7000 := by omega
theorem oz_8a56fd6753 {a0 a1 a2 a3 : Int} (h0 : a3 ≤ a1 + (a2 - 1)) (h1 : a0 = a3 + 1) : a0 ≤ a1 + a2 := by omega
theorem oz_de31cc35be {n0 : Nat}  : (2 * n0 + 11) + 1 ≤ (2 * (n0 + 1) + 10) := by omega
theorem oz_8434db3628 {n0 : Nat}  : 8 + (5 + 11) + (120 * n0 + 380) ≤ (120 * (n0 + 1) + 320) := by omega
theorem oz_7ced39cc50 {a0 a1 a2 a3 : Int} (h0 : a0 + a2 ≤ 7000) (h1 : a1 + a3 ≤ a2) (h2 : 0 ≤ a3) : a0 + a1 ≤ 7000 := by omega
theorem oz_68a3de4aae {a0 a1 a2 a3 a4 : Int} (h0 : a4 + a1 ≤ a3) (h1 : a0 ≤ a2 + a4) : a0 + a1 ≤ a2 + a3 := by omega
theorem oz_6501cbe7e5 {a0 a1 a2 a3 : Int} (h0 : a1 ≤ a0) (h1 : a1 = a2 + 1) (h2 : a3 ≤ a2) (h3 : 0 ≤ a3) : 0 ≤ a0 := by omega
theorem oz_78bd7587d7 {a0 a1 a2 a3 a4 : Int} (h0 : a0 = a1 + 1) (h1 : a2 ≤ a1) (h2 : a2 = a3 + 1) (h3 : a4 ≤ a3) (h4 : 0 ≤ a4) : 0 ≤ a0 := by omega
theorem oz_665bdb3ca1 {a0 a1 a2 a3 a4 a5 a6 a7 a8 : Int} (h0 : a2 + a3 + a1 + 2 ≤ a4) (h1 : a0 = a5 + 1) (h2 : a6 + a4 ≤ 7000) (h3 : a7 ≤ a6 + a2) (h4 : a5 ≤ a8 + a3) (h5 : a8 = a7 + 1) : a0 + a1 ≤ 7000 := by omega
theorem oz_2d9ae659ef {a0 a1 a2 a3 a4 : Int} (h0 : a0 = a1) (h1 : a2 ≤ a1) (h2 : a2 = a3 + 1) (h3 : a4 ≤ a3) (h4 : 0 ≤ a4) : 0 ≤ a0 := by omega
theorem oz_186d00e865 {a0 a1 a2 a3 a4 a5 a6 a7 a8 : Int} (h0 : a0 = a1) (h1 : a1 ≤ a2 + a3) (h2 : a4 + a3 + a5 + 2 ≤ a6) (h3 : a2 = a7 + 1) (h4 : a8 + a6 ≤ 7000) (h5 : a7 ≤ a8 + a4) (h6 : 0 ≤ a5) : a0 < 7000 := by omega
theorem oz_013402b7ac {a0 a1 a2 a3 a4 a5 : Int} (h0 : a0 ≤ a2) (h1 : a3 ≤ a1) (h2 : a4 = a2 + 1) (h3 : a3 = a5 + 1) (h4 : a4 ≤ a5) : a0 ≤ a1 := by omega
theorem oz_2ac729c12b {a0 a1 a2 a3 a4 a5 a6 a7 a8 a9 : Int} (h0 : a3 + a4 + a5 + 2 ≤ a2) (h1 : a6 ≤ a1 + a3) (h2 : a0 ≤ a7 + a5) (h3 : a8 = a6 + 1) (h4 : a9 ≤ a8 + a4) (h5 : a7 = a9 + 1) : a0 ≤ a1 + a2 := by omega
theorem m13_83 : Cond.methodLink "HomeSystemModel$Program" 711 ⟨"HomeSystemModel$Program", "emit", "(III)I"⟩ ∈ AL := AL_13 (List.mem_of_getElem? (i := 83) rfl) rfl
theorem m13_86 : Cond.code ⟨"HomeSystemModel$Program", "emit", "(III)I"⟩ prog_16_method_106_code 4 (Option.some FieldType.int) ∈ AL := AL_13 (List.mem_of_getElem? (i := 86) rfl) rfl
theorem ms_14_2 : Cond.selects "HomeSystemModel$Program" ⟨"HomeSystemModel$Program", "emit", "(III)I"⟩ ⟨"HomeSystemModel$Program", "emit", "(III)I"⟩ ∈ AL := AL_p (q := (⟨"HomeSystemModel$Program", "emit", "(III)I"⟩, 69)) (by unfold lw_privs; exact List.mem_append_right _ (List.mem_append_right _ (List.mem_append_right _ (List.mem_append_right _ (List.mem_append_right _ (List.mem_append_right _ (List.mem_append_right _ (List.mem_append_right _ (List.mem_append_right _ (List.mem_append_right _ (List.mem_append_right _ (List.mem_append_right _ (List.mem_append_right _ (List.mem_append_left _ (List.mem_of_getElem? (i := 2) rfl)))))))))))))))
theorem m13_85 : Cond.instanceMethod ⟨"HomeSystemModel$Program", "emit", "(III)I"⟩ ∈ AL := AL_13 (List.mem_of_getElem? (i := 85) rfl) rfl
theorem m13_87 : Cond.methodLink "HomeSystemModel$Program" 714 ⟨"HomeSystemModel$Program", "make", "(I)V"⟩ ∈ AL := AL_13 (List.mem_of_getElem? (i := 87) rfl) rfl
theorem m13_90 : Cond.code ⟨"HomeSystemModel$Program", "make", "(I)V"⟩ prog_16_method_111_code 8 (Option.none : Option Jvm.ClassFile.FieldType) ∈ AL := AL_13 (List.mem_of_getElem? (i := 90) rfl) rfl
theorem ms_14_3 : Cond.selects "HomeSystemModel$Program" ⟨"HomeSystemModel$Program", "make", "(I)V"⟩ ⟨"HomeSystemModel$Program", "make", "(I)V"⟩ ∈ AL := AL_p (q := (⟨"HomeSystemModel$Program", "make", "(I)V"⟩, 69)) (by unfold lw_privs; exact List.mem_append_right _ (List.mem_append_right _ (List.mem_append_right _ (List.mem_append_right _ (List.mem_append_right _ (List.mem_append_right _ (List.mem_append_right _ (List.mem_append_right _ (List.mem_append_right _ (List.mem_append_right _ (List.mem_append_right _ (List.mem_append_right _ (List.mem_append_right _ (List.mem_append_left _ (List.mem_of_getElem? (i := 3) rfl)))))))))))))))
theorem m13_89 : Cond.instanceMethod ⟨"HomeSystemModel$Program", "make", "(I)V"⟩ ∈ AL := AL_13 (List.mem_of_getElem? (i := 89) rfl) rfl
theorem m13_99 : Cond.methodLink "HomeSystemModel$Program" 722 ⟨"HomeSystemModel$Program", "landAll", "(II)V"⟩ ∈ AL := AL_13 (List.mem_of_getElem? (i := 99) rfl) rfl
theorem m13_102 : Cond.code ⟨"HomeSystemModel$Program", "landAll", "(II)V"⟩ prog_16_method_108_code 5 (Option.none : Option Jvm.ClassFile.FieldType) ∈ AL := AL_13 (List.mem_of_getElem? (i := 102) rfl) rfl
theorem ms_14_6 : Cond.selects "HomeSystemModel$Program" ⟨"HomeSystemModel$Program", "landAll", "(II)V"⟩ ⟨"HomeSystemModel$Program", "landAll", "(II)V"⟩ ∈ AL := AL_p (q := (⟨"HomeSystemModel$Program", "landAll", "(II)V"⟩, 69)) (by unfold lw_privs; exact List.mem_append_right _ (List.mem_append_right _ (List.mem_append_right _ (List.mem_append_right _ (List.mem_append_right _ (List.mem_append_right _ (List.mem_append_right _ (List.mem_append_right _ (List.mem_append_right _ (List.mem_append_right _ (List.mem_append_right _ (List.mem_append_right _ (List.mem_append_right _ (List.mem_append_left _ (List.mem_of_getElem? (i := 6) rfl)))))))))))))))
theorem m13_101 : Cond.instanceMethod ⟨"HomeSystemModel$Program", "landAll", "(II)V"⟩ ∈ AL := AL_13 (List.mem_of_getElem? (i := 101) rfl) rfl
theorem m13_103 : Cond.methodLink "HomeSystemModel$Program" 725 ⟨"HomeSystemModel$Program", "land", "(I)V"⟩ ∈ AL := AL_13 (List.mem_of_getElem? (i := 103) rfl) rfl
theorem m13_106 : Cond.code ⟨"HomeSystemModel$Program", "land", "(I)V"⟩ prog_16_method_107_code 2 (Option.none : Option Jvm.ClassFile.FieldType) ∈ AL := AL_13 (List.mem_of_getElem? (i := 106) rfl) rfl
theorem ms_14_7 : Cond.selects "HomeSystemModel$Program" ⟨"HomeSystemModel$Program", "land", "(I)V"⟩ ⟨"HomeSystemModel$Program", "land", "(I)V"⟩ ∈ AL := AL_p (q := (⟨"HomeSystemModel$Program", "land", "(I)V"⟩, 69)) (by unfold lw_privs; exact List.mem_append_right _ (List.mem_append_right _ (List.mem_append_right _ (List.mem_append_right _ (List.mem_append_right _ (List.mem_append_right _ (List.mem_append_right _ (List.mem_append_right _ (List.mem_append_right _ (List.mem_append_right _ (List.mem_append_right _ (List.mem_append_right _ (List.mem_append_right _ (List.mem_append_left _ (List.mem_of_getElem? (i := 7) rfl)))))))))))))))
theorem m13_105 : Cond.instanceMethod ⟨"HomeSystemModel$Program", "land", "(I)V"⟩ ∈ AL := AL_13 (List.mem_of_getElem? (i := 105) rfl) rfl
theorem m13_95 : Cond.methodLink "HomeSystemModel$Program" 719 ⟨"HomeSystemModel$Program", "operatorOf", "(I)I"⟩ ∈ AL := AL_13 (List.mem_of_getElem? (i := 95) rfl) rfl
theorem m13_98 : Cond.code ⟨"HomeSystemModel$Program", "operatorOf", "(I)I"⟩ prog_16_method_109_code 2 (Option.some FieldType.int) ∈ AL := AL_13 (List.mem_of_getElem? (i := 98) rfl) rfl
theorem ms_14_5 : Cond.selects "HomeSystemModel$Program" ⟨"HomeSystemModel$Program", "operatorOf", "(I)I"⟩ ⟨"HomeSystemModel$Program", "operatorOf", "(I)I"⟩ ∈ AL := AL_p (q := (⟨"HomeSystemModel$Program", "operatorOf", "(I)I"⟩, 69)) (by unfold lw_privs; exact List.mem_append_right _ (List.mem_append_right _ (List.mem_append_right _ (List.mem_append_right _ (List.mem_append_right _ (List.mem_append_right _ (List.mem_append_right _ (List.mem_append_right _ (List.mem_append_right _ (List.mem_append_right _ (List.mem_append_right _ (List.mem_append_right _ (List.mem_append_right _ (List.mem_append_left _ (List.mem_of_getElem? (i := 5) rfl)))))))))))))))
theorem m13_97 : Cond.instanceMethod ⟨"HomeSystemModel$Program", "operatorOf", "(I)I"⟩ ∈ AL := AL_13 (List.mem_of_getElem? (i := 97) rfl) rfl
theorem m13_107 : Cond.methodLink "HomeSystemModel$Program" 728 ⟨"HomeSystemModel$Program", "assigned", "(I)I"⟩ ∈ AL := AL_13 (List.mem_of_getElem? (i := 107) rfl) rfl
theorem m13_110 : Cond.code ⟨"HomeSystemModel$Program", "assigned", "(I)I"⟩ prog_16_method_110_code 6 (Option.some FieldType.int) ∈ AL := AL_13 (List.mem_of_getElem? (i := 110) rfl) rfl
theorem ms_14_8 : Cond.selects "HomeSystemModel$Program" ⟨"HomeSystemModel$Program", "assigned", "(I)I"⟩ ⟨"HomeSystemModel$Program", "assigned", "(I)I"⟩ ∈ AL := AL_p (q := (⟨"HomeSystemModel$Program", "assigned", "(I)I"⟩, 69)) (by unfold lw_privs; exact List.mem_append_right _ (List.mem_append_right _ (List.mem_append_right _ (List.mem_append_right _ (List.mem_append_right _ (List.mem_append_right _ (List.mem_append_right _ (List.mem_append_right _ (List.mem_append_right _ (List.mem_append_right _ (List.mem_append_right _ (List.mem_append_right _ (List.mem_append_right _ (List.mem_append_left _ (List.mem_of_getElem? (i := 8) rfl)))))))))))))))
theorem m13_109 : Cond.instanceMethod ⟨"HomeSystemModel$Program", "assigned", "(I)I"⟩ ∈ AL := AL_13 (List.mem_of_getElem? (i := 109) rfl) rfl
theorem m13_91 : Cond.methodLink "HomeSystemModel$Program" 716 ⟨"HomeSystemModel$Program", "makeStep", "(II)V"⟩ ∈ AL := AL_13 (List.mem_of_getElem? (i := 91) rfl) rfl
theorem m13_94 : Cond.code ⟨"HomeSystemModel$Program", "makeStep", "(II)V"⟩ prog_16_method_112_code 5 (Option.none : Option Jvm.ClassFile.FieldType) ∈ AL := AL_13 (List.mem_of_getElem? (i := 94) rfl) rfl
theorem ms_14_4 : Cond.selects "HomeSystemModel$Program" ⟨"HomeSystemModel$Program", "makeStep", "(II)V"⟩ ⟨"HomeSystemModel$Program", "makeStep", "(II)V"⟩ ∈ AL := AL_p (q := (⟨"HomeSystemModel$Program", "makeStep", "(II)V"⟩, 69)) (by unfold lw_privs; exact List.mem_append_right _ (List.mem_append_right _ (List.mem_append_right _ (List.mem_append_right _ (List.mem_append_right _ (List.mem_append_right _ (List.mem_append_right _ (List.mem_append_right _ (List.mem_append_right _ (List.mem_append_right _ (List.mem_append_right _ (List.mem_append_right _ (List.mem_append_right _ (List.mem_append_left _ (List.mem_of_getElem? (i := 4) rfl)))))))))))))))
theorem m13_93 : Cond.instanceMethod ⟨"HomeSystemModel$Program", "makeStep", "(II)V"⟩ ∈ AL := AL_13 (List.mem_of_getElem? (i := 93) rfl) rfl
abbrev b_Mpg_make2 : ByteArray := prog_16_method_111_code
def y_Mpg_make2 : MethodName := ⟨"HomeSystemModel$Program", "make", "(I)V"⟩
theorem d_Mpg_make2_0 : decode b_Mpg_make2 0 = .ok (.aload_n 0, 1) := by decide +kernel
theorem d_Mpg_make2_1 : decode b_Mpg_make2 1 = .ok (.getfield 207, 3) := by decide +kernel
theorem d_Mpg_make2_4 : decode b_Mpg_make2 4 = .ok (.iload_n 1, 1) := by decide +kernel
theorem d_Mpg_make2_5 : decode b_Mpg_make2 5 = .ok (.baload, 1) := by decide +kernel
theorem d_Mpg_make2_6 : decode b_Mpg_make2 6 = .ok (.tableswitch 639 1 8 #[46, 67, 108, 262, 288, 349, 358, 574], 46) := by decide +kernel
theorem d_Mpg_make2_52 : decode b_Mpg_make2 52 = .ok (.aload_n 0, 1) := by decide +kernel
theorem d_Mpg_make2_53 : decode b_Mpg_make2 53 = .ok (.iconst 1, 1) := by decide +kernel
theorem d_Mpg_make2_54 : decode b_Mpg_make2 54 = .ok (.aload_n 0, 1) := by decide +kernel
theorem d_Mpg_make2_55 : decode b_Mpg_make2 55 = .ok (.getfield 204, 3) := by decide +kernel
theorem d_Mpg_make2_58 : decode b_Mpg_make2 58 = .ok (.aload_n 0, 1) := by decide +kernel
theorem d_Mpg_make2_59 : decode b_Mpg_make2 59 = .ok (.getfield 210, 3) := by decide +kernel
theorem d_Mpg_make2_62 : decode b_Mpg_make2 62 = .ok (.iload_n 1, 1) := by decide +kernel
theorem d_Mpg_make2_63 : decode b_Mpg_make2 63 = .ok (.iaload, 1) := by decide +kernel
theorem d_Mpg_make2_64 : decode b_Mpg_make2 64 = .ok (.iaload, 1) := by decide +kernel
theorem d_Mpg_make2_65 : decode b_Mpg_make2 65 = .ok (.iconst 0, 1) := by decide +kernel
theorem d_Mpg_make2_66 : decode b_Mpg_make2 66 = .ok (.invokevirtual 711, 3) := by decide +kernel
theorem d_Mpg_make2_69 : decode b_Mpg_make2 69 = .ok (.pop, 1) := by decide +kernel
theorem d_Mpg_make2_70 : decode b_Mpg_make2 70 = .ok (.goto 702, 3) := by decide +kernel
theorem d_Mpg_make2_73 : decode b_Mpg_make2 73 = .ok (.aload_n 0, 1) := by decide +kernel
theorem d_Mpg_make2_74 : decode b_Mpg_make2 74 = .ok (.getfield 219, 3) := by decide +kernel
theorem d_Mpg_make2_77 : decode b_Mpg_make2 77 = .ok (.iload_n 1, 1) := by decide +kernel
theorem d_Mpg_make2_78 : decode b_Mpg_make2 78 = .ok (.iaload, 1) := by decide +kernel
theorem d_Mpg_make2_79 : decode b_Mpg_make2 79 = .ok (.ifCond .ge 19, 3) := by decide +kernel
theorem d_Mpg_make2_82 : decode b_Mpg_make2 82 = .ok (.aload_n 0, 1) := by decide +kernel
theorem d_Mpg_make2_83 : decode b_Mpg_make2 83 = .ok (.iconst 1, 1) := by decide +kernel
theorem d_Mpg_make2_84 : decode b_Mpg_make2 84 = .ok (.aload_n 0, 1) := by decide +kernel
theorem d_Mpg_make2_85 : decode b_Mpg_make2 85 = .ok (.getfield 222, 3) := by decide +kernel
theorem d_Mpg_make2_88 : decode b_Mpg_make2 88 = .ok (.iload_n 1, 1) := by decide +kernel
theorem d_Mpg_make2_89 : decode b_Mpg_make2 89 = .ok (.iaload, 1) := by decide +kernel
theorem d_Mpg_make2_90 : decode b_Mpg_make2 90 = .ok (.iconst 0, 1) := by decide +kernel
theorem d_Mpg_make2_91 : decode b_Mpg_make2 91 = .ok (.invokevirtual 711, 3) := by decide +kernel
theorem d_Mpg_make2_94 : decode b_Mpg_make2 94 = .ok (.pop, 1) := by decide +kernel
theorem d_Mpg_make2_95 : decode b_Mpg_make2 95 = .ok (.goto 677, 3) := by decide +kernel
theorem d_Mpg_make2_98 : decode b_Mpg_make2 98 = .ok (.aload_n 0, 1) := by decide +kernel
theorem d_Mpg_make2_99 : decode b_Mpg_make2 99 = .ok (.iconst 2, 1) := by decide +kernel
theorem d_Mpg_make2_100 : decode b_Mpg_make2 100 = .ok (.aload_n 0, 1) := by decide +kernel
theorem d_Mpg_make2_101 : decode b_Mpg_make2 101 = .ok (.getfield 219, 3) := by decide +kernel
theorem d_Mpg_make2_104 : decode b_Mpg_make2 104 = .ok (.iload_n 1, 1) := by decide +kernel
theorem d_Mpg_make2_105 : decode b_Mpg_make2 105 = .ok (.iaload, 1) := by decide +kernel
theorem d_Mpg_make2_106 : decode b_Mpg_make2 106 = .ok (.iconst 0, 1) := by decide +kernel
theorem d_Mpg_make2_107 : decode b_Mpg_make2 107 = .ok (.invokevirtual 711, 3) := by decide +kernel
theorem d_Mpg_make2_110 : decode b_Mpg_make2 110 = .ok (.pop, 1) := by decide +kernel
theorem d_Mpg_make2_111 : decode b_Mpg_make2 111 = .ok (.goto 661, 3) := by decide +kernel
theorem d_Mpg_make2_114 : decode b_Mpg_make2 114 = .ok (.iconst 0, 1) := by decide +kernel
theorem d_Mpg_make2_115 : decode b_Mpg_make2 115 = .ok (.istore_n 2, 1) := by decide +kernel
theorem d_Mpg_make2_116 : decode b_Mpg_make2 116 = .ok (.aload_n 0, 1) := by decide +kernel
theorem d_Mpg_make2_117 : decode b_Mpg_make2 117 = .ok (.getfield 216, 3) := by decide +kernel
theorem d_Mpg_make2_120 : decode b_Mpg_make2 120 = .ok (.iload_n 1, 1) := by decide +kernel
theorem d_Mpg_make2_121 : decode b_Mpg_make2 121 = .ok (.iaload, 1) := by decide +kernel
theorem d_Mpg_make2_122 : decode b_Mpg_make2 122 = .ok (.istore_n 3, 1) := by decide +kernel
theorem d_Mpg_make2_123 : decode b_Mpg_make2 123 = .ok (.iload_n 3, 1) := by decide +kernel
theorem d_Mpg_make2_124 : decode b_Mpg_make2 124 = .ok (.ifCond .lt 88, 3) := by decide +kernel
theorem d_Mpg_make2_127 : decode b_Mpg_make2 127 = .ok (.aload_n 0, 1) := by decide +kernel
theorem d_Mpg_make2_128 : decode b_Mpg_make2 128 = .ok (.getfield 219, 3) := by decide +kernel
theorem d_Mpg_make2_131 : decode b_Mpg_make2 131 = .ok (.iload_n 1, 1) := by decide +kernel
theorem d_Mpg_make2_132 : decode b_Mpg_make2 132 = .ok (.iaload, 1) := by decide +kernel
theorem d_Mpg_make2_133 : decode b_Mpg_make2 133 = .ok (.bipush 100, 2) := by decide +kernel
theorem d_Mpg_make2_135 : decode b_Mpg_make2 135 = .ok (.if_icmp .lt 21, 3) := by decide +kernel
theorem d_Mpg_make2_138 : decode b_Mpg_make2 138 = .ok (.aload_n 0, 1) := by decide +kernel
theorem d_Mpg_make2_139 : decode b_Mpg_make2 139 = .ok (.aload_n 0, 1) := by decide +kernel
theorem d_Mpg_make2_140 : decode b_Mpg_make2 140 = .ok (.getfield 219, 3) := by decide +kernel
theorem d_Mpg_make2_143 : decode b_Mpg_make2 143 = .ok (.iload_n 1, 1) := by decide +kernel
theorem d_Mpg_make2_144 : decode b_Mpg_make2 144 = .ok (.iaload, 1) := by decide +kernel
theorem d_Mpg_make2_145 : decode b_Mpg_make2 145 = .ok (.bipush 100, 2) := by decide +kernel
theorem d_Mpg_make2_147 : decode b_Mpg_make2 147 = .ok (.isub, 1) := by decide +kernel
theorem d_Mpg_make2_148 : decode b_Mpg_make2 148 = .ok (.iconst (-1), 1) := by decide +kernel
theorem d_Mpg_make2_149 : decode b_Mpg_make2 149 = .ok (.iload_n 2, 1) := by decide +kernel
theorem d_Mpg_make2_150 : decode b_Mpg_make2 150 = .ok (.invokevirtual 587, 3) := by decide +kernel
theorem d_Mpg_make2_153 : decode b_Mpg_make2 153 = .ok (.goto 15, 3) := by decide +kernel
theorem d_Mpg_make2_156 : decode b_Mpg_make2 156 = .ok (.aload_n 0, 1) := by decide +kernel
theorem d_Mpg_make2_157 : decode b_Mpg_make2 157 = .ok (.iconst (-1), 1) := by decide +kernel
theorem d_Mpg_make2_158 : decode b_Mpg_make2 158 = .ok (.aload_n 0, 1) := by decide +kernel
theorem d_Mpg_make2_159 : decode b_Mpg_make2 159 = .ok (.getfield 219, 3) := by decide +kernel
theorem d_Mpg_make2_162 : decode b_Mpg_make2 162 = .ok (.iload_n 1, 1) := by decide +kernel
theorem d_Mpg_make2_163 : decode b_Mpg_make2 163 = .ok (.iaload, 1) := by decide +kernel
theorem d_Mpg_make2_164 : decode b_Mpg_make2 164 = .ok (.iload_n 2, 1) := by decide +kernel
theorem d_Mpg_make2_165 : decode b_Mpg_make2 165 = .ok (.invokevirtual 587, 3) := by decide +kernel
theorem d_Mpg_make2_168 : decode b_Mpg_make2 168 = .ok (.istore 4, 2) := by decide +kernel
theorem d_Mpg_make2_170 : decode b_Mpg_make2 170 = .ok (.iload 4, 2) := by decide +kernel
theorem d_Mpg_make2_172 : decode b_Mpg_make2 172 = .ok (.bipush 105, 2) := by decide +kernel
theorem d_Mpg_make2_174 : decode b_Mpg_make2 174 = .ok (.if_icmp .ne 11, 3) := by decide +kernel
theorem d_Mpg_make2_177 : decode b_Mpg_make2 177 = .ok (.aload_n 0, 1) := by decide +kernel
theorem d_Mpg_make2_178 : decode b_Mpg_make2 178 = .ok (.iload_n 3, 1) := by decide +kernel
theorem d_Mpg_make2_179 : decode b_Mpg_make2 179 = .ok (.invokevirtual 714, 3) := by decide +kernel
theorem d_Mpg_make2_182 : decode b_Mpg_make2 182 = .ok (.goto 17, 3) := by decide +kernel
theorem d_Mpg_make2_185 : decode b_Mpg_make2 185 = .ok (.aload_n 0, 1) := by decide +kernel
theorem d_Mpg_make2_186 : decode b_Mpg_make2 186 = .ok (.bipush 22, 2) := by decide +kernel
theorem d_Mpg_make2_188 : decode b_Mpg_make2 188 = .ok (.aload_n 0, 1) := by decide +kernel
theorem d_Mpg_make2_189 : decode b_Mpg_make2 189 = .ok (.getfield 219, 3) := by decide +kernel
theorem d_Mpg_make2_192 : decode b_Mpg_make2 192 = .ok (.iload_n 3, 1) := by decide +kernel
theorem d_Mpg_make2_193 : decode b_Mpg_make2 193 = .ok (.iaload, 1) := by decide +kernel
theorem d_Mpg_make2_194 : decode b_Mpg_make2 194 = .ok (.iconst 0, 1) := by decide +kernel
theorem d_Mpg_make2_195 : decode b_Mpg_make2 195 = .ok (.invokevirtual 711, 3) := by decide +kernel
theorem d_Mpg_make2_198 : decode b_Mpg_make2 198 = .ok (.pop, 1) := by decide +kernel
theorem d_Mpg_make2_199 : decode b_Mpg_make2 199 = .ok (.iinc 2 1, 3) := by decide +kernel
theorem d_Mpg_make2_202 : decode b_Mpg_make2 202 = .ok (.aload_n 0, 1) := by decide +kernel
theorem d_Mpg_make2_203 : decode b_Mpg_make2 203 = .ok (.getfield 228, 3) := by decide +kernel
theorem d_Mpg_make2_206 : decode b_Mpg_make2 206 = .ok (.iload_n 3, 1) := by decide +kernel
theorem d_Mpg_make2_207 : decode b_Mpg_make2 207 = .ok (.iaload, 1) := by decide +kernel
theorem d_Mpg_make2_208 : decode b_Mpg_make2 208 = .ok (.istore_n 3, 1) := by decide +kernel
theorem d_Mpg_make2_209 : decode b_Mpg_make2 209 = .ok (.goto (-86), 3) := by decide +kernel
theorem d_Mpg_make2_212 : decode b_Mpg_make2 212 = .ok (.aload_n 0, 1) := by decide +kernel
theorem d_Mpg_make2_213 : decode b_Mpg_make2 213 = .ok (.aload_n 0, 1) := by decide +kernel
theorem d_Mpg_make2_214 : decode b_Mpg_make2 214 = .ok (.getfield 219, 3) := by decide +kernel
theorem d_Mpg_make2_217 : decode b_Mpg_make2 217 = .ok (.iload_n 1, 1) := by decide +kernel
theorem d_Mpg_make2_218 : decode b_Mpg_make2 218 = .ok (.iaload, 1) := by decide +kernel
theorem d_Mpg_make2_219 : decode b_Mpg_make2 219 = .ok (.bipush 100, 2) := by decide +kernel
theorem d_Mpg_make2_221 : decode b_Mpg_make2 221 = .ok (.if_icmp .lt 8, 3) := by decide +kernel
theorem d_Mpg_make2_224 : decode b_Mpg_make2 224 = .ok (.bipush 15, 2) := by decide +kernel
theorem d_Mpg_make2_226 : decode b_Mpg_make2 226 = .ok (.goto 5, 3) := by decide +kernel
theorem d_Mpg_make2_229 : decode b_Mpg_make2 229 = .ok (.bipush 16, 2) := by decide +kernel
theorem d_Mpg_make2_231 : decode b_Mpg_make2 231 = .ok (.aload_n 0, 1) := by decide +kernel
theorem d_Mpg_make2_232 : decode b_Mpg_make2 232 = .ok (.getfield 219, 3) := by decide +kernel
theorem d_Mpg_make2_235 : decode b_Mpg_make2 235 = .ok (.iload_n 1, 1) := by decide +kernel
theorem d_Mpg_make2_236 : decode b_Mpg_make2 236 = .ok (.iaload, 1) := by decide +kernel
theorem d_Mpg_make2_237 : decode b_Mpg_make2 237 = .ok (.bipush 100, 2) := by decide +kernel
theorem d_Mpg_make2_239 : decode b_Mpg_make2 239 = .ok (.if_icmp .lt 15, 3) := by decide +kernel
theorem d_Mpg_make2_242 : decode b_Mpg_make2 242 = .ok (.aload_n 0, 1) := by decide +kernel
theorem d_Mpg_make2_243 : decode b_Mpg_make2 243 = .ok (.getfield 219, 3) := by decide +kernel
theorem d_Mpg_make2_246 : decode b_Mpg_make2 246 = .ok (.iload_n 1, 1) := by decide +kernel
theorem d_Mpg_make2_247 : decode b_Mpg_make2 247 = .ok (.iaload, 1) := by decide +kernel
theorem d_Mpg_make2_248 : decode b_Mpg_make2 248 = .ok (.bipush 100, 2) := by decide +kernel
theorem d_Mpg_make2_250 : decode b_Mpg_make2 250 = .ok (.isub, 1) := by decide +kernel
theorem d_Mpg_make2_251 : decode b_Mpg_make2 251 = .ok (.goto 9, 3) := by decide +kernel
theorem d_Mpg_make2_254 : decode b_Mpg_make2 254 = .ok (.aload_n 0, 1) := by decide +kernel
theorem d_Mpg_make2_255 : decode b_Mpg_make2 255 = .ok (.getfield 219, 3) := by decide +kernel
theorem d_Mpg_make2_258 : decode b_Mpg_make2 258 = .ok (.iload_n 1, 1) := by decide +kernel
theorem d_Mpg_make2_259 : decode b_Mpg_make2 259 = .ok (.iaload, 1) := by decide +kernel
theorem d_Mpg_make2_260 : decode b_Mpg_make2 260 = .ok (.iconst 0, 1) := by decide +kernel
theorem d_Mpg_make2_261 : decode b_Mpg_make2 261 = .ok (.invokevirtual 711, 3) := by decide +kernel
theorem d_Mpg_make2_264 : decode b_Mpg_make2 264 = .ok (.pop, 1) := by decide +kernel
theorem d_Mpg_make2_265 : decode b_Mpg_make2 265 = .ok (.goto 507, 3) := by decide +kernel
theorem d_Mpg_make2_268 : decode b_Mpg_make2 268 = .ok (.aload_n 0, 1) := by decide +kernel
theorem d_Mpg_make2_269 : decode b_Mpg_make2 269 = .ok (.aload_n 0, 1) := by decide +kernel
theorem d_Mpg_make2_270 : decode b_Mpg_make2 270 = .ok (.getfield 216, 3) := by decide +kernel
theorem d_Mpg_make2_273 : decode b_Mpg_make2 273 = .ok (.iload_n 1, 1) := by decide +kernel
theorem d_Mpg_make2_274 : decode b_Mpg_make2 274 = .ok (.iaload, 1) := by decide +kernel
theorem d_Mpg_make2_275 : decode b_Mpg_make2 275 = .ok (.invokevirtual 714, 3) := by decide +kernel
theorem d_Mpg_make2_278 : decode b_Mpg_make2 278 = .ok (.aload_n 0, 1) := by decide +kernel
theorem d_Mpg_make2_279 : decode b_Mpg_make2 279 = .ok (.iconst 4, 1) := by decide +kernel
theorem d_Mpg_make2_280 : decode b_Mpg_make2 280 = .ok (.aload_n 0, 1) := by decide +kernel
theorem d_Mpg_make2_281 : decode b_Mpg_make2 281 = .ok (.getfield 219, 3) := by decide +kernel
theorem d_Mpg_make2_284 : decode b_Mpg_make2 284 = .ok (.iload_n 1, 1) := by decide +kernel
theorem d_Mpg_make2_285 : decode b_Mpg_make2 285 = .ok (.iaload, 1) := by decide +kernel
theorem d_Mpg_make2_286 : decode b_Mpg_make2 286 = .ok (.iconst 0, 1) := by decide +kernel
theorem d_Mpg_make2_287 : decode b_Mpg_make2 287 = .ok (.invokevirtual 711, 3) := by decide +kernel
theorem d_Mpg_make2_290 : decode b_Mpg_make2 290 = .ok (.pop, 1) := by decide +kernel
theorem d_Mpg_make2_291 : decode b_Mpg_make2 291 = .ok (.goto 481, 3) := by decide +kernel
theorem d_Mpg_make2_294 : decode b_Mpg_make2 294 = .ok (.aload_n 0, 1) := by decide +kernel
theorem d_Mpg_make2_295 : decode b_Mpg_make2 295 = .ok (.getfield 198, 3) := by decide +kernel
theorem d_Mpg_make2_298 : decode b_Mpg_make2 298 = .ok (.aload_n 0, 1) := by decide +kernel
theorem d_Mpg_make2_299 : decode b_Mpg_make2 299 = .ok (.getfield 210, 3) := by decide +kernel
theorem d_Mpg_make2_302 : decode b_Mpg_make2 302 = .ok (.iload_n 1, 1) := by decide +kernel
theorem d_Mpg_make2_303 : decode b_Mpg_make2 303 = .ok (.iaload, 1) := by decide +kernel
theorem d_Mpg_make2_304 : decode b_Mpg_make2 304 = .ok (.iaload, 1) := by decide +kernel
theorem d_Mpg_make2_305 : decode b_Mpg_make2 305 = .ok (.iconst 2, 1) := by decide +kernel
theorem d_Mpg_make2_306 : decode b_Mpg_make2 306 = .ok (.if_icmp .ne 12, 3) := by decide +kernel
theorem d_Mpg_make2_309 : decode b_Mpg_make2 309 = .ok (.aload_n 0, 1) := by decide +kernel
theorem d_Mpg_make2_310 : decode b_Mpg_make2 310 = .ok (.iload_n 1, 1) := by decide +kernel
theorem d_Mpg_make2_311 : decode b_Mpg_make2 311 = .ok (.iconst 2, 1) := by decide +kernel
theorem d_Mpg_make2_312 : decode b_Mpg_make2 312 = .ok (.invokevirtual 716, 3) := by decide +kernel
theorem d_Mpg_make2_315 : decode b_Mpg_make2 315 = .ok (.goto 457, 3) := by decide +kernel
theorem d_Mpg_make2_318 : decode b_Mpg_make2 318 = .ok (.aload_n 0, 1) := by decide +kernel
theorem d_Mpg_make2_319 : decode b_Mpg_make2 319 = .ok (.aload_n 0, 1) := by decide +kernel
theorem d_Mpg_make2_320 : decode b_Mpg_make2 320 = .ok (.getfield 216, 3) := by decide +kernel
theorem d_Mpg_make2_323 : decode b_Mpg_make2 323 = .ok (.iload_n 1, 1) := by decide +kernel
theorem d_Mpg_make2_324 : decode b_Mpg_make2 324 = .ok (.iaload, 1) := by decide +kernel
theorem d_Mpg_make2_325 : decode b_Mpg_make2 325 = .ok (.invokevirtual 714, 3) := by decide +kernel
theorem d_Mpg_make2_328 : decode b_Mpg_make2 328 = .ok (.aload_n 0, 1) := by decide +kernel
theorem d_Mpg_make2_329 : decode b_Mpg_make2 329 = .ok (.bipush 10, 2) := by decide +kernel
theorem d_Mpg_make2_331 : decode b_Mpg_make2 331 = .ok (.aload_n 0, 1) := by decide +kernel
theorem d_Mpg_make2_332 : decode b_Mpg_make2 332 = .ok (.getfield 190, 3) := by decide +kernel
theorem d_Mpg_make2_335 : decode b_Mpg_make2 335 = .ok (.aload_n 0, 1) := by decide +kernel
theorem d_Mpg_make2_336 : decode b_Mpg_make2 336 = .ok (.getfield 194, 3) := by decide +kernel
theorem d_Mpg_make2_339 : decode b_Mpg_make2 339 = .ok (.aload_n 0, 1) := by decide +kernel
theorem d_Mpg_make2_340 : decode b_Mpg_make2 340 = .ok (.getfield 210, 3) := by decide +kernel
theorem d_Mpg_make2_343 : decode b_Mpg_make2 343 = .ok (.iload_n 1, 1) := by decide +kernel
theorem d_Mpg_make2_344 : decode b_Mpg_make2 344 = .ok (.iaload, 1) := by decide +kernel
theorem d_Mpg_make2_345 : decode b_Mpg_make2 345 = .ok (.iaload, 1) := by decide +kernel
theorem d_Mpg_make2_346 : decode b_Mpg_make2 346 = .ok (.baload, 1) := by decide +kernel
theorem d_Mpg_make2_347 : decode b_Mpg_make2 347 = .ok (.iconst 0, 1) := by decide +kernel
theorem d_Mpg_make2_348 : decode b_Mpg_make2 348 = .ok (.invokevirtual 711, 3) := by decide +kernel
theorem d_Mpg_make2_351 : decode b_Mpg_make2 351 = .ok (.pop, 1) := by decide +kernel
theorem d_Mpg_make2_352 : decode b_Mpg_make2 352 = .ok (.goto 420, 3) := by decide +kernel
theorem d_Mpg_make2_355 : decode b_Mpg_make2 355 = .ok (.aload_n 0, 1) := by decide +kernel
theorem d_Mpg_make2_356 : decode b_Mpg_make2 356 = .ok (.iload_n 1, 1) := by decide +kernel
theorem d_Mpg_make2_357 : decode b_Mpg_make2 357 = .ok (.iconst 0, 1) := by decide +kernel
theorem d_Mpg_make2_358 : decode b_Mpg_make2 358 = .ok (.invokevirtual 716, 3) := by decide +kernel
theorem d_Mpg_make2_361 : decode b_Mpg_make2 361 = .ok (.goto 411, 3) := by decide +kernel
theorem d_Mpg_make2_364 : decode b_Mpg_make2 364 = .ok (.aload_n 0, 1) := by decide +kernel
theorem d_Mpg_make2_365 : decode b_Mpg_make2 365 = .ok (.aload_n 0, 1) := by decide +kernel
theorem d_Mpg_make2_366 : decode b_Mpg_make2 366 = .ok (.getfield 216, 3) := by decide +kernel
theorem d_Mpg_make2_369 : decode b_Mpg_make2 369 = .ok (.iload_n 1, 1) := by decide +kernel
theorem d_Mpg_make2_370 : decode b_Mpg_make2 370 = .ok (.iaload, 1) := by decide +kernel
theorem d_Mpg_make2_371 : decode b_Mpg_make2 371 = .ok (.invokevirtual 714, 3) := by decide +kernel
theorem d_Mpg_make2_374 : decode b_Mpg_make2 374 = .ok (.iconst (-1), 1) := by decide +kernel
theorem d_Mpg_make2_375 : decode b_Mpg_make2 375 = .ok (.istore_n 3, 1) := by decide +kernel
theorem d_Mpg_make2_376 : decode b_Mpg_make2 376 = .ok (.aload_n 0, 1) := by decide +kernel
theorem d_Mpg_make2_377 : decode b_Mpg_make2 377 = .ok (.getfield 228, 3) := by decide +kernel
theorem d_Mpg_make2_380 : decode b_Mpg_make2 380 = .ok (.aload_n 0, 1) := by decide +kernel
theorem d_Mpg_make2_381 : decode b_Mpg_make2 381 = .ok (.getfield 216, 3) := by decide +kernel
theorem d_Mpg_make2_384 : decode b_Mpg_make2 384 = .ok (.iload_n 1, 1) := by decide +kernel
theorem d_Mpg_make2_385 : decode b_Mpg_make2 385 = .ok (.iaload, 1) := by decide +kernel
theorem d_Mpg_make2_386 : decode b_Mpg_make2 386 = .ok (.iaload, 1) := by decide +kernel
theorem d_Mpg_make2_387 : decode b_Mpg_make2 387 = .ok (.istore 4, 2) := by decide +kernel
theorem d_Mpg_make2_389 : decode b_Mpg_make2 389 = .ok (.iload 4, 2) := by decide +kernel
theorem d_Mpg_make2_391 : decode b_Mpg_make2 391 = .ok (.ifCond .lt 83, 3) := by decide +kernel
theorem d_Mpg_make2_394 : decode b_Mpg_make2 394 = .ok (.aload_n 0, 1) := by decide +kernel
theorem d_Mpg_make2_395 : decode b_Mpg_make2 395 = .ok (.getfield 231, 3) := by decide +kernel
theorem d_Mpg_make2_398 : decode b_Mpg_make2 398 = .ok (.iload_n 1, 1) := by decide +kernel
theorem d_Mpg_make2_399 : decode b_Mpg_make2 399 = .ok (.iaload, 1) := by decide +kernel
theorem d_Mpg_make2_400 : decode b_Mpg_make2 400 = .ok (.iconst 3, 1) := by decide +kernel
theorem d_Mpg_make2_401 : decode b_Mpg_make2 401 = .ok (.if_icmp .ge 36, 3) := by decide +kernel
theorem d_Mpg_make2_404 : decode b_Mpg_make2 404 = .ok (.aload_n 0, 1) := by decide +kernel
theorem d_Mpg_make2_405 : decode b_Mpg_make2 405 = .ok (.aload_n 0, 1) := by decide +kernel
theorem d_Mpg_make2_406 : decode b_Mpg_make2 406 = .ok (.getfield 231, 3) := by decide +kernel
theorem d_Mpg_make2_409 : decode b_Mpg_make2 409 = .ok (.iload_n 1, 1) := by decide +kernel
theorem d_Mpg_make2_410 : decode b_Mpg_make2 410 = .ok (.iaload, 1) := by decide +kernel
theorem d_Mpg_make2_411 : decode b_Mpg_make2 411 = .ok (.iconst 1, 1) := by decide +kernel
theorem d_Mpg_make2_412 : decode b_Mpg_make2 412 = .ok (.if_icmp .ne 8, 3) := by decide +kernel
theorem d_Mpg_make2_415 : decode b_Mpg_make2 415 = .ok (.bipush 14, 2) := by decide +kernel
theorem d_Mpg_make2_417 : decode b_Mpg_make2 417 = .ok (.goto 5, 3) := by decide +kernel
theorem d_Mpg_make2_420 : decode b_Mpg_make2 420 = .ok (.bipush 13, 2) := by decide +kernel
theorem d_Mpg_make2_422 : decode b_Mpg_make2 422 = .ok (.iload_n 3, 1) := by decide +kernel
theorem d_Mpg_make2_423 : decode b_Mpg_make2 423 = .ok (.iconst 0, 1) := by decide +kernel
theorem d_Mpg_make2_424 : decode b_Mpg_make2 424 = .ok (.invokevirtual 711, 3) := by decide +kernel
theorem d_Mpg_make2_427 : decode b_Mpg_make2 427 = .ok (.istore_n 3, 1) := by decide +kernel
theorem d_Mpg_make2_428 : decode b_Mpg_make2 428 = .ok (.aload_n 0, 1) := by decide +kernel
theorem d_Mpg_make2_429 : decode b_Mpg_make2 429 = .ok (.iload 4, 2) := by decide +kernel
theorem d_Mpg_make2_431 : decode b_Mpg_make2 431 = .ok (.invokevirtual 714, 3) := by decide +kernel
theorem d_Mpg_make2_434 : decode b_Mpg_make2 434 = .ok (.goto 28, 3) := by decide +kernel
theorem d_Mpg_make2_437 : decode b_Mpg_make2 437 = .ok (.aload_n 0, 1) := by decide +kernel
theorem d_Mpg_make2_438 : decode b_Mpg_make2 438 = .ok (.iload 4, 2) := by decide +kernel
theorem d_Mpg_make2_440 : decode b_Mpg_make2 440 = .ok (.invokevirtual 714, 3) := by decide +kernel
theorem d_Mpg_make2_443 : decode b_Mpg_make2 443 = .ok (.aload_n 0, 1) := by decide +kernel
theorem d_Mpg_make2_444 : decode b_Mpg_make2 444 = .ok (.bipush 11, 2) := by decide +kernel
theorem d_Mpg_make2_446 : decode b_Mpg_make2 446 = .ok (.aload_n 0, 1) := by decide +kernel
theorem d_Mpg_make2_447 : decode b_Mpg_make2 447 = .ok (.aload_n 0, 1) := by decide +kernel
theorem d_Mpg_make2_448 : decode b_Mpg_make2 448 = .ok (.getfield 225, 3) := by decide +kernel
theorem d_Mpg_make2_451 : decode b_Mpg_make2 451 = .ok (.iload 4, 2) := by decide +kernel
theorem d_Mpg_make2_453 : decode b_Mpg_make2 453 = .ok (.iaload, 1) := by decide +kernel
theorem d_Mpg_make2_454 : decode b_Mpg_make2 454 = .ok (.invokevirtual 719, 3) := by decide +kernel
theorem d_Mpg_make2_457 : decode b_Mpg_make2 457 = .ok (.iconst 0, 1) := by decide +kernel
theorem d_Mpg_make2_458 : decode b_Mpg_make2 458 = .ok (.invokevirtual 711, 3) := by decide +kernel
theorem d_Mpg_make2_461 : decode b_Mpg_make2 461 = .ok (.pop, 1) := by decide +kernel
theorem d_Mpg_make2_462 : decode b_Mpg_make2 462 = .ok (.aload_n 0, 1) := by decide +kernel
theorem d_Mpg_make2_463 : decode b_Mpg_make2 463 = .ok (.getfield 228, 3) := by decide +kernel
theorem d_Mpg_make2_466 : decode b_Mpg_make2 466 = .ok (.iload 4, 2) := by decide +kernel
theorem d_Mpg_make2_468 : decode b_Mpg_make2 468 = .ok (.iaload, 1) := by decide +kernel
theorem d_Mpg_make2_469 : decode b_Mpg_make2 469 = .ok (.istore 4, 2) := by decide +kernel
theorem d_Mpg_make2_471 : decode b_Mpg_make2 471 = .ok (.goto (-82), 3) := by decide +kernel
theorem d_Mpg_make2_474 : decode b_Mpg_make2 474 = .ok (.aload_n 0, 1) := by decide +kernel
theorem d_Mpg_make2_475 : decode b_Mpg_make2 475 = .ok (.getfield 231, 3) := by decide +kernel
theorem d_Mpg_make2_478 : decode b_Mpg_make2 478 = .ok (.iload_n 1, 1) := by decide +kernel
theorem d_Mpg_make2_479 : decode b_Mpg_make2 479 = .ok (.iaload, 1) := by decide +kernel
theorem d_Mpg_make2_480 : decode b_Mpg_make2 480 = .ok (.iconst 3, 1) := by decide +kernel
theorem d_Mpg_make2_481 : decode b_Mpg_make2 481 = .ok (.if_icmp .ge 291, 3) := by decide +kernel
theorem d_Mpg_make2_484 : decode b_Mpg_make2 484 = .ok (.aload_n 0, 1) := by decide +kernel
theorem d_Mpg_make2_485 : decode b_Mpg_make2 485 = .ok (.aload_n 0, 1) := by decide +kernel
theorem d_Mpg_make2_486 : decode b_Mpg_make2 486 = .ok (.getfield 231, 3) := by decide +kernel
theorem d_Mpg_make2_489 : decode b_Mpg_make2 489 = .ok (.iload_n 1, 1) := by decide +kernel
theorem d_Mpg_make2_490 : decode b_Mpg_make2 490 = .ok (.iaload, 1) := by decide +kernel
theorem d_Mpg_make2_491 : decode b_Mpg_make2 491 = .ok (.iconst 1, 1) := by decide +kernel
theorem d_Mpg_make2_492 : decode b_Mpg_make2 492 = .ok (.if_icmp .ne 8, 3) := by decide +kernel
theorem d_Mpg_make2_495 : decode b_Mpg_make2 495 = .ok (.bipush 14, 2) := by decide +kernel
theorem d_Mpg_make2_497 : decode b_Mpg_make2 497 = .ok (.goto 5, 3) := by decide +kernel
theorem d_Mpg_make2_500 : decode b_Mpg_make2 500 = .ok (.bipush 13, 2) := by decide +kernel
theorem d_Mpg_make2_502 : decode b_Mpg_make2 502 = .ok (.iload_n 3, 1) := by decide +kernel
theorem d_Mpg_make2_503 : decode b_Mpg_make2 503 = .ok (.iconst 0, 1) := by decide +kernel
theorem d_Mpg_make2_504 : decode b_Mpg_make2 504 = .ok (.invokevirtual 711, 3) := by decide +kernel
theorem d_Mpg_make2_507 : decode b_Mpg_make2 507 = .ok (.istore_n 3, 1) := by decide +kernel
theorem d_Mpg_make2_508 : decode b_Mpg_make2 508 = .ok (.aload_n 0, 1) := by decide +kernel
theorem d_Mpg_make2_509 : decode b_Mpg_make2 509 = .ok (.iconst 1, 1) := by decide +kernel
theorem d_Mpg_make2_510 : decode b_Mpg_make2 510 = .ok (.aload_n 0, 1) := by decide +kernel
theorem d_Mpg_make2_511 : decode b_Mpg_make2 511 = .ok (.getfield 231, 3) := by decide +kernel
theorem d_Mpg_make2_514 : decode b_Mpg_make2 514 = .ok (.iload_n 1, 1) := by decide +kernel
theorem d_Mpg_make2_515 : decode b_Mpg_make2 515 = .ok (.iaload, 1) := by decide +kernel
theorem d_Mpg_make2_516 : decode b_Mpg_make2 516 = .ok (.iconst 1, 1) := by decide +kernel
theorem d_Mpg_make2_517 : decode b_Mpg_make2 517 = .ok (.if_icmp .ne 7, 3) := by decide +kernel
theorem d_Mpg_make2_520 : decode b_Mpg_make2 520 = .ok (.iconst 0, 1) := by decide +kernel
theorem d_Mpg_make2_521 : decode b_Mpg_make2 521 = .ok (.goto 4, 3) := by decide +kernel
theorem d_Mpg_make2_524 : decode b_Mpg_make2 524 = .ok (.iconst 1, 1) := by decide +kernel
theorem d_Mpg_make2_525 : decode b_Mpg_make2 525 = .ok (.iconst 0, 1) := by decide +kernel
theorem d_Mpg_make2_526 : decode b_Mpg_make2 526 = .ok (.invokevirtual 711, 3) := by decide +kernel
theorem d_Mpg_make2_529 : decode b_Mpg_make2 529 = .ok (.pop, 1) := by decide +kernel
theorem d_Mpg_make2_530 : decode b_Mpg_make2 530 = .ok (.aload_n 0, 1) := by decide +kernel
theorem d_Mpg_make2_531 : decode b_Mpg_make2 531 = .ok (.bipush 12, 2) := by decide +kernel
theorem d_Mpg_make2_533 : decode b_Mpg_make2 533 = .ok (.iconst 0, 1) := by decide +kernel
theorem d_Mpg_make2_534 : decode b_Mpg_make2 534 = .ok (.iconst 0, 1) := by decide +kernel
theorem d_Mpg_make2_535 : decode b_Mpg_make2 535 = .ok (.invokevirtual 711, 3) := by decide +kernel
theorem d_Mpg_make2_538 : decode b_Mpg_make2 538 = .ok (.istore 4, 2) := by decide +kernel
theorem d_Mpg_make2_540 : decode b_Mpg_make2 540 = .ok (.aload_n 0, 1) := by decide +kernel
theorem d_Mpg_make2_541 : decode b_Mpg_make2 541 = .ok (.iload_n 3, 1) := by decide +kernel
theorem d_Mpg_make2_542 : decode b_Mpg_make2 542 = .ok (.aload_n 0, 1) := by decide +kernel
theorem d_Mpg_make2_543 : decode b_Mpg_make2 543 = .ok (.getfield 708, 3) := by decide +kernel
theorem d_Mpg_make2_546 : decode b_Mpg_make2 546 = .ok (.invokevirtual 722, 3) := by decide +kernel
theorem d_Mpg_make2_549 : decode b_Mpg_make2 549 = .ok (.aload_n 0, 1) := by decide +kernel
theorem d_Mpg_make2_550 : decode b_Mpg_make2 550 = .ok (.iconst 1, 1) := by decide +kernel
theorem d_Mpg_make2_551 : decode b_Mpg_make2 551 = .ok (.aload_n 0, 1) := by decide +kernel
theorem d_Mpg_make2_552 : decode b_Mpg_make2 552 = .ok (.getfield 231, 3) := by decide +kernel
theorem d_Mpg_make2_555 : decode b_Mpg_make2 555 = .ok (.iload_n 1, 1) := by decide +kernel
theorem d_Mpg_make2_556 : decode b_Mpg_make2 556 = .ok (.iaload, 1) := by decide +kernel
theorem d_Mpg_make2_557 : decode b_Mpg_make2 557 = .ok (.iconst 1, 1) := by decide +kernel
theorem d_Mpg_make2_558 : decode b_Mpg_make2 558 = .ok (.if_icmp .ne 7, 3) := by decide +kernel
theorem d_Mpg_make2_561 : decode b_Mpg_make2 561 = .ok (.iconst 1, 1) := by decide +kernel
theorem d_Mpg_make2_562 : decode b_Mpg_make2 562 = .ok (.goto 4, 3) := by decide +kernel
theorem d_Mpg_make2_565 : decode b_Mpg_make2 565 = .ok (.iconst 0, 1) := by decide +kernel
theorem d_Mpg_make2_566 : decode b_Mpg_make2 566 = .ok (.iconst 0, 1) := by decide +kernel
theorem d_Mpg_make2_567 : decode b_Mpg_make2 567 = .ok (.invokevirtual 711, 3) := by decide +kernel
theorem d_Mpg_make2_570 : decode b_Mpg_make2 570 = .ok (.pop, 1) := by decide +kernel
theorem d_Mpg_make2_571 : decode b_Mpg_make2 571 = .ok (.aload_n 0, 1) := by decide +kernel
theorem d_Mpg_make2_572 : decode b_Mpg_make2 572 = .ok (.iload 4, 2) := by decide +kernel
theorem d_Mpg_make2_574 : decode b_Mpg_make2 574 = .ok (.invokevirtual 725, 3) := by decide +kernel
theorem d_Mpg_make2_577 : decode b_Mpg_make2 577 = .ok (.goto 195, 3) := by decide +kernel
theorem d_Mpg_make2_580 : decode b_Mpg_make2 580 = .ok (.aload_n 0, 1) := by decide +kernel
theorem d_Mpg_make2_581 : decode b_Mpg_make2 581 = .ok (.aload_n 0, 1) := by decide +kernel
theorem d_Mpg_make2_582 : decode b_Mpg_make2 582 = .ok (.getfield 216, 3) := by decide +kernel
theorem d_Mpg_make2_585 : decode b_Mpg_make2 585 = .ok (.iload_n 1, 1) := by decide +kernel
theorem d_Mpg_make2_586 : decode b_Mpg_make2 586 = .ok (.iaload, 1) := by decide +kernel
theorem d_Mpg_make2_587 : decode b_Mpg_make2 587 = .ok (.invokevirtual 714, 3) := by decide +kernel
theorem d_Mpg_make2_590 : decode b_Mpg_make2 590 = .ok (.aload_n 0, 1) := by decide +kernel
theorem d_Mpg_make2_591 : decode b_Mpg_make2 591 = .ok (.bipush 13, 2) := by decide +kernel
theorem d_Mpg_make2_593 : decode b_Mpg_make2 593 = .ok (.iconst 0, 1) := by decide +kernel
theorem d_Mpg_make2_594 : decode b_Mpg_make2 594 = .ok (.iconst 0, 1) := by decide +kernel
theorem d_Mpg_make2_595 : decode b_Mpg_make2 595 = .ok (.invokevirtual 711, 3) := by decide +kernel
theorem d_Mpg_make2_598 : decode b_Mpg_make2 598 = .ok (.istore 4, 2) := by decide +kernel
theorem d_Mpg_make2_600 : decode b_Mpg_make2 600 = .ok (.aload_n 0, 1) := by decide +kernel
theorem d_Mpg_make2_601 : decode b_Mpg_make2 601 = .ok (.aload_n 0, 1) := by decide +kernel
theorem d_Mpg_make2_602 : decode b_Mpg_make2 602 = .ok (.getfield 219, 3) := by decide +kernel
theorem d_Mpg_make2_605 : decode b_Mpg_make2 605 = .ok (.iload_n 1, 1) := by decide +kernel
theorem d_Mpg_make2_606 : decode b_Mpg_make2 606 = .ok (.iaload, 1) := by decide +kernel
theorem d_Mpg_make2_607 : decode b_Mpg_make2 607 = .ok (.invokevirtual 714, 3) := by decide +kernel
theorem d_Mpg_make2_610 : decode b_Mpg_make2 610 = .ok (.aload_n 0, 1) := by decide +kernel
theorem d_Mpg_make2_611 : decode b_Mpg_make2 611 = .ok (.bipush 12, 2) := by decide +kernel
theorem d_Mpg_make2_613 : decode b_Mpg_make2 613 = .ok (.iconst 0, 1) := by decide +kernel
theorem d_Mpg_make2_614 : decode b_Mpg_make2 614 = .ok (.iconst 0, 1) := by decide +kernel
theorem d_Mpg_make2_615 : decode b_Mpg_make2 615 = .ok (.invokevirtual 711, 3) := by decide +kernel
theorem d_Mpg_make2_618 : decode b_Mpg_make2 618 = .ok (.istore 5, 2) := by decide +kernel
theorem d_Mpg_make2_620 : decode b_Mpg_make2 620 = .ok (.aload_n 0, 1) := by decide +kernel
theorem d_Mpg_make2_621 : decode b_Mpg_make2 621 = .ok (.iload 4, 2) := by decide +kernel
theorem d_Mpg_make2_623 : decode b_Mpg_make2 623 = .ok (.invokevirtual 725, 3) := by decide +kernel
theorem d_Mpg_make2_626 : decode b_Mpg_make2 626 = .ok (.aload_n 0, 1) := by decide +kernel
theorem d_Mpg_make2_627 : decode b_Mpg_make2 627 = .ok (.aload_n 0, 1) := by decide +kernel
theorem d_Mpg_make2_628 : decode b_Mpg_make2 628 = .ok (.getfield 222, 3) := by decide +kernel
theorem d_Mpg_make2_631 : decode b_Mpg_make2 631 = .ok (.iload_n 1, 1) := by decide +kernel
theorem d_Mpg_make2_632 : decode b_Mpg_make2 632 = .ok (.iaload, 1) := by decide +kernel
theorem d_Mpg_make2_633 : decode b_Mpg_make2 633 = .ok (.invokevirtual 714, 3) := by decide +kernel
theorem d_Mpg_make2_636 : decode b_Mpg_make2 636 = .ok (.aload_n 0, 1) := by decide +kernel
theorem d_Mpg_make2_637 : decode b_Mpg_make2 637 = .ok (.iload 5, 2) := by decide +kernel
theorem d_Mpg_make2_639 : decode b_Mpg_make2 639 = .ok (.invokevirtual 725, 3) := by decide +kernel
theorem d_Mpg_make2_642 : decode b_Mpg_make2 642 = .ok (.goto 130, 3) := by decide +kernel
theorem d_Mpg_make2_645 : decode b_Mpg_make2 645 = .ok (.aload_n 0, 1) := by decide +kernel
theorem d_Mpg_make2_646 : decode b_Mpg_make2 646 = .ok (.getfield 216, 3) := by decide +kernel
theorem d_Mpg_make2_649 : decode b_Mpg_make2 649 = .ok (.iload_n 1, 1) := by decide +kernel
theorem d_Mpg_make2_650 : decode b_Mpg_make2 650 = .ok (.iaload, 1) := by decide +kernel
theorem d_Mpg_make2_651 : decode b_Mpg_make2 651 = .ok (.istore 6, 2) := by decide +kernel
theorem d_Mpg_make2_653 : decode b_Mpg_make2 653 = .ok (.aload_n 0, 1) := by decide +kernel
theorem d_Mpg_make2_654 : decode b_Mpg_make2 654 = .ok (.getfield 207, 3) := by decide +kernel
theorem d_Mpg_make2_657 : decode b_Mpg_make2 657 = .ok (.iload 6, 2) := by decide +kernel
theorem d_Mpg_make2_659 : decode b_Mpg_make2 659 = .ok (.baload, 1) := by decide +kernel
theorem d_Mpg_make2_660 : decode b_Mpg_make2 660 = .ok (.iconst 4, 1) := by decide +kernel
theorem d_Mpg_make2_661 : decode b_Mpg_make2 661 = .ok (.if_icmp .ne 7, 3) := by decide +kernel
theorem d_Mpg_make2_664 : decode b_Mpg_make2 664 = .ok (.iconst 1, 1) := by decide +kernel
theorem d_Mpg_make2_665 : decode b_Mpg_make2 665 = .ok (.goto 4, 3) := by decide +kernel
theorem d_Mpg_make2_668 : decode b_Mpg_make2 668 = .ok (.iconst 0, 1) := by decide +kernel
theorem d_Mpg_make2_669 : decode b_Mpg_make2 669 = .ok (.istore 7, 2) := by decide +kernel
theorem d_Mpg_make2_671 : decode b_Mpg_make2 671 = .ok (.iload 7, 2) := by decide +kernel
theorem d_Mpg_make2_673 : decode b_Mpg_make2 673 = .ok (.ifCond .eq 14, 3) := by decide +kernel
theorem d_Mpg_make2_676 : decode b_Mpg_make2 676 = .ok (.aload_n 0, 1) := by decide +kernel
theorem d_Mpg_make2_677 : decode b_Mpg_make2 677 = .ok (.aload_n 0, 1) := by decide +kernel
theorem d_Mpg_make2_678 : decode b_Mpg_make2 678 = .ok (.getfield 216, 3) := by decide +kernel
theorem d_Mpg_make2_681 : decode b_Mpg_make2 681 = .ok (.iload 6, 2) := by decide +kernel
theorem d_Mpg_make2_683 : decode b_Mpg_make2 683 = .ok (.iaload, 1) := by decide +kernel
theorem d_Mpg_make2_684 : decode b_Mpg_make2 684 = .ok (.invokevirtual 714, 3) := by decide +kernel
theorem d_Mpg_make2_687 : decode b_Mpg_make2 687 = .ok (.aload_n 0, 1) := by decide +kernel
theorem d_Mpg_make2_688 : decode b_Mpg_make2 688 = .ok (.aload_n 0, 1) := by decide +kernel
theorem d_Mpg_make2_689 : decode b_Mpg_make2 689 = .ok (.getfield 219, 3) := by decide +kernel
theorem d_Mpg_make2_692 : decode b_Mpg_make2 692 = .ok (.iload_n 1, 1) := by decide +kernel
theorem d_Mpg_make2_693 : decode b_Mpg_make2 693 = .ok (.iaload, 1) := by decide +kernel
theorem d_Mpg_make2_694 : decode b_Mpg_make2 694 = .ok (.invokevirtual 714, 3) := by decide +kernel
theorem d_Mpg_make2_697 : decode b_Mpg_make2 697 = .ok (.aload_n 0, 1) := by decide +kernel
theorem d_Mpg_make2_698 : decode b_Mpg_make2 698 = .ok (.getfield 198, 3) := by decide +kernel
theorem d_Mpg_make2_701 : decode b_Mpg_make2 701 = .ok (.aload_n 0, 1) := by decide +kernel
theorem d_Mpg_make2_702 : decode b_Mpg_make2 702 = .ok (.getfield 210, 3) := by decide +kernel
theorem d_Mpg_make2_705 : decode b_Mpg_make2 705 = .ok (.iload_n 1, 1) := by decide +kernel
theorem d_Mpg_make2_706 : decode b_Mpg_make2 706 = .ok (.iaload, 1) := by decide +kernel
theorem d_Mpg_make2_707 : decode b_Mpg_make2 707 = .ok (.iaload, 1) := by decide +kernel
theorem d_Mpg_make2_708 : decode b_Mpg_make2 708 = .ok (.iconst 1, 1) := by decide +kernel
theorem d_Mpg_make2_709 : decode b_Mpg_make2 709 = .ok (.if_icmp .ne 29, 3) := by decide +kernel
theorem d_Mpg_make2_712 : decode b_Mpg_make2 712 = .ok (.aload_n 0, 1) := by decide +kernel
theorem d_Mpg_make2_713 : decode b_Mpg_make2 713 = .ok (.iload 7, 2) := by decide +kernel
theorem d_Mpg_make2_715 : decode b_Mpg_make2 715 = .ok (.ifCond .eq 7, 3) := by decide +kernel
theorem d_Mpg_make2_718 : decode b_Mpg_make2 718 = .ok (.iconst 5, 1) := by decide +kernel
theorem d_Mpg_make2_719 : decode b_Mpg_make2 719 = .ok (.goto 4, 3) := by decide +kernel
theorem d_Mpg_make2_722 : decode b_Mpg_make2 722 = .ok (.iconst 3, 1) := by decide +kernel
theorem d_Mpg_make2_723 : decode b_Mpg_make2 723 = .ok (.aload_n 0, 1) := by decide +kernel
theorem d_Mpg_make2_724 : decode b_Mpg_make2 724 = .ok (.getfield 219, 3) := by decide +kernel
theorem d_Mpg_make2_727 : decode b_Mpg_make2 727 = .ok (.iload 6, 2) := by decide +kernel
theorem d_Mpg_make2_729 : decode b_Mpg_make2 729 = .ok (.iaload, 1) := by decide +kernel
theorem d_Mpg_make2_730 : decode b_Mpg_make2 730 = .ok (.iconst 0, 1) := by decide +kernel
theorem d_Mpg_make2_731 : decode b_Mpg_make2 731 = .ok (.invokevirtual 711, 3) := by decide +kernel
theorem d_Mpg_make2_734 : decode b_Mpg_make2 734 = .ok (.pop, 1) := by decide +kernel
theorem d_Mpg_make2_735 : decode b_Mpg_make2 735 = .ok (.goto 37, 3) := by decide +kernel
theorem d_Mpg_make2_738 : decode b_Mpg_make2 738 = .ok (.aload_n 0, 1) := by decide +kernel
theorem d_Mpg_make2_739 : decode b_Mpg_make2 739 = .ok (.iload 7, 2) := by decide +kernel
theorem d_Mpg_make2_741 : decode b_Mpg_make2 741 = .ok (.ifCond .eq 8, 3) := by decide +kernel
theorem d_Mpg_make2_744 : decode b_Mpg_make2 744 = .ok (.bipush 7, 2) := by decide +kernel
theorem d_Mpg_make2_746 : decode b_Mpg_make2 746 = .ok (.goto 5, 3) := by decide +kernel
theorem d_Mpg_make2_749 : decode b_Mpg_make2 749 = .ok (.bipush 6, 2) := by decide +kernel
theorem d_Mpg_make2_751 : decode b_Mpg_make2 751 = .ok (.aload_n 0, 1) := by decide +kernel
theorem d_Mpg_make2_752 : decode b_Mpg_make2 752 = .ok (.getfield 219, 3) := by decide +kernel
theorem d_Mpg_make2_755 : decode b_Mpg_make2 755 = .ok (.iload 6, 2) := by decide +kernel
theorem d_Mpg_make2_757 : decode b_Mpg_make2 757 = .ok (.iaload, 1) := by decide +kernel
theorem d_Mpg_make2_758 : decode b_Mpg_make2 758 = .ok (.aload_n 0, 1) := by decide +kernel
theorem d_Mpg_make2_759 : decode b_Mpg_make2 759 = .ok (.aload_n 0, 1) := by decide +kernel
theorem d_Mpg_make2_760 : decode b_Mpg_make2 760 = .ok (.getfield 210, 3) := by decide +kernel
theorem d_Mpg_make2_763 : decode b_Mpg_make2 763 = .ok (.iload_n 1, 1) := by decide +kernel
theorem d_Mpg_make2_764 : decode b_Mpg_make2 764 = .ok (.iaload, 1) := by decide +kernel
theorem d_Mpg_make2_765 : decode b_Mpg_make2 765 = .ok (.invokevirtual 728, 3) := by decide +kernel
theorem d_Mpg_make2_768 : decode b_Mpg_make2 768 = .ok (.invokevirtual 711, 3) := by decide +kernel
theorem d_Mpg_make2_771 : decode b_Mpg_make2 771 = .ok (.pop, 1) := by decide +kernel
theorem d_Mpg_make2_772 : decode b_Mpg_make2 772 = .ok (.return_, 1) := by decide +kernel
theorem q_Mpg_make2 : px_y y_Mpg_make2 1 := by unfold px_y; decide +kernel
def MakC (l : Launch) (D : va_G) (cs : Nat → ClassId) (d : Nat) : Prop := ∀ (ma0 : Nat → Nat → Int32) (ys : Int) (ns : Int) (nf : Int) (wt : Int) (V : Nat → Nat → Prop) (vl : Int) (vh : Int) (X9 : Cx) (fi : Int) (S9 : List Nat) (lv9 : Nat) (bh : Int) (h : Nat) (r : Nat → Nat) (g : Nat → Nat → Option Nat) (tf : Nat → Int32) (ta : Nat → Nat → Int32) (pf : Nat → Int32) (na : Nat → Nat → Int32) (ma : Nat → Nat → Int32) (wa : Nat → Nat → Int32) (cf : Nat → Int32) (ca : Nat → Nat → Int32) (xf : Nat → Int32) (xa : Nat → Nat → Int32) (ef : Nat → Int32) (ea : Nat → Nat → Int32) (p0 : Int32)  (g0 : (pf 13).toInt ≤ 2100) (g1 : (tf 6).toInt ≤ 2049) (g2 : (cf 38).toInt = nf) (g3 : 0 ≤ nf) (g4 : 0 ≤ (ef 60).toInt) (g5 : (ef 60).toInt + wt ≤ 7000) (g6 : (S9.length : Int) + bh ≤ X9.tall fi) (htk : TkI tf ta) (hft : FnT (tf 6).toInt na ca (cf 38).toInt) (hfp : FnP na ca nf) (han : Ann na ma0 ma) (hts : Ts (Gk ta ca na ma0 ns ys nf) na ma vl vh V) (hcx : CxI X9 fi ca ns ys nf (tkl na ma0 ca)) (hmk : MkB ta (tf 6).toInt na ma0 ma ca V d (pf 13).toInt wt bh p0), MetV l y_Mpg_make2 b_Mpg_make2 8 D cs (2 * d + 10) (120 * d + 320) (0) (0) [.ref h, .int p0] [wdP cs h r g tf ta pf na ma wa cf ca ef ea xf xa] (oX (fun A U H => (oP A g U H)) [wdP cs h r g tf ta pf na ma wa cf ca ef ea xf xa]) (fun ps => ∃ (ef' : Nat → Int32) (ea' : Nat → Nat → Int32), (ps = [wdP cs h r g tf ta pf na ma wa cf ca ef' ea' xf xa]) ∧ ((ef 60).toInt ≤ (ef' 60).toInt) ∧ ((ef' 60).toInt ≤ (ef 60).toInt + wt) ∧ ((ef' 64).toInt = (ef 64).toInt) ∧ ((ef' 65).toInt = (ef 65).toInt) ∧ (CdK ea ea' (ef 60).toInt) ∧ (SgQ X9 (ea' 61) (ef 60).toInt (ef' 60).toInt fi S9 (0 :: S9) lv9))
abbrev b_Mpg_makeStep : ByteArray := prog_16_method_112_code
def y_Mpg_makeStep : MethodName := ⟨"HomeSystemModel$Program", "makeStep", "(II)V"⟩
theorem d_Mpg_makeStep_0 : decode b_Mpg_makeStep 0 = .ok (.aload_n 0, 1) := by decide +kernel
theorem d_Mpg_makeStep_1 : decode b_Mpg_makeStep 1 = .ok (.getfield 216, 3) := by decide +kernel
theorem d_Mpg_makeStep_4 : decode b_Mpg_makeStep 4 = .ok (.iload_n 1, 1) := by decide +kernel
theorem d_Mpg_makeStep_5 : decode b_Mpg_makeStep 5 = .ok (.iaload, 1) := by decide +kernel
theorem d_Mpg_makeStep_6 : decode b_Mpg_makeStep 6 = .ok (.istore_n 3, 1) := by decide +kernel
theorem d_Mpg_makeStep_7 : decode b_Mpg_makeStep 7 = .ok (.iload_n 2, 1) := by decide +kernel
theorem d_Mpg_makeStep_8 : decode b_Mpg_makeStep 8 = .ok (.aload_n 0, 1) := by decide +kernel
theorem d_Mpg_makeStep_9 : decode b_Mpg_makeStep 9 = .ok (.getfield 190, 3) := by decide +kernel
theorem d_Mpg_makeStep_12 : decode b_Mpg_makeStep 12 = .ok (.aload_n 0, 1) := by decide +kernel
theorem d_Mpg_makeStep_13 : decode b_Mpg_makeStep 13 = .ok (.getfield 194, 3) := by decide +kernel
theorem d_Mpg_makeStep_16 : decode b_Mpg_makeStep 16 = .ok (.aload_n 0, 1) := by decide +kernel
theorem d_Mpg_makeStep_17 : decode b_Mpg_makeStep 17 = .ok (.getfield 210, 3) := by decide +kernel
theorem d_Mpg_makeStep_20 : decode b_Mpg_makeStep 20 = .ok (.iload_n 1, 1) := by decide +kernel
theorem d_Mpg_makeStep_21 : decode b_Mpg_makeStep 21 = .ok (.iaload, 1) := by decide +kernel
theorem d_Mpg_makeStep_22 : decode b_Mpg_makeStep 22 = .ok (.iaload, 1) := by decide +kernel
theorem d_Mpg_makeStep_23 : decode b_Mpg_makeStep 23 = .ok (.baload, 1) := by decide +kernel
theorem d_Mpg_makeStep_24 : decode b_Mpg_makeStep 24 = .ok (.bipush 43, 2) := by decide +kernel
theorem d_Mpg_makeStep_26 : decode b_Mpg_makeStep 26 = .ok (.if_icmp .ne 7, 3) := by decide +kernel
theorem d_Mpg_makeStep_29 : decode b_Mpg_makeStep 29 = .ok (.iconst 1, 1) := by decide +kernel
theorem d_Mpg_makeStep_30 : decode b_Mpg_makeStep 30 = .ok (.goto 4, 3) := by decide +kernel
theorem d_Mpg_makeStep_33 : decode b_Mpg_makeStep 33 = .ok (.iconst 0, 1) := by decide +kernel
theorem d_Mpg_makeStep_34 : decode b_Mpg_makeStep 34 = .ok (.iadd, 1) := by decide +kernel
theorem d_Mpg_makeStep_35 : decode b_Mpg_makeStep 35 = .ok (.istore 4, 2) := by decide +kernel
theorem d_Mpg_makeStep_37 : decode b_Mpg_makeStep 37 = .ok (.aload_n 0, 1) := by decide +kernel
theorem d_Mpg_makeStep_38 : decode b_Mpg_makeStep 38 = .ok (.getfield 207, 3) := by decide +kernel
theorem d_Mpg_makeStep_41 : decode b_Mpg_makeStep 41 = .ok (.iload_n 3, 1) := by decide +kernel
theorem d_Mpg_makeStep_42 : decode b_Mpg_makeStep 42 = .ok (.baload, 1) := by decide +kernel
theorem d_Mpg_makeStep_43 : decode b_Mpg_makeStep 43 = .ok (.iconst 4, 1) := by decide +kernel
theorem d_Mpg_makeStep_44 : decode b_Mpg_makeStep 44 = .ok (.if_icmp .ne 31, 3) := by decide +kernel
theorem d_Mpg_makeStep_47 : decode b_Mpg_makeStep 47 = .ok (.aload_n 0, 1) := by decide +kernel
theorem d_Mpg_makeStep_48 : decode b_Mpg_makeStep 48 = .ok (.aload_n 0, 1) := by decide +kernel
theorem d_Mpg_makeStep_49 : decode b_Mpg_makeStep 49 = .ok (.getfield 216, 3) := by decide +kernel
theorem d_Mpg_makeStep_52 : decode b_Mpg_makeStep 52 = .ok (.iload_n 3, 1) := by decide +kernel
theorem d_Mpg_makeStep_53 : decode b_Mpg_makeStep 53 = .ok (.iaload, 1) := by decide +kernel
theorem d_Mpg_makeStep_54 : decode b_Mpg_makeStep 54 = .ok (.invokevirtual 714, 3) := by decide +kernel
theorem d_Mpg_makeStep_57 : decode b_Mpg_makeStep 57 = .ok (.aload_n 0, 1) := by decide +kernel
theorem d_Mpg_makeStep_58 : decode b_Mpg_makeStep 58 = .ok (.bipush 9, 2) := by decide +kernel
theorem d_Mpg_makeStep_60 : decode b_Mpg_makeStep 60 = .ok (.aload_n 0, 1) := by decide +kernel
theorem d_Mpg_makeStep_61 : decode b_Mpg_makeStep 61 = .ok (.getfield 219, 3) := by decide +kernel
theorem d_Mpg_makeStep_64 : decode b_Mpg_makeStep 64 = .ok (.iload_n 3, 1) := by decide +kernel
theorem d_Mpg_makeStep_65 : decode b_Mpg_makeStep 65 = .ok (.iaload, 1) := by decide +kernel
theorem d_Mpg_makeStep_66 : decode b_Mpg_makeStep 66 = .ok (.iload 4, 2) := by decide +kernel
theorem d_Mpg_makeStep_68 : decode b_Mpg_makeStep 68 = .ok (.invokevirtual 711, 3) := by decide +kernel
theorem d_Mpg_makeStep_71 : decode b_Mpg_makeStep 71 = .ok (.pop, 1) := by decide +kernel
theorem d_Mpg_makeStep_72 : decode b_Mpg_makeStep 72 = .ok (.goto 18, 3) := by decide +kernel
theorem d_Mpg_makeStep_75 : decode b_Mpg_makeStep 75 = .ok (.aload_n 0, 1) := by decide +kernel
theorem d_Mpg_makeStep_76 : decode b_Mpg_makeStep 76 = .ok (.bipush 8, 2) := by decide +kernel
theorem d_Mpg_makeStep_78 : decode b_Mpg_makeStep 78 = .ok (.aload_n 0, 1) := by decide +kernel
theorem d_Mpg_makeStep_79 : decode b_Mpg_makeStep 79 = .ok (.getfield 219, 3) := by decide +kernel
theorem d_Mpg_makeStep_82 : decode b_Mpg_makeStep 82 = .ok (.iload_n 3, 1) := by decide +kernel
theorem d_Mpg_makeStep_83 : decode b_Mpg_makeStep 83 = .ok (.iaload, 1) := by decide +kernel
theorem d_Mpg_makeStep_84 : decode b_Mpg_makeStep 84 = .ok (.iload 4, 2) := by decide +kernel
theorem d_Mpg_makeStep_86 : decode b_Mpg_makeStep 86 = .ok (.invokevirtual 711, 3) := by decide +kernel
theorem d_Mpg_makeStep_89 : decode b_Mpg_makeStep 89 = .ok (.pop, 1) := by decide +kernel
theorem d_Mpg_makeStep_90 : decode b_Mpg_makeStep 90 = .ok (.return_, 1) := by decide +kernel
theorem q_Mpg_makeStep : px_y y_Mpg_makeStep 2 := by unfold px_y; decide +kernel
set_option maxHeartbeats 4000000 in
set_option maxRecDepth 100000 in
theorem c_mp_makeStep (l : Launch) (D : va_G) (cs : Nat → ClassId) (ma0 : Nat → Nat → Int32) (ys : Int) (ns : Int) (nf : Int) (d : Nat) (wt : Int) (V : Nat → Nat → Prop) (vl : Int) (vh : Int) (X9 : Cx) (fi : Int) (S9 : List Nat) (lv9 : Nat) (bh : Int) (h : Nat) (r : Nat → Nat) (g : Nat → Nat → Option Nat) (tf : Nat → Int32) (ta : Nat → Nat → Int32) (pf : Nat → Int32) (na : Nat → Nat → Int32) (ma : Nat → Nat → Int32) (wa : Nat → Nat → Int32) (cf : Nat → Int32) (ca : Nat → Nat → Int32) (xf : Nat → Int32) (xa : Nat → Nat → Int32) (ef : Nat → Int32) (ea : Nat → Nat → Int32) (p0 p1 : Int32)  (g0 : (pf 13).toInt ≤ 2100) (g1 : (tf 6).toInt ≤ 2049) (g2 : (cf 38).toInt = nf) (g3 : 0 ≤ nf) (g4 : 0 ≤ (ef 60).toInt) (g5 : (ef 60).toInt + wt ≤ 7000) (g6 : (S9.length : Int) + bh ≤ X9.tall fi) (g7 : ((na 14 p0.toNatClampNeg).toInt = 5 ∧ sz ta (na 15 p0.toNatClampNeg) = 2) ∨ (na 14 p0.toNatClampNeg).toInt = 6) (htk : TkI tf ta) (hft : FnT (tf 6).toInt na ca (cf 38).toInt) (hfp : FnP na ca nf) (han : Ann na ma0 ma) (hts : Ts (Gk ta ca na ma0 ns ys nf) na ma vl vh V) (hcx : CxI X9 fi ca ns ys nf (tkl na ma0 ca)) (hmk : MkB ta (tf 6).toInt na ma0 ma ca V (d + 1) (pf 13).toInt wt bh p0) (hLK : MakC l D cs d) : MetV l y_Mpg_makeStep b_Mpg_makeStep 5 D cs (2 * d + 11) (120 * d + 380) (0) (0) [.ref h, .int p0, .int p1] [wdP cs h r g tf ta pf na ma wa cf ca ef ea xf xa] (oX (fun A U H => (oP A g U H)) [wdP cs h r g tf ta pf na ma wa cf ca ef ea xf xa]) (fun ps => ∃ (ef' : Nat → Int32) (ea' : Nat → Nat → Int32), (ps = [wdP cs h r g tf ta pf na ma wa cf ca ef' ea' xf xa]) ∧ ((ef 60).toInt ≤ (ef' 60).toInt) ∧ ((ef' 60).toInt ≤ (ef 60).toInt + wt) ∧ ((ef' 64).toInt = (ef 64).toInt) ∧ ((ef' 65).toInt = (ef 65).toInt) ∧ (CdK ea ea' (ef 60).toInt) ∧ (SgQ X9 (ea' 61) (ef 60).toInt (ef' 60).toInt fi S9 (0 :: S9) lv9)) := by
  refine px_enter (by decide) (Nat.le_of_ble_eq_true rfl) ?_
  intro p e s m below meth c A ls hAe S hr hlk hnm hA hT hX hw hl
  have hl : lv_has ls 5 [(0, .ref h), (1, .int p0), (2, .int p1)] := hl
  have lp0 := Int32.le_toInt p0
  have up0 := Int32.toInt_lt p0
  have lp1 := Int32.le_toInt p1
  have up1 := Int32.toInt_lt p1
  have cst0 : (0 : Int32).toInt = 0 := rfl
  have cst1 : (1 : Int32).toInt = 1 := rfl
  have cst4 : (4 : Int32).toInt = 4 := rfl
  have cst8 : (8 : Int32).toInt = 8 := rfl
  have cst9 : (9 : Int32).toInt = 9 := rfl
  have cst43 : (43 : Int32).toInt = 43 := rfl
  have hX : (fun A U H => (oP A g U H)) A s s.heap := by rw [hAe]; exact hX
  have hP := hX
  have hZ := hP.1
  have hF0 := hP.2.1
  have hf11 := hft.1
  have hec_p0 := hmk.ec
  have hrg := EcV.rng hec_p0
  have hnn := hmk.nn
  have hmk_p0 := hmk
  have hcd : CdK ea ea (ef 60).toInt := CdK.rf
  have hl1 : ((0 :: S9).length : Int) = S9.length + 1 := (by rw [List.length_cons]; omega)
  have hsg : SgQ X9 (ea 61) (ef 60).toInt (ef 60).toInt fi S9 S9 lv9 := sgq_0 (by omega)
  refine lv_aload_n S.x S.b d_Mpg_makeStep_0 rfl (lv_at hl 0 rfl) ?_
  refine px_get S k_Mpg hT hw 0 0 17 (v := .ref (r 17)) rfl rfl rfl (by decide) m10_1 d_Mpg_makeStep_1 ?_
  refine lv_iload_n S.x S.b d_Mpg_makeStep_4 rfl (lv_at hl 1 rfl) ?_
  refine px_iald S hT hw 0 13 (n := 2100) (f := (na 17)) rfl gp_17 (x := p0) (vp_in_iff.mpr (by constructor <;> omega)) d_Mpg_makeStep_5 ?_
  refine lv_topi (fun z1 ez1 => ?_)
  have lz1 := Int32.le_toInt z1
  have uz1 := Int32.toInt_lt z1
  have hpl := MkB.f56 hts hmk_p0 (by omega) ez1; have hec_z1 := hpl.1.ec.1; have hrg_z1 := EcV.rng hec_z1; have hnp := hpl.1.ec.2
  refine lv_istore_n (lv' := [(3, .int z1), (0, .ref h), (1, .int p0), (2, .int p1)]) S.x S.b d_Mpg_makeStep_6 rfl hl (by decide) rfl (fun ls hl => ?_)
  refine lv_iload_n S.x S.b d_Mpg_makeStep_7 rfl (lv_at hl 3 rfl) ?_
  refine lv_aload_n S.x S.b d_Mpg_makeStep_8 rfl (lv_at hl 1 rfl) ?_
  refine px_get S k_Mpg hT hw 0 0 4 (v := .ref (r 4)) rfl rfl rfl (by decide) m9_228 d_Mpg_makeStep_9 ?_
  refine lv_aload_n S.x S.b d_Mpg_makeStep_12 rfl (lv_at hl 1 rfl) ?_
  refine px_get S k_Mpg hT hw 0 0 7 (v := .ref (r 7)) rfl rfl rfl (by decide) m9_231 d_Mpg_makeStep_13 ?_
  refine lv_aload_n S.x S.b d_Mpg_makeStep_16 rfl (lv_at hl 1 rfl) ?_
  refine px_get S k_Mpg hT hw 0 0 15 (v := .ref (r 15)) rfl rfl rfl (by decide) m9_239 d_Mpg_makeStep_17 ?_
  refine lv_iload_n S.x S.b d_Mpg_makeStep_20 rfl (lv_at hl 2 rfl) ?_
  refine px_iald S hT hw 0 11 (n := 2100) (f := (na 15)) rfl gp_15 (x := p0) (vp_in_iff.mpr (by constructor <;> omega)) d_Mpg_makeStep_21 ?_
  refine lv_topi (fun z2 ez2 => ?_)
  have lz2 := Int32.le_toInt z2
  have uz2 := Int32.toInt_lt z2
  have rz2 := EcV.tok hec_p0 ez2
  refine px_iald S hT hw 0 6 (n := 2060) (f := (ta 7)) rfl gp_7 (x := z2) (vp_in_iff.mpr (by constructor <;> omega)) d_Mpg_makeStep_22 ?_
  refine lv_topi (fun z3 ez3 => ?_)
  have lz3 := Int32.le_toInt z3
  have uz3 := Int32.toInt_lt z3
  have rz3 : z3.toInt = bp ta z2 := by rw [ez3]; rfl
  have hz5 := tk_z5 htk (x := z2) (by omega) (by omega) (by rw [ez2]; exact EcV.n9 hec_p0 (by omega)); have hb5 := tk_b htk (x := z2) (by omega) (by omega)
  refine px_bald S hT hw 0 5 (n := 2048) (f := (ta 4)) rfl gp_4 (x := z3) (vp_in_iff.mpr (by first | exact oz_eacedfd6de rz3 hb5.1 hb5.2.2.1 hz5 hb5.2.2.2 | (constructor <;> omega))) d_Mpg_makeStep_23 ?_
  refine lv_topi (fun z4 ez4 => ?_)
  have lz4 := Int32.le_toInt z4
  have uz4 := Int32.toInt_lt z4
  refine lv_bipush (v := 43) S.x S.b d_Mpg_makeStep_24 (by decide) ?_
  refine lv_icmp_ne (tgt := 33) S.x S.b d_Mpg_makeStep_26 (by decide) (fun c5 => ?_) (fun c5 => ?_)
  · have nc5 : ¬ z4.toInt = (43 : Int) := mt (i_eq (x := z4) (y := 43)).mpr c5
    refine lv_iconst (v := 0) S.x S.b d_Mpg_makeStep_33 (by decide) ?_
    refine lv_iadd S.x S.b d_Mpg_makeStep_34 ?_
    refine lv_topi (fun z7 ez7 => ?_)
    have lz7 := Int32.le_toInt z7
    have uz7 := Int32.toInt_lt z7
    refine lv_istore (lv' := [(4, .int z7), (3, .int z1), (0, .ref h), (1, .int p0), (2, .int p1)]) S.x S.b d_Mpg_makeStep_35 hl (by decide) rfl (fun ls hl => ?_)
    refine lv_aload_n S.x S.b d_Mpg_makeStep_37 rfl (lv_at hl 2 rfl) ?_
    refine px_get S k_Mpg hT hw 0 0 14 (v := .ref (r 14)) rfl rfl rfl (by decide) m9_238 d_Mpg_makeStep_38 ?_
    refine lv_iload_n S.x S.b d_Mpg_makeStep_41 rfl (lv_at hl 1 rfl) ?_
    refine px_bald S hT hw 0 10 (n := 2100) (f := (na 14)) rfl gp_14 (x := z1) (vp_in_iff.mpr (by constructor <;> omega)) d_Mpg_makeStep_42 ?_
    refine lv_topi (fun z8 ez8 => ?_)
    have lz8 := Int32.le_toInt z8
    have uz8 := Int32.toInt_lt z8
    have rz8 := EcV.kd hec_z1 ez8
    refine lv_iconst (v := 4) S.x S.b d_Mpg_makeStep_43 (by decide) ?_
    refine lv_icmp_ne (tgt := 75) S.x S.b d_Mpg_makeStep_44 (by decide) (fun c9 => ?_) (fun c9 => ?_)
    · have nc9 : ¬ z8.toInt = (4 : Int) := mt (i_eq (x := z8) (y := 4)).mpr c9
      refine lv_aload_n S.x S.b d_Mpg_makeStep_75 rfl (lv_at hl 2 rfl) ?_
      refine lv_bipush (v := 8) S.x S.b d_Mpg_makeStep_76 (by decide) ?_
      refine lv_aload_n S.x S.b d_Mpg_makeStep_78 rfl (lv_at hl 2 rfl) ?_
      refine px_get S k_Mpg hT hw 0 0 18 (v := .ref (r 18)) rfl rfl rfl (by decide) m10_3 d_Mpg_makeStep_79 ?_
      refine lv_iload_n S.x S.b d_Mpg_makeStep_82 rfl (lv_at hl 1 rfl) ?_
      refine px_iald S hT hw 0 14 (n := 2100) (f := (ma 18)) rfl gp_18 (x := z1) (vp_in_iff.mpr (by constructor <;> omega)) d_Mpg_makeStep_83 ?_
      refine lv_topi (fun z11 ez11 => ?_)
      have lz11 := Int32.le_toInt z11
      have uz11 := Int32.toInt_lt z11
      have rz11 : z11.toInt = (ma 18 z1.toNatClampNeg).toInt := by rw [ez11]
      refine lv_iload S.x S.b d_Mpg_makeStep_84 (lv_at hl 0 rfl) ?_
      refine px_calli (pr := []) (px_runV (As := [.int 8, .int z11, .int z7]) (rest := []) S (c_mp_emit l D cs h r g tf ta pf na ma wa cf ca xf xa ef ea 8 z11 z7  (show 0 ≤ (ef 60).toInt from by first | exact g4 | omega) (show (ef 60).toInt < 7000 from by omega) _) hT (pr := []) (pcs := [wdP cs h r g tf ta pf na ma wa cf ca ef ea xf xa]) hw px_X.tt (px_recv hT hw 0 0 rfl rfl rfl) m13_86 m13_83 m13_85 ms_14_2 m1_21 q_Mpg_emit ⟨show 0 + 1 ≤ (2 * d + 11) from (by first | exact oz_1e76c4e141 | omega), show 8 + (4 + 11) + 0 ≤ (120 * d + 380) from (by first | exact oz_13b734c000 | omega)⟩ hl.1 rfl (Nat.le_of_ble_eq_true rfl) d_Mpg_makeStep_86 ⟨Nat.le_of_ble_eq_true rfl, Nat.le_of_ble_eq_true rfl⟩) hw hA (fun v17 p16 H locs hp16 hw => ?_)
      obtain ⟨ef14, ea15, rfl, e18, e19, e20, e21, e22⟩ := hp16
      have e18 : v17.toInt = (ef 60).toInt := e18
      have e19 : (ef14 60).toInt = (ef 60).toInt + 1 := e19
      have e20 : (ef14 64).toInt = (ef 64).toInt := e20
      have e21 : (ef14 65).toInt = (ef 65).toInt := e21
      have e22 : EmU ea ea15 (ef 60) (8 : Int32) z11 z7 := e22
      have hcd := hcd.tr e22.cd (by omega)
      have hsg := hsg.em e22 (by omega) rfl (by first | omega | (simp only [List.length_cons, List.length_append]; omega)) (hcx.load (by rw [ez11]; exact PcT.sy hts hpl.2.1 (by omega)) (Or.inr rfl))
      have hw : pw D A s.heap H locs [wdP cs h r g tf ta pf na ma wa cf ca ef14 ea15 xf xa] := hw
      have lv17 := Int32.le_toInt v17
      have uv17 := Int32.toInt_lt v17
      refine lv_pop S.x S.b d_Mpg_makeStep_89 rfl ?_
      exact px_vret S hr hlk hAe hw (Nat.le_of_ble_eq_true rfl) (Nat.le_of_ble_eq_true rfl) (⟨ef14, ea15, rfl, (show (ef 60).toInt ≤ (ef14 60).toInt from by first | exact oz_7db54039c4 e19 | omega), (show (ef14 60).toInt ≤ (ef 60).toInt + wt from by omega), (show (ef14 64).toInt = (ef 64).toInt from by first | exact e20 | omega), (show (ef14 65).toInt = (ef 65).toInt from by first | exact e21 | omega), (show CdK ea ea15 (ef 60).toInt from hcd), (show SgQ X9 (ea15 61) (ef 60).toInt (ef14 60).toInt fi S9 (0 :: S9) lv9 from (hsg.tq (by omega) (by omega) rfl))⟩) d_Mpg_makeStep_90
    · have nc9 : z8.toInt = (4 : Int) := (i_eq (x := z8) (y := 4)).mp c9
      refine lv_aload_n S.x S.b d_Mpg_makeStep_47 rfl (lv_at hl 2 rfl) ?_
      refine lv_aload_n S.x S.b d_Mpg_makeStep_48 rfl (lv_at hl 2 rfl) ?_
      refine px_get S k_Mpg hT hw 0 0 17 (v := .ref (r 17)) rfl rfl rfl (by decide) m10_1 d_Mpg_makeStep_49 ?_
      refine lv_iload_n S.x S.b d_Mpg_makeStep_52 rfl (lv_at hl 1 rfl) ?_
      refine px_iald S hT hw 0 13 (n := 2100) (f := (na 17)) rfl gp_17 (x := z1) (vp_in_iff.mpr (by constructor <;> omega)) d_Mpg_makeStep_53 ?_
      refine lv_topi (fun z23 ez23 => ?_)
      have lz23 := Int32.le_toInt z23
      have uz23 := Int32.toInt_lt z23
      obtain ⟨hmk_z23, hsy4⟩ := PlB.ix hts hpl (by omega) ez23; have hec_z23 := hmk_z23.ec; have hrg_z23 := EcV.rng hec_z23; have hnn_z23 := hmk_z23.nn
      refine px_callv (pr := []) (px_runV (As := [.int z23]) (rest := []) S (hLK ma0 ys ns nf (wt - 1 - 1) V vl vh X9 fi S9 lv9 bh h r g tf ta pf na ma wa cf ca xf xa ef ea z23 (show (pf 13).toInt ≤ 2100 from by first | exact g0 | omega) (show (tf 6).toInt ≤ 2049 from by first | exact g1 | omega) (show (cf 38).toInt = nf from by first | exact g2 | omega) (show 0 ≤ nf from by first | exact g3 | omega) (show 0 ≤ (ef 60).toInt from by first | exact g4 | omega) (show (ef 60).toInt + (wt - 1 - 1) ≤ 7000 from by first | exact oz_dcd8ea39e2 g5 | omega) (show (S9.length : Int) + bh ≤ X9.tall fi from by first | exact g6 | omega) htk (FnT.eq hft (by omega)) hfp han hts hcx hmk_z23 _) hT (pr := []) (pcs := [wdP cs h r g tf ta pf na ma wa cf ca ef ea xf xa]) hw (oX_call (P := (fun A U H => (oP A g U H))) (pr := []) oG_P hw hA hP) (px_recv hT hw 0 0 rfl rfl rfl) m13_90 m13_87 m13_89 ms_14_3 m1_21 q_Mpg_make2 ⟨show (2 * d + 10) + 1 ≤ (2 * d + 11) from (by first | exact oz_46e39a2e06 | omega), show 8 + (8 + 11) + (120 * d + 320) ≤ (120 * d + 380) from (by first | exact oz_9fbef5a402 | omega)⟩ hl.1 rfl (Nat.le_of_ble_eq_true rfl) d_Mpg_makeStep_54 ⟨Nat.le_of_ble_eq_true rfl, Nat.le_of_ble_eq_true rfl⟩) hw hA (fun p28 H locs hp28 hw => ?_)
      obtain ⟨ef26, ea27, rfl, e30, e31, e32, e33, e34, e35⟩ := hp28
      have e30 : (ef 60).toInt ≤ (ef26 60).toInt := e30
      have e31 : (ef26 60).toInt ≤ (ef 60).toInt + (wt - 1 - 1) := e31
      have e32 : (ef26 64).toInt = (ef 64).toInt := e32
      have e33 : (ef26 65).toInt = (ef 65).toInt := e33
      have e34 : CdK ea ea27 (ef 60).toInt := e34
      have hcd := hcd.tr e34 (by omega)
      have e35 : SgQ X9 (ea27 61) (ef 60).toInt (ef26 60).toInt fi S9 (0 :: S9) lv9 := e35
      have hsg := hsg.ap e34 e35 (by omega)
      have hw : pw D A s.heap H locs [wdP cs h r g tf ta pf na ma wa cf ca ef26 ea27 xf xa] := hw
      refine lv_aload_n S.x S.b d_Mpg_makeStep_57 rfl (lv_at hl 2 rfl) ?_
      refine lv_bipush (v := 9) S.x S.b d_Mpg_makeStep_58 (by decide) ?_
      refine lv_aload_n S.x S.b d_Mpg_makeStep_60 rfl (lv_at hl 2 rfl) ?_
      refine px_get S k_Mpg hT hw 0 0 18 (v := .ref (r 18)) rfl rfl rfl (by decide) m10_3 d_Mpg_makeStep_61 ?_
      refine lv_iload_n S.x S.b d_Mpg_makeStep_64 rfl (lv_at hl 1 rfl) ?_
      refine px_iald S hT hw 0 14 (n := 2100) (f := (ma 18)) rfl gp_18 (x := z1) (vp_in_iff.mpr (by constructor <;> omega)) d_Mpg_makeStep_65 ?_
      refine lv_topi (fun z36 ez36 => ?_)
      have lz36 := Int32.le_toInt z36
      have uz36 := Int32.toInt_lt z36
      have rz36 : z36.toInt = (ma 18 z1.toNatClampNeg).toInt := by rw [ez36]
      refine lv_iload S.x S.b d_Mpg_makeStep_66 (lv_at hl 0 rfl) ?_
      refine px_calli (pr := []) (px_runV (As := [.int 9, .int z36, .int z7]) (rest := []) S (c_mp_emit l D cs h r g tf ta pf na ma wa cf ca xf xa ef26 ea27 9 z36 z7  (show 0 ≤ (ef26 60).toInt from by first | exact oz_16d7fa9f32 e30 g4 | omega) (show (ef26 60).toInt < 7000 from by first | exact oz_edfa6af01b e31 g5 | omega) _) hT (pr := []) (pcs := [wdP cs h r g tf ta pf na ma wa cf ca ef26 ea27 xf xa]) hw px_X.tt (px_recv hT hw 0 0 rfl rfl rfl) m13_86 m13_83 m13_85 ms_14_2 m1_21 q_Mpg_emit ⟨show 0 + 1 ≤ (2 * d + 11) from (by first | exact oz_1e76c4e141 | omega), show 8 + (4 + 11) + 0 ≤ (120 * d + 380) from (by first | exact oz_13b734c000 | omega)⟩ hl.1 rfl (Nat.le_of_ble_eq_true rfl) d_Mpg_makeStep_68 ⟨Nat.le_of_ble_eq_true rfl, Nat.le_of_ble_eq_true rfl⟩) hw hA (fun v42 p41 H locs hp41 hw => ?_)
      obtain ⟨ef39, ea40, rfl, e43, e44, e45, e46, e47⟩ := hp41
      have e43 : v42.toInt = (ef26 60).toInt := e43
      have e44 : (ef39 60).toInt = (ef26 60).toInt + 1 := e44
      have e45 : (ef39 64).toInt = (ef26 64).toInt := e45
      have e46 : (ef39 65).toInt = (ef26 65).toInt := e46
      have e47 : EmU ea27 ea40 (ef26 60) (9 : Int32) z36 z7 := e47
      have hcd := hcd.tr e47.cd (by omega)
      have hsg := hsg.em e47 (by omega) rfl (by first | omega | (simp only [List.length_cons, List.length_append]; omega)) (hcx.elem (by rw [ez36]; exact hsy4) (Or.inr rfl))
      have hw : pw D A s.heap H locs [wdP cs h r g tf ta pf na ma wa cf ca ef39 ea40 xf xa] := hw
      have lv42 := Int32.le_toInt v42
      have uv42 := Int32.toInt_lt v42
      refine lv_pop S.x S.b d_Mpg_makeStep_71 rfl ?_
      refine lv_goto (tgt := 90) S.x S.b d_Mpg_makeStep_72 (by decide) ?_
      exact px_vret S hr hlk hAe hw (Nat.le_of_ble_eq_true rfl) (Nat.le_of_ble_eq_true rfl) (⟨ef39, ea40, rfl, (show (ef 60).toInt ≤ (ef39 60).toInt from by first | exact oz_887c409de9 e30 e44 | omega), (show (ef39 60).toInt ≤ (ef 60).toInt + wt from by first | exact oz_b6fafccf18 e31 e44 | omega), (show (ef39 64).toInt = (ef 64).toInt from by first | exact oz_1687f4cc65 e32 e45 | omega), (show (ef39 65).toInt = (ef 65).toInt from by first | exact oz_1687f4cc65 e33 e46 | omega), (show CdK ea ea40 (ef 60).toInt from hcd), (show SgQ X9 (ea40 61) (ef 60).toInt (ef39 60).toInt fi S9 (0 :: S9) lv9 from (hsg.tq (by omega) (by omega) rfl))⟩) d_Mpg_makeStep_90
  · have nc5 : z4.toInt = (43 : Int) := (i_eq (x := z4) (y := 43)).mp c5
    refine lv_iconst (v := 1) S.x S.b d_Mpg_makeStep_29 (by decide) ?_
    refine lv_goto (tgt := 34) S.x S.b d_Mpg_makeStep_30 (by decide) ?_
    refine lv_iadd S.x S.b d_Mpg_makeStep_34 ?_
    refine lv_topi (fun z48 ez48 => ?_)
    have lz48 := Int32.le_toInt z48
    have uz48 := Int32.toInt_lt z48
    refine lv_istore (lv' := [(4, .int z48), (3, .int z1), (0, .ref h), (1, .int p0), (2, .int p1)]) S.x S.b d_Mpg_makeStep_35 hl (by decide) rfl (fun ls hl => ?_)
    refine lv_aload_n S.x S.b d_Mpg_makeStep_37 rfl (lv_at hl 2 rfl) ?_
    refine px_get S k_Mpg hT hw 0 0 14 (v := .ref (r 14)) rfl rfl rfl (by decide) m9_238 d_Mpg_makeStep_38 ?_
    refine lv_iload_n S.x S.b d_Mpg_makeStep_41 rfl (lv_at hl 1 rfl) ?_
    refine px_bald S hT hw 0 10 (n := 2100) (f := (na 14)) rfl gp_14 (x := z1) (vp_in_iff.mpr (by constructor <;> omega)) d_Mpg_makeStep_42 ?_
    refine lv_topi (fun z49 ez49 => ?_)
    have lz49 := Int32.le_toInt z49
    have uz49 := Int32.toInt_lt z49
    have rz49 := EcV.kd hec_z1 ez49
    refine lv_iconst (v := 4) S.x S.b d_Mpg_makeStep_43 (by decide) ?_
    refine lv_icmp_ne (tgt := 75) S.x S.b d_Mpg_makeStep_44 (by decide) (fun c50 => ?_) (fun c50 => ?_)
    · have nc50 : ¬ z49.toInt = (4 : Int) := mt (i_eq (x := z49) (y := 4)).mpr c50
      refine lv_aload_n S.x S.b d_Mpg_makeStep_75 rfl (lv_at hl 2 rfl) ?_
      refine lv_bipush (v := 8) S.x S.b d_Mpg_makeStep_76 (by decide) ?_
      refine lv_aload_n S.x S.b d_Mpg_makeStep_78 rfl (lv_at hl 2 rfl) ?_
      refine px_get S k_Mpg hT hw 0 0 18 (v := .ref (r 18)) rfl rfl rfl (by decide) m10_3 d_Mpg_makeStep_79 ?_
      refine lv_iload_n S.x S.b d_Mpg_makeStep_82 rfl (lv_at hl 1 rfl) ?_
      refine px_iald S hT hw 0 14 (n := 2100) (f := (ma 18)) rfl gp_18 (x := z1) (vp_in_iff.mpr (by constructor <;> omega)) d_Mpg_makeStep_83 ?_
      refine lv_topi (fun z52 ez52 => ?_)
      have lz52 := Int32.le_toInt z52
      have uz52 := Int32.toInt_lt z52
      have rz52 : z52.toInt = (ma 18 z1.toNatClampNeg).toInt := by rw [ez52]
      refine lv_iload S.x S.b d_Mpg_makeStep_84 (lv_at hl 0 rfl) ?_
      refine px_calli (pr := []) (px_runV (As := [.int 8, .int z52, .int z48]) (rest := []) S (c_mp_emit l D cs h r g tf ta pf na ma wa cf ca xf xa ef ea 8 z52 z48  (show 0 ≤ (ef 60).toInt from by first | exact g4 | omega) (show (ef 60).toInt < 7000 from by omega) _) hT (pr := []) (pcs := [wdP cs h r g tf ta pf na ma wa cf ca ef ea xf xa]) hw px_X.tt (px_recv hT hw 0 0 rfl rfl rfl) m13_86 m13_83 m13_85 ms_14_2 m1_21 q_Mpg_emit ⟨show 0 + 1 ≤ (2 * d + 11) from (by first | exact oz_1e76c4e141 | omega), show 8 + (4 + 11) + 0 ≤ (120 * d + 380) from (by first | exact oz_13b734c000 | omega)⟩ hl.1 rfl (Nat.le_of_ble_eq_true rfl) d_Mpg_makeStep_86 ⟨Nat.le_of_ble_eq_true rfl, Nat.le_of_ble_eq_true rfl⟩) hw hA (fun v58 p57 H locs hp57 hw => ?_)
      obtain ⟨ef55, ea56, rfl, e59, e60, e61, e62, e63⟩ := hp57
      have e59 : v58.toInt = (ef 60).toInt := e59
      have e60 : (ef55 60).toInt = (ef 60).toInt + 1 := e60
      have e61 : (ef55 64).toInt = (ef 64).toInt := e61
      have e62 : (ef55 65).toInt = (ef 65).toInt := e62
      have e63 : EmU ea ea56 (ef 60) (8 : Int32) z52 z48 := e63
      have hcd := hcd.tr e63.cd (by omega)
      have hsg := hsg.em e63 (by omega) rfl (by first | omega | (simp only [List.length_cons, List.length_append]; omega)) (hcx.load (by rw [ez52]; exact PcT.sy hts hpl.2.1 (by omega)) (Or.inr rfl))
      have hw : pw D A s.heap H locs [wdP cs h r g tf ta pf na ma wa cf ca ef55 ea56 xf xa] := hw
      have lv58 := Int32.le_toInt v58
      have uv58 := Int32.toInt_lt v58
      refine lv_pop S.x S.b d_Mpg_makeStep_89 rfl ?_
      exact px_vret S hr hlk hAe hw (Nat.le_of_ble_eq_true rfl) (Nat.le_of_ble_eq_true rfl) (⟨ef55, ea56, rfl, (show (ef 60).toInt ≤ (ef55 60).toInt from by first | exact oz_7db54039c4 e60 | omega), (show (ef55 60).toInt ≤ (ef 60).toInt + wt from by omega), (show (ef55 64).toInt = (ef 64).toInt from by first | exact e61 | omega), (show (ef55 65).toInt = (ef 65).toInt from by first | exact e62 | omega), (show CdK ea ea56 (ef 60).toInt from hcd), (show SgQ X9 (ea56 61) (ef 60).toInt (ef55 60).toInt fi S9 (0 :: S9) lv9 from (hsg.tq (by omega) (by omega) rfl))⟩) d_Mpg_makeStep_90
    · have nc50 : z49.toInt = (4 : Int) := (i_eq (x := z49) (y := 4)).mp c50
      refine lv_aload_n S.x S.b d_Mpg_makeStep_47 rfl (lv_at hl 2 rfl) ?_
      refine lv_aload_n S.x S.b d_Mpg_makeStep_48 rfl (lv_at hl 2 rfl) ?_
      refine px_get S k_Mpg hT hw 0 0 17 (v := .ref (r 17)) rfl rfl rfl (by decide) m10_1 d_Mpg_makeStep_49 ?_
      refine lv_iload_n S.x S.b d_Mpg_makeStep_52 rfl (lv_at hl 1 rfl) ?_
      refine px_iald S hT hw 0 13 (n := 2100) (f := (na 17)) rfl gp_17 (x := z1) (vp_in_iff.mpr (by constructor <;> omega)) d_Mpg_makeStep_53 ?_
      refine lv_topi (fun z64 ez64 => ?_)
      have lz64 := Int32.le_toInt z64
      have uz64 := Int32.toInt_lt z64
      obtain ⟨hmk_z64, hsy4⟩ := PlB.ix hts hpl (by omega) ez64; have hec_z64 := hmk_z64.ec; have hrg_z64 := EcV.rng hec_z64; have hnn_z64 := hmk_z64.nn
      refine px_callv (pr := []) (px_runV (As := [.int z64]) (rest := []) S (hLK ma0 ys ns nf (wt - 1 - 1) V vl vh X9 fi S9 lv9 bh h r g tf ta pf na ma wa cf ca xf xa ef ea z64 (show (pf 13).toInt ≤ 2100 from by first | exact g0 | omega) (show (tf 6).toInt ≤ 2049 from by first | exact g1 | omega) (show (cf 38).toInt = nf from by first | exact g2 | omega) (show 0 ≤ nf from by first | exact g3 | omega) (show 0 ≤ (ef 60).toInt from by first | exact g4 | omega) (show (ef 60).toInt + (wt - 1 - 1) ≤ 7000 from by first | exact oz_dcd8ea39e2 g5 | omega) (show (S9.length : Int) + bh ≤ X9.tall fi from by first | exact g6 | omega) htk (FnT.eq hft (by omega)) hfp han hts hcx hmk_z64 _) hT (pr := []) (pcs := [wdP cs h r g tf ta pf na ma wa cf ca ef ea xf xa]) hw (oX_call (P := (fun A U H => (oP A g U H))) (pr := []) oG_P hw hA hP) (px_recv hT hw 0 0 rfl rfl rfl) m13_90 m13_87 m13_89 ms_14_3 m1_21 q_Mpg_make2 ⟨show (2 * d + 10) + 1 ≤ (2 * d + 11) from (by first | exact oz_46e39a2e06 | omega), show 8 + (8 + 11) + (120 * d + 320) ≤ (120 * d + 380) from (by first | exact oz_9fbef5a402 | omega)⟩ hl.1 rfl (Nat.le_of_ble_eq_true rfl) d_Mpg_makeStep_54 ⟨Nat.le_of_ble_eq_true rfl, Nat.le_of_ble_eq_true rfl⟩) hw hA (fun p69 H locs hp69 hw => ?_)
      obtain ⟨ef67, ea68, rfl, e71, e72, e73, e74, e75, e76⟩ := hp69
      have e71 : (ef 60).toInt ≤ (ef67 60).toInt := e71
      have e72 : (ef67 60).toInt ≤ (ef 60).toInt + (wt - 1 - 1) := e72
      have e73 : (ef67 64).toInt = (ef 64).toInt := e73
      have e74 : (ef67 65).toInt = (ef 65).toInt := e74
      have e75 : CdK ea ea68 (ef 60).toInt := e75
      have hcd := hcd.tr e75 (by omega)
      have e76 : SgQ X9 (ea68 61) (ef 60).toInt (ef67 60).toInt fi S9 (0 :: S9) lv9 := e76
      have hsg := hsg.ap e75 e76 (by omega)
      have hw : pw D A s.heap H locs [wdP cs h r g tf ta pf na ma wa cf ca ef67 ea68 xf xa] := hw
      refine lv_aload_n S.x S.b d_Mpg_makeStep_57 rfl (lv_at hl 2 rfl) ?_
      refine lv_bipush (v := 9) S.x S.b d_Mpg_makeStep_58 (by decide) ?_
      refine lv_aload_n S.x S.b d_Mpg_makeStep_60 rfl (lv_at hl 2 rfl) ?_
      refine px_get S k_Mpg hT hw 0 0 18 (v := .ref (r 18)) rfl rfl rfl (by decide) m10_3 d_Mpg_makeStep_61 ?_
      refine lv_iload_n S.x S.b d_Mpg_makeStep_64 rfl (lv_at hl 1 rfl) ?_
      refine px_iald S hT hw 0 14 (n := 2100) (f := (ma 18)) rfl gp_18 (x := z1) (vp_in_iff.mpr (by constructor <;> omega)) d_Mpg_makeStep_65 ?_
      refine lv_topi (fun z77 ez77 => ?_)
      have lz77 := Int32.le_toInt z77
      have uz77 := Int32.toInt_lt z77
      have rz77 : z77.toInt = (ma 18 z1.toNatClampNeg).toInt := by rw [ez77]
      refine lv_iload S.x S.b d_Mpg_makeStep_66 (lv_at hl 0 rfl) ?_
      refine px_calli (pr := []) (px_runV (As := [.int 9, .int z77, .int z48]) (rest := []) S (c_mp_emit l D cs h r g tf ta pf na ma wa cf ca xf xa ef67 ea68 9 z77 z48  (show 0 ≤ (ef67 60).toInt from by first | exact oz_16d7fa9f32 e71 g4 | omega) (show (ef67 60).toInt < 7000 from by first | exact oz_edfa6af01b e72 g5 | omega) _) hT (pr := []) (pcs := [wdP cs h r g tf ta pf na ma wa cf ca ef67 ea68 xf xa]) hw px_X.tt (px_recv hT hw 0 0 rfl rfl rfl) m13_86 m13_83 m13_85 ms_14_2 m1_21 q_Mpg_emit ⟨show 0 + 1 ≤ (2 * d + 11) from (by first | exact oz_1e76c4e141 | omega), show 8 + (4 + 11) + 0 ≤ (120 * d + 380) from (by first | exact oz_13b734c000 | omega)⟩ hl.1 rfl (Nat.le_of_ble_eq_true rfl) d_Mpg_makeStep_68 ⟨Nat.le_of_ble_eq_true rfl, Nat.le_of_ble_eq_true rfl⟩) hw hA (fun v83 p82 H locs hp82 hw => ?_)
      obtain ⟨ef80, ea81, rfl, e84, e85, e86, e87, e88⟩ := hp82
      have e84 : v83.toInt = (ef67 60).toInt := e84
      have e85 : (ef80 60).toInt = (ef67 60).toInt + 1 := e85
      have e86 : (ef80 64).toInt = (ef67 64).toInt := e86
      have e87 : (ef80 65).toInt = (ef67 65).toInt := e87
      have e88 : EmU ea68 ea81 (ef67 60) (9 : Int32) z77 z48 := e88
      have hcd := hcd.tr e88.cd (by omega)
      have hsg := hsg.em e88 (by omega) rfl (by first | omega | (simp only [List.length_cons, List.length_append]; omega)) (hcx.elem (by rw [ez77]; exact hsy4) (Or.inr rfl))
      have hw : pw D A s.heap H locs [wdP cs h r g tf ta pf na ma wa cf ca ef80 ea81 xf xa] := hw
      have lv83 := Int32.le_toInt v83
      have uv83 := Int32.toInt_lt v83
      refine lv_pop S.x S.b d_Mpg_makeStep_71 rfl ?_
      refine lv_goto (tgt := 90) S.x S.b d_Mpg_makeStep_72 (by decide) ?_
      exact px_vret S hr hlk hAe hw (Nat.le_of_ble_eq_true rfl) (Nat.le_of_ble_eq_true rfl) (⟨ef80, ea81, rfl, (show (ef 60).toInt ≤ (ef80 60).toInt from by first | exact oz_887c409de9 e71 e85 | omega), (show (ef80 60).toInt ≤ (ef 60).toInt + wt from by first | exact oz_b6fafccf18 e72 e85 | omega), (show (ef80 64).toInt = (ef 64).toInt from by first | exact oz_1687f4cc65 e73 e86 | omega), (show (ef80 65).toInt = (ef 65).toInt from by first | exact oz_1687f4cc65 e74 e87 | omega), (show CdK ea ea81 (ef 60).toInt from hcd), (show SgQ X9 (ea81 61) (ef 60).toInt (ef80 60).toInt fi S9 (0 :: S9) lv9 from (hsg.tq (by omega) (by omega) rfl))⟩) d_Mpg_makeStep_90
set_option maxHeartbeats 4000000 in
set_option maxRecDepth 100000 in
theorem c_mp_mk1 (l : Launch) (D : va_G) (cs : Nat → ClassId) (ma0 : Nat → Nat → Int32) (ys : Int) (ns : Int) (nf : Int) (d : Nat) (wt : Int) (V : Nat → Nat → Prop) (vl : Int) (vh : Int) (X9 : Cx) (fi : Int) (S9 : List Nat) (lv9 : Nat) (bh : Int) (h : Nat) (r : Nat → Nat) (g : Nat → Nat → Option Nat) (tf : Nat → Int32) (ta : Nat → Nat → Int32) (pf : Nat → Int32) (na : Nat → Nat → Int32) (ma : Nat → Nat → Int32) (wa : Nat → Nat → Int32) (cf : Nat → Int32) (ca : Nat → Nat → Int32) (xf : Nat → Int32) (xa : Nat → Nat → Int32) (ef : Nat → Int32) (ea : Nat → Nat → Int32) (p0 : Int32)  (g0 : (pf 13).toInt ≤ 2100) (g1 : (tf 6).toInt ≤ 2049) (g2 : (cf 38).toInt = nf) (g3 : 0 ≤ nf) (g4 : 0 ≤ (ef 60).toInt) (g5 : (ef 60).toInt + wt ≤ 7000) (g6 : (S9.length : Int) + bh ≤ X9.tall fi) (htk : TkI tf ta) (hft : FnT (tf 6).toInt na ca (cf 38).toInt) (hfp : FnP na ca nf) (han : Ann na ma0 ma) (hts : Ts (Gk ta ca na ma0 ns ys nf) na ma vl vh V) (hcx : CxI X9 fi ca ns ys nf (tkl na ma0 ca)) (hmk : MkB ta (tf 6).toInt na ma0 ma ca V (d + 1) (pf 13).toInt wt bh p0) (hLK : MakC l D cs d) : MetV l y_Mpg_make2 b_Mpg_make2 8 D cs (2 * (d + 1) + 10) (120 * (d + 1) + 320) (0) (0) [.ref h, .int p0] [wdP cs h r g tf ta pf na ma wa cf ca ef ea xf xa] (oX (fun A U H => (oP A g U H)) [wdP cs h r g tf ta pf na ma wa cf ca ef ea xf xa]) (fun ps => ∃ (ef' : Nat → Int32) (ea' : Nat → Nat → Int32), (ps = [wdP cs h r g tf ta pf na ma wa cf ca ef' ea' xf xa]) ∧ ((ef 60).toInt ≤ (ef' 60).toInt) ∧ ((ef' 60).toInt ≤ (ef 60).toInt + wt) ∧ ((ef' 64).toInt = (ef 64).toInt) ∧ ((ef' 65).toInt = (ef 65).toInt) ∧ (CdK ea ea' (ef 60).toInt) ∧ (SgQ X9 (ea' 61) (ef 60).toInt (ef' 60).toInt fi S9 (0 :: S9) lv9)) := by
  refine px_enter (by decide) (Nat.le_of_ble_eq_true rfl) ?_
  intro p e s m below meth c A ls hAe S hr hlk hnm hA hT hX hw hl
  have hl : lv_has ls 8 [(0, .ref h), (1, .int p0)] := hl
  have lp0 := Int32.le_toInt p0
  have up0 := Int32.toInt_lt p0
  have cstm1 : ((-1) : Int32).toInt = (-1) := rfl
  have cst0 : (0 : Int32).toInt = 0 := rfl
  have cst1 : (1 : Int32).toInt = 1 := rfl
  have cst2 : (2 : Int32).toInt = 2 := rfl
  have cst3 : (3 : Int32).toInt = 3 := rfl
  have cst4 : (4 : Int32).toInt = 4 := rfl
  have cst5 : (5 : Int32).toInt = 5 := rfl
  have cst6 : (6 : Int32).toInt = 6 := rfl
  have cst7 : (7 : Int32).toInt = 7 := rfl
  have cst10 : (10 : Int32).toInt = 10 := rfl
  have cst11 : (11 : Int32).toInt = 11 := rfl
  have cst12 : (12 : Int32).toInt = 12 := rfl
  have cst13 : (13 : Int32).toInt = 13 := rfl
  have cst14 : (14 : Int32).toInt = 14 := rfl
  have cst15 : (15 : Int32).toInt = 15 := rfl
  have cst16 : (16 : Int32).toInt = 16 := rfl
  have cst22 : (22 : Int32).toInt = 22 := rfl
  have cst100 : (100 : Int32).toInt = 100 := rfl
  have cst105 : (105 : Int32).toInt = 105 := rfl
  have hX : (fun A U H => (oP A g U H)) A s s.heap := by rw [hAe]; exact hX
  have hP := hX
  have hZ := hP.1
  have hF0 := hP.2.1
  have hf11 := hft.1
  have hec_p0 := hmk.ec
  have hrg := EcV.rng hec_p0
  have hnn := hmk.nn
  have hmk_p0 := hmk
  have hcd : CdK ea ea (ef 60).toInt := CdK.rf
  have hl1 : ((0 :: S9).length : Int) = S9.length + 1 := (by rw [List.length_cons]; omega)
  have hsg : SgQ X9 (ea 61) (ef 60).toInt (ef 60).toInt fi S9 S9 lv9 := sgq_0 (by omega)
  have J123 : ∀ (n_123 : Nat) (ef_123 : Nat → Int32) (ea_123 : Nat → Nat → Int32) (mid_123 : Int) (wr_123 : Int) (x123_2 x123_3 : Int32) (H : Heap) (locs : List Loc) (ls : Array Slot), (0 ≤ x123_2.toInt) → (x123_2.toInt + p0.toInt + 1 ≤ mid_123) → (mid_123 ≤ (pf 13).toInt) → ((ef 60).toInt ≤ (ef_123 60).toInt) → ((ef_123 60).toInt + wr_123 + 1 ≤ (ef 60).toInt + wt) → ((ef_123 64).toInt = (ef 64).toInt) → ((ef_123 65).toInt = (ef 65).toInt) → (CdK ea ea_123 (ef 60).toInt) → ((na 14 p0.toNatClampNeg).toInt = 3) → (ArB ta (tf 6).toInt na ma0 ma ca V d mid_123 (pf 13).toInt wr_123 bh nf (ma 18 p0.toNatClampNeg).toInt x123_2.toInt x123_3) → (SgQ X9 (ea_123 61) (ef 60).toInt (ef_123 60).toInt fi S9 (aslots (tkl na ma0 ca (ma 18 p0.toNatClampNeg).toInt) (x123_2.toInt).toNat ++ S9) lv9) → (pf 13).toInt - mid_123 < (n_123 : Int) → pw D A s.heap H locs [wdP cs h r g tf ta pf na ma wa cf ca ef_123 ea_123 xf xa] → lv_has ls 8 [(0, .ref h), (1, .int p0), (2, .int x123_2), (3, .int x123_3)] → W p l e { frames := (2 * (d + 1) + 10), cells := 0, slots := 0, locals := (120 * (d + 1) + 320) } s m [.ref h, .int p0].toArray below meth c H locs 0 0 (MQ below (va_Qv (fun ps => ∃ (ef' : Nat → Int32) (ea' : Nat → Nat → Int32), (ps = [wdP cs h r g tf ta pf na ma wa cf ca ef' ea' xf xa]) ∧ ((ef 60).toInt ≤ (ef' 60).toInt) ∧ ((ef' 60).toInt ≤ (ef 60).toInt + wt) ∧ ((ef' 64).toInt = (ef 64).toInt) ∧ ((ef' 65).toInt = (ef 65).toInt) ∧ (CdK ea ea' (ef 60).toInt) ∧ (SgQ X9 (ea' 61) (ef 60).toInt (ef' 60).toInt fi S9 (0 :: S9) lv9)) (pc_B D (va_A ([wdP cs h r g tf ta pf na ma wa cf ca ef ea xf xa] : List va_W).flatten s.heap.size)) (va_A ([wdP cs h r g tf ta pf na ma wa cf ca ef ea xf xa] : List va_W).flatten s.heap.size)) [.ref h, .int p0].toArray s 0 0 A) (F0 m 123 ls []) := by
    intro  n_123
    induction n_123 with
    | zero =>
      intro ef_123 ea_123 mid_123 wr_123 x123_2 x123_3 H locs ls k123_0 k123_1 k123_2 k123_3 k123_4 k123_5 k123_6 k123_7 k123_8 k123_9 k123_10 hm hw hl
      have lx123_2 := Int32.le_toInt x123_2
      have ux123_2 := Int32.toInt_lt x123_2
      have lx123_3 := Int32.le_toInt x123_3
      have ux123_3 := Int32.toInt_lt x123_3
      have hcd := k123_7
      have har := k123_9
      have hsg := k123_10
      exact absurd hm (by omega)
    | succ n_123 ih123 =>
      intro ef_123 ea_123 mid_123 wr_123 x123_2 x123_3 H locs ls k123_0 k123_1 k123_2 k123_3 k123_4 k123_5 k123_6 k123_7 k123_8 k123_9 k123_10 hm hw hl
      have lx123_2 := Int32.le_toInt x123_2
      have ux123_2 := Int32.toInt_lt x123_2
      have lx123_3 := Int32.le_toInt x123_3
      have ux123_3 := Int32.toInt_lt x123_3
      have hcd := k123_7
      have har := k123_9
      have hsg := k123_10
      refine lv_iload_n S.x S.b d_Mpg_make2_123 rfl (lv_at hl 3 rfl) ?_
      refine lv_if_lt (tgt := 212) S.x S.b d_Mpg_make2_124 (by decide) (fun c1 => ?_) (fun c1 => ?_)
      · have nc1 : x123_3.toInt < (0 : Int) := (i_lt (x := x123_3) (y := 0)).mp c1
        refine lv_aload_n S.x S.b d_Mpg_make2_212 rfl (lv_at hl 0 rfl) ?_
        have hfi := ArB.fin har (by omega); have hce := ArB.ce har; have hce1 := hce; unfold CeN at hce1; have hwp2 := ArB.wp har
        refine lv_aload_n S.x S.b d_Mpg_make2_213 rfl (lv_at hl 0 rfl) ?_
        refine px_get S k_Mpg hT hw 0 0 18 (v := .ref (r 18)) rfl rfl rfl (by decide) m10_3 d_Mpg_make2_214 ?_
        refine lv_iload_n S.x S.b d_Mpg_make2_217 rfl (lv_at hl 1 rfl) ?_
        refine px_iald S hT hw 0 14 (n := 2100) (f := (ma 18)) rfl gp_18 (x := p0) (vp_in_iff.mpr (by constructor <;> omega)) d_Mpg_make2_218 ?_
        refine lv_topi (fun z3 ez3 => ?_)
        have lz3 := Int32.le_toInt z3
        have uz3 := Int32.toInt_lt z3
        have rz3 : z3.toInt = (ma 18 p0.toNatClampNeg).toInt := by rw [ez3]
        refine lv_bipush (v := 100) S.x S.b d_Mpg_make2_219 (by decide) ?_
        refine lv_icmp_lt (tgt := 229) S.x S.b d_Mpg_make2_221 (by decide) (fun c4 => ?_) (fun c4 => ?_)
        · have nc4 : z3.toInt < (100 : Int) := (i_lt (x := z3) (y := 100)).mp c4
          refine lv_bipush (v := 16) S.x S.b d_Mpg_make2_229 (by decide) ?_
          refine lv_aload_n S.x S.b d_Mpg_make2_231 rfl (lv_at hl 0 rfl) ?_
          refine px_get S k_Mpg hT hw 0 0 18 (v := .ref (r 18)) rfl rfl rfl (by decide) m10_3 d_Mpg_make2_232 ?_
          refine lv_iload_n S.x S.b d_Mpg_make2_235 rfl (lv_at hl 1 rfl) ?_
          refine px_iald S hT hw 0 14 (n := 2100) (f := (ma 18)) rfl gp_18 (x := p0) (vp_in_iff.mpr (by constructor <;> omega)) d_Mpg_make2_236 ?_
          refine lv_topi (fun z6 ez6 => ?_)
          have lz6 := Int32.le_toInt z6
          have uz6 := Int32.toInt_lt z6
          have rz6 : z6.toInt = (ma 18 p0.toNatClampNeg).toInt := by rw [ez6]
          refine lv_bipush (v := 100) S.x S.b d_Mpg_make2_237 (by decide) ?_
          refine lv_icmp_lt (tgt := 254) S.x S.b d_Mpg_make2_239 (by decide) (fun c7 => ?_) (fun c7 => ?_)
          · have nc7 : z6.toInt < (100 : Int) := (i_lt (x := z6) (y := 100)).mp c7
            refine lv_aload_n S.x S.b d_Mpg_make2_254 rfl (lv_at hl 0 rfl) ?_
            refine px_get S k_Mpg hT hw 0 0 18 (v := .ref (r 18)) rfl rfl rfl (by decide) m10_3 d_Mpg_make2_255 ?_
            refine lv_iload_n S.x S.b d_Mpg_make2_258 rfl (lv_at hl 1 rfl) ?_
            refine px_iald S hT hw 0 14 (n := 2100) (f := (ma 18)) rfl gp_18 (x := p0) (vp_in_iff.mpr (by constructor <;> omega)) d_Mpg_make2_259 ?_
            refine lv_topi (fun z9 ez9 => ?_)
            have lz9 := Int32.le_toInt z9
            have uz9 := Int32.toInt_lt z9
            have rz9 : z9.toInt = (ma 18 p0.toNatClampNeg).toInt := by rw [ez9]
            refine lv_iconst (v := 0) S.x S.b d_Mpg_make2_260 (by decide) ?_
            refine px_calli (pr := []) (px_runV (As := [.int 16, .int z9, .int 0]) (rest := []) S (c_mp_emit l D cs h r g tf ta pf na ma wa cf ca xf xa ef_123 ea_123 16 z9 0  (show 0 ≤ (ef_123 60).toInt from by first | exact oz_16d7fa9f32 k123_3 g4 | omega) (show (ef_123 60).toInt < 7000 from by first | exact oz_b8fc81f128 k123_4 g5 hwp2 | omega) _) hT (pr := []) (pcs := [wdP cs h r g tf ta pf na ma wa cf ca ef_123 ea_123 xf xa]) hw px_X.tt (px_recv hT hw 0 0 rfl rfl rfl) m13_86 m13_83 m13_85 ms_14_2 m1_21 q_Mpg_emit ⟨show 0 + 1 ≤ (2 * (d + 1) + 10) from (by first | exact oz_e5e3eaa915 | omega), show 8 + (4 + 11) + 0 ≤ (120 * (d + 1) + 320) from (by first | exact oz_de8ca50626 | omega)⟩ hl.1 rfl (Nat.le_of_ble_eq_true rfl) d_Mpg_make2_261 ⟨Nat.le_of_ble_eq_true rfl, Nat.le_of_ble_eq_true rfl⟩) hw hA (fun v15 p14 H locs hp14 hw => ?_)
            obtain ⟨ef12, ea13, rfl, e16, e17, e18, e19, e20⟩ := hp14
            have e16 : v15.toInt = (ef_123 60).toInt := e16
            have e17 : (ef12 60).toInt = (ef_123 60).toInt + 1 := e17
            have e18 : (ef12 64).toInt = (ef_123 64).toInt := e18
            have e19 : (ef12 65).toInt = (ef_123 65).toInt := e19
            have e20 : EmU ea_123 ea13 (ef_123 60) (16 : Int32) z9 (0 : Int32) := e20
            have hcd := hcd.tr e20.cd (by omega)
            have hsg := hsg.em e20 (by omega) rfl (by first | omega | (simp only [List.length_cons, List.length_append]; omega)) (hcx.own ⟨hfi.1, hfi.2.1⟩ rfl (by omega) hce (by omega))
            have hw : pw D A s.heap H locs [wdP cs h r g tf ta pf na ma wa cf ca ef12 ea13 xf xa] := hw
            have lv15 := Int32.le_toInt v15
            have uv15 := Int32.toInt_lt v15
            refine lv_pop S.x S.b d_Mpg_make2_264 rfl ?_
            refine lv_goto (tgt := 772) S.x S.b d_Mpg_make2_265 (by decide) ?_
            exact px_vret S hr hlk hAe hw (Nat.le_of_ble_eq_true rfl) (Nat.le_of_ble_eq_true rfl) (⟨ef12, ea13, rfl, (show (ef 60).toInt ≤ (ef12 60).toInt from by first | exact oz_887c409de9 k123_3 e17 | omega), (show (ef12 60).toInt ≤ (ef 60).toInt + wt from by first | exact oz_0e1976b1ec k123_4 e17 hwp2 | omega), (show (ef12 64).toInt = (ef 64).toInt from by first | exact oz_1687f4cc65 k123_5 e18 | omega), (show (ef12 65).toInt = (ef 65).toInt from by first | exact oz_1687f4cc65 k123_6 e19 | omega), (show CdK ea ea13 (ef 60).toInt from hcd), (show SgQ X9 (ea13 61) (ef 60).toInt (ef12 60).toInt fi S9 (0 :: S9) lv9 from (hsg.tq (by omega) (by omega) rfl))⟩) d_Mpg_make2_772
          · have nc7 : ¬ z6.toInt < (100 : Int) := mt (i_lt (x := z6) (y := 100)).mpr c7
            exfalso
            omega
        · have nc4 : ¬ z3.toInt < (100 : Int) := mt (i_lt (x := z3) (y := 100)).mpr c4
          refine lv_bipush (v := 15) S.x S.b d_Mpg_make2_224 (by decide) ?_
          refine lv_goto (tgt := 231) S.x S.b d_Mpg_make2_226 (by decide) ?_
          refine lv_aload_n S.x S.b d_Mpg_make2_231 rfl (lv_at hl 0 rfl) ?_
          refine px_get S k_Mpg hT hw 0 0 18 (v := .ref (r 18)) rfl rfl rfl (by decide) m10_3 d_Mpg_make2_232 ?_
          refine lv_iload_n S.x S.b d_Mpg_make2_235 rfl (lv_at hl 1 rfl) ?_
          refine px_iald S hT hw 0 14 (n := 2100) (f := (ma 18)) rfl gp_18 (x := p0) (vp_in_iff.mpr (by constructor <;> omega)) d_Mpg_make2_236 ?_
          refine lv_topi (fun z21 ez21 => ?_)
          have lz21 := Int32.le_toInt z21
          have uz21 := Int32.toInt_lt z21
          have rz21 : z21.toInt = (ma 18 p0.toNatClampNeg).toInt := by rw [ez21]
          refine lv_bipush (v := 100) S.x S.b d_Mpg_make2_237 (by decide) ?_
          refine lv_icmp_lt (tgt := 254) S.x S.b d_Mpg_make2_239 (by decide) (fun c22 => ?_) (fun c22 => ?_)
          · have nc22 : z21.toInt < (100 : Int) := (i_lt (x := z21) (y := 100)).mp c22
            exfalso
            omega
          · have nc22 : ¬ z21.toInt < (100 : Int) := mt (i_lt (x := z21) (y := 100)).mpr c22
            refine lv_aload_n S.x S.b d_Mpg_make2_242 rfl (lv_at hl 0 rfl) ?_
            refine px_get S k_Mpg hT hw 0 0 18 (v := .ref (r 18)) rfl rfl rfl (by decide) m10_3 d_Mpg_make2_243 ?_
            refine lv_iload_n S.x S.b d_Mpg_make2_246 rfl (lv_at hl 1 rfl) ?_
            refine px_iald S hT hw 0 14 (n := 2100) (f := (ma 18)) rfl gp_18 (x := p0) (vp_in_iff.mpr (by constructor <;> omega)) d_Mpg_make2_247 ?_
            refine lv_topi (fun z24 ez24 => ?_)
            have lz24 := Int32.le_toInt z24
            have uz24 := Int32.toInt_lt z24
            have rz24 : z24.toInt = (ma 18 p0.toNatClampNeg).toInt := by rw [ez24]
            refine lv_bipush (v := 100) S.x S.b d_Mpg_make2_248 (by decide) ?_
            refine lv_isub S.x S.b d_Mpg_make2_250 ?_
            refine lv_topi (fun z25 ez25 => ?_)
            have tz25 : z25.toInt = (z24.toInt - (100 : Int) + 2147483648) % 4294967296 - 2147483648 := by rw [ez25]; exact i_sub z24 100
            have lz25 := Int32.le_toInt z25
            have uz25 := Int32.toInt_lt z25
            try replace tz25 : z25.toInt = z24.toInt - (100 : Int) := by omega
            refine lv_goto (tgt := 260) S.x S.b d_Mpg_make2_251 (by decide) ?_
            refine lv_iconst (v := 0) S.x S.b d_Mpg_make2_260 (by decide) ?_
            refine px_calli (pr := []) (px_runV (As := [.int 15, .int z25, .int 0]) (rest := []) S (c_mp_emit l D cs h r g tf ta pf na ma wa cf ca xf xa ef_123 ea_123 15 z25 0  (show 0 ≤ (ef_123 60).toInt from by first | exact oz_16d7fa9f32 k123_3 g4 | omega) (show (ef_123 60).toInt < 7000 from by first | exact oz_b8fc81f128 k123_4 g5 hwp2 | omega) _) hT (pr := []) (pcs := [wdP cs h r g tf ta pf na ma wa cf ca ef_123 ea_123 xf xa]) hw px_X.tt (px_recv hT hw 0 0 rfl rfl rfl) m13_86 m13_83 m13_85 ms_14_2 m1_21 q_Mpg_emit ⟨show 0 + 1 ≤ (2 * (d + 1) + 10) from (by first | exact oz_e5e3eaa915 | omega), show 8 + (4 + 11) + 0 ≤ (120 * (d + 1) + 320) from (by first | exact oz_de8ca50626 | omega)⟩ hl.1 rfl (Nat.le_of_ble_eq_true rfl) d_Mpg_make2_261 ⟨Nat.le_of_ble_eq_true rfl, Nat.le_of_ble_eq_true rfl⟩) hw hA (fun v31 p30 H locs hp30 hw => ?_)
            obtain ⟨ef28, ea29, rfl, e32, e33, e34, e35, e36⟩ := hp30
            have e32 : v31.toInt = (ef_123 60).toInt := e32
            have e33 : (ef28 60).toInt = (ef_123 60).toInt + 1 := e33
            have e34 : (ef28 64).toInt = (ef_123 64).toInt := e34
            have e35 : (ef28 65).toInt = (ef_123 65).toInt := e35
            have e36 : EmU ea_123 ea29 (ef_123 60) (15 : Int32) z25 (0 : Int32) := e36
            have hcd := hcd.tr e36.cd (by omega)
            have hsg := hsg.call e36 (by omega) rfl (by first | omega | (simp only [List.length_cons, List.length_append]; omega)) rfl (by rw [hcx.2.2.2.1]; omega) (by rw [show 100 + z25.toInt = (ma 18 p0.toNatClampNeg).toInt by omega]; exact hcx.arc ⟨hfi.1, hfi.2.1⟩)
            have hw : pw D A s.heap H locs [wdP cs h r g tf ta pf na ma wa cf ca ef28 ea29 xf xa] := hw
            have lv31 := Int32.le_toInt v31
            have uv31 := Int32.toInt_lt v31
            refine lv_pop S.x S.b d_Mpg_make2_264 rfl ?_
            refine lv_goto (tgt := 772) S.x S.b d_Mpg_make2_265 (by decide) ?_
            exact px_vret S hr hlk hAe hw (Nat.le_of_ble_eq_true rfl) (Nat.le_of_ble_eq_true rfl) (⟨ef28, ea29, rfl, (show (ef 60).toInt ≤ (ef28 60).toInt from by first | exact oz_887c409de9 k123_3 e33 | omega), (show (ef28 60).toInt ≤ (ef 60).toInt + wt from by first | exact oz_0e1976b1ec k123_4 e33 hwp2 | omega), (show (ef28 64).toInt = (ef 64).toInt from by first | exact oz_1687f4cc65 k123_5 e34 | omega), (show (ef28 65).toInt = (ef 65).toInt from by first | exact oz_1687f4cc65 k123_6 e35 | omega), (show CdK ea ea29 (ef 60).toInt from hcd), (show SgQ X9 (ea29 61) (ef 60).toInt (ef28 60).toInt fi S9 (0 :: S9) lv9 from (hsg.tq (by omega) (by omega) rfl))⟩) d_Mpg_make2_772
      · have nc1 : ¬ x123_3.toInt < (0 : Int) := mt (i_lt (x := x123_3) (y := 0)).mpr c1
        refine lv_aload_n S.x S.b d_Mpg_make2_127 rfl (lv_at hl 0 rfl) ?_
        obtain ⟨md37, wa38, hm_md37, hmf_md37, hsf_md37, har2, hec_x123_3, hwa1, hwa2, hln⟩ := ArB.go hts har (by omega) (k' := x123_2.toInt + 1) rfl; have hrg_x123_3 := EcV.rng hec_x123_3; have hce := ArB.ce har; have hce1 := hce; unfold CeN at hce1; have hwp2 := ArB.wp har2; have hlap : ((aslots (tkl na ma0 ca (ma 18 p0.toNatClampNeg).toInt) (x123_2.toInt).toNat ++ S9).length : Int) = (aslots (tkl na ma0 ca (ma 18 p0.toNatClampNeg).toInt) (x123_2.toInt).toNat).length + S9.length := (by rw [List.length_append]; omega)
        refine px_get S k_Mpg hT hw 0 0 18 (v := .ref (r 18)) rfl rfl rfl (by decide) m10_3 d_Mpg_make2_128 ?_
        refine lv_iload_n S.x S.b d_Mpg_make2_131 rfl (lv_at hl 1 rfl) ?_
        refine px_iald S hT hw 0 14 (n := 2100) (f := (ma 18)) rfl gp_18 (x := p0) (vp_in_iff.mpr (by constructor <;> omega)) d_Mpg_make2_132 ?_
        refine lv_topi (fun z39 ez39 => ?_)
        have lz39 := Int32.le_toInt z39
        have uz39 := Int32.toInt_lt z39
        have rz39 : z39.toInt = (ma 18 p0.toNatClampNeg).toInt := by rw [ez39]
        refine lv_bipush (v := 100) S.x S.b d_Mpg_make2_133 (by decide) ?_
        refine lv_icmp_lt (tgt := 156) S.x S.b d_Mpg_make2_135 (by decide) (fun c40 => ?_) (fun c40 => ?_)
        · have nc40 : z39.toInt < (100 : Int) := (i_lt (x := z39) (y := 100)).mp c40
          refine lv_aload_n S.x S.b d_Mpg_make2_156 rfl (lv_at hl 0 rfl) ?_
          refine lv_iconst (v := (-1)) S.x S.b d_Mpg_make2_157 (by decide) ?_
          refine lv_aload_n S.x S.b d_Mpg_make2_158 rfl (lv_at hl 0 rfl) ?_
          refine px_get S k_Mpg hT hw 0 0 18 (v := .ref (r 18)) rfl rfl rfl (by decide) m10_3 d_Mpg_make2_159 ?_
          refine lv_iload_n S.x S.b d_Mpg_make2_162 rfl (lv_at hl 1 rfl) ?_
          refine px_iald S hT hw 0 14 (n := 2100) (f := (ma 18)) rfl gp_18 (x := p0) (vp_in_iff.mpr (by constructor <;> omega)) d_Mpg_make2_163 ?_
          refine lv_topi (fun z42 ez42 => ?_)
          have lz42 := Int32.le_toInt z42
          have uz42 := Int32.toInt_lt z42
          have rz42 : z42.toInt = (ma 18 p0.toNatClampNeg).toInt := by rw [ez42]
          refine lv_iload_n S.x S.b d_Mpg_make2_164 rfl (lv_at hl 2 rfl) ?_
          refine px_calli (pr := []) (px_runV (As := [.int (-1), .int z42, .int x123_2]) (rest := []) S (c_mp_taken l D cs h r g tf ta pf na ma wa cf ca ef_123 ea_123 xf xa (-1) z42 x123_2  (show -1 ≤ (-1 : Int) from by first | exact oz_268d846349 | omega) (show (-1 : Int) < (cf 38).toInt from by first | exact oz_7f6cba95dd g2 g3 | omega) (show (-1 : Int) < 0 → 0 ≤ z42.toInt ∧ z42.toInt < 10 from by omega) (show 0 ≤ x123_2.toInt from by first | exact k123_0 | omega) (show x123_2.toInt ≤ 4000 from by omega) (show 0 ≤ (cf 38).toInt from by first | exact oz_f3ebed1ad0 g2 g3 | omega) htk (FnT.eq hft (by omega)) (FnP.eq hfp (by omega)) _) hT (pr := []) (pcs := [wdP cs h r g tf ta pf na ma wa cf ca ef_123 ea_123 xf xa]) hw (oX_call (P := (fun A U H => (oP A g U H))) (pr := []) oG_P hw hA hP) (px_recv hT hw 0 0 rfl rfl rfl) m12_229 m12_226 m12_228 ms_12_10 m1_21 q_Mpg_taken ⟨show 4 + 1 ≤ (2 * (d + 1) + 10) from (by first | exact oz_be64971c68 | omega), show 8 + (6 + 11) + 140 ≤ (120 * (d + 1) + 320) from (by first | exact oz_cd18bc19c4 | omega)⟩ hl.1 rfl (Nat.le_of_ble_eq_true rfl) d_Mpg_make2_165 ⟨Nat.le_of_ble_eq_true rfl, Nat.le_of_ble_eq_true rfl⟩) hw hA (fun v44 p43 H locs hp43 hw => ?_)
          obtain ⟨rfl, e45, e46⟩ := hp43
          have e45 : TkV na ma ca (-1 : Int) z42.toInt x123_2.toInt v44.toInt := e45
          have e46 : R_mp_taken na ma ca (-1 : Int32) z42 x123_2 v44 := e46
          have hw : pw D A s.heap H locs [wdP cs h r g tf ta pf na ma wa cf ca ef_123 ea_123 xf xa] := hw
          have lv44 := Int32.le_toInt v44
          have uv44 := Int32.toInt_lt v44
          have hcd_165 : cod (-1 : Int) z42.toInt = (ma 18 p0.toNatClampNeg).toInt := (by unfold cod; first | (rw [if_pos (by omega)]; omega) | (rw [if_neg (by omega)]; omega)); have hcn_165 : CeN nf (cod (-1 : Int) z42.toInt) := (by rw [hcd_165]; exact hce); have htv_165 := tkv_at (ta := ta) (ns := ns) (ys := ys) e45 han hfp hcn_165; have htg_165 := tkv_rng e45 hcn_165; rw [hcd_165] at htv_165
          refine lv_istore (lv' := [(4, .int v44), (0, .ref h), (1, .int p0), (2, .int x123_2), (3, .int x123_3)]) S.x S.b d_Mpg_make2_168 hl (by decide) rfl (fun ls hl => ?_)
          refine lv_iload S.x S.b d_Mpg_make2_170 (lv_at hl 0 rfl) ?_
          refine lv_bipush (v := 105) S.x S.b d_Mpg_make2_172 (by decide) ?_
          refine lv_icmp_ne (tgt := 185) S.x S.b d_Mpg_make2_174 (by decide) (fun c47 => ?_) (fun c47 => ?_)
          · have nc47 : ¬ v44.toInt = (105 : Int) := mt (i_eq (x := v44) (y := 105)).mpr c47
            refine lv_aload_n S.x S.b d_Mpg_make2_185 rfl (lv_at hl 1 rfl) ?_
            refine lv_bipush (v := 22) S.x S.b d_Mpg_make2_186 (by decide) ?_
            refine lv_aload_n S.x S.b d_Mpg_make2_188 rfl (lv_at hl 1 rfl) ?_
            refine px_get S k_Mpg hT hw 0 0 18 (v := .ref (r 18)) rfl rfl rfl (by decide) m10_3 d_Mpg_make2_189 ?_
            refine lv_iload_n S.x S.b d_Mpg_make2_192 rfl (lv_at hl 4 rfl) ?_
            refine px_iald S hT hw 0 14 (n := 2100) (f := (ma 18)) rfl gp_18 (x := x123_3) (vp_in_iff.mpr (by first | exact oz_e6f6ba9544 nc1 hrg_x123_3.2.1 g0 | (constructor <;> omega))) d_Mpg_make2_193 ?_
            refine lv_topi (fun z49 ez49 => ?_)
            have lz49 := Int32.le_toInt z49
            have uz49 := Int32.toInt_lt z49
            have rz49 : z49.toInt = (ma 18 x123_3.toNatClampNeg).toInt := by rw [ez49]
            refine lv_iconst (v := 0) S.x S.b d_Mpg_make2_194 (by decide) ?_
            refine px_calli (pr := []) (px_runV (As := [.int 22, .int z49, .int 0]) (rest := []) S (c_mp_emit l D cs h r g tf ta pf na ma wa cf ca xf xa ef_123 ea_123 22 z49 0  (show 0 ≤ (ef_123 60).toInt from by first | exact oz_16d7fa9f32 k123_3 g4 | omega) (show (ef_123 60).toInt < 7000 from by omega) _) hT (pr := []) (pcs := [wdP cs h r g tf ta pf na ma wa cf ca ef_123 ea_123 xf xa]) hw px_X.tt (px_recv hT hw 0 0 rfl rfl rfl) m13_86 m13_83 m13_85 ms_14_2 m1_21 q_Mpg_emit ⟨show 0 + 1 ≤ (2 * (d + 1) + 10) from (by first | exact oz_e5e3eaa915 | omega), show 8 + (4 + 11) + 0 ≤ (120 * (d + 1) + 320) from (by first | exact oz_de8ca50626 | omega)⟩ hl.1 rfl (Nat.le_of_ble_eq_true rfl) d_Mpg_make2_195 ⟨Nat.le_of_ble_eq_true rfl, Nat.le_of_ble_eq_true rfl⟩) hw hA (fun v55 p54 H locs hp54 hw => ?_)
            obtain ⟨ef52, ea53, rfl, e56, e57, e58, e59, e60⟩ := hp54
            have e56 : v55.toInt = (ef_123 60).toInt := e56
            have e57 : (ef52 60).toInt = (ef_123 60).toInt + 1 := e57
            have e58 : (ef52 64).toInt = (ef_123 64).toInt := e58
            have e59 : (ef52 65).toInt = (ef_123 65).toInt := e59
            have e60 : EmU ea_123 ea53 (ef_123 60) (22 : Int32) z49 (0 : Int32) := e60
            have hcd := hcd.tr e60.cd (by omega)
            have hsy3 := hsf_md37 (fun q => absurd (htv_165.trans q) (by omega)); have hsg := hsg.em e60 (by omega) rfl (by first | omega | (simp only [List.length_cons, List.length_append]; omega)) (hcx.array (by rw [ez49]; exact hsy3.1) rfl)
            have hw : pw D A s.heap H locs [wdP cs h r g tf ta pf na ma wa cf ca ef52 ea53 xf xa] := hw
            have lv55 := Int32.le_toInt v55
            have uv55 := Int32.toInt_lt v55
            refine lv_pop S.x S.b d_Mpg_make2_198 rfl ?_
            obtain ⟨z61, ez61⟩ : ∃ y : Int32, y = x123_2 + 1 := ⟨_, rfl⟩
            have tz61 : z61.toInt = (x123_2.toInt + 1 + 2147483648) % 4294967296 - 2147483648 := by rw [ez61]; exact i_add x123_2 1
            have lz61 := Int32.le_toInt z61
            have uz61 := Int32.toInt_lt z61
            try replace tz61 : z61.toInt = x123_2.toInt + 1 := by omega
            refine lv_iinc (v := z61) (lv' := [(2, .int z61), (4, .int v44), (0, .ref h), (1, .int p0), (3, .int x123_3)]) S.x S.b d_Mpg_make2_199 hl (k := 3) rfl (by rw [ez61]; rfl) (by decide) rfl (fun ls hl => ?_)
            refine lv_aload_n S.x S.b d_Mpg_make2_202 rfl (lv_at hl 2 rfl) ?_
            refine px_get S k_Mpg hT hw 0 0 21 (v := .ref (r 21)) rfl rfl rfl (by decide) m10_7 d_Mpg_make2_203 ?_
            refine lv_iload_n S.x S.b d_Mpg_make2_206 rfl (lv_at hl 4 rfl) ?_
            refine px_iald S hT hw 0 17 (n := 2100) (f := (na 21)) rfl gp_21 (x := x123_3) (vp_in_iff.mpr (by first | exact oz_e6f6ba9544 nc1 hrg_x123_3.2.1 g0 | (constructor <;> omega))) d_Mpg_make2_207 ?_
            refine lv_topi (fun z62 ez62 => ?_)
            have lz62 := Int32.le_toInt z62
            have uz62 := Int32.toInt_lt z62
            refine lv_istore_n (lv' := [(3, .int z62), (2, .int z61), (4, .int v44), (0, .ref h), (1, .int p0)]) S.x S.b d_Mpg_make2_208 rfl hl (by decide) rfl (fun ls hl => ?_)
            refine lv_goto (tgt := 123) S.x S.b d_Mpg_make2_209 (by decide) ?_
            exact ih123 ef52 ea53 md37 (wr_123 - wa38) z61 z62 _ _ ls (show 0 ≤ z61.toInt from by first | exact oz_ae613611c0 tz61 k123_0 | omega) (show z61.toInt + p0.toInt + 1 ≤ md37 from by first | exact oz_e7dfbedcfe k123_1 hm_md37.2.2.2 tz61 hm_md37.2.2.1 | omega) (show md37 ≤ (pf 13).toInt from by first | exact oz_fdad9fdf0a hm_md37.2.1 | omega) (show (ef 60).toInt ≤ (ef52 60).toInt from by first | exact oz_887c409de9 k123_3 e57 | omega) (show (ef52 60).toInt + (wr_123 - wa38) + 1 ≤ (ef 60).toInt + wt from by omega) (show (ef52 64).toInt = (ef 64).toInt from by first | exact oz_1687f4cc65 k123_5 e58 | omega) (show (ef52 65).toInt = (ef 65).toInt from by first | exact oz_1687f4cc65 k123_6 e59 | omega) (show CdK ea ea53 (ef 60).toInt from hcd) (show (na 14 p0.toNatClampNeg).toInt = 3 from by first | exact k123_8 | omega) (show ArB ta (tf 6).toInt na ma0 ma ca V d md37 (pf 13).toInt (wr_123 - wa38) bh nf (ma 18 p0.toNatClampNeg).toInt z61.toInt z62 from (by rw [ez62, show z61.toInt = x123_2.toInt + 1 by omega]; exact har2)) (show SgQ X9 (ea53 61) (ef 60).toInt (ef52 60).toInt fi S9 (aslots (tkl na ma0 ca (ma 18 p0.toNatClampNeg).toInt) (z61.toInt).toNat ++ S9) lv9 from (hsg.tq (by omega) (by omega) (aslots_a (fun q => absurd (htv_165.trans q) (by omega)) (by omega) (by omega)))) (show (pf 13).toInt - md37 < (n_123 : Int) from by first | exact oz_2b66180fc4 hm hm_md37.2.2.2 hm_md37.2.2.1 | omega) hw (lv_sub hl [3, 4, 1, 0] rfl)
          · have nc47 : v44.toInt = (105 : Int) := (i_eq (x := v44) (y := 105)).mp c47
            refine lv_aload_n S.x S.b d_Mpg_make2_177 rfl (lv_at hl 1 rfl) ?_
            refine lv_iload_n S.x S.b d_Mpg_make2_178 rfl (lv_at hl 4 rfl) ?_
            have hmk_x123_3 := hmf_md37 (htv_165.symm.trans (by omega)); have hnn_x123_3 := hmk_x123_3.nn
            refine px_callv (pr := []) (px_runV (As := [.int x123_3]) (rest := []) S (hLK ma0 ys ns nf wa38 V vl vh X9 fi (aslots (tkl na ma0 ca (ma 18 p0.toNatClampNeg).toInt) (x123_2.toInt).toNat ++ S9) lv9 (bh - ((aslots (tkl na ma0 ca (ma 18 p0.toNatClampNeg).toInt) (x123_2.toInt).toNat).length : Int)) h r g tf ta pf na ma wa cf ca xf xa ef_123 ea_123 x123_3 (show (pf 13).toInt ≤ 2100 from by first | exact g0 | omega) (show (tf 6).toInt ≤ 2049 from by first | exact g1 | omega) (show (cf 38).toInt = nf from by first | exact g2 | omega) (show 0 ≤ nf from by first | exact g3 | omega) (show 0 ≤ (ef_123 60).toInt from by first | exact oz_16d7fa9f32 k123_3 g4 | omega) (show (ef_123 60).toInt + wa38 ≤ 7000 from by first | exact oz_1681cdb94e k123_4 hwa2 g5 | omega) (show ((aslots (tkl na ma0 ca (ma 18 p0.toNatClampNeg).toInt) (x123_2.toInt).toNat ++ S9).length : Int) + (bh - ((aslots (tkl na ma0 ca (ma 18 p0.toNatClampNeg).toInt) (x123_2.toInt).toNat).length : Int)) ≤ X9.tall fi from by omega) htk (FnT.eq hft (by omega)) hfp han hts hcx hmk_x123_3 _) hT (pr := []) (pcs := [wdP cs h r g tf ta pf na ma wa cf ca ef_123 ea_123 xf xa]) hw (oX_call (P := (fun A U H => (oP A g U H))) (pr := []) oG_P hw hA hP) (px_recv hT hw 0 0 rfl rfl rfl) m13_90 m13_87 m13_89 ms_14_3 m1_21 q_Mpg_make2 ⟨show (2 * d + 10) + 1 ≤ (2 * (d + 1) + 10) from (by first | exact oz_ab1a9076e0 | omega), show 8 + (8 + 11) + (120 * d + 320) ≤ (120 * (d + 1) + 320) from (by first | exact oz_59e4787ab3 | omega)⟩ hl.1 rfl (Nat.le_of_ble_eq_true rfl) d_Mpg_make2_179 ⟨Nat.le_of_ble_eq_true rfl, Nat.le_of_ble_eq_true rfl⟩) hw hA (fun p67 H locs hp67 hw => ?_)
            obtain ⟨ef65, ea66, rfl, e69, e70, e71, e72, e73, e74⟩ := hp67
            have e69 : (ef_123 60).toInt ≤ (ef65 60).toInt := e69
            have e70 : (ef65 60).toInt ≤ (ef_123 60).toInt + wa38 := e70
            have e71 : (ef65 64).toInt = (ef_123 64).toInt := e71
            have e72 : (ef65 65).toInt = (ef_123 65).toInt := e72
            have e73 : CdK ea_123 ea66 (ef_123 60).toInt := e73
            have hcd := hcd.tr e73 (by omega)
            have e74 : SgQ X9 (ea66 61) (ef_123 60).toInt (ef65 60).toInt fi (aslots (tkl na ma0 ca (ma 18 p0.toNatClampNeg).toInt) (x123_2.toInt).toNat ++ S9) (0 :: (aslots (tkl na ma0 ca (ma 18 p0.toNatClampNeg).toInt) (x123_2.toInt).toNat ++ S9)) lv9 := e74
            have hsg := hsg.ap e73 e74 (by omega)
            have hw : pw D A s.heap H locs [wdP cs h r g tf ta pf na ma wa cf ca ef65 ea66 xf xa] := hw
            refine lv_goto (tgt := 199) S.x S.b d_Mpg_make2_182 (by decide) ?_
            obtain ⟨z75, ez75⟩ : ∃ y : Int32, y = x123_2 + 1 := ⟨_, rfl⟩
            have tz75 : z75.toInt = (x123_2.toInt + 1 + 2147483648) % 4294967296 - 2147483648 := by rw [ez75]; exact i_add x123_2 1
            have lz75 := Int32.le_toInt z75
            have uz75 := Int32.toInt_lt z75
            try replace tz75 : z75.toInt = x123_2.toInt + 1 := by omega
            refine lv_iinc (v := z75) (lv' := [(2, .int z75), (4, .int v44), (0, .ref h), (1, .int p0), (3, .int x123_3)]) S.x S.b d_Mpg_make2_199 hl (k := 3) rfl (by rw [ez75]; rfl) (by decide) rfl (fun ls hl => ?_)
            refine lv_aload_n S.x S.b d_Mpg_make2_202 rfl (lv_at hl 2 rfl) ?_
            refine px_get S k_Mpg hT hw 0 0 21 (v := .ref (r 21)) rfl rfl rfl (by decide) m10_7 d_Mpg_make2_203 ?_
            refine lv_iload_n S.x S.b d_Mpg_make2_206 rfl (lv_at hl 4 rfl) ?_
            refine px_iald S hT hw 0 17 (n := 2100) (f := (na 21)) rfl gp_21 (x := x123_3) (vp_in_iff.mpr (by first | exact oz_e6f6ba9544 nc1 hrg_x123_3.2.1 g0 | (constructor <;> omega))) d_Mpg_make2_207 ?_
            refine lv_topi (fun z76 ez76 => ?_)
            have lz76 := Int32.le_toInt z76
            have uz76 := Int32.toInt_lt z76
            refine lv_istore_n (lv' := [(3, .int z76), (2, .int z75), (4, .int v44), (0, .ref h), (1, .int p0)]) S.x S.b d_Mpg_make2_208 rfl hl (by decide) rfl (fun ls hl => ?_)
            refine lv_goto (tgt := 123) S.x S.b d_Mpg_make2_209 (by decide) ?_
            exact ih123 ef65 ea66 md37 (wr_123 - wa38) z75 z76 _ _ ls (show 0 ≤ z75.toInt from by first | exact oz_ae613611c0 tz75 k123_0 | omega) (show z75.toInt + p0.toInt + 1 ≤ md37 from by first | exact oz_e7dfbedcfe k123_1 hm_md37.2.2.2 tz75 hm_md37.2.2.1 | omega) (show md37 ≤ (pf 13).toInt from by first | exact oz_fdad9fdf0a hm_md37.2.1 | omega) (show (ef 60).toInt ≤ (ef65 60).toInt from by first | exact oz_be764f19f0 k123_3 e69 | omega) (show (ef65 60).toInt + (wr_123 - wa38) + 1 ≤ (ef 60).toInt + wt from by first | exact oz_d132d24d7f k123_4 e70 | omega) (show (ef65 64).toInt = (ef 64).toInt from by first | exact oz_1687f4cc65 k123_5 e71 | omega) (show (ef65 65).toInt = (ef 65).toInt from by first | exact oz_1687f4cc65 k123_6 e72 | omega) (show CdK ea ea66 (ef 60).toInt from hcd) (show (na 14 p0.toNatClampNeg).toInt = 3 from by first | exact k123_8 | omega) (show ArB ta (tf 6).toInt na ma0 ma ca V d md37 (pf 13).toInt (wr_123 - wa38) bh nf (ma 18 p0.toNatClampNeg).toInt z75.toInt z76 from (by rw [ez76, show z75.toInt = x123_2.toInt + 1 by omega]; exact har2)) (show SgQ X9 (ea66 61) (ef 60).toInt (ef65 60).toInt fi S9 (aslots (tkl na ma0 ca (ma 18 p0.toNatClampNeg).toInt) (z75.toInt).toNat ++ S9) lv9 from (hsg.tq (by omega) (by omega) (aslots_i (htv_165.symm.trans (by omega)) (by omega) (by omega)))) (show (pf 13).toInt - md37 < (n_123 : Int) from by first | exact oz_2b66180fc4 hm hm_md37.2.2.2 hm_md37.2.2.1 | omega) hw (lv_sub hl [3, 4, 1, 0] rfl)
        · have nc40 : ¬ z39.toInt < (100 : Int) := mt (i_lt (x := z39) (y := 100)).mpr c40
          refine lv_aload_n S.x S.b d_Mpg_make2_138 rfl (lv_at hl 0 rfl) ?_
          refine lv_aload_n S.x S.b d_Mpg_make2_139 rfl (lv_at hl 0 rfl) ?_
          refine px_get S k_Mpg hT hw 0 0 18 (v := .ref (r 18)) rfl rfl rfl (by decide) m10_3 d_Mpg_make2_140 ?_
          refine lv_iload_n S.x S.b d_Mpg_make2_143 rfl (lv_at hl 1 rfl) ?_
          refine px_iald S hT hw 0 14 (n := 2100) (f := (ma 18)) rfl gp_18 (x := p0) (vp_in_iff.mpr (by constructor <;> omega)) d_Mpg_make2_144 ?_
          refine lv_topi (fun z77 ez77 => ?_)
          have lz77 := Int32.le_toInt z77
          have uz77 := Int32.toInt_lt z77
          have rz77 : z77.toInt = (ma 18 p0.toNatClampNeg).toInt := by rw [ez77]
          refine lv_bipush (v := 100) S.x S.b d_Mpg_make2_145 (by decide) ?_
          refine lv_isub S.x S.b d_Mpg_make2_147 ?_
          refine lv_topi (fun z78 ez78 => ?_)
          have tz78 : z78.toInt = (z77.toInt - (100 : Int) + 2147483648) % 4294967296 - 2147483648 := by rw [ez78]; exact i_sub z77 100
          have lz78 := Int32.le_toInt z78
          have uz78 := Int32.toInt_lt z78
          try replace tz78 : z78.toInt = z77.toInt - (100 : Int) := by omega
          refine lv_iconst (v := (-1)) S.x S.b d_Mpg_make2_148 (by decide) ?_
          refine lv_iload_n S.x S.b d_Mpg_make2_149 rfl (lv_at hl 2 rfl) ?_
          refine px_calli (pr := []) (px_runV (As := [.int z78, .int (-1), .int x123_2]) (rest := []) S (c_mp_taken l D cs h r g tf ta pf na ma wa cf ca ef_123 ea_123 xf xa z78 (-1) x123_2  (show -1 ≤ z78.toInt from by first | exact oz_b0880afea6 tz78 rz77 rz39 nc40 | omega) (show z78.toInt < (cf 38).toInt from by omega) (show z78.toInt < 0 → 0 ≤ (-1 : Int) ∧ (-1 : Int) < 10 from by omega) (show 0 ≤ x123_2.toInt from by first | exact k123_0 | omega) (show x123_2.toInt ≤ 4000 from by omega) (show 0 ≤ (cf 38).toInt from by first | exact oz_f3ebed1ad0 g2 g3 | omega) htk (FnT.eq hft (by omega)) (FnP.eq hfp (by omega)) _) hT (pr := []) (pcs := [wdP cs h r g tf ta pf na ma wa cf ca ef_123 ea_123 xf xa]) hw (oX_call (P := (fun A U H => (oP A g U H))) (pr := []) oG_P hw hA hP) (px_recv hT hw 0 0 rfl rfl rfl) m12_229 m12_226 m12_228 ms_12_10 m1_21 q_Mpg_taken ⟨show 4 + 1 ≤ (2 * (d + 1) + 10) from (by first | exact oz_be64971c68 | omega), show 8 + (6 + 11) + 140 ≤ (120 * (d + 1) + 320) from (by first | exact oz_cd18bc19c4 | omega)⟩ hl.1 rfl (Nat.le_of_ble_eq_true rfl) d_Mpg_make2_150 ⟨Nat.le_of_ble_eq_true rfl, Nat.le_of_ble_eq_true rfl⟩) hw hA (fun v80 p79 H locs hp79 hw => ?_)
          obtain ⟨rfl, e81, e82⟩ := hp79
          have e81 : TkV na ma ca z78.toInt (-1 : Int) x123_2.toInt v80.toInt := e81
          have e82 : R_mp_taken na ma ca z78 (-1 : Int32) x123_2 v80 := e82
          have hw : pw D A s.heap H locs [wdP cs h r g tf ta pf na ma wa cf ca ef_123 ea_123 xf xa] := hw
          have lv80 := Int32.le_toInt v80
          have uv80 := Int32.toInt_lt v80
          have hcd_150 : cod z78.toInt (-1 : Int) = (ma 18 p0.toNatClampNeg).toInt := (by unfold cod; first | (rw [if_pos (by omega)]; omega) | (rw [if_neg (by omega)]; omega)); have hcn_150 : CeN nf (cod z78.toInt (-1 : Int)) := (by rw [hcd_150]; exact hce); have htv_150 := tkv_at (ta := ta) (ns := ns) (ys := ys) e81 han hfp hcn_150; have htg_150 := tkv_rng e81 hcn_150; rw [hcd_150] at htv_150
          refine lv_goto (tgt := 168) S.x S.b d_Mpg_make2_153 (by decide) ?_
          refine lv_istore (lv' := [(4, .int v80), (0, .ref h), (1, .int p0), (2, .int x123_2), (3, .int x123_3)]) S.x S.b d_Mpg_make2_168 hl (by decide) rfl (fun ls hl => ?_)
          refine lv_iload S.x S.b d_Mpg_make2_170 (lv_at hl 0 rfl) ?_
          refine lv_bipush (v := 105) S.x S.b d_Mpg_make2_172 (by decide) ?_
          refine lv_icmp_ne (tgt := 185) S.x S.b d_Mpg_make2_174 (by decide) (fun c83 => ?_) (fun c83 => ?_)
          · have nc83 : ¬ v80.toInt = (105 : Int) := mt (i_eq (x := v80) (y := 105)).mpr c83
            refine lv_aload_n S.x S.b d_Mpg_make2_185 rfl (lv_at hl 1 rfl) ?_
            refine lv_bipush (v := 22) S.x S.b d_Mpg_make2_186 (by decide) ?_
            refine lv_aload_n S.x S.b d_Mpg_make2_188 rfl (lv_at hl 1 rfl) ?_
            refine px_get S k_Mpg hT hw 0 0 18 (v := .ref (r 18)) rfl rfl rfl (by decide) m10_3 d_Mpg_make2_189 ?_
            refine lv_iload_n S.x S.b d_Mpg_make2_192 rfl (lv_at hl 4 rfl) ?_
            refine px_iald S hT hw 0 14 (n := 2100) (f := (ma 18)) rfl gp_18 (x := x123_3) (vp_in_iff.mpr (by first | exact oz_e6f6ba9544 nc1 hrg_x123_3.2.1 g0 | (constructor <;> omega))) d_Mpg_make2_193 ?_
            refine lv_topi (fun z85 ez85 => ?_)
            have lz85 := Int32.le_toInt z85
            have uz85 := Int32.toInt_lt z85
            have rz85 : z85.toInt = (ma 18 x123_3.toNatClampNeg).toInt := by rw [ez85]
            refine lv_iconst (v := 0) S.x S.b d_Mpg_make2_194 (by decide) ?_
            refine px_calli (pr := []) (px_runV (As := [.int 22, .int z85, .int 0]) (rest := []) S (c_mp_emit l D cs h r g tf ta pf na ma wa cf ca xf xa ef_123 ea_123 22 z85 0  (show 0 ≤ (ef_123 60).toInt from by first | exact oz_16d7fa9f32 k123_3 g4 | omega) (show (ef_123 60).toInt < 7000 from by omega) _) hT (pr := []) (pcs := [wdP cs h r g tf ta pf na ma wa cf ca ef_123 ea_123 xf xa]) hw px_X.tt (px_recv hT hw 0 0 rfl rfl rfl) m13_86 m13_83 m13_85 ms_14_2 m1_21 q_Mpg_emit ⟨show 0 + 1 ≤ (2 * (d + 1) + 10) from (by first | exact oz_e5e3eaa915 | omega), show 8 + (4 + 11) + 0 ≤ (120 * (d + 1) + 320) from (by first | exact oz_de8ca50626 | omega)⟩ hl.1 rfl (Nat.le_of_ble_eq_true rfl) d_Mpg_make2_195 ⟨Nat.le_of_ble_eq_true rfl, Nat.le_of_ble_eq_true rfl⟩) hw hA (fun v91 p90 H locs hp90 hw => ?_)
            obtain ⟨ef88, ea89, rfl, e92, e93, e94, e95, e96⟩ := hp90
            have e92 : v91.toInt = (ef_123 60).toInt := e92
            have e93 : (ef88 60).toInt = (ef_123 60).toInt + 1 := e93
            have e94 : (ef88 64).toInt = (ef_123 64).toInt := e94
            have e95 : (ef88 65).toInt = (ef_123 65).toInt := e95
            have e96 : EmU ea_123 ea89 (ef_123 60) (22 : Int32) z85 (0 : Int32) := e96
            have hcd := hcd.tr e96.cd (by omega)
            have hsy3 := hsf_md37 (fun q => absurd (htv_150.trans q) (by omega)); have hsg := hsg.em e96 (by omega) rfl (by first | omega | (simp only [List.length_cons, List.length_append]; omega)) (hcx.array (by rw [ez85]; exact hsy3.1) rfl)
            have hw : pw D A s.heap H locs [wdP cs h r g tf ta pf na ma wa cf ca ef88 ea89 xf xa] := hw
            have lv91 := Int32.le_toInt v91
            have uv91 := Int32.toInt_lt v91
            refine lv_pop S.x S.b d_Mpg_make2_198 rfl ?_
            obtain ⟨z97, ez97⟩ : ∃ y : Int32, y = x123_2 + 1 := ⟨_, rfl⟩
            have tz97 : z97.toInt = (x123_2.toInt + 1 + 2147483648) % 4294967296 - 2147483648 := by rw [ez97]; exact i_add x123_2 1
            have lz97 := Int32.le_toInt z97
            have uz97 := Int32.toInt_lt z97
            try replace tz97 : z97.toInt = x123_2.toInt + 1 := by omega
            refine lv_iinc (v := z97) (lv' := [(2, .int z97), (4, .int v80), (0, .ref h), (1, .int p0), (3, .int x123_3)]) S.x S.b d_Mpg_make2_199 hl (k := 3) rfl (by rw [ez97]; rfl) (by decide) rfl (fun ls hl => ?_)
            refine lv_aload_n S.x S.b d_Mpg_make2_202 rfl (lv_at hl 2 rfl) ?_
            refine px_get S k_Mpg hT hw 0 0 21 (v := .ref (r 21)) rfl rfl rfl (by decide) m10_7 d_Mpg_make2_203 ?_
            refine lv_iload_n S.x S.b d_Mpg_make2_206 rfl (lv_at hl 4 rfl) ?_
            refine px_iald S hT hw 0 17 (n := 2100) (f := (na 21)) rfl gp_21 (x := x123_3) (vp_in_iff.mpr (by first | exact oz_e6f6ba9544 nc1 hrg_x123_3.2.1 g0 | (constructor <;> omega))) d_Mpg_make2_207 ?_
            refine lv_topi (fun z98 ez98 => ?_)
            have lz98 := Int32.le_toInt z98
            have uz98 := Int32.toInt_lt z98
            refine lv_istore_n (lv' := [(3, .int z98), (2, .int z97), (4, .int v80), (0, .ref h), (1, .int p0)]) S.x S.b d_Mpg_make2_208 rfl hl (by decide) rfl (fun ls hl => ?_)
            refine lv_goto (tgt := 123) S.x S.b d_Mpg_make2_209 (by decide) ?_
            exact ih123 ef88 ea89 md37 (wr_123 - wa38) z97 z98 _ _ ls (show 0 ≤ z97.toInt from by first | exact oz_ae613611c0 tz97 k123_0 | omega) (show z97.toInt + p0.toInt + 1 ≤ md37 from by first | exact oz_e7dfbedcfe k123_1 hm_md37.2.2.2 tz97 hm_md37.2.2.1 | omega) (show md37 ≤ (pf 13).toInt from by first | exact oz_fdad9fdf0a hm_md37.2.1 | omega) (show (ef 60).toInt ≤ (ef88 60).toInt from by first | exact oz_887c409de9 k123_3 e93 | omega) (show (ef88 60).toInt + (wr_123 - wa38) + 1 ≤ (ef 60).toInt + wt from by omega) (show (ef88 64).toInt = (ef 64).toInt from by first | exact oz_1687f4cc65 k123_5 e94 | omega) (show (ef88 65).toInt = (ef 65).toInt from by first | exact oz_1687f4cc65 k123_6 e95 | omega) (show CdK ea ea89 (ef 60).toInt from hcd) (show (na 14 p0.toNatClampNeg).toInt = 3 from by first | exact k123_8 | omega) (show ArB ta (tf 6).toInt na ma0 ma ca V d md37 (pf 13).toInt (wr_123 - wa38) bh nf (ma 18 p0.toNatClampNeg).toInt z97.toInt z98 from (by rw [ez98, show z97.toInt = x123_2.toInt + 1 by omega]; exact har2)) (show SgQ X9 (ea89 61) (ef 60).toInt (ef88 60).toInt fi S9 (aslots (tkl na ma0 ca (ma 18 p0.toNatClampNeg).toInt) (z97.toInt).toNat ++ S9) lv9 from (hsg.tq (by omega) (by omega) (aslots_a (fun q => absurd (htv_150.trans q) (by omega)) (by omega) (by omega)))) (show (pf 13).toInt - md37 < (n_123 : Int) from by first | exact oz_2b66180fc4 hm hm_md37.2.2.2 hm_md37.2.2.1 | omega) hw (lv_sub hl [3, 4, 1, 0] rfl)
          · have nc83 : v80.toInt = (105 : Int) := (i_eq (x := v80) (y := 105)).mp c83
            refine lv_aload_n S.x S.b d_Mpg_make2_177 rfl (lv_at hl 1 rfl) ?_
            refine lv_iload_n S.x S.b d_Mpg_make2_178 rfl (lv_at hl 4 rfl) ?_
            have hmk_x123_3 := hmf_md37 (htv_150.symm.trans (by omega)); have hnn_x123_3 := hmk_x123_3.nn
            refine px_callv (pr := []) (px_runV (As := [.int x123_3]) (rest := []) S (hLK ma0 ys ns nf wa38 V vl vh X9 fi (aslots (tkl na ma0 ca (ma 18 p0.toNatClampNeg).toInt) (x123_2.toInt).toNat ++ S9) lv9 (bh - ((aslots (tkl na ma0 ca (ma 18 p0.toNatClampNeg).toInt) (x123_2.toInt).toNat).length : Int)) h r g tf ta pf na ma wa cf ca xf xa ef_123 ea_123 x123_3 (show (pf 13).toInt ≤ 2100 from by first | exact g0 | omega) (show (tf 6).toInt ≤ 2049 from by first | exact g1 | omega) (show (cf 38).toInt = nf from by first | exact g2 | omega) (show 0 ≤ nf from by first | exact g3 | omega) (show 0 ≤ (ef_123 60).toInt from by first | exact oz_16d7fa9f32 k123_3 g4 | omega) (show (ef_123 60).toInt + wa38 ≤ 7000 from by first | exact oz_1681cdb94e k123_4 hwa2 g5 | omega) (show ((aslots (tkl na ma0 ca (ma 18 p0.toNatClampNeg).toInt) (x123_2.toInt).toNat ++ S9).length : Int) + (bh - ((aslots (tkl na ma0 ca (ma 18 p0.toNatClampNeg).toInt) (x123_2.toInt).toNat).length : Int)) ≤ X9.tall fi from by omega) htk (FnT.eq hft (by omega)) hfp han hts hcx hmk_x123_3 _) hT (pr := []) (pcs := [wdP cs h r g tf ta pf na ma wa cf ca ef_123 ea_123 xf xa]) hw (oX_call (P := (fun A U H => (oP A g U H))) (pr := []) oG_P hw hA hP) (px_recv hT hw 0 0 rfl rfl rfl) m13_90 m13_87 m13_89 ms_14_3 m1_21 q_Mpg_make2 ⟨show (2 * d + 10) + 1 ≤ (2 * (d + 1) + 10) from (by first | exact oz_ab1a9076e0 | omega), show 8 + (8 + 11) + (120 * d + 320) ≤ (120 * (d + 1) + 320) from (by first | exact oz_59e4787ab3 | omega)⟩ hl.1 rfl (Nat.le_of_ble_eq_true rfl) d_Mpg_make2_179 ⟨Nat.le_of_ble_eq_true rfl, Nat.le_of_ble_eq_true rfl⟩) hw hA (fun p103 H locs hp103 hw => ?_)
            obtain ⟨ef101, ea102, rfl, e105, e106, e107, e108, e109, e110⟩ := hp103
            have e105 : (ef_123 60).toInt ≤ (ef101 60).toInt := e105
            have e106 : (ef101 60).toInt ≤ (ef_123 60).toInt + wa38 := e106
            have e107 : (ef101 64).toInt = (ef_123 64).toInt := e107
            have e108 : (ef101 65).toInt = (ef_123 65).toInt := e108
            have e109 : CdK ea_123 ea102 (ef_123 60).toInt := e109
            have hcd := hcd.tr e109 (by omega)
            have e110 : SgQ X9 (ea102 61) (ef_123 60).toInt (ef101 60).toInt fi (aslots (tkl na ma0 ca (ma 18 p0.toNatClampNeg).toInt) (x123_2.toInt).toNat ++ S9) (0 :: (aslots (tkl na ma0 ca (ma 18 p0.toNatClampNeg).toInt) (x123_2.toInt).toNat ++ S9)) lv9 := e110
            have hsg := hsg.ap e109 e110 (by omega)
            have hw : pw D A s.heap H locs [wdP cs h r g tf ta pf na ma wa cf ca ef101 ea102 xf xa] := hw
            refine lv_goto (tgt := 199) S.x S.b d_Mpg_make2_182 (by decide) ?_
            obtain ⟨z111, ez111⟩ : ∃ y : Int32, y = x123_2 + 1 := ⟨_, rfl⟩
            have tz111 : z111.toInt = (x123_2.toInt + 1 + 2147483648) % 4294967296 - 2147483648 := by rw [ez111]; exact i_add x123_2 1
            have lz111 := Int32.le_toInt z111
            have uz111 := Int32.toInt_lt z111
            try replace tz111 : z111.toInt = x123_2.toInt + 1 := by omega
            refine lv_iinc (v := z111) (lv' := [(2, .int z111), (4, .int v80), (0, .ref h), (1, .int p0), (3, .int x123_3)]) S.x S.b d_Mpg_make2_199 hl (k := 3) rfl (by rw [ez111]; rfl) (by decide) rfl (fun ls hl => ?_)
            refine lv_aload_n S.x S.b d_Mpg_make2_202 rfl (lv_at hl 2 rfl) ?_
            refine px_get S k_Mpg hT hw 0 0 21 (v := .ref (r 21)) rfl rfl rfl (by decide) m10_7 d_Mpg_make2_203 ?_
            refine lv_iload_n S.x S.b d_Mpg_make2_206 rfl (lv_at hl 4 rfl) ?_
            refine px_iald S hT hw 0 17 (n := 2100) (f := (na 21)) rfl gp_21 (x := x123_3) (vp_in_iff.mpr (by first | exact oz_e6f6ba9544 nc1 hrg_x123_3.2.1 g0 | (constructor <;> omega))) d_Mpg_make2_207 ?_
            refine lv_topi (fun z112 ez112 => ?_)
            have lz112 := Int32.le_toInt z112
            have uz112 := Int32.toInt_lt z112
            refine lv_istore_n (lv' := [(3, .int z112), (2, .int z111), (4, .int v80), (0, .ref h), (1, .int p0)]) S.x S.b d_Mpg_make2_208 rfl hl (by decide) rfl (fun ls hl => ?_)
            refine lv_goto (tgt := 123) S.x S.b d_Mpg_make2_209 (by decide) ?_
            exact ih123 ef101 ea102 md37 (wr_123 - wa38) z111 z112 _ _ ls (show 0 ≤ z111.toInt from by first | exact oz_ae613611c0 tz111 k123_0 | omega) (show z111.toInt + p0.toInt + 1 ≤ md37 from by first | exact oz_e7dfbedcfe k123_1 hm_md37.2.2.2 tz111 hm_md37.2.2.1 | omega) (show md37 ≤ (pf 13).toInt from by first | exact oz_fdad9fdf0a hm_md37.2.1 | omega) (show (ef 60).toInt ≤ (ef101 60).toInt from by first | exact oz_be764f19f0 k123_3 e105 | omega) (show (ef101 60).toInt + (wr_123 - wa38) + 1 ≤ (ef 60).toInt + wt from by first | exact oz_d132d24d7f k123_4 e106 | omega) (show (ef101 64).toInt = (ef 64).toInt from by first | exact oz_1687f4cc65 k123_5 e107 | omega) (show (ef101 65).toInt = (ef 65).toInt from by first | exact oz_1687f4cc65 k123_6 e108 | omega) (show CdK ea ea102 (ef 60).toInt from hcd) (show (na 14 p0.toNatClampNeg).toInt = 3 from by first | exact k123_8 | omega) (show ArB ta (tf 6).toInt na ma0 ma ca V d md37 (pf 13).toInt (wr_123 - wa38) bh nf (ma 18 p0.toNatClampNeg).toInt z111.toInt z112 from (by rw [ez112, show z111.toInt = x123_2.toInt + 1 by omega]; exact har2)) (show SgQ X9 (ea102 61) (ef 60).toInt (ef101 60).toInt fi S9 (aslots (tkl na ma0 ca (ma 18 p0.toNatClampNeg).toInt) (z111.toInt).toNat ++ S9) lv9 from (hsg.tq (by omega) (by omega) (aslots_i (htv_150.symm.trans (by omega)) (by omega) (by omega)))) (show (pf 13).toInt - md37 < (n_123 : Int) from by first | exact oz_2b66180fc4 hm hm_md37.2.2.2 hm_md37.2.2.1 | omega) hw (lv_sub hl [3, 4, 1, 0] rfl)
  have J389 : ∀ (n_389 : Nat) (ef_389 : Nat → Int32) (ea_389 : Nat → Nat → Int32) (mid_389 : Int) (wr_389 : Int) (x389_3 x389_4 : Int32) (H : Heap) (locs : List Loc) (ls : Array Slot), (0 ≤ mid_389) → (mid_389 ≤ (pf 13).toInt) → ((ef 60).toInt ≤ (ef_389 60).toInt) → ((ef_389 60).toInt + wr_389 ≤ (ef 60).toInt + wt) → ((ma 22 p0.toNatClampNeg).toInt < 3 → (ef_389 60).toInt + wr_389 + 4 ≤ (ef 60).toInt + wt) → ((ef_389 64).toInt = (ef 64).toInt) → ((ef_389 65).toInt = (ef 65).toInt) → (CdK ea ea_389 (ef 60).toInt) → ((na 14 p0.toNatClampNeg).toInt = 7) → (RvM ta (tf 6).toInt na ma0 ma ca V d mid_389 (pf 13).toInt wr_389 bh x389_4) → (ChI X9 (ea_389 61) (ef 60).toInt (ef_389 60).toInt fi S9 lv9 x389_3 (ma 22 p0.toNatClampNeg).toInt) → (pf 13).toInt - mid_389 < (n_389 : Int) → pw D A s.heap H locs [wdP cs h r g tf ta pf na ma wa cf ca ef_389 ea_389 xf xa] → lv_has ls 8 [(0, .ref h), (1, .int p0), (3, .int x389_3), (4, .int x389_4)] → W p l e { frames := (2 * (d + 1) + 10), cells := 0, slots := 0, locals := (120 * (d + 1) + 320) } s m [.ref h, .int p0].toArray below meth c H locs 0 0 (MQ below (va_Qv (fun ps => ∃ (ef' : Nat → Int32) (ea' : Nat → Nat → Int32), (ps = [wdP cs h r g tf ta pf na ma wa cf ca ef' ea' xf xa]) ∧ ((ef 60).toInt ≤ (ef' 60).toInt) ∧ ((ef' 60).toInt ≤ (ef 60).toInt + wt) ∧ ((ef' 64).toInt = (ef 64).toInt) ∧ ((ef' 65).toInt = (ef 65).toInt) ∧ (CdK ea ea' (ef 60).toInt) ∧ (SgQ X9 (ea' 61) (ef 60).toInt (ef' 60).toInt fi S9 (0 :: S9) lv9)) (pc_B D (va_A ([wdP cs h r g tf ta pf na ma wa cf ca ef ea xf xa] : List va_W).flatten s.heap.size)) (va_A ([wdP cs h r g tf ta pf na ma wa cf ca ef ea xf xa] : List va_W).flatten s.heap.size)) [.ref h, .int p0].toArray s 0 0 A) (F0 m 389 ls []) := by
    intro  n_389
    induction n_389 with
    | zero =>
      intro ef_389 ea_389 mid_389 wr_389 x389_3 x389_4 H locs ls k389_0 k389_1 k389_2 k389_3 k389_4 k389_5 k389_6 k389_7 k389_8 k389_9 k389_10 hm hw hl
      have lx389_3 := Int32.le_toInt x389_3
      have ux389_3 := Int32.toInt_lt x389_3
      have lx389_4 := Int32.le_toInt x389_4
      have ux389_4 := Int32.toInt_lt x389_4
      have hcd := k389_7
      have hrm := k389_9
      have hchi := k389_10
      exact absurd hm (by omega)
    | succ n_389 ih389 =>
      intro ef_389 ea_389 mid_389 wr_389 x389_3 x389_4 H locs ls k389_0 k389_1 k389_2 k389_3 k389_4 k389_5 k389_6 k389_7 k389_8 k389_9 k389_10 hm hw hl
      have lx389_3 := Int32.le_toInt x389_3
      have ux389_3 := Int32.toInt_lt x389_3
      have lx389_4 := Int32.le_toInt x389_4
      have ux389_4 := Int32.toInt_lt x389_4
      have hcd := k389_7
      have hrm := k389_9
      have hchi := k389_10
      refine lv_iload S.x S.b d_Mpg_make2_389 (lv_at hl 3 rfl) ?_
      refine lv_if_lt (tgt := 474) S.x S.b d_Mpg_make2_391 (by decide) (fun c113 => ?_) (fun c113 => ?_)
      · have nc113 : x389_4.toInt < (0 : Int) := (i_lt (x := x389_4) (y := 0)).mp c113
        refine lv_aload_n S.x S.b d_Mpg_make2_474 rfl (lv_at hl 0 rfl) ?_
        have hwp := RvM.ge hrm
        refine px_get S k_Mpg hT hw 0 0 22 (v := .ref (r 22)) rfl rfl rfl (by decide) m10_9 d_Mpg_make2_475 ?_
        refine lv_iload_n S.x S.b d_Mpg_make2_478 rfl (lv_at hl 1 rfl) ?_
        refine px_iald S hT hw 0 18 (n := 2100) (f := (ma 22)) rfl gp_22 (x := p0) (vp_in_iff.mpr (by constructor <;> omega)) d_Mpg_make2_479 ?_
        refine lv_topi (fun z115 ez115 => ?_)
        have lz115 := Int32.le_toInt z115
        have uz115 := Int32.toInt_lt z115
        have rz115 : z115.toInt = (ma 22 p0.toNatClampNeg).toInt := by rw [ez115]
        refine lv_iconst (v := 3) S.x S.b d_Mpg_make2_480 (by decide) ?_
        refine lv_icmp_ge (tgt := 772) S.x S.b d_Mpg_make2_481 (by decide) (fun c116 => ?_) (fun c116 => ?_)
        · have nc116 : (3 : Int) ≤ z115.toInt := (i_le (x := 3) (y := z115)).mp c116
          exact px_vret S hr hlk hAe hw (Nat.le_of_ble_eq_true rfl) (Nat.le_of_ble_eq_true rfl) (⟨ef_389, ea_389, rfl, (show (ef 60).toInt ≤ (ef_389 60).toInt from by first | exact k389_2 | omega), (show (ef_389 60).toInt ≤ (ef 60).toInt + wt from by first | exact oz_812b27d4c5 k389_3 hwp | omega), (show (ef_389 64).toInt = (ef 64).toInt from by first | exact k389_5 | omega), (show (ef_389 65).toInt = (ef 65).toInt from by first | exact k389_6 | omega), (show CdK ea ea_389 (ef 60).toInt from hcd), (show SgQ X9 (ea_389 61) (ef 60).toInt (ef_389 60).toInt fi S9 (0 :: S9) lv9 from ((hchi.2 (by omega)).tq rfl (by omega) rfl))⟩) d_Mpg_make2_772
        · have nc116 : ¬ (3 : Int) ≤ z115.toInt := mt (i_le (x := 3) (y := z115)).mpr c116
          refine lv_aload_n S.x S.b d_Mpg_make2_484 rfl (lv_at hl 0 rfl) ?_
          refine lv_aload_n S.x S.b d_Mpg_make2_485 rfl (lv_at hl 0 rfl) ?_
          refine px_get S k_Mpg hT hw 0 0 22 (v := .ref (r 22)) rfl rfl rfl (by decide) m10_9 d_Mpg_make2_486 ?_
          refine lv_iload_n S.x S.b d_Mpg_make2_489 rfl (lv_at hl 1 rfl) ?_
          refine px_iald S hT hw 0 18 (n := 2100) (f := (ma 22)) rfl gp_22 (x := p0) (vp_in_iff.mpr (by constructor <;> omega)) d_Mpg_make2_490 ?_
          refine lv_topi (fun z118 ez118 => ?_)
          have lz118 := Int32.le_toInt z118
          have uz118 := Int32.toInt_lt z118
          have rz118 : z118.toInt = (ma 22 p0.toNatClampNeg).toInt := by rw [ez118]
          refine lv_iconst (v := 1) S.x S.b d_Mpg_make2_491 (by decide) ?_
          refine lv_icmp_ne (tgt := 500) S.x S.b d_Mpg_make2_492 (by decide) (fun c119 => ?_) (fun c119 => ?_)
          · have nc119 : ¬ z118.toInt = (1 : Int) := mt (i_eq (x := z118) (y := 1)).mpr c119
            refine lv_bipush (v := 13) S.x S.b d_Mpg_make2_500 (by decide) ?_
            refine lv_iload_n S.x S.b d_Mpg_make2_502 rfl (lv_at hl 2 rfl) ?_
            refine lv_iconst (v := 0) S.x S.b d_Mpg_make2_503 (by decide) ?_
            refine px_calli (pr := []) (px_runV (As := [.int 13, .int x389_3, .int 0]) (rest := []) S (c_mp_emit l D cs h r g tf ta pf na ma wa cf ca xf xa ef_389 ea_389 13 x389_3 0  (show 0 ≤ (ef_389 60).toInt from by first | exact oz_16d7fa9f32 k389_2 g4 | omega) (show (ef_389 60).toInt < 7000 from by first | exact oz_12ebf431cf rz115 nc116 k389_4 g5 hwp | omega) _) hT (pr := []) (pcs := [wdP cs h r g tf ta pf na ma wa cf ca ef_389 ea_389 xf xa]) hw px_X.tt (px_recv hT hw 0 0 rfl rfl rfl) m13_86 m13_83 m13_85 ms_14_2 m1_21 q_Mpg_emit ⟨show 0 + 1 ≤ (2 * (d + 1) + 10) from (by first | exact oz_e5e3eaa915 | omega), show 8 + (4 + 11) + 0 ≤ (120 * (d + 1) + 320) from (by first | exact oz_de8ca50626 | omega)⟩ hl.1 rfl (Nat.le_of_ble_eq_true rfl) d_Mpg_make2_504 ⟨Nat.le_of_ble_eq_true rfl, Nat.le_of_ble_eq_true rfl⟩) hw hA (fun v126 p125 H locs hp125 hw => ?_)
            obtain ⟨ef123, ea124, rfl, e127, e128, e129, e130, e131⟩ := hp125
            have e127 : v126.toInt = (ef_389 60).toInt := e127
            have e128 : (ef123 60).toInt = (ef_389 60).toInt + 1 := e128
            have e129 : (ef123 64).toInt = (ef_389 64).toInt := e129
            have e130 : (ef123 65).toInt = (ef_389 65).toInt := e130
            have e131 : EmU ea_389 ea124 (ef_389 60) (13 : Int32) x389_3 (0 : Int32) := e131
            have hcd := hcd.tr e131.cd (by omega)
            obtain ⟨l9, hcn9, hdc9, hlo9, hs09, -, K9, hclw, hk9⟩ := ChS.em (hchi.1 (by omega)) e131 (by omega) (by decide) (by omega)
            have hw : pw D A s.heap H locs [wdP cs h r g tf ta pf na ma wa cf ca ef123 ea124 xf xa] := hw
            have lv126 := Int32.le_toInt v126
            have uv126 := Int32.toInt_lt v126
            refine lv_istore_n (lv' := [(3, .int v126), (0, .ref h), (1, .int p0), (4, .int x389_4)]) S.x S.b d_Mpg_make2_507 rfl hl (by decide) rfl (fun ls hl => ?_)
            refine lv_aload_n S.x S.b d_Mpg_make2_508 rfl (lv_at hl 1 rfl) ?_
            refine lv_iconst (v := 1) S.x S.b d_Mpg_make2_509 (by decide) ?_
            refine lv_aload_n S.x S.b d_Mpg_make2_510 rfl (lv_at hl 1 rfl) ?_
            refine px_get S k_Mpg hT hw 0 0 22 (v := .ref (r 22)) rfl rfl rfl (by decide) m10_9 d_Mpg_make2_511 ?_
            refine lv_iload_n S.x S.b d_Mpg_make2_514 rfl (lv_at hl 2 rfl) ?_
            refine px_iald S hT hw 0 18 (n := 2100) (f := (ma 22)) rfl gp_22 (x := p0) (vp_in_iff.mpr (by constructor <;> omega)) d_Mpg_make2_515 ?_
            refine lv_topi (fun z132 ez132 => ?_)
            have lz132 := Int32.le_toInt z132
            have uz132 := Int32.toInt_lt z132
            have rz132 : z132.toInt = (ma 22 p0.toNatClampNeg).toInt := by rw [ez132]
            refine lv_iconst (v := 1) S.x S.b d_Mpg_make2_516 (by decide) ?_
            refine lv_icmp_ne (tgt := 524) S.x S.b d_Mpg_make2_517 (by decide) (fun c133 => ?_) (fun c133 => ?_)
            · have nc133 : ¬ z132.toInt = (1 : Int) := mt (i_eq (x := z132) (y := 1)).mpr c133
              refine lv_iconst (v := 1) S.x S.b d_Mpg_make2_524 (by decide) ?_
              refine lv_iconst (v := 0) S.x S.b d_Mpg_make2_525 (by decide) ?_
              refine px_calli (pr := []) (px_runV (As := [.int 1, .int 1, .int 0]) (rest := []) S (c_mp_emit l D cs h r g tf ta pf na ma wa cf ca xf xa ef123 ea124 1 1 0  (show 0 ≤ (ef123 60).toInt from by first | exact oz_2188d1bf01 e128 k389_2 g4 | omega) (show (ef123 60).toInt < 7000 from by first | exact oz_2792def35f e128 rz115 nc116 k389_4 g5 hwp | omega) _) hT (pr := []) (pcs := [wdP cs h r g tf ta pf na ma wa cf ca ef123 ea124 xf xa]) hw px_X.tt (px_recv hT hw 0 0 rfl rfl rfl) m13_86 m13_83 m13_85 ms_14_2 m1_21 q_Mpg_emit ⟨show 0 + 1 ≤ (2 * (d + 1) + 10) from (by first | exact oz_e5e3eaa915 | omega), show 8 + (4 + 11) + 0 ≤ (120 * (d + 1) + 320) from (by first | exact oz_de8ca50626 | omega)⟩ hl.1 rfl (Nat.le_of_ble_eq_true rfl) d_Mpg_make2_526 ⟨Nat.le_of_ble_eq_true rfl, Nat.le_of_ble_eq_true rfl⟩) hw hA (fun v140 p139 H locs hp139 hw => ?_)
              obtain ⟨ef137, ea138, rfl, e141, e142, e143, e144, e145⟩ := hp139
              have e141 : v140.toInt = (ef123 60).toInt := e141
              have e142 : (ef137 60).toInt = (ef123 60).toInt + 1 := e142
              have e143 : (ef137 64).toInt = (ef123 64).toInt := e143
              have e144 : (ef137 65).toInt = (ef123 65).toInt := e144
              have e145 : EmU ea124 ea138 (ef123 60) (1 : Int32) (1 : Int32) (0 : Int32) := e145
              have hcd := hcd.tr e145.cd (by omega)
              have hw : pw D A s.heap H locs [wdP cs h r g tf ta pf na ma wa cf ca ef137 ea138 xf xa] := hw
              have lv140 := Int32.le_toInt v140
              have uv140 := Int32.toInt_lt v140
              refine lv_pop S.x S.b d_Mpg_make2_529 rfl ?_
              refine lv_aload_n S.x S.b d_Mpg_make2_530 rfl (lv_at hl 1 rfl) ?_
              refine lv_bipush (v := 12) S.x S.b d_Mpg_make2_531 (by decide) ?_
              refine lv_iconst (v := 0) S.x S.b d_Mpg_make2_533 (by decide) ?_
              refine lv_iconst (v := 0) S.x S.b d_Mpg_make2_534 (by decide) ?_
              refine px_calli (pr := []) (px_runV (As := [.int 12, .int 0, .int 0]) (rest := []) S (c_mp_emit l D cs h r g tf ta pf na ma wa cf ca xf xa ef137 ea138 12 0 0  (show 0 ≤ (ef137 60).toInt from by first | exact oz_18e4c16450 e142 e128 k389_2 g4 | omega) (show (ef137 60).toInt < 7000 from by first | exact oz_7af1ceb46f e142 e128 rz115 nc116 k389_4 g5 hwp | omega) _) hT (pr := []) (pcs := [wdP cs h r g tf ta pf na ma wa cf ca ef137 ea138 xf xa]) hw px_X.tt (px_recv hT hw 0 0 rfl rfl rfl) m13_86 m13_83 m13_85 ms_14_2 m1_21 q_Mpg_emit ⟨show 0 + 1 ≤ (2 * (d + 1) + 10) from (by first | exact oz_e5e3eaa915 | omega), show 8 + (4 + 11) + 0 ≤ (120 * (d + 1) + 320) from (by first | exact oz_de8ca50626 | omega)⟩ hl.1 rfl (Nat.le_of_ble_eq_true rfl) d_Mpg_make2_535 ⟨Nat.le_of_ble_eq_true rfl, Nat.le_of_ble_eq_true rfl⟩) hw hA (fun v151 p150 H locs hp150 hw => ?_)
              obtain ⟨ef148, ea149, rfl, e152, e153, e154, e155, e156⟩ := hp150
              have e152 : v151.toInt = (ef137 60).toInt := e152
              have e153 : (ef148 60).toInt = (ef137 60).toInt + 1 := e153
              have e154 : (ef148 64).toInt = (ef137 64).toInt := e154
              have e155 : (ef148 65).toInt = (ef137 65).toInt := e155
              have e156 : EmU ea138 ea149 (ef137 60) (12 : Int32) (0 : Int32) (0 : Int32) := e156
              have hcd := hcd.tr e156.cd (by omega)
              have hw : pw D A s.heap H locs [wdP cs h r g tf ta pf na ma wa cf ca ef148 ea149 xf xa] := hw
              have lv151 := Int32.le_toInt v151
              have uv151 := Int32.toInt_lt v151
              refine lv_istore (lv' := [(4, .int v151), (3, .int v126), (0, .ref h), (1, .int p0)]) S.x S.b d_Mpg_make2_538 hl (by decide) rfl (fun ls hl => ?_)
              refine lv_aload_n S.x S.b d_Mpg_make2_540 rfl (lv_at hl 2 rfl) ?_
              refine lv_iload_n S.x S.b d_Mpg_make2_541 rfl (lv_at hl 1 rfl) ?_
              refine lv_aload_n S.x S.b d_Mpg_make2_542 rfl (lv_at hl 2 rfl) ?_
              refine px_get S k_Mpg hT hw 0 0 60 (v := .int (ef148 60)) rfl rfl rfl (by decide) m10_57 d_Mpg_make2_543 ?_
              refine px_callv (pr := []) (px_runV (As := [.int v126, .int (ef148 60)]) (rest := []) S (c_mp_landAll l D cs (((ef_389 60).toInt).toNat + 1) l9 h r g tf ta pf na ma wa cf ca ef148 xf xa ea149 v126 (ef148 60)  (show (((ef_389 60).toInt).toNat + 1) ≤ 7000 from by omega) (chn_k (chn_em (chn_em hcn9 hdc9 e145 (by omega)) hdc9 e156 (by omega)) (by omega)) hdc9 _) hT (pr := []) (pcs := [wdP cs h r g tf ta pf na ma wa cf ca ef148 ea149 xf xa]) hw px_X.tt (px_recv hT hw 0 0 rfl rfl rfl) m13_102 m13_99 m13_101 ms_14_6 m1_21 q_Mpg_landAll ⟨show 0 + 1 ≤ (2 * (d + 1) + 10) from (by first | exact oz_e5e3eaa915 | omega), show 8 + (5 + 11) + 0 ≤ (120 * (d + 1) + 320) from (by first | exact oz_07157e5546 | omega)⟩ hl.1 rfl (Nat.le_of_ble_eq_true rfl) d_Mpg_make2_546 ⟨Nat.le_of_ble_eq_true rfl, Nat.le_of_ble_eq_true rfl⟩) hw hA (fun p159 H locs hp159 hw => ?_)
              obtain ⟨ea158, rfl, e161, e162⟩ := hp159
              have e161 : EaK ea149 ea158 := e161
              skip
              have e162 : LaA (ea149 61) (ea158 61) l9 (ef148 60) := e162
              have hcd := hcd.tr (EaK.cd e161 e162 hlo9) (Int.le_refl _)
              have hw : pw D A s.heap H locs [wdP cs h r g tf ta pf na ma wa cf ca ef148 ea158 xf xa] := hw
              refine lv_aload_n S.x S.b d_Mpg_make2_549 rfl (lv_at hl 2 rfl) ?_
              refine lv_iconst (v := 1) S.x S.b d_Mpg_make2_550 (by decide) ?_
              refine lv_aload_n S.x S.b d_Mpg_make2_551 rfl (lv_at hl 2 rfl) ?_
              refine px_get S k_Mpg hT hw 0 0 22 (v := .ref (r 22)) rfl rfl rfl (by decide) m10_9 d_Mpg_make2_552 ?_
              refine lv_iload_n S.x S.b d_Mpg_make2_555 rfl (lv_at hl 3 rfl) ?_
              refine px_iald S hT hw 0 18 (n := 2100) (f := (ma 22)) rfl gp_22 (x := p0) (vp_in_iff.mpr (by constructor <;> omega)) d_Mpg_make2_556 ?_
              refine lv_topi (fun z163 ez163 => ?_)
              have lz163 := Int32.le_toInt z163
              have uz163 := Int32.toInt_lt z163
              have rz163 : z163.toInt = (ma 22 p0.toNatClampNeg).toInt := by rw [ez163]
              refine lv_iconst (v := 1) S.x S.b d_Mpg_make2_557 (by decide) ?_
              refine lv_icmp_ne (tgt := 565) S.x S.b d_Mpg_make2_558 (by decide) (fun c164 => ?_) (fun c164 => ?_)
              · have nc164 : ¬ z163.toInt = (1 : Int) := mt (i_eq (x := z163) (y := 1)).mpr c164
                refine lv_iconst (v := 0) S.x S.b d_Mpg_make2_565 (by decide) ?_
                refine lv_iconst (v := 0) S.x S.b d_Mpg_make2_566 (by decide) ?_
                refine px_calli (pr := []) (px_runV (As := [.int 1, .int 0, .int 0]) (rest := []) S (c_mp_emit l D cs h r g tf ta pf na ma wa cf ca xf xa ef148 ea158 1 0 0  (show 0 ≤ (ef148 60).toInt from by first | exact oz_d59a0bbb71 e153 e142 e128 k389_2 g4 | omega) (show (ef148 60).toInt < 7000 from by first | exact oz_562b32fd06 e153 e142 e128 rz115 nc116 k389_4 g5 hwp | omega) _) hT (pr := []) (pcs := [wdP cs h r g tf ta pf na ma wa cf ca ef148 ea158 xf xa]) hw px_X.tt (px_recv hT hw 0 0 rfl rfl rfl) m13_86 m13_83 m13_85 ms_14_2 m1_21 q_Mpg_emit ⟨show 0 + 1 ≤ (2 * (d + 1) + 10) from (by first | exact oz_e5e3eaa915 | omega), show 8 + (4 + 11) + 0 ≤ (120 * (d + 1) + 320) from (by first | exact oz_de8ca50626 | omega)⟩ hl.1 rfl (Nat.le_of_ble_eq_true rfl) d_Mpg_make2_567 ⟨Nat.le_of_ble_eq_true rfl, Nat.le_of_ble_eq_true rfl⟩) hw hA (fun v171 p170 H locs hp170 hw => ?_)
                obtain ⟨ef168, ea169, rfl, e172, e173, e174, e175, e176⟩ := hp170
                have e172 : v171.toInt = (ef148 60).toInt := e172
                have e173 : (ef168 60).toInt = (ef148 60).toInt + 1 := e173
                have e174 : (ef168 64).toInt = (ef148 64).toInt := e174
                have e175 : (ef168 65).toInt = (ef148 65).toInt := e175
                have e176 : EmU ea158 ea169 (ef148 60) (1 : Int32) (0 : Int32) (0 : Int32) := e176
                have hcd := hcd.tr e176.cd (by omega)
                have hw : pw D A s.heap H locs [wdP cs h r g tf ta pf na ma wa cf ca ef168 ea169 xf xa] := hw
                have lv171 := Int32.le_toInt v171
                have uv171 := Int32.toInt_lt v171
                refine lv_pop S.x S.b d_Mpg_make2_570 rfl ?_
                refine lv_aload_n S.x S.b d_Mpg_make2_571 rfl (lv_at hl 2 rfl) ?_
                refine lv_iload S.x S.b d_Mpg_make2_572 (lv_at hl 0 rfl) ?_
                refine px_callv (pr := []) (px_runV (As := [.int v151]) (rest := []) S (c_mp_land l D cs h r g tf ta pf na ma wa cf ca ef168 xf xa ea169 v151  (show 0 ≤ v151.toInt from by first | exact oz_c9a960d9b4 e152 e142 e128 k389_2 g4 | omega) (show v151.toInt < 7000 from by first | exact oz_c70dba619f e152 e142 e128 rz115 nc116 k389_4 g5 hwp | omega) _) hT (pr := []) (pcs := [wdP cs h r g tf ta pf na ma wa cf ca ef168 ea169 xf xa]) hw px_X.tt (px_recv hT hw 0 0 rfl rfl rfl) m13_106 m13_103 m13_105 ms_14_7 m1_21 q_Mpg_land ⟨show 0 + 1 ≤ (2 * (d + 1) + 10) from (by first | exact oz_e5e3eaa915 | omega), show 8 + (2 + 11) + 0 ≤ (120 * (d + 1) + 320) from (by first | exact oz_05fdf8690f | omega)⟩ hl.1 rfl (Nat.le_of_ble_eq_true rfl) d_Mpg_make2_574 ⟨Nat.le_of_ble_eq_true rfl, Nat.le_of_ble_eq_true rfl⟩) hw hA (fun p179 H locs hp179 hw => ?_)
                obtain ⟨ea178, rfl, e181⟩ := hp179
                have e181 : LaU ea169 ea178 v151 (ef168 60) := e181
                have hcd := hcd.tr (LaU.cd e181 (s := (ef 60).toInt) (by omega)) (Int.le_refl _)
                have hw : pw D A s.heap H locs [wdP cs h r g tf ta pf na ma wa cf ca ef168 ea178 xf xa] := hw
                refine lv_goto (tgt := 772) S.x S.b d_Mpg_make2_577 (by decide) ?_
                exact px_vret S hr hlk hAe hw (Nat.le_of_ble_eq_true rfl) (Nat.le_of_ble_eq_true rfl) (⟨ef168, ea178, rfl, (show (ef 60).toInt ≤ (ef168 60).toInt from by first | exact oz_cc9f43beab k389_2 e173 e128 e153 e142 | omega), (show (ef168 60).toInt ≤ (ef 60).toInt + wt from by first | exact oz_08922051d3 e173 rz115 nc116 k389_4 hwp e128 e153 e142 | omega), (show (ef168 64).toInt = (ef 64).toInt from by first | exact oz_0867352dd7 k389_5 e174 e129 e154 e143 | omega), (show (ef168 65).toInt = (ef 65).toInt from by first | exact oz_0867352dd7 k389_6 e175 e130 e155 e144 | omega), (show CdK ea ea178 (ef 60).toInt from hcd), (show SgQ X9 (ea178 61) (ef 60).toInt (ef168 60).toInt fi S9 (0 :: S9) lv9 from ((chs_fin hclw hk9 hs09 hdc9 e145 e156 e162 e176 e181 (by omega) (by omega) (by omega) (by omega) (by omega) (by omega) rfl rfl rfl (by omega)).tq rfl (by omega) rfl))⟩) d_Mpg_make2_772
              · have nc164 : z163.toInt = (1 : Int) := (i_eq (x := z163) (y := 1)).mp c164
                exfalso
                omega
            · have nc133 : z132.toInt = (1 : Int) := (i_eq (x := z132) (y := 1)).mp c133
              exfalso
              omega
          · have nc119 : z118.toInt = (1 : Int) := (i_eq (x := z118) (y := 1)).mp c119
            refine lv_bipush (v := 14) S.x S.b d_Mpg_make2_495 (by decide) ?_
            refine lv_goto (tgt := 502) S.x S.b d_Mpg_make2_497 (by decide) ?_
            refine lv_iload_n S.x S.b d_Mpg_make2_502 rfl (lv_at hl 2 rfl) ?_
            refine lv_iconst (v := 0) S.x S.b d_Mpg_make2_503 (by decide) ?_
            refine px_calli (pr := []) (px_runV (As := [.int 14, .int x389_3, .int 0]) (rest := []) S (c_mp_emit l D cs h r g tf ta pf na ma wa cf ca xf xa ef_389 ea_389 14 x389_3 0  (show 0 ≤ (ef_389 60).toInt from by first | exact oz_16d7fa9f32 k389_2 g4 | omega) (show (ef_389 60).toInt < 7000 from by first | exact oz_b89bf23c89 rz118 nc119 k389_4 g5 hwp | omega) _) hT (pr := []) (pcs := [wdP cs h r g tf ta pf na ma wa cf ca ef_389 ea_389 xf xa]) hw px_X.tt (px_recv hT hw 0 0 rfl rfl rfl) m13_86 m13_83 m13_85 ms_14_2 m1_21 q_Mpg_emit ⟨show 0 + 1 ≤ (2 * (d + 1) + 10) from (by first | exact oz_e5e3eaa915 | omega), show 8 + (4 + 11) + 0 ≤ (120 * (d + 1) + 320) from (by first | exact oz_de8ca50626 | omega)⟩ hl.1 rfl (Nat.le_of_ble_eq_true rfl) d_Mpg_make2_504 ⟨Nat.le_of_ble_eq_true rfl, Nat.le_of_ble_eq_true rfl⟩) hw hA (fun v187 p186 H locs hp186 hw => ?_)
            obtain ⟨ef184, ea185, rfl, e188, e189, e190, e191, e192⟩ := hp186
            have e188 : v187.toInt = (ef_389 60).toInt := e188
            have e189 : (ef184 60).toInt = (ef_389 60).toInt + 1 := e189
            have e190 : (ef184 64).toInt = (ef_389 64).toInt := e190
            have e191 : (ef184 65).toInt = (ef_389 65).toInt := e191
            have e192 : EmU ea_389 ea185 (ef_389 60) (14 : Int32) x389_3 (0 : Int32) := e192
            have hcd := hcd.tr e192.cd (by omega)
            obtain ⟨l9, hcn9, hdc9, hlo9, hs09, -, K9, hclw, hk9⟩ := ChS.em (hchi.1 (by omega)) e192 (by omega) (by decide) (by omega)
            have hw : pw D A s.heap H locs [wdP cs h r g tf ta pf na ma wa cf ca ef184 ea185 xf xa] := hw
            have lv187 := Int32.le_toInt v187
            have uv187 := Int32.toInt_lt v187
            refine lv_istore_n (lv' := [(3, .int v187), (0, .ref h), (1, .int p0), (4, .int x389_4)]) S.x S.b d_Mpg_make2_507 rfl hl (by decide) rfl (fun ls hl => ?_)
            refine lv_aload_n S.x S.b d_Mpg_make2_508 rfl (lv_at hl 1 rfl) ?_
            refine lv_iconst (v := 1) S.x S.b d_Mpg_make2_509 (by decide) ?_
            refine lv_aload_n S.x S.b d_Mpg_make2_510 rfl (lv_at hl 1 rfl) ?_
            refine px_get S k_Mpg hT hw 0 0 22 (v := .ref (r 22)) rfl rfl rfl (by decide) m10_9 d_Mpg_make2_511 ?_
            refine lv_iload_n S.x S.b d_Mpg_make2_514 rfl (lv_at hl 2 rfl) ?_
            refine px_iald S hT hw 0 18 (n := 2100) (f := (ma 22)) rfl gp_22 (x := p0) (vp_in_iff.mpr (by constructor <;> omega)) d_Mpg_make2_515 ?_
            refine lv_topi (fun z193 ez193 => ?_)
            have lz193 := Int32.le_toInt z193
            have uz193 := Int32.toInt_lt z193
            have rz193 : z193.toInt = (ma 22 p0.toNatClampNeg).toInt := by rw [ez193]
            refine lv_iconst (v := 1) S.x S.b d_Mpg_make2_516 (by decide) ?_
            refine lv_icmp_ne (tgt := 524) S.x S.b d_Mpg_make2_517 (by decide) (fun c194 => ?_) (fun c194 => ?_)
            · have nc194 : ¬ z193.toInt = (1 : Int) := mt (i_eq (x := z193) (y := 1)).mpr c194
              exfalso
              omega
            · have nc194 : z193.toInt = (1 : Int) := (i_eq (x := z193) (y := 1)).mp c194
              refine lv_iconst (v := 0) S.x S.b d_Mpg_make2_520 (by decide) ?_
              refine lv_goto (tgt := 525) S.x S.b d_Mpg_make2_521 (by decide) ?_
              refine lv_iconst (v := 0) S.x S.b d_Mpg_make2_525 (by decide) ?_
              refine px_calli (pr := []) (px_runV (As := [.int 1, .int 0, .int 0]) (rest := []) S (c_mp_emit l D cs h r g tf ta pf na ma wa cf ca xf xa ef184 ea185 1 0 0  (show 0 ≤ (ef184 60).toInt from by first | exact oz_2188d1bf01 e189 k389_2 g4 | omega) (show (ef184 60).toInt < 7000 from by first | exact oz_d7a85cbe39 e189 rz193 nc194 k389_4 g5 hwp | omega) _) hT (pr := []) (pcs := [wdP cs h r g tf ta pf na ma wa cf ca ef184 ea185 xf xa]) hw px_X.tt (px_recv hT hw 0 0 rfl rfl rfl) m13_86 m13_83 m13_85 ms_14_2 m1_21 q_Mpg_emit ⟨show 0 + 1 ≤ (2 * (d + 1) + 10) from (by first | exact oz_e5e3eaa915 | omega), show 8 + (4 + 11) + 0 ≤ (120 * (d + 1) + 320) from (by first | exact oz_de8ca50626 | omega)⟩ hl.1 rfl (Nat.le_of_ble_eq_true rfl) d_Mpg_make2_526 ⟨Nat.le_of_ble_eq_true rfl, Nat.le_of_ble_eq_true rfl⟩) hw hA (fun v201 p200 H locs hp200 hw => ?_)
              obtain ⟨ef198, ea199, rfl, e202, e203, e204, e205, e206⟩ := hp200
              have e202 : v201.toInt = (ef184 60).toInt := e202
              have e203 : (ef198 60).toInt = (ef184 60).toInt + 1 := e203
              have e204 : (ef198 64).toInt = (ef184 64).toInt := e204
              have e205 : (ef198 65).toInt = (ef184 65).toInt := e205
              have e206 : EmU ea185 ea199 (ef184 60) (1 : Int32) (0 : Int32) (0 : Int32) := e206
              have hcd := hcd.tr e206.cd (by omega)
              have hw : pw D A s.heap H locs [wdP cs h r g tf ta pf na ma wa cf ca ef198 ea199 xf xa] := hw
              have lv201 := Int32.le_toInt v201
              have uv201 := Int32.toInt_lt v201
              refine lv_pop S.x S.b d_Mpg_make2_529 rfl ?_
              refine lv_aload_n S.x S.b d_Mpg_make2_530 rfl (lv_at hl 1 rfl) ?_
              refine lv_bipush (v := 12) S.x S.b d_Mpg_make2_531 (by decide) ?_
              refine lv_iconst (v := 0) S.x S.b d_Mpg_make2_533 (by decide) ?_
              refine lv_iconst (v := 0) S.x S.b d_Mpg_make2_534 (by decide) ?_
              refine px_calli (pr := []) (px_runV (As := [.int 12, .int 0, .int 0]) (rest := []) S (c_mp_emit l D cs h r g tf ta pf na ma wa cf ca xf xa ef198 ea199 12 0 0  (show 0 ≤ (ef198 60).toInt from by first | exact oz_18e4c16450 e203 e189 k389_2 g4 | omega) (show (ef198 60).toInt < 7000 from by first | exact oz_4b894d747b e203 e189 rz193 nc194 k389_4 g5 hwp | omega) _) hT (pr := []) (pcs := [wdP cs h r g tf ta pf na ma wa cf ca ef198 ea199 xf xa]) hw px_X.tt (px_recv hT hw 0 0 rfl rfl rfl) m13_86 m13_83 m13_85 ms_14_2 m1_21 q_Mpg_emit ⟨show 0 + 1 ≤ (2 * (d + 1) + 10) from (by first | exact oz_e5e3eaa915 | omega), show 8 + (4 + 11) + 0 ≤ (120 * (d + 1) + 320) from (by first | exact oz_de8ca50626 | omega)⟩ hl.1 rfl (Nat.le_of_ble_eq_true rfl) d_Mpg_make2_535 ⟨Nat.le_of_ble_eq_true rfl, Nat.le_of_ble_eq_true rfl⟩) hw hA (fun v212 p211 H locs hp211 hw => ?_)
              obtain ⟨ef209, ea210, rfl, e213, e214, e215, e216, e217⟩ := hp211
              have e213 : v212.toInt = (ef198 60).toInt := e213
              have e214 : (ef209 60).toInt = (ef198 60).toInt + 1 := e214
              have e215 : (ef209 64).toInt = (ef198 64).toInt := e215
              have e216 : (ef209 65).toInt = (ef198 65).toInt := e216
              have e217 : EmU ea199 ea210 (ef198 60) (12 : Int32) (0 : Int32) (0 : Int32) := e217
              have hcd := hcd.tr e217.cd (by omega)
              have hw : pw D A s.heap H locs [wdP cs h r g tf ta pf na ma wa cf ca ef209 ea210 xf xa] := hw
              have lv212 := Int32.le_toInt v212
              have uv212 := Int32.toInt_lt v212
              refine lv_istore (lv' := [(4, .int v212), (3, .int v187), (0, .ref h), (1, .int p0)]) S.x S.b d_Mpg_make2_538 hl (by decide) rfl (fun ls hl => ?_)
              refine lv_aload_n S.x S.b d_Mpg_make2_540 rfl (lv_at hl 2 rfl) ?_
              refine lv_iload_n S.x S.b d_Mpg_make2_541 rfl (lv_at hl 1 rfl) ?_
              refine lv_aload_n S.x S.b d_Mpg_make2_542 rfl (lv_at hl 2 rfl) ?_
              refine px_get S k_Mpg hT hw 0 0 60 (v := .int (ef209 60)) rfl rfl rfl (by decide) m10_57 d_Mpg_make2_543 ?_
              refine px_callv (pr := []) (px_runV (As := [.int v187, .int (ef209 60)]) (rest := []) S (c_mp_landAll l D cs (((ef_389 60).toInt).toNat + 1) l9 h r g tf ta pf na ma wa cf ca ef209 xf xa ea210 v187 (ef209 60)  (show (((ef_389 60).toInt).toNat + 1) ≤ 7000 from by omega) (chn_k (chn_em (chn_em hcn9 hdc9 e206 (by omega)) hdc9 e217 (by omega)) (by omega)) hdc9 _) hT (pr := []) (pcs := [wdP cs h r g tf ta pf na ma wa cf ca ef209 ea210 xf xa]) hw px_X.tt (px_recv hT hw 0 0 rfl rfl rfl) m13_102 m13_99 m13_101 ms_14_6 m1_21 q_Mpg_landAll ⟨show 0 + 1 ≤ (2 * (d + 1) + 10) from (by first | exact oz_e5e3eaa915 | omega), show 8 + (5 + 11) + 0 ≤ (120 * (d + 1) + 320) from (by first | exact oz_07157e5546 | omega)⟩ hl.1 rfl (Nat.le_of_ble_eq_true rfl) d_Mpg_make2_546 ⟨Nat.le_of_ble_eq_true rfl, Nat.le_of_ble_eq_true rfl⟩) hw hA (fun p220 H locs hp220 hw => ?_)
              obtain ⟨ea219, rfl, e222, e223⟩ := hp220
              have e222 : EaK ea210 ea219 := e222
              skip
              have e223 : LaA (ea210 61) (ea219 61) l9 (ef209 60) := e223
              have hcd := hcd.tr (EaK.cd e222 e223 hlo9) (Int.le_refl _)
              have hw : pw D A s.heap H locs [wdP cs h r g tf ta pf na ma wa cf ca ef209 ea219 xf xa] := hw
              refine lv_aload_n S.x S.b d_Mpg_make2_549 rfl (lv_at hl 2 rfl) ?_
              refine lv_iconst (v := 1) S.x S.b d_Mpg_make2_550 (by decide) ?_
              refine lv_aload_n S.x S.b d_Mpg_make2_551 rfl (lv_at hl 2 rfl) ?_
              refine px_get S k_Mpg hT hw 0 0 22 (v := .ref (r 22)) rfl rfl rfl (by decide) m10_9 d_Mpg_make2_552 ?_
              refine lv_iload_n S.x S.b d_Mpg_make2_555 rfl (lv_at hl 3 rfl) ?_
              refine px_iald S hT hw 0 18 (n := 2100) (f := (ma 22)) rfl gp_22 (x := p0) (vp_in_iff.mpr (by constructor <;> omega)) d_Mpg_make2_556 ?_
              refine lv_topi (fun z224 ez224 => ?_)
              have lz224 := Int32.le_toInt z224
              have uz224 := Int32.toInt_lt z224
              have rz224 : z224.toInt = (ma 22 p0.toNatClampNeg).toInt := by rw [ez224]
              refine lv_iconst (v := 1) S.x S.b d_Mpg_make2_557 (by decide) ?_
              refine lv_icmp_ne (tgt := 565) S.x S.b d_Mpg_make2_558 (by decide) (fun c225 => ?_) (fun c225 => ?_)
              · have nc225 : ¬ z224.toInt = (1 : Int) := mt (i_eq (x := z224) (y := 1)).mpr c225
                exfalso
                omega
              · have nc225 : z224.toInt = (1 : Int) := (i_eq (x := z224) (y := 1)).mp c225
                refine lv_iconst (v := 1) S.x S.b d_Mpg_make2_561 (by decide) ?_
                refine lv_goto (tgt := 566) S.x S.b d_Mpg_make2_562 (by decide) ?_
                refine lv_iconst (v := 0) S.x S.b d_Mpg_make2_566 (by decide) ?_
                refine px_calli (pr := []) (px_runV (As := [.int 1, .int 1, .int 0]) (rest := []) S (c_mp_emit l D cs h r g tf ta pf na ma wa cf ca xf xa ef209 ea219 1 1 0  (show 0 ≤ (ef209 60).toInt from by first | exact oz_d59a0bbb71 e214 e203 e189 k389_2 g4 | omega) (show (ef209 60).toInt < 7000 from by first | exact oz_edd4c7e1e4 e214 e203 e189 rz118 nc119 k389_4 g5 hwp | omega) _) hT (pr := []) (pcs := [wdP cs h r g tf ta pf na ma wa cf ca ef209 ea219 xf xa]) hw px_X.tt (px_recv hT hw 0 0 rfl rfl rfl) m13_86 m13_83 m13_85 ms_14_2 m1_21 q_Mpg_emit ⟨show 0 + 1 ≤ (2 * (d + 1) + 10) from (by first | exact oz_e5e3eaa915 | omega), show 8 + (4 + 11) + 0 ≤ (120 * (d + 1) + 320) from (by first | exact oz_de8ca50626 | omega)⟩ hl.1 rfl (Nat.le_of_ble_eq_true rfl) d_Mpg_make2_567 ⟨Nat.le_of_ble_eq_true rfl, Nat.le_of_ble_eq_true rfl⟩) hw hA (fun v232 p231 H locs hp231 hw => ?_)
                obtain ⟨ef229, ea230, rfl, e233, e234, e235, e236, e237⟩ := hp231
                have e233 : v232.toInt = (ef209 60).toInt := e233
                have e234 : (ef229 60).toInt = (ef209 60).toInt + 1 := e234
                have e235 : (ef229 64).toInt = (ef209 64).toInt := e235
                have e236 : (ef229 65).toInt = (ef209 65).toInt := e236
                have e237 : EmU ea219 ea230 (ef209 60) (1 : Int32) (1 : Int32) (0 : Int32) := e237
                have hcd := hcd.tr e237.cd (by omega)
                have hw : pw D A s.heap H locs [wdP cs h r g tf ta pf na ma wa cf ca ef229 ea230 xf xa] := hw
                have lv232 := Int32.le_toInt v232
                have uv232 := Int32.toInt_lt v232
                refine lv_pop S.x S.b d_Mpg_make2_570 rfl ?_
                refine lv_aload_n S.x S.b d_Mpg_make2_571 rfl (lv_at hl 2 rfl) ?_
                refine lv_iload S.x S.b d_Mpg_make2_572 (lv_at hl 0 rfl) ?_
                refine px_callv (pr := []) (px_runV (As := [.int v212]) (rest := []) S (c_mp_land l D cs h r g tf ta pf na ma wa cf ca ef229 xf xa ea230 v212  (show 0 ≤ v212.toInt from by first | exact oz_c9a960d9b4 e213 e203 e189 k389_2 g4 | omega) (show v212.toInt < 7000 from by first | exact oz_7d4addd146 e213 e203 e189 rz118 nc119 k389_4 g5 hwp | omega) _) hT (pr := []) (pcs := [wdP cs h r g tf ta pf na ma wa cf ca ef229 ea230 xf xa]) hw px_X.tt (px_recv hT hw 0 0 rfl rfl rfl) m13_106 m13_103 m13_105 ms_14_7 m1_21 q_Mpg_land ⟨show 0 + 1 ≤ (2 * (d + 1) + 10) from (by first | exact oz_e5e3eaa915 | omega), show 8 + (2 + 11) + 0 ≤ (120 * (d + 1) + 320) from (by first | exact oz_05fdf8690f | omega)⟩ hl.1 rfl (Nat.le_of_ble_eq_true rfl) d_Mpg_make2_574 ⟨Nat.le_of_ble_eq_true rfl, Nat.le_of_ble_eq_true rfl⟩) hw hA (fun p240 H locs hp240 hw => ?_)
                obtain ⟨ea239, rfl, e242⟩ := hp240
                have e242 : LaU ea230 ea239 v212 (ef229 60) := e242
                have hcd := hcd.tr (LaU.cd e242 (s := (ef 60).toInt) (by omega)) (Int.le_refl _)
                have hw : pw D A s.heap H locs [wdP cs h r g tf ta pf na ma wa cf ca ef229 ea239 xf xa] := hw
                refine lv_goto (tgt := 772) S.x S.b d_Mpg_make2_577 (by decide) ?_
                exact px_vret S hr hlk hAe hw (Nat.le_of_ble_eq_true rfl) (Nat.le_of_ble_eq_true rfl) (⟨ef229, ea239, rfl, (show (ef 60).toInt ≤ (ef229 60).toInt from by first | exact oz_cc9f43beab k389_2 e234 e189 e214 e203 | omega), (show (ef229 60).toInt ≤ (ef 60).toInt + wt from by first | exact oz_3ea94e08a2 e234 rz118 nc119 k389_4 hwp e189 e214 e203 | omega), (show (ef229 64).toInt = (ef 64).toInt from by first | exact oz_0867352dd7 k389_5 e235 e190 e215 e204 | omega), (show (ef229 65).toInt = (ef 65).toInt from by first | exact oz_0867352dd7 k389_6 e236 e191 e216 e205 | omega), (show CdK ea ea239 (ef 60).toInt from hcd), (show SgQ X9 (ea239 61) (ef 60).toInt (ef229 60).toInt fi S9 (0 :: S9) lv9 from ((chs_fin hclw hk9 hs09 hdc9 e206 e217 e223 e237 e242 (by omega) (by omega) (by omega) (by omega) (by omega) (by omega) rfl rfl rfl (by omega)).tq rfl (by omega) rfl))⟩) d_Mpg_make2_772
      · have nc113 : ¬ x389_4.toInt < (0 : Int) := mt (i_lt (x := x389_4) (y := 0)).mpr c113
        refine lv_aload_n S.x S.b d_Mpg_make2_394 rfl (lv_at hl 0 rfl) ?_
        obtain ⟨md243, wa244, hm_md243, hmk_x389_4, h20_x389_4, hrm2, hwa1, hwa2, hb2⟩ := RvM.go han hrm (by omega); have hec_x389_4 := hmk_x389_4.ec; have hrg_x389_4 := EcV.rng hec_x389_4; have hnn_x389_4 := hmk_x389_4.nn; have hwp2 := RvM.ge hrm2
        refine px_get S k_Mpg hT hw 0 0 22 (v := .ref (r 22)) rfl rfl rfl (by decide) m10_9 d_Mpg_make2_395 ?_
        refine lv_iload_n S.x S.b d_Mpg_make2_398 rfl (lv_at hl 1 rfl) ?_
        refine px_iald S hT hw 0 18 (n := 2100) (f := (ma 22)) rfl gp_22 (x := p0) (vp_in_iff.mpr (by constructor <;> omega)) d_Mpg_make2_399 ?_
        refine lv_topi (fun z245 ez245 => ?_)
        have lz245 := Int32.le_toInt z245
        have uz245 := Int32.toInt_lt z245
        have rz245 : z245.toInt = (ma 22 p0.toNatClampNeg).toInt := by rw [ez245]
        refine lv_iconst (v := 3) S.x S.b d_Mpg_make2_400 (by decide) ?_
        refine lv_icmp_ge (tgt := 437) S.x S.b d_Mpg_make2_401 (by decide) (fun c246 => ?_) (fun c246 => ?_)
        · have nc246 : (3 : Int) ≤ z245.toInt := (i_le (x := 3) (y := z245)).mp c246
          refine lv_aload_n S.x S.b d_Mpg_make2_437 rfl (lv_at hl 0 rfl) ?_
          refine lv_iload S.x S.b d_Mpg_make2_438 (lv_at hl 3 rfl) ?_
          refine px_callv (pr := []) (px_runV (As := [.int x389_4]) (rest := []) S (hLK ma0 ys ns nf (wa244 - 1) V vl vh X9 fi (0 :: S9) lv9 (bh - 1) h r g tf ta pf na ma wa cf ca xf xa ef_389 ea_389 x389_4 (show (pf 13).toInt ≤ 2100 from by first | exact g0 | omega) (show (tf 6).toInt ≤ 2049 from by first | exact g1 | omega) (show (cf 38).toInt = nf from by first | exact g2 | omega) (show 0 ≤ nf from by first | exact g3 | omega) (show 0 ≤ (ef_389 60).toInt from by first | exact oz_16d7fa9f32 k389_2 g4 | omega) (show (ef_389 60).toInt + (wa244 - 1) ≤ 7000 from by first | exact oz_57a12d68bd k389_3 hwa2 g5 | omega) (show ((0 :: S9).length : Int) + (bh - 1) ≤ X9.tall fi from by omega) htk (FnT.eq hft (by omega)) hfp han hts hcx hmk_x389_4 _) hT (pr := []) (pcs := [wdP cs h r g tf ta pf na ma wa cf ca ef_389 ea_389 xf xa]) hw (oX_call (P := (fun A U H => (oP A g U H))) (pr := []) oG_P hw hA hP) (px_recv hT hw 0 0 rfl rfl rfl) m13_90 m13_87 m13_89 ms_14_3 m1_21 q_Mpg_make2 ⟨show (2 * d + 10) + 1 ≤ (2 * (d + 1) + 10) from (by first | exact oz_ab1a9076e0 | omega), show 8 + (8 + 11) + (120 * d + 320) ≤ (120 * (d + 1) + 320) from (by first | exact oz_59e4787ab3 | omega)⟩ hl.1 rfl (Nat.le_of_ble_eq_true rfl) d_Mpg_make2_440 ⟨Nat.le_of_ble_eq_true rfl, Nat.le_of_ble_eq_true rfl⟩) hw hA (fun p252 H locs hp252 hw => ?_)
          obtain ⟨ef250, ea251, rfl, e254, e255, e256, e257, e258, e259⟩ := hp252
          have e254 : (ef_389 60).toInt ≤ (ef250 60).toInt := e254
          have e255 : (ef250 60).toInt ≤ (ef_389 60).toInt + (wa244 - 1) := e255
          have e256 : (ef250 64).toInt = (ef_389 64).toInt := e256
          have e257 : (ef250 65).toInt = (ef_389 65).toInt := e257
          have e258 : CdK ea_389 ea251 (ef_389 60).toInt := e258
          have hcd := hcd.tr e258 (by omega)
          have e259 : SgQ X9 (ea251 61) (ef_389 60).toInt (ef250 60).toInt fi (0 :: S9) (0 :: (0 :: S9)) lv9 := e259
          have hw : pw D A s.heap H locs [wdP cs h r g tf ta pf na ma wa cf ca ef250 ea251 xf xa] := hw
          refine lv_aload_n S.x S.b d_Mpg_make2_443 rfl (lv_at hl 0 rfl) ?_
          refine lv_bipush (v := 11) S.x S.b d_Mpg_make2_444 (by decide) ?_
          refine lv_aload_n S.x S.b d_Mpg_make2_446 rfl (lv_at hl 0 rfl) ?_
          refine lv_aload_n S.x S.b d_Mpg_make2_447 rfl (lv_at hl 0 rfl) ?_
          refine px_get S k_Mpg hT hw 0 0 20 (v := .ref (r 20)) rfl rfl rfl (by decide) m10_6 d_Mpg_make2_448 ?_
          refine lv_iload S.x S.b d_Mpg_make2_451 (lv_at hl 3 rfl) ?_
          refine px_iald S hT hw 0 16 (n := 2100) (f := (ma 20)) rfl gp_20 (x := x389_4) (vp_in_iff.mpr (by first | exact oz_235fb477f2 nc113 hm_md243.2.2.2 hm_md243.2.1 g0 | (constructor <;> omega))) d_Mpg_make2_453 ?_
          refine lv_topi (fun z260 ez260 => ?_)
          have lz260 := Int32.le_toInt z260
          have uz260 := Int32.toInt_lt z260
          have h5_z260 : (0 ≤ z260.toInt ∧ z260.toInt < (tf 6).toInt) ∧ so ta z260 = 5 := (by rw [ez260]; exact ⟨⟨h20_x389_4.1, h20_x389_4.2.1⟩, h20_x389_4.2.2⟩)
          refine px_calli (pr := []) (px_runV (As := [.int z260]) (rest := [.int 11, .ref h]) S (c_mp_operatorOf l D cs h r g tf ta pf na ma wa cf ca ef250 ea251 xf xa z260  (show 0 ≤ z260.toInt from by omega) (show z260.toInt < (tf 6).toInt from by omega) (show (tf 6).toInt ≤ 2049 from by first | exact g1 | omega) (show so ta z260 = 5 from by first | exact h5_z260.2 | omega) htk _) hT (pr := []) (pcs := [wdP cs h r g tf ta pf na ma wa cf ca ef250 ea251 xf xa]) hw px_X.tt (px_recv hT hw 0 0 rfl rfl rfl) m13_98 m13_95 m13_97 ms_14_5 m1_21 q_Mpg_operatorOf ⟨show 0 + 1 ≤ (2 * (d + 1) + 10) from (by first | exact oz_e5e3eaa915 | omega), show 8 + (2 + 11) + 0 ≤ (120 * (d + 1) + 320) from (by first | exact oz_05fdf8690f | omega)⟩ hl.1 rfl (Nat.le_of_ble_eq_true rfl) d_Mpg_make2_454 ⟨Nat.le_of_ble_eq_true rfl, Nat.le_of_ble_eq_true rfl⟩) hw hA (fun v262 p261 H locs hp261 hw => ?_)
          obtain ⟨rfl, e263, e264⟩ := hp261
          have e263 : 0 ≤ v262.toInt := e263
          have e264 : v262.toInt ≤ 42 := e264
          have hw : pw D A s.heap H locs [wdP cs h r g tf ta pf na ma wa cf ca ef250 ea251 xf xa] := hw
          have lv262 := Int32.le_toInt v262
          have uv262 := Int32.toInt_lt v262
          refine lv_iconst (v := 0) S.x S.b d_Mpg_make2_457 (by decide) ?_
          refine px_calli (pr := []) (px_runV (As := [.int 11, .int v262, .int 0]) (rest := []) S (c_mp_emit l D cs h r g tf ta pf na ma wa cf ca xf xa ef250 ea251 11 v262 0  (show 0 ≤ (ef250 60).toInt from by first | exact oz_fe2fd2b0f6 e254 k389_2 g4 | omega) (show (ef250 60).toInt < 7000 from by first | exact oz_1f4c617182 e255 k389_3 hwa2 g5 | omega) _) hT (pr := []) (pcs := [wdP cs h r g tf ta pf na ma wa cf ca ef250 ea251 xf xa]) hw px_X.tt (px_recv hT hw 0 0 rfl rfl rfl) m13_86 m13_83 m13_85 ms_14_2 m1_21 q_Mpg_emit ⟨show 0 + 1 ≤ (2 * (d + 1) + 10) from (by first | exact oz_e5e3eaa915 | omega), show 8 + (4 + 11) + 0 ≤ (120 * (d + 1) + 320) from (by first | exact oz_de8ca50626 | omega)⟩ hl.1 rfl (Nat.le_of_ble_eq_true rfl) d_Mpg_make2_458 ⟨Nat.le_of_ble_eq_true rfl, Nat.le_of_ble_eq_true rfl⟩) hw hA (fun v270 p269 H locs hp269 hw => ?_)
          obtain ⟨ef267, ea268, rfl, e271, e272, e273, e274, e275⟩ := hp269
          have e271 : v270.toInt = (ef250 60).toInt := e271
          have e272 : (ef267 60).toInt = (ef250 60).toInt + 1 := e272
          have e273 : (ef267 64).toInt = (ef250 64).toInt := e273
          have e274 : (ef267 65).toInt = (ef250 65).toInt := e274
          have e275 : EmU ea251 ea268 (ef250 60) (11 : Int32) v262 (0 : Int32) := e275
          have hcd := hcd.tr e275.cd (by omega)
          have hw : pw D A s.heap H locs [wdP cs h r g tf ta pf na ma wa cf ca ef267 ea268 xf xa] := hw
          have lv270 := Int32.le_toInt v270
          have uv270 := Int32.toInt_lt v270
          refine lv_pop S.x S.b d_Mpg_make2_461 rfl ?_
          refine lv_aload_n S.x S.b d_Mpg_make2_462 rfl (lv_at hl 0 rfl) ?_
          refine px_get S k_Mpg hT hw 0 0 21 (v := .ref (r 21)) rfl rfl rfl (by decide) m10_7 d_Mpg_make2_463 ?_
          refine lv_iload S.x S.b d_Mpg_make2_466 (lv_at hl 3 rfl) ?_
          refine px_iald S hT hw 0 17 (n := 2100) (f := (na 21)) rfl gp_21 (x := x389_4) (vp_in_iff.mpr (by first | exact oz_235fb477f2 nc113 hm_md243.2.2.2 hm_md243.2.1 g0 | (constructor <;> omega))) d_Mpg_make2_468 ?_
          refine lv_topi (fun z276 ez276 => ?_)
          have lz276 := Int32.le_toInt z276
          have uz276 := Int32.toInt_lt z276
          refine lv_istore (lv' := [(4, .int z276), (0, .ref h), (1, .int p0), (3, .int x389_3)]) S.x S.b d_Mpg_make2_469 hl (by decide) rfl (fun ls hl => ?_)
          refine lv_goto (tgt := 389) S.x S.b d_Mpg_make2_471 (by decide) ?_
          exact ih389 ef267 ea268 md243 (wr_389 - wa244) x389_3 z276 _ _ ls (show 0 ≤ md243 from by first | exact oz_d3d3a7f06a hm_md243.2.2.2 nc113 | omega) (show md243 ≤ (pf 13).toInt from by first | exact oz_fdad9fdf0a hm_md243.2.1 | omega) (show (ef 60).toInt ≤ (ef267 60).toInt from by first | exact oz_3eddb8f087 k389_2 e272 e254 | omega) (show (ef267 60).toInt + (wr_389 - wa244) ≤ (ef 60).toInt + wt from by first | exact oz_603b99282c k389_3 e255 e272 | omega) (show (ma 22 p0.toNatClampNeg).toInt < 3 → (ef267 60).toInt + (wr_389 - wa244) + 4 ≤ (ef 60).toInt + wt from by omega) (show (ef267 64).toInt = (ef 64).toInt from by first | exact oz_e13fc83238 k389_5 e273 e256 | omega) (show (ef267 65).toInt = (ef 65).toInt from by first | exact oz_e13fc83238 k389_6 e274 e257 | omega) (show CdK ea ea268 (ef 60).toInt from hcd) (show (na 14 p0.toNatClampNeg).toInt = 7 from by first | exact k389_8 | omega) (show RvM ta (tf 6).toInt na ma0 ma ca V d md243 (pf 13).toInt (wr_389 - wa244) bh z276 from (by rw [ez276]; exact hrm2)) (show ChI X9 (ea268 61) (ef 60).toInt (ef267 60).toInt fi S9 lv9 x389_3 (ma 22 p0.toNatClampNeg).toInt from ⟨fun q9 => absurd q9 (by omega), fun q9 => (((hchi.2 q9).ap e258 e259 (by omega)).em e275 (by omega) rfl (by first | omega | (simp only [List.length_cons, List.length_append]; omega)) (.two S9 rfl (by omega))).tq rfl (by omega) rfl⟩) (show (pf 13).toInt - md243 < (n_389 : Int) from by first | exact oz_2b66180fc4 hm hm_md243.2.2.2 hm_md243.2.2.1 | omega) hw (lv_sub hl [1, 2, 3, 0] rfl)
        · have nc246 : ¬ (3 : Int) ≤ z245.toInt := mt (i_le (x := 3) (y := z245)).mpr c246
          refine lv_aload_n S.x S.b d_Mpg_make2_404 rfl (lv_at hl 0 rfl) ?_
          refine lv_aload_n S.x S.b d_Mpg_make2_405 rfl (lv_at hl 0 rfl) ?_
          refine px_get S k_Mpg hT hw 0 0 22 (v := .ref (r 22)) rfl rfl rfl (by decide) m10_9 d_Mpg_make2_406 ?_
          refine lv_iload_n S.x S.b d_Mpg_make2_409 rfl (lv_at hl 1 rfl) ?_
          refine px_iald S hT hw 0 18 (n := 2100) (f := (ma 22)) rfl gp_22 (x := p0) (vp_in_iff.mpr (by constructor <;> omega)) d_Mpg_make2_410 ?_
          refine lv_topi (fun z277 ez277 => ?_)
          have lz277 := Int32.le_toInt z277
          have uz277 := Int32.toInt_lt z277
          have rz277 : z277.toInt = (ma 22 p0.toNatClampNeg).toInt := by rw [ez277]
          refine lv_iconst (v := 1) S.x S.b d_Mpg_make2_411 (by decide) ?_
          refine lv_icmp_ne (tgt := 420) S.x S.b d_Mpg_make2_412 (by decide) (fun c278 => ?_) (fun c278 => ?_)
          · have nc278 : ¬ z277.toInt = (1 : Int) := mt (i_eq (x := z277) (y := 1)).mpr c278
            refine lv_bipush (v := 13) S.x S.b d_Mpg_make2_420 (by decide) ?_
            refine lv_iload_n S.x S.b d_Mpg_make2_422 rfl (lv_at hl 2 rfl) ?_
            refine lv_iconst (v := 0) S.x S.b d_Mpg_make2_423 (by decide) ?_
            refine px_calli (pr := []) (px_runV (As := [.int 13, .int x389_3, .int 0]) (rest := []) S (c_mp_emit l D cs h r g tf ta pf na ma wa cf ca xf xa ef_389 ea_389 13 x389_3 0  (show 0 ≤ (ef_389 60).toInt from by first | exact oz_16d7fa9f32 k389_2 g4 | omega) (show (ef_389 60).toInt < 7000 from by first | exact oz_ad11a34479 k389_3 g5 hwa2 hnn_x389_4.1 | omega) _) hT (pr := []) (pcs := [wdP cs h r g tf ta pf na ma wa cf ca ef_389 ea_389 xf xa]) hw px_X.tt (px_recv hT hw 0 0 rfl rfl rfl) m13_86 m13_83 m13_85 ms_14_2 m1_21 q_Mpg_emit ⟨show 0 + 1 ≤ (2 * (d + 1) + 10) from (by first | exact oz_e5e3eaa915 | omega), show 8 + (4 + 11) + 0 ≤ (120 * (d + 1) + 320) from (by first | exact oz_de8ca50626 | omega)⟩ hl.1 rfl (Nat.le_of_ble_eq_true rfl) d_Mpg_make2_424 ⟨Nat.le_of_ble_eq_true rfl, Nat.le_of_ble_eq_true rfl⟩) hw hA (fun v285 p284 H locs hp284 hw => ?_)
            obtain ⟨ef282, ea283, rfl, e286, e287, e288, e289, e290⟩ := hp284
            have e286 : v285.toInt = (ef_389 60).toInt := e286
            have e287 : (ef282 60).toInt = (ef_389 60).toInt + 1 := e287
            have e288 : (ef282 64).toInt = (ef_389 64).toInt := e288
            have e289 : (ef282 65).toInt = (ef_389 65).toInt := e289
            have e290 : EmU ea_389 ea283 (ef_389 60) (13 : Int32) x389_3 (0 : Int32) := e290
            have hcd := hcd.tr e290.cd (by omega)
            have hw : pw D A s.heap H locs [wdP cs h r g tf ta pf na ma wa cf ca ef282 ea283 xf xa] := hw
            have lv285 := Int32.le_toInt v285
            have uv285 := Int32.toInt_lt v285
            refine lv_istore_n (lv' := [(3, .int v285), (0, .ref h), (1, .int p0), (4, .int x389_4)]) S.x S.b d_Mpg_make2_427 rfl hl (by decide) rfl (fun ls hl => ?_)
            refine lv_aload_n S.x S.b d_Mpg_make2_428 rfl (lv_at hl 1 rfl) ?_
            refine lv_iload S.x S.b d_Mpg_make2_429 (lv_at hl 3 rfl) ?_
            refine px_callv (pr := []) (px_runV (As := [.int x389_4]) (rest := []) S (hLK ma0 ys ns nf (wa244 - 1) V vl vh X9 fi S9 lv9 (bh - 1) h r g tf ta pf na ma wa cf ca xf xa ef282 ea283 x389_4 (show (pf 13).toInt ≤ 2100 from by first | exact g0 | omega) (show (tf 6).toInt ≤ 2049 from by first | exact g1 | omega) (show (cf 38).toInt = nf from by first | exact g2 | omega) (show 0 ≤ nf from by first | exact g3 | omega) (show 0 ≤ (ef282 60).toInt from by first | exact oz_2188d1bf01 e287 k389_2 g4 | omega) (show (ef282 60).toInt + (wa244 - 1) ≤ 7000 from by first | exact oz_f188fd5d8d hwa2 e287 k389_3 g5 | omega) (show (S9.length : Int) + (bh - 1) ≤ X9.tall fi from by omega) htk (FnT.eq hft (by omega)) hfp han hts hcx hmk_x389_4 _) hT (pr := []) (pcs := [wdP cs h r g tf ta pf na ma wa cf ca ef282 ea283 xf xa]) hw (oX_call (P := (fun A U H => (oP A g U H))) (pr := []) oG_P hw hA hP) (px_recv hT hw 0 0 rfl rfl rfl) m13_90 m13_87 m13_89 ms_14_3 m1_21 q_Mpg_make2 ⟨show (2 * d + 10) + 1 ≤ (2 * (d + 1) + 10) from (by first | exact oz_ab1a9076e0 | omega), show 8 + (8 + 11) + (120 * d + 320) ≤ (120 * (d + 1) + 320) from (by first | exact oz_59e4787ab3 | omega)⟩ hl.1 rfl (Nat.le_of_ble_eq_true rfl) d_Mpg_make2_431 ⟨Nat.le_of_ble_eq_true rfl, Nat.le_of_ble_eq_true rfl⟩) hw hA (fun p295 H locs hp295 hw => ?_)
            obtain ⟨ef293, ea294, rfl, e297, e298, e299, e300, e301, e302⟩ := hp295
            have e297 : (ef282 60).toInt ≤ (ef293 60).toInt := e297
            have e298 : (ef293 60).toInt ≤ (ef282 60).toInt + (wa244 - 1) := e298
            have e299 : (ef293 64).toInt = (ef282 64).toInt := e299
            have e300 : (ef293 65).toInt = (ef282 65).toInt := e300
            have e301 : CdK ea283 ea294 (ef282 60).toInt := e301
            have hcd := hcd.tr e301 (by omega)
            have e302 : SgQ X9 (ea294 61) (ef282 60).toInt (ef293 60).toInt fi S9 (0 :: S9) lv9 := e302
            have hw : pw D A s.heap H locs [wdP cs h r g tf ta pf na ma wa cf ca ef293 ea294 xf xa] := hw
            refine lv_goto (tgt := 462) S.x S.b d_Mpg_make2_434 (by decide) ?_
            refine lv_aload_n S.x S.b d_Mpg_make2_462 rfl (lv_at hl 1 rfl) ?_
            refine px_get S k_Mpg hT hw 0 0 21 (v := .ref (r 21)) rfl rfl rfl (by decide) m10_7 d_Mpg_make2_463 ?_
            refine lv_iload S.x S.b d_Mpg_make2_466 (lv_at hl 3 rfl) ?_
            refine px_iald S hT hw 0 17 (n := 2100) (f := (na 21)) rfl gp_21 (x := x389_4) (vp_in_iff.mpr (by first | exact oz_235fb477f2 nc113 hm_md243.2.2.2 hm_md243.2.1 g0 | (constructor <;> omega))) d_Mpg_make2_468 ?_
            refine lv_topi (fun z303 ez303 => ?_)
            have lz303 := Int32.le_toInt z303
            have uz303 := Int32.toInt_lt z303
            refine lv_istore (lv' := [(4, .int z303), (3, .int v285), (0, .ref h), (1, .int p0)]) S.x S.b d_Mpg_make2_469 hl (by decide) rfl (fun ls hl => ?_)
            refine lv_goto (tgt := 389) S.x S.b d_Mpg_make2_471 (by decide) ?_
            exact ih389 ef293 ea294 md243 (wr_389 - wa244) v285 z303 _ _ ls (show 0 ≤ md243 from by first | exact oz_d3d3a7f06a hm_md243.2.2.2 nc113 | omega) (show md243 ≤ (pf 13).toInt from by first | exact oz_fdad9fdf0a hm_md243.2.1 | omega) (show (ef 60).toInt ≤ (ef293 60).toInt from by first | exact oz_db0ccc982f k389_2 e297 e287 | omega) (show (ef293 60).toInt + (wr_389 - wa244) ≤ (ef 60).toInt + wt from by first | exact oz_942662209a k389_3 e298 e287 | omega) (show (ma 22 p0.toNatClampNeg).toInt < 3 → (ef293 60).toInt + (wr_389 - wa244) + 4 ≤ (ef 60).toInt + wt from by first | exact fun q9 => oz_4c96eb7639 e298 rz245 nc246 k389_4 e287 | omega) (show (ef293 64).toInt = (ef 64).toInt from by first | exact oz_e13fc83238 k389_5 e299 e288 | omega) (show (ef293 65).toInt = (ef 65).toInt from by first | exact oz_e13fc83238 k389_6 e300 e289 | omega) (show CdK ea ea294 (ef 60).toInt from hcd) (show (na 14 p0.toNatClampNeg).toInt = 7 from by first | exact k389_8 | omega) (show RvM ta (tf 6).toInt na ma0 ma ca V d md243 (pf 13).toInt (wr_389 - wa244) bh z303 from (by rw [ez303]; exact hrm2)) (show ChI X9 (ea294 61) (ef 60).toInt (ef293 60).toInt fi S9 lv9 v285 (ma 22 p0.toNatClampNeg).toInt from ⟨fun q9 => ChS.nx (hchi.1 q9) e290 e301 e302 (by omega) (i_eq.mpr (by omega)) (by omega) (by decide) (by omega), fun q9 => absurd q9 (by omega)⟩) (show (pf 13).toInt - md243 < (n_389 : Int) from by first | exact oz_2b66180fc4 hm hm_md243.2.2.2 hm_md243.2.2.1 | omega) hw (lv_sub hl [2, 3, 1, 0] rfl)
          · have nc278 : z277.toInt = (1 : Int) := (i_eq (x := z277) (y := 1)).mp c278
            refine lv_bipush (v := 14) S.x S.b d_Mpg_make2_415 (by decide) ?_
            refine lv_goto (tgt := 422) S.x S.b d_Mpg_make2_417 (by decide) ?_
            refine lv_iload_n S.x S.b d_Mpg_make2_422 rfl (lv_at hl 2 rfl) ?_
            refine lv_iconst (v := 0) S.x S.b d_Mpg_make2_423 (by decide) ?_
            refine px_calli (pr := []) (px_runV (As := [.int 14, .int x389_3, .int 0]) (rest := []) S (c_mp_emit l D cs h r g tf ta pf na ma wa cf ca xf xa ef_389 ea_389 14 x389_3 0  (show 0 ≤ (ef_389 60).toInt from by first | exact oz_16d7fa9f32 k389_2 g4 | omega) (show (ef_389 60).toInt < 7000 from by first | exact oz_ad11a34479 k389_3 g5 hwa2 hnn_x389_4.1 | omega) _) hT (pr := []) (pcs := [wdP cs h r g tf ta pf na ma wa cf ca ef_389 ea_389 xf xa]) hw px_X.tt (px_recv hT hw 0 0 rfl rfl rfl) m13_86 m13_83 m13_85 ms_14_2 m1_21 q_Mpg_emit ⟨show 0 + 1 ≤ (2 * (d + 1) + 10) from (by first | exact oz_e5e3eaa915 | omega), show 8 + (4 + 11) + 0 ≤ (120 * (d + 1) + 320) from (by first | exact oz_de8ca50626 | omega)⟩ hl.1 rfl (Nat.le_of_ble_eq_true rfl) d_Mpg_make2_424 ⟨Nat.le_of_ble_eq_true rfl, Nat.le_of_ble_eq_true rfl⟩) hw hA (fun v309 p308 H locs hp308 hw => ?_)
            obtain ⟨ef306, ea307, rfl, e310, e311, e312, e313, e314⟩ := hp308
            have e310 : v309.toInt = (ef_389 60).toInt := e310
            have e311 : (ef306 60).toInt = (ef_389 60).toInt + 1 := e311
            have e312 : (ef306 64).toInt = (ef_389 64).toInt := e312
            have e313 : (ef306 65).toInt = (ef_389 65).toInt := e313
            have e314 : EmU ea_389 ea307 (ef_389 60) (14 : Int32) x389_3 (0 : Int32) := e314
            have hcd := hcd.tr e314.cd (by omega)
            have hw : pw D A s.heap H locs [wdP cs h r g tf ta pf na ma wa cf ca ef306 ea307 xf xa] := hw
            have lv309 := Int32.le_toInt v309
            have uv309 := Int32.toInt_lt v309
            refine lv_istore_n (lv' := [(3, .int v309), (0, .ref h), (1, .int p0), (4, .int x389_4)]) S.x S.b d_Mpg_make2_427 rfl hl (by decide) rfl (fun ls hl => ?_)
            refine lv_aload_n S.x S.b d_Mpg_make2_428 rfl (lv_at hl 1 rfl) ?_
            refine lv_iload S.x S.b d_Mpg_make2_429 (lv_at hl 3 rfl) ?_
            refine px_callv (pr := []) (px_runV (As := [.int x389_4]) (rest := []) S (hLK ma0 ys ns nf (wa244 - 1) V vl vh X9 fi S9 lv9 (bh - 1) h r g tf ta pf na ma wa cf ca xf xa ef306 ea307 x389_4 (show (pf 13).toInt ≤ 2100 from by first | exact g0 | omega) (show (tf 6).toInt ≤ 2049 from by first | exact g1 | omega) (show (cf 38).toInt = nf from by first | exact g2 | omega) (show 0 ≤ nf from by first | exact g3 | omega) (show 0 ≤ (ef306 60).toInt from by first | exact oz_2188d1bf01 e311 k389_2 g4 | omega) (show (ef306 60).toInt + (wa244 - 1) ≤ 7000 from by first | exact oz_f188fd5d8d hwa2 e311 k389_3 g5 | omega) (show (S9.length : Int) + (bh - 1) ≤ X9.tall fi from by omega) htk (FnT.eq hft (by omega)) hfp han hts hcx hmk_x389_4 _) hT (pr := []) (pcs := [wdP cs h r g tf ta pf na ma wa cf ca ef306 ea307 xf xa]) hw (oX_call (P := (fun A U H => (oP A g U H))) (pr := []) oG_P hw hA hP) (px_recv hT hw 0 0 rfl rfl rfl) m13_90 m13_87 m13_89 ms_14_3 m1_21 q_Mpg_make2 ⟨show (2 * d + 10) + 1 ≤ (2 * (d + 1) + 10) from (by first | exact oz_ab1a9076e0 | omega), show 8 + (8 + 11) + (120 * d + 320) ≤ (120 * (d + 1) + 320) from (by first | exact oz_59e4787ab3 | omega)⟩ hl.1 rfl (Nat.le_of_ble_eq_true rfl) d_Mpg_make2_431 ⟨Nat.le_of_ble_eq_true rfl, Nat.le_of_ble_eq_true rfl⟩) hw hA (fun p319 H locs hp319 hw => ?_)
            obtain ⟨ef317, ea318, rfl, e321, e322, e323, e324, e325, e326⟩ := hp319
            have e321 : (ef306 60).toInt ≤ (ef317 60).toInt := e321
            have e322 : (ef317 60).toInt ≤ (ef306 60).toInt + (wa244 - 1) := e322
            have e323 : (ef317 64).toInt = (ef306 64).toInt := e323
            have e324 : (ef317 65).toInt = (ef306 65).toInt := e324
            have e325 : CdK ea307 ea318 (ef306 60).toInt := e325
            have hcd := hcd.tr e325 (by omega)
            have e326 : SgQ X9 (ea318 61) (ef306 60).toInt (ef317 60).toInt fi S9 (0 :: S9) lv9 := e326
            have hw : pw D A s.heap H locs [wdP cs h r g tf ta pf na ma wa cf ca ef317 ea318 xf xa] := hw
            refine lv_goto (tgt := 462) S.x S.b d_Mpg_make2_434 (by decide) ?_
            refine lv_aload_n S.x S.b d_Mpg_make2_462 rfl (lv_at hl 1 rfl) ?_
            refine px_get S k_Mpg hT hw 0 0 21 (v := .ref (r 21)) rfl rfl rfl (by decide) m10_7 d_Mpg_make2_463 ?_
            refine lv_iload S.x S.b d_Mpg_make2_466 (lv_at hl 3 rfl) ?_
            refine px_iald S hT hw 0 17 (n := 2100) (f := (na 21)) rfl gp_21 (x := x389_4) (vp_in_iff.mpr (by first | exact oz_235fb477f2 nc113 hm_md243.2.2.2 hm_md243.2.1 g0 | (constructor <;> omega))) d_Mpg_make2_468 ?_
            refine lv_topi (fun z327 ez327 => ?_)
            have lz327 := Int32.le_toInt z327
            have uz327 := Int32.toInt_lt z327
            refine lv_istore (lv' := [(4, .int z327), (3, .int v309), (0, .ref h), (1, .int p0)]) S.x S.b d_Mpg_make2_469 hl (by decide) rfl (fun ls hl => ?_)
            refine lv_goto (tgt := 389) S.x S.b d_Mpg_make2_471 (by decide) ?_
            exact ih389 ef317 ea318 md243 (wr_389 - wa244) v309 z327 _ _ ls (show 0 ≤ md243 from by first | exact oz_d3d3a7f06a hm_md243.2.2.2 nc113 | omega) (show md243 ≤ (pf 13).toInt from by first | exact oz_fdad9fdf0a hm_md243.2.1 | omega) (show (ef 60).toInt ≤ (ef317 60).toInt from by first | exact oz_db0ccc982f k389_2 e321 e311 | omega) (show (ef317 60).toInt + (wr_389 - wa244) ≤ (ef 60).toInt + wt from by first | exact oz_942662209a k389_3 e322 e311 | omega) (show (ma 22 p0.toNatClampNeg).toInt < 3 → (ef317 60).toInt + (wr_389 - wa244) + 4 ≤ (ef 60).toInt + wt from by first | exact fun q9 => oz_e0543921b5 e322 rz277 nc278 k389_4 e311 | omega) (show (ef317 64).toInt = (ef 64).toInt from by first | exact oz_e13fc83238 k389_5 e323 e312 | omega) (show (ef317 65).toInt = (ef 65).toInt from by first | exact oz_e13fc83238 k389_6 e324 e313 | omega) (show CdK ea ea318 (ef 60).toInt from hcd) (show (na 14 p0.toNatClampNeg).toInt = 7 from by first | exact k389_8 | omega) (show RvM ta (tf 6).toInt na ma0 ma ca V d md243 (pf 13).toInt (wr_389 - wa244) bh z327 from (by rw [ez327]; exact hrm2)) (show ChI X9 (ea318 61) (ef 60).toInt (ef317 60).toInt fi S9 lv9 v309 (ma 22 p0.toNatClampNeg).toInt from ⟨fun q9 => ChS.nx (hchi.1 q9) e314 e325 e326 (by omega) (i_eq.mpr (by omega)) (by omega) (by decide) (by omega), fun q9 => absurd q9 (by omega)⟩) (show (pf 13).toInt - md243 < (n_389 : Int) from by first | exact oz_2b66180fc4 hm hm_md243.2.2.2 hm_md243.2.2.1 | omega) hw (lv_sub hl [2, 3, 1, 0] rfl)
  refine lv_aload_n S.x S.b d_Mpg_make2_0 rfl (lv_at hl 0 rfl) ?_
  refine px_get S k_Mpg hT hw 0 0 14 (v := .ref (r 14)) rfl rfl rfl (by decide) m9_238 d_Mpg_make2_1 ?_
  refine lv_iload_n S.x S.b d_Mpg_make2_4 rfl (lv_at hl 1 rfl) ?_
  refine px_bald S hT hw 0 10 (n := 2100) (f := (na 14)) rfl gp_14 (x := p0) (vp_in_iff.mpr (by constructor <;> omega)) d_Mpg_make2_5 ?_
  refine lv_topi (fun z328 ez328 => ?_)
  have lz328 := Int32.le_toInt z328
  have uz328 := Int32.toInt_lt z328
  have rz328 := EcV.kd hec_p0 ez328
  refine px_tableD S (dt := 645) [(52, [1]), (73, [2]), (114, [3]), (268, [4]), (294, [5]), (355, [6]), (364, [7]), (580, [8])] d_Mpg_make2_6 (by decide +kernel) (by decide) (by decide +kernel) ?_ ?_
  · intro hdf_6
    refine lv_aload_n S.x S.b d_Mpg_make2_645 rfl (lv_at hl 0 rfl) ?_
    refine px_get S k_Mpg hT hw 0 0 17 (v := .ref (r 17)) rfl rfl rfl (by decide) m10_1 d_Mpg_make2_646 ?_
    refine lv_iload_n S.x S.b d_Mpg_make2_649 rfl (lv_at hl 1 rfl) ?_
    refine px_iald S hT hw 0 13 (n := 2100) (f := (na 17)) rfl gp_17 (x := p0) (vp_in_iff.mpr (by constructor <;> omega)) d_Mpg_make2_650 ?_
    refine lv_topi (fun z330 ez330 => ?_)
    have lz330 := Int32.le_toInt z330
    have uz330 := Int32.toInt_lt z330
    obtain ⟨w1, w2, hec_z330, h9a, h9b, hw9, hso9⟩ := MkB.f9 hts han hmk_p0 (by omega) ez330; have hrg_z330 := EcV.rng hec_z330
    refine lv_istore (lv' := [(6, .int z330), (0, .ref h), (1, .int p0)]) S.x S.b d_Mpg_make2_651 hl (by decide) rfl (fun ls hl => ?_)
    refine lv_aload_n S.x S.b d_Mpg_make2_653 rfl (lv_at hl 1 rfl) ?_
    refine px_get S k_Mpg hT hw 0 0 14 (v := .ref (r 14)) rfl rfl rfl (by decide) m9_238 d_Mpg_make2_654 ?_
    refine lv_iload S.x S.b d_Mpg_make2_657 (lv_at hl 0 rfl) ?_
    refine px_bald S hT hw 0 10 (n := 2100) (f := (na 14)) rfl gp_14 (x := z330) (vp_in_iff.mpr (by first | exact oz_b0899bab4c hrg_z330.1 hrg_z330.2.1 g0 | (constructor <;> omega))) d_Mpg_make2_659 ?_
    refine lv_topi (fun z331 ez331 => ?_)
    have lz331 := Int32.le_toInt z331
    have uz331 := Int32.toInt_lt z331
    have rz331 := EcV.kd hec_z330 ez331
    refine lv_iconst (v := 4) S.x S.b d_Mpg_make2_660 (by decide) ?_
    refine lv_icmp_ne (tgt := 668) S.x S.b d_Mpg_make2_661 (by decide) (fun c332 => ?_) (fun c332 => ?_)
    · have nc332 : ¬ z331.toInt = (4 : Int) := mt (i_eq (x := z331) (y := 4)).mpr c332
      refine lv_iconst (v := 0) S.x S.b d_Mpg_make2_668 (by decide) ?_
      refine lv_istore (lv' := [(7, .int 0), (6, .int z330), (0, .ref h), (1, .int p0)]) S.x S.b d_Mpg_make2_669 hl (by decide) rfl (fun ls hl => ?_)
      refine lv_iload S.x S.b d_Mpg_make2_671 (lv_at hl 0 rfl) ?_
      refine lv_if_eq (tgt := 687) S.x S.b d_Mpg_make2_673 (by decide) (fun c334 => ?_) (fun c334 => ?_)
      ·
        refine lv_aload_n S.x S.b d_Mpg_make2_687 rfl (lv_at hl 2 rfl) ?_
        refine lv_aload_n S.x S.b d_Mpg_make2_688 rfl (lv_at hl 2 rfl) ?_
        refine px_get S k_Mpg hT hw 0 0 18 (v := .ref (r 18)) rfl rfl rfl (by decide) m10_3 d_Mpg_make2_689 ?_
        refine lv_iload_n S.x S.b d_Mpg_make2_692 rfl (lv_at hl 3 rfl) ?_
        refine px_iald S hT hw 0 14 (n := 2100) (f := (ma 18)) rfl gp_18 (x := p0) (vp_in_iff.mpr (by constructor <;> omega)) d_Mpg_make2_693 ?_
        refine lv_topi (fun z335 ez335 => ?_)
        have lz335 := Int32.le_toInt z335
        have uz335 := Int32.toInt_lt z335
        have rz335 : z335.toInt = (ma 18 p0.toNatClampNeg).toInt := by rw [ez335]
        have h9c := h9a (by omega); have hmk_z335 : MkB ta (tf 6).toInt na ma0 ma ca V d (pf 13).toInt w2 bh z335 := (by rw [ez335]; exact h9c.2); have hec_z335 := hmk_z335.ec; have hrg_z335 := EcV.rng hec_z335; have hnn_z335 := hmk_z335.nn
        refine px_callv (pr := []) (px_runV (As := [.int z335]) (rest := []) S (hLK ma0 ys ns nf w2 V vl vh X9 fi S9 lv9 bh h r g tf ta pf na ma wa cf ca xf xa ef ea z335 (show (pf 13).toInt ≤ 2100 from by first | exact g0 | omega) (show (tf 6).toInt ≤ 2049 from by first | exact g1 | omega) (show (cf 38).toInt = nf from by first | exact g2 | omega) (show 0 ≤ nf from by first | exact g3 | omega) (show 0 ≤ (ef 60).toInt from by first | exact g4 | omega) (show (ef 60).toInt + w2 ≤ 7000 from by omega) (show (S9.length : Int) + bh ≤ X9.tall fi from by first | exact g6 | omega) htk (FnT.eq hft (by omega)) hfp han hts hcx hmk_z335 _) hT (pr := []) (pcs := [wdP cs h r g tf ta pf na ma wa cf ca ef ea xf xa]) hw (oX_call (P := (fun A U H => (oP A g U H))) (pr := []) oG_P hw hA hP) (px_recv hT hw 0 0 rfl rfl rfl) m13_90 m13_87 m13_89 ms_14_3 m1_21 q_Mpg_make2 ⟨show (2 * d + 10) + 1 ≤ (2 * (d + 1) + 10) from (by first | exact oz_ab1a9076e0 | omega), show 8 + (8 + 11) + (120 * d + 320) ≤ (120 * (d + 1) + 320) from (by first | exact oz_59e4787ab3 | omega)⟩ hl.1 rfl (Nat.le_of_ble_eq_true rfl) d_Mpg_make2_694 ⟨Nat.le_of_ble_eq_true rfl, Nat.le_of_ble_eq_true rfl⟩) hw hA (fun p340 H locs hp340 hw => ?_)
        obtain ⟨ef338, ea339, rfl, e342, e343, e344, e345, e346, e347⟩ := hp340
        have e342 : (ef 60).toInt ≤ (ef338 60).toInt := e342
        have e343 : (ef338 60).toInt ≤ (ef 60).toInt + w2 := e343
        have e344 : (ef338 64).toInt = (ef 64).toInt := e344
        have e345 : (ef338 65).toInt = (ef 65).toInt := e345
        have e346 : CdK ea ea339 (ef 60).toInt := e346
        have hcd := hcd.tr e346 (by omega)
        have e347 : SgQ X9 (ea339 61) (ef 60).toInt (ef338 60).toInt fi S9 (0 :: S9) lv9 := e347
        have hsg := hsg.ap e346 e347 (by omega)
        have hw : pw D A s.heap H locs [wdP cs h r g tf ta pf na ma wa cf ca ef338 ea339 xf xa] := hw
        refine lv_aload_n S.x S.b d_Mpg_make2_697 rfl (lv_at hl 2 rfl) ?_
        refine px_get S k_Mpg hT hw 0 0 8 (v := .ref (r 8)) rfl rfl rfl (by decide) m9_232 d_Mpg_make2_698 ?_
        refine lv_aload_n S.x S.b d_Mpg_make2_701 rfl (lv_at hl 2 rfl) ?_
        refine px_get S k_Mpg hT hw 0 0 15 (v := .ref (r 15)) rfl rfl rfl (by decide) m9_239 d_Mpg_make2_702 ?_
        refine lv_iload_n S.x S.b d_Mpg_make2_705 rfl (lv_at hl 3 rfl) ?_
        refine px_iald S hT hw 0 11 (n := 2100) (f := (na 15)) rfl gp_15 (x := p0) (vp_in_iff.mpr (by constructor <;> omega)) d_Mpg_make2_706 ?_
        refine lv_topi (fun z348 ez348 => ?_)
        have lz348 := Int32.le_toInt z348
        have uz348 := Int32.toInt_lt z348
        have rz348 := EcV.tok hec_p0 ez348
        refine px_iald S hT hw 0 7 (n := 2060) (f := (ta 8)) rfl gp_8 (x := z348) (vp_in_iff.mpr (by constructor <;> omega)) d_Mpg_make2_707 ?_
        refine lv_topi (fun z349 ez349 => ?_)
        have lz349 := Int32.le_toInt z349
        have uz349 := Int32.toInt_lt z349
        have rz349 : z349.toInt = sz ta z348 := by rw [ez349]; rfl
        refine lv_iconst (v := 1) S.x S.b d_Mpg_make2_708 (by decide) ?_
        refine lv_icmp_ne (tgt := 738) S.x S.b d_Mpg_make2_709 (by decide) (fun c350 => ?_) (fun c350 => ?_)
        · have nc350 : ¬ z349.toInt = (1 : Int) := mt (i_eq (x := z349) (y := 1)).mpr c350
          refine lv_aload_n S.x S.b d_Mpg_make2_738 rfl (lv_at hl 2 rfl) ?_
          refine lv_iload S.x S.b d_Mpg_make2_739 (lv_at hl 0 rfl) ?_
          refine lv_if_eq (tgt := 749) S.x S.b d_Mpg_make2_741 (by decide) (fun c352 => ?_) (fun c352 => ?_)
          ·
            refine lv_bipush (v := 6) S.x S.b d_Mpg_make2_749 (by decide) ?_
            refine lv_aload_n S.x S.b d_Mpg_make2_751 rfl (lv_at hl 2 rfl) ?_
            refine px_get S k_Mpg hT hw 0 0 18 (v := .ref (r 18)) rfl rfl rfl (by decide) m10_3 d_Mpg_make2_752 ?_
            refine lv_iload S.x S.b d_Mpg_make2_755 (lv_at hl 1 rfl) ?_
            refine px_iald S hT hw 0 14 (n := 2100) (f := (ma 18)) rfl gp_18 (x := z330) (vp_in_iff.mpr (by first | exact oz_b0899bab4c hrg_z330.1 hrg_z330.2.1 g0 | (constructor <;> omega))) d_Mpg_make2_757 ?_
            refine lv_topi (fun z353 ez353 => ?_)
            have lz353 := Int32.le_toInt z353
            have uz353 := Int32.toInt_lt z353
            have rz353 : z353.toInt = (ma 18 z330.toNatClampNeg).toInt := by rw [ez353]
            refine lv_aload_n S.x S.b d_Mpg_make2_758 rfl (lv_at hl 2 rfl) ?_
            refine lv_aload_n S.x S.b d_Mpg_make2_759 rfl (lv_at hl 2 rfl) ?_
            refine px_get S k_Mpg hT hw 0 0 15 (v := .ref (r 15)) rfl rfl rfl (by decide) m9_239 d_Mpg_make2_760 ?_
            refine lv_iload_n S.x S.b d_Mpg_make2_763 rfl (lv_at hl 3 rfl) ?_
            refine px_iald S hT hw 0 11 (n := 2100) (f := (na 15)) rfl gp_15 (x := p0) (vp_in_iff.mpr (by constructor <;> omega)) d_Mpg_make2_764 ?_
            refine lv_topi (fun z354 ez354 => ?_)
            have lz354 := Int32.le_toInt z354
            have uz354 := Int32.toInt_lt z354
            have rz354 := EcV.tok hec_p0 ez354
            have hs5_z354 : so ta z354 = 5 := (by rw [ez354]; exact hso9)
            refine px_calli (pr := []) (px_runV (As := [.int z354]) (rest := [.int z353, .int 6, .ref h]) S (c_mp_assigned l D cs h r g tf ta pf na ma wa cf ca ef338 ea339 xf xa z354  (show 0 ≤ z354.toInt from by first | exact rz354.1 | omega) (show z354.toInt < (tf 6).toInt from by omega) (show (tf 6).toInt ≤ 2049 from by first | exact g1 | omega) (show so ta z354 = 5 from by first | exact hs5_z354 | omega) htk _) hT (pr := []) (pcs := [wdP cs h r g tf ta pf na ma wa cf ca ef338 ea339 xf xa]) hw (oX_call (P := (fun A U H => (oP A g U H))) (pr := []) oG_P hw hA hP) (px_recv hT hw 0 0 rfl rfl rfl) m13_110 m13_107 m13_109 ms_14_8 m1_21 q_Mpg_assigned ⟨show 4 + 1 ≤ (2 * (d + 1) + 10) from (by first | exact oz_be64971c68 | omega), show 8 + (6 + 11) + 160 ≤ (120 * (d + 1) + 320) from (by first | exact oz_07cb4656eb | omega)⟩ hl.1 rfl (Nat.le_of_ble_eq_true rfl) d_Mpg_make2_765 ⟨Nat.le_of_ble_eq_true rfl, Nat.le_of_ble_eq_true rfl⟩) hw hA (fun v356 p355 H locs hp355 hw => ?_)
            obtain ⟨rfl, e357, e358⟩ := hp355
            have e357 : -1 ≤ v356.toInt := e357
            have e358 : v356.toInt ≤ 42 := e358
            have hw : pw D A s.heap H locs [wdP cs h r g tf ta pf na ma wa cf ca ef338 ea339 xf xa] := hw
            have lv356 := Int32.le_toInt v356
            have uv356 := Int32.toInt_lt v356
            refine px_calli (pr := []) (px_runV (As := [.int 6, .int z353, .int v356]) (rest := []) S (c_mp_emit l D cs h r g tf ta pf na ma wa cf ca xf xa ef338 ea339 6 z353 v356  (show 0 ≤ (ef338 60).toInt from by first | exact oz_16d7fa9f32 e342 g4 | omega) (show (ef338 60).toInt < 7000 from by omega) _) hT (pr := []) (pcs := [wdP cs h r g tf ta pf na ma wa cf ca ef338 ea339 xf xa]) hw px_X.tt (px_recv hT hw 0 0 rfl rfl rfl) m13_86 m13_83 m13_85 ms_14_2 m1_21 q_Mpg_emit ⟨show 0 + 1 ≤ (2 * (d + 1) + 10) from (by first | exact oz_e5e3eaa915 | omega), show 8 + (4 + 11) + 0 ≤ (120 * (d + 1) + 320) from (by first | exact oz_de8ca50626 | omega)⟩ hl.1 rfl (Nat.le_of_ble_eq_true rfl) d_Mpg_make2_768 ⟨Nat.le_of_ble_eq_true rfl, Nat.le_of_ble_eq_true rfl⟩) hw hA (fun v364 p363 H locs hp363 hw => ?_)
            obtain ⟨ef361, ea362, rfl, e365, e366, e367, e368, e369⟩ := hp363
            have e365 : v364.toInt = (ef338 60).toInt := e365
            have e366 : (ef361 60).toInt = (ef338 60).toInt + 1 := e366
            have e367 : (ef361 64).toInt = (ef338 64).toInt := e367
            have e368 : (ef361 65).toInt = (ef338 65).toInt := e368
            have e369 : EmU ea339 ea362 (ef338 60) (6 : Int32) z353 v356 := e369
            have hcd := hcd.tr e369.cd (by omega)
            have hsg := hsg.em e369 (by omega) rfl (by first | omega | (simp only [List.length_cons, List.length_append]; omega)) (hcx.save (by rw [ez353]; exact h9c.1) (Or.inr ⟨rfl, by omega, by omega⟩))
            have hw : pw D A s.heap H locs [wdP cs h r g tf ta pf na ma wa cf ca ef361 ea362 xf xa] := hw
            have lv364 := Int32.le_toInt v364
            have uv364 := Int32.toInt_lt v364
            refine lv_pop S.x S.b d_Mpg_make2_771 rfl ?_
            exact px_vret S hr hlk hAe hw (Nat.le_of_ble_eq_true rfl) (Nat.le_of_ble_eq_true rfl) (⟨ef361, ea362, rfl, (show (ef 60).toInt ≤ (ef361 60).toInt from by first | exact oz_887c409de9 e342 e366 | omega), (show (ef361 60).toInt ≤ (ef 60).toInt + wt from by omega), (show (ef361 64).toInt = (ef 64).toInt from by first | exact oz_1687f4cc65 e344 e367 | omega), (show (ef361 65).toInt = (ef 65).toInt from by first | exact oz_1687f4cc65 e345 e368 | omega), (show CdK ea ea362 (ef 60).toInt from hcd), (show SgQ X9 (ea362 61) (ef 60).toInt (ef361 60).toInt fi S9 (0 :: S9) lv9 from (hsg.tq (by omega) (by omega) rfl))⟩) d_Mpg_make2_772
          · exact absurd c352 (by decide)
        · have nc350 : z349.toInt = (1 : Int) := (i_eq (x := z349) (y := 1)).mp c350
          refine lv_aload_n S.x S.b d_Mpg_make2_712 rfl (lv_at hl 2 rfl) ?_
          refine lv_iload S.x S.b d_Mpg_make2_713 (lv_at hl 0 rfl) ?_
          refine lv_if_eq (tgt := 722) S.x S.b d_Mpg_make2_715 (by decide) (fun c370 => ?_) (fun c370 => ?_)
          ·
            refine lv_iconst (v := 3) S.x S.b d_Mpg_make2_722 (by decide) ?_
            refine lv_aload_n S.x S.b d_Mpg_make2_723 rfl (lv_at hl 2 rfl) ?_
            refine px_get S k_Mpg hT hw 0 0 18 (v := .ref (r 18)) rfl rfl rfl (by decide) m10_3 d_Mpg_make2_724 ?_
            refine lv_iload S.x S.b d_Mpg_make2_727 (lv_at hl 1 rfl) ?_
            refine px_iald S hT hw 0 14 (n := 2100) (f := (ma 18)) rfl gp_18 (x := z330) (vp_in_iff.mpr (by first | exact oz_b0899bab4c hrg_z330.1 hrg_z330.2.1 g0 | (constructor <;> omega))) d_Mpg_make2_729 ?_
            refine lv_topi (fun z371 ez371 => ?_)
            have lz371 := Int32.le_toInt z371
            have uz371 := Int32.toInt_lt z371
            have rz371 : z371.toInt = (ma 18 z330.toNatClampNeg).toInt := by rw [ez371]
            refine lv_iconst (v := 0) S.x S.b d_Mpg_make2_730 (by decide) ?_
            refine px_calli (pr := []) (px_runV (As := [.int 3, .int z371, .int 0]) (rest := []) S (c_mp_emit l D cs h r g tf ta pf na ma wa cf ca xf xa ef338 ea339 3 z371 0  (show 0 ≤ (ef338 60).toInt from by first | exact oz_16d7fa9f32 e342 g4 | omega) (show (ef338 60).toInt < 7000 from by omega) _) hT (pr := []) (pcs := [wdP cs h r g tf ta pf na ma wa cf ca ef338 ea339 xf xa]) hw px_X.tt (px_recv hT hw 0 0 rfl rfl rfl) m13_86 m13_83 m13_85 ms_14_2 m1_21 q_Mpg_emit ⟨show 0 + 1 ≤ (2 * (d + 1) + 10) from (by first | exact oz_e5e3eaa915 | omega), show 8 + (4 + 11) + 0 ≤ (120 * (d + 1) + 320) from (by first | exact oz_de8ca50626 | omega)⟩ hl.1 rfl (Nat.le_of_ble_eq_true rfl) d_Mpg_make2_731 ⟨Nat.le_of_ble_eq_true rfl, Nat.le_of_ble_eq_true rfl⟩) hw hA (fun v377 p376 H locs hp376 hw => ?_)
            obtain ⟨ef374, ea375, rfl, e378, e379, e380, e381, e382⟩ := hp376
            have e378 : v377.toInt = (ef338 60).toInt := e378
            have e379 : (ef374 60).toInt = (ef338 60).toInt + 1 := e379
            have e380 : (ef374 64).toInt = (ef338 64).toInt := e380
            have e381 : (ef374 65).toInt = (ef338 65).toInt := e381
            have e382 : EmU ea339 ea375 (ef338 60) (3 : Int32) z371 (0 : Int32) := e382
            have hcd := hcd.tr e382.cd (by omega)
            have hsg := hsg.em e382 (by omega) rfl (by first | omega | (simp only [List.length_cons, List.length_append]; omega)) (hcx.save (by rw [ez371]; exact h9c.1) (Or.inl rfl))
            have hw : pw D A s.heap H locs [wdP cs h r g tf ta pf na ma wa cf ca ef374 ea375 xf xa] := hw
            have lv377 := Int32.le_toInt v377
            have uv377 := Int32.toInt_lt v377
            refine lv_pop S.x S.b d_Mpg_make2_734 rfl ?_
            refine lv_goto (tgt := 772) S.x S.b d_Mpg_make2_735 (by decide) ?_
            exact px_vret S hr hlk hAe hw (Nat.le_of_ble_eq_true rfl) (Nat.le_of_ble_eq_true rfl) (⟨ef374, ea375, rfl, (show (ef 60).toInt ≤ (ef374 60).toInt from by first | exact oz_887c409de9 e342 e379 | omega), (show (ef374 60).toInt ≤ (ef 60).toInt + wt from by omega), (show (ef374 64).toInt = (ef 64).toInt from by first | exact oz_1687f4cc65 e344 e380 | omega), (show (ef374 65).toInt = (ef 65).toInt from by first | exact oz_1687f4cc65 e345 e381 | omega), (show CdK ea ea375 (ef 60).toInt from hcd), (show SgQ X9 (ea375 61) (ef 60).toInt (ef374 60).toInt fi S9 (0 :: S9) lv9 from (hsg.tq (by omega) (by omega) rfl))⟩) d_Mpg_make2_772
          · exact absurd c370 (by decide)
      · exact absurd c334 (by decide)
    · have nc332 : z331.toInt = (4 : Int) := (i_eq (x := z331) (y := 4)).mp c332
      refine lv_iconst (v := 1) S.x S.b d_Mpg_make2_664 (by decide) ?_
      refine lv_goto (tgt := 669) S.x S.b d_Mpg_make2_665 (by decide) ?_
      refine lv_istore (lv' := [(7, .int 1), (6, .int z330), (0, .ref h), (1, .int p0)]) S.x S.b d_Mpg_make2_669 hl (by decide) rfl (fun ls hl => ?_)
      refine lv_iload S.x S.b d_Mpg_make2_671 (lv_at hl 0 rfl) ?_
      refine lv_if_eq (tgt := 687) S.x S.b d_Mpg_make2_673 (by decide) (fun c383 => ?_) (fun c383 => ?_)
      · exact absurd c383 (by decide)
      ·
        refine lv_aload_n S.x S.b d_Mpg_make2_676 rfl (lv_at hl 2 rfl) ?_
        refine lv_aload_n S.x S.b d_Mpg_make2_677 rfl (lv_at hl 2 rfl) ?_
        refine px_get S k_Mpg hT hw 0 0 17 (v := .ref (r 17)) rfl rfl rfl (by decide) m10_1 d_Mpg_make2_678 ?_
        refine lv_iload S.x S.b d_Mpg_make2_681 (lv_at hl 1 rfl) ?_
        refine px_iald S hT hw 0 13 (n := 2100) (f := (na 17)) rfl gp_17 (x := z330) (vp_in_iff.mpr (by first | exact oz_b0899bab4c hrg_z330.1 hrg_z330.2.1 g0 | (constructor <;> omega))) d_Mpg_make2_683 ?_
        refine lv_topi (fun z384 ez384 => ?_)
        have lz384 := Int32.le_toInt z384
        have uz384 := Int32.toInt_lt z384
        have h9c := h9b (by omega); have hmk_z384 : MkB ta (tf 6).toInt na ma0 ma ca V d (pf 13).toInt (w1 - 1) bh z384 := (by rw [ez384]; exact h9c.2.1); have hec_z384 := hmk_z384.ec; have hrg_z384 := EcV.rng hec_z384; have hnn_z384 := hmk_z384.nn
        refine px_callv (pr := []) (px_runV (As := [.int z384]) (rest := []) S (hLK ma0 ys ns nf (w1 - 1) V vl vh X9 fi S9 lv9 bh h r g tf ta pf na ma wa cf ca xf xa ef ea z384 (show (pf 13).toInt ≤ 2100 from by first | exact g0 | omega) (show (tf 6).toInt ≤ 2049 from by first | exact g1 | omega) (show (cf 38).toInt = nf from by first | exact g2 | omega) (show 0 ≤ nf from by first | exact g3 | omega) (show 0 ≤ (ef 60).toInt from by first | exact g4 | omega) (show (ef 60).toInt + (w1 - 1) ≤ 7000 from by omega) (show (S9.length : Int) + bh ≤ X9.tall fi from by first | exact g6 | omega) htk (FnT.eq hft (by omega)) hfp han hts hcx hmk_z384 _) hT (pr := []) (pcs := [wdP cs h r g tf ta pf na ma wa cf ca ef ea xf xa]) hw (oX_call (P := (fun A U H => (oP A g U H))) (pr := []) oG_P hw hA hP) (px_recv hT hw 0 0 rfl rfl rfl) m13_90 m13_87 m13_89 ms_14_3 m1_21 q_Mpg_make2 ⟨show (2 * d + 10) + 1 ≤ (2 * (d + 1) + 10) from (by first | exact oz_ab1a9076e0 | omega), show 8 + (8 + 11) + (120 * d + 320) ≤ (120 * (d + 1) + 320) from (by first | exact oz_59e4787ab3 | omega)⟩ hl.1 rfl (Nat.le_of_ble_eq_true rfl) d_Mpg_make2_684 ⟨Nat.le_of_ble_eq_true rfl, Nat.le_of_ble_eq_true rfl⟩) hw hA (fun p389 H locs hp389 hw => ?_)
        obtain ⟨ef387, ea388, rfl, e391, e392, e393, e394, e395, e396⟩ := hp389
        have e391 : (ef 60).toInt ≤ (ef387 60).toInt := e391
        have e392 : (ef387 60).toInt ≤ (ef 60).toInt + (w1 - 1) := e392
        have e393 : (ef387 64).toInt = (ef 64).toInt := e393
        have e394 : (ef387 65).toInt = (ef 65).toInt := e394
        have e395 : CdK ea ea388 (ef 60).toInt := e395
        have hcd := hcd.tr e395 (by omega)
        have e396 : SgQ X9 (ea388 61) (ef 60).toInt (ef387 60).toInt fi S9 (0 :: S9) lv9 := e396
        have hsg := hsg.ap e395 e396 (by omega)
        have hw : pw D A s.heap H locs [wdP cs h r g tf ta pf na ma wa cf ca ef387 ea388 xf xa] := hw
        refine lv_aload_n S.x S.b d_Mpg_make2_687 rfl (lv_at hl 2 rfl) ?_
        refine lv_aload_n S.x S.b d_Mpg_make2_688 rfl (lv_at hl 2 rfl) ?_
        refine px_get S k_Mpg hT hw 0 0 18 (v := .ref (r 18)) rfl rfl rfl (by decide) m10_3 d_Mpg_make2_689 ?_
        refine lv_iload_n S.x S.b d_Mpg_make2_692 rfl (lv_at hl 3 rfl) ?_
        refine px_iald S hT hw 0 14 (n := 2100) (f := (ma 18)) rfl gp_18 (x := p0) (vp_in_iff.mpr (by constructor <;> omega)) d_Mpg_make2_693 ?_
        refine lv_topi (fun z397 ez397 => ?_)
        have lz397 := Int32.le_toInt z397
        have uz397 := Int32.toInt_lt z397
        have rz397 : z397.toInt = (ma 18 p0.toNatClampNeg).toInt := by rw [ez397]
        have hmk_z397 : MkB ta (tf 6).toInt na ma0 ma ca V d (pf 13).toInt w2 (bh - 1) z397 := (by rw [ez397]; exact h9c.2.2); have hec_z397 := hmk_z397.ec; have hrg_z397 := EcV.rng hec_z397; have hnn_z397 := hmk_z397.nn
        refine px_callv (pr := []) (px_runV (As := [.int z397]) (rest := []) S (hLK ma0 ys ns nf w2 V vl vh X9 fi (0 :: S9) lv9 (bh - 1) h r g tf ta pf na ma wa cf ca xf xa ef387 ea388 z397 (show (pf 13).toInt ≤ 2100 from by first | exact g0 | omega) (show (tf 6).toInt ≤ 2049 from by first | exact g1 | omega) (show (cf 38).toInt = nf from by first | exact g2 | omega) (show 0 ≤ nf from by first | exact g3 | omega) (show 0 ≤ (ef387 60).toInt from by first | exact oz_16d7fa9f32 e391 g4 | omega) (show (ef387 60).toInt + w2 ≤ 7000 from by first | exact oz_ef3889ada3 hw9.2.2 e392 g5 | omega) (show ((0 :: S9).length : Int) + (bh - 1) ≤ X9.tall fi from by omega) htk (FnT.eq hft (by omega)) hfp han hts hcx hmk_z397 _) hT (pr := []) (pcs := [wdP cs h r g tf ta pf na ma wa cf ca ef387 ea388 xf xa]) hw (oX_call (P := (fun A U H => (oP A g U H))) (pr := []) oG_P hw hA hP) (px_recv hT hw 0 0 rfl rfl rfl) m13_90 m13_87 m13_89 ms_14_3 m1_21 q_Mpg_make2 ⟨show (2 * d + 10) + 1 ≤ (2 * (d + 1) + 10) from (by first | exact oz_ab1a9076e0 | omega), show 8 + (8 + 11) + (120 * d + 320) ≤ (120 * (d + 1) + 320) from (by first | exact oz_59e4787ab3 | omega)⟩ hl.1 rfl (Nat.le_of_ble_eq_true rfl) d_Mpg_make2_694 ⟨Nat.le_of_ble_eq_true rfl, Nat.le_of_ble_eq_true rfl⟩) hw hA (fun p402 H locs hp402 hw => ?_)
        obtain ⟨ef400, ea401, rfl, e404, e405, e406, e407, e408, e409⟩ := hp402
        have e404 : (ef387 60).toInt ≤ (ef400 60).toInt := e404
        have e405 : (ef400 60).toInt ≤ (ef387 60).toInt + w2 := e405
        have e406 : (ef400 64).toInt = (ef387 64).toInt := e406
        have e407 : (ef400 65).toInt = (ef387 65).toInt := e407
        have e408 : CdK ea388 ea401 (ef387 60).toInt := e408
        have hcd := hcd.tr e408 (by omega)
        have e409 : SgQ X9 (ea401 61) (ef387 60).toInt (ef400 60).toInt fi (0 :: S9) (0 :: (0 :: S9)) lv9 := e409
        have hsg := hsg.ap e408 e409 (by omega)
        have hw : pw D A s.heap H locs [wdP cs h r g tf ta pf na ma wa cf ca ef400 ea401 xf xa] := hw
        refine lv_aload_n S.x S.b d_Mpg_make2_697 rfl (lv_at hl 2 rfl) ?_
        refine px_get S k_Mpg hT hw 0 0 8 (v := .ref (r 8)) rfl rfl rfl (by decide) m9_232 d_Mpg_make2_698 ?_
        refine lv_aload_n S.x S.b d_Mpg_make2_701 rfl (lv_at hl 2 rfl) ?_
        refine px_get S k_Mpg hT hw 0 0 15 (v := .ref (r 15)) rfl rfl rfl (by decide) m9_239 d_Mpg_make2_702 ?_
        refine lv_iload_n S.x S.b d_Mpg_make2_705 rfl (lv_at hl 3 rfl) ?_
        refine px_iald S hT hw 0 11 (n := 2100) (f := (na 15)) rfl gp_15 (x := p0) (vp_in_iff.mpr (by constructor <;> omega)) d_Mpg_make2_706 ?_
        refine lv_topi (fun z410 ez410 => ?_)
        have lz410 := Int32.le_toInt z410
        have uz410 := Int32.toInt_lt z410
        have rz410 := EcV.tok hec_p0 ez410
        refine px_iald S hT hw 0 7 (n := 2060) (f := (ta 8)) rfl gp_8 (x := z410) (vp_in_iff.mpr (by constructor <;> omega)) d_Mpg_make2_707 ?_
        refine lv_topi (fun z411 ez411 => ?_)
        have lz411 := Int32.le_toInt z411
        have uz411 := Int32.toInt_lt z411
        have rz411 : z411.toInt = sz ta z410 := by rw [ez411]; rfl
        refine lv_iconst (v := 1) S.x S.b d_Mpg_make2_708 (by decide) ?_
        refine lv_icmp_ne (tgt := 738) S.x S.b d_Mpg_make2_709 (by decide) (fun c412 => ?_) (fun c412 => ?_)
        · have nc412 : ¬ z411.toInt = (1 : Int) := mt (i_eq (x := z411) (y := 1)).mpr c412
          refine lv_aload_n S.x S.b d_Mpg_make2_738 rfl (lv_at hl 2 rfl) ?_
          refine lv_iload S.x S.b d_Mpg_make2_739 (lv_at hl 0 rfl) ?_
          refine lv_if_eq (tgt := 749) S.x S.b d_Mpg_make2_741 (by decide) (fun c414 => ?_) (fun c414 => ?_)
          · exact absurd c414 (by decide)
          ·
            refine lv_bipush (v := 7) S.x S.b d_Mpg_make2_744 (by decide) ?_
            refine lv_goto (tgt := 751) S.x S.b d_Mpg_make2_746 (by decide) ?_
            refine lv_aload_n S.x S.b d_Mpg_make2_751 rfl (lv_at hl 2 rfl) ?_
            refine px_get S k_Mpg hT hw 0 0 18 (v := .ref (r 18)) rfl rfl rfl (by decide) m10_3 d_Mpg_make2_752 ?_
            refine lv_iload S.x S.b d_Mpg_make2_755 (lv_at hl 1 rfl) ?_
            refine px_iald S hT hw 0 14 (n := 2100) (f := (ma 18)) rfl gp_18 (x := z330) (vp_in_iff.mpr (by first | exact oz_b0899bab4c hrg_z330.1 hrg_z330.2.1 g0 | (constructor <;> omega))) d_Mpg_make2_757 ?_
            refine lv_topi (fun z415 ez415 => ?_)
            have lz415 := Int32.le_toInt z415
            have uz415 := Int32.toInt_lt z415
            have rz415 : z415.toInt = (ma 18 z330.toNatClampNeg).toInt := by rw [ez415]
            refine lv_aload_n S.x S.b d_Mpg_make2_758 rfl (lv_at hl 2 rfl) ?_
            refine lv_aload_n S.x S.b d_Mpg_make2_759 rfl (lv_at hl 2 rfl) ?_
            refine px_get S k_Mpg hT hw 0 0 15 (v := .ref (r 15)) rfl rfl rfl (by decide) m9_239 d_Mpg_make2_760 ?_
            refine lv_iload_n S.x S.b d_Mpg_make2_763 rfl (lv_at hl 3 rfl) ?_
            refine px_iald S hT hw 0 11 (n := 2100) (f := (na 15)) rfl gp_15 (x := p0) (vp_in_iff.mpr (by constructor <;> omega)) d_Mpg_make2_764 ?_
            refine lv_topi (fun z416 ez416 => ?_)
            have lz416 := Int32.le_toInt z416
            have uz416 := Int32.toInt_lt z416
            have rz416 := EcV.tok hec_p0 ez416
            have hs5_z416 : so ta z416 = 5 := (by rw [ez416]; exact hso9)
            refine px_calli (pr := []) (px_runV (As := [.int z416]) (rest := [.int z415, .int 7, .ref h]) S (c_mp_assigned l D cs h r g tf ta pf na ma wa cf ca ef400 ea401 xf xa z416  (show 0 ≤ z416.toInt from by first | exact rz416.1 | omega) (show z416.toInt < (tf 6).toInt from by omega) (show (tf 6).toInt ≤ 2049 from by first | exact g1 | omega) (show so ta z416 = 5 from by first | exact hs5_z416 | omega) htk _) hT (pr := []) (pcs := [wdP cs h r g tf ta pf na ma wa cf ca ef400 ea401 xf xa]) hw (oX_call (P := (fun A U H => (oP A g U H))) (pr := []) oG_P hw hA hP) (px_recv hT hw 0 0 rfl rfl rfl) m13_110 m13_107 m13_109 ms_14_8 m1_21 q_Mpg_assigned ⟨show 4 + 1 ≤ (2 * (d + 1) + 10) from (by first | exact oz_be64971c68 | omega), show 8 + (6 + 11) + 160 ≤ (120 * (d + 1) + 320) from (by first | exact oz_07cb4656eb | omega)⟩ hl.1 rfl (Nat.le_of_ble_eq_true rfl) d_Mpg_make2_765 ⟨Nat.le_of_ble_eq_true rfl, Nat.le_of_ble_eq_true rfl⟩) hw hA (fun v418 p417 H locs hp417 hw => ?_)
            obtain ⟨rfl, e419, e420⟩ := hp417
            have e419 : -1 ≤ v418.toInt := e419
            have e420 : v418.toInt ≤ 42 := e420
            have hw : pw D A s.heap H locs [wdP cs h r g tf ta pf na ma wa cf ca ef400 ea401 xf xa] := hw
            have lv418 := Int32.le_toInt v418
            have uv418 := Int32.toInt_lt v418
            refine px_calli (pr := []) (px_runV (As := [.int 7, .int z415, .int v418]) (rest := []) S (c_mp_emit l D cs h r g tf ta pf na ma wa cf ca xf xa ef400 ea401 7 z415 v418  (show 0 ≤ (ef400 60).toInt from by first | exact oz_fe2fd2b0f6 e404 e391 g4 | omega) (show (ef400 60).toInt < 7000 from by first | exact oz_0d476d6751 e405 hw9.2.2 e392 g5 | omega) _) hT (pr := []) (pcs := [wdP cs h r g tf ta pf na ma wa cf ca ef400 ea401 xf xa]) hw px_X.tt (px_recv hT hw 0 0 rfl rfl rfl) m13_86 m13_83 m13_85 ms_14_2 m1_21 q_Mpg_emit ⟨show 0 + 1 ≤ (2 * (d + 1) + 10) from (by first | exact oz_e5e3eaa915 | omega), show 8 + (4 + 11) + 0 ≤ (120 * (d + 1) + 320) from (by first | exact oz_de8ca50626 | omega)⟩ hl.1 rfl (Nat.le_of_ble_eq_true rfl) d_Mpg_make2_768 ⟨Nat.le_of_ble_eq_true rfl, Nat.le_of_ble_eq_true rfl⟩) hw hA (fun v426 p425 H locs hp425 hw => ?_)
            obtain ⟨ef423, ea424, rfl, e427, e428, e429, e430, e431⟩ := hp425
            have e427 : v426.toInt = (ef400 60).toInt := e427
            have e428 : (ef423 60).toInt = (ef400 60).toInt + 1 := e428
            have e429 : (ef423 64).toInt = (ef400 64).toInt := e429
            have e430 : (ef423 65).toInt = (ef400 65).toInt := e430
            have e431 : EmU ea401 ea424 (ef400 60) (7 : Int32) z415 v418 := e431
            have hcd := hcd.tr e431.cd (by omega)
            have hsg := hsg.em e431 (by omega) rfl (by first | omega | (simp only [List.length_cons, List.length_append]; omega)) (hcx.sel (by rw [ez415]; exact h9c.1) (Or.inr ⟨rfl, by omega, by omega⟩))
            have hw : pw D A s.heap H locs [wdP cs h r g tf ta pf na ma wa cf ca ef423 ea424 xf xa] := hw
            have lv426 := Int32.le_toInt v426
            have uv426 := Int32.toInt_lt v426
            refine lv_pop S.x S.b d_Mpg_make2_771 rfl ?_
            exact px_vret S hr hlk hAe hw (Nat.le_of_ble_eq_true rfl) (Nat.le_of_ble_eq_true rfl) (⟨ef423, ea424, rfl, (show (ef 60).toInt ≤ (ef423 60).toInt from by first | exact oz_3eddb8f087 e391 e428 e404 | omega), (show (ef423 60).toInt ≤ (ef 60).toInt + wt from by first | exact oz_003cf3ba25 hw9.2.2 e392 e428 e405 | omega), (show (ef423 64).toInt = (ef 64).toInt from by first | exact oz_e13fc83238 e393 e429 e406 | omega), (show (ef423 65).toInt = (ef 65).toInt from by first | exact oz_e13fc83238 e394 e430 e407 | omega), (show CdK ea ea424 (ef 60).toInt from hcd), (show SgQ X9 (ea424 61) (ef 60).toInt (ef423 60).toInt fi S9 (0 :: S9) lv9 from (hsg.tq (by omega) (by omega) rfl))⟩) d_Mpg_make2_772
        · have nc412 : z411.toInt = (1 : Int) := (i_eq (x := z411) (y := 1)).mp c412
          refine lv_aload_n S.x S.b d_Mpg_make2_712 rfl (lv_at hl 2 rfl) ?_
          refine lv_iload S.x S.b d_Mpg_make2_713 (lv_at hl 0 rfl) ?_
          refine lv_if_eq (tgt := 722) S.x S.b d_Mpg_make2_715 (by decide) (fun c432 => ?_) (fun c432 => ?_)
          · exact absurd c432 (by decide)
          ·
            refine lv_iconst (v := 5) S.x S.b d_Mpg_make2_718 (by decide) ?_
            refine lv_goto (tgt := 723) S.x S.b d_Mpg_make2_719 (by decide) ?_
            refine lv_aload_n S.x S.b d_Mpg_make2_723 rfl (lv_at hl 2 rfl) ?_
            refine px_get S k_Mpg hT hw 0 0 18 (v := .ref (r 18)) rfl rfl rfl (by decide) m10_3 d_Mpg_make2_724 ?_
            refine lv_iload S.x S.b d_Mpg_make2_727 (lv_at hl 1 rfl) ?_
            refine px_iald S hT hw 0 14 (n := 2100) (f := (ma 18)) rfl gp_18 (x := z330) (vp_in_iff.mpr (by first | exact oz_b0899bab4c hrg_z330.1 hrg_z330.2.1 g0 | (constructor <;> omega))) d_Mpg_make2_729 ?_
            refine lv_topi (fun z433 ez433 => ?_)
            have lz433 := Int32.le_toInt z433
            have uz433 := Int32.toInt_lt z433
            have rz433 : z433.toInt = (ma 18 z330.toNatClampNeg).toInt := by rw [ez433]
            refine lv_iconst (v := 0) S.x S.b d_Mpg_make2_730 (by decide) ?_
            refine px_calli (pr := []) (px_runV (As := [.int 5, .int z433, .int 0]) (rest := []) S (c_mp_emit l D cs h r g tf ta pf na ma wa cf ca xf xa ef400 ea401 5 z433 0  (show 0 ≤ (ef400 60).toInt from by first | exact oz_fe2fd2b0f6 e404 e391 g4 | omega) (show (ef400 60).toInt < 7000 from by first | exact oz_0d476d6751 e405 hw9.2.2 e392 g5 | omega) _) hT (pr := []) (pcs := [wdP cs h r g tf ta pf na ma wa cf ca ef400 ea401 xf xa]) hw px_X.tt (px_recv hT hw 0 0 rfl rfl rfl) m13_86 m13_83 m13_85 ms_14_2 m1_21 q_Mpg_emit ⟨show 0 + 1 ≤ (2 * (d + 1) + 10) from (by first | exact oz_e5e3eaa915 | omega), show 8 + (4 + 11) + 0 ≤ (120 * (d + 1) + 320) from (by first | exact oz_de8ca50626 | omega)⟩ hl.1 rfl (Nat.le_of_ble_eq_true rfl) d_Mpg_make2_731 ⟨Nat.le_of_ble_eq_true rfl, Nat.le_of_ble_eq_true rfl⟩) hw hA (fun v439 p438 H locs hp438 hw => ?_)
            obtain ⟨ef436, ea437, rfl, e440, e441, e442, e443, e444⟩ := hp438
            have e440 : v439.toInt = (ef400 60).toInt := e440
            have e441 : (ef436 60).toInt = (ef400 60).toInt + 1 := e441
            have e442 : (ef436 64).toInt = (ef400 64).toInt := e442
            have e443 : (ef436 65).toInt = (ef400 65).toInt := e443
            have e444 : EmU ea401 ea437 (ef400 60) (5 : Int32) z433 (0 : Int32) := e444
            have hcd := hcd.tr e444.cd (by omega)
            have hsg := hsg.em e444 (by omega) rfl (by first | omega | (simp only [List.length_cons, List.length_append]; omega)) (hcx.sel (by rw [ez433]; exact h9c.1) (Or.inl rfl))
            have hw : pw D A s.heap H locs [wdP cs h r g tf ta pf na ma wa cf ca ef436 ea437 xf xa] := hw
            have lv439 := Int32.le_toInt v439
            have uv439 := Int32.toInt_lt v439
            refine lv_pop S.x S.b d_Mpg_make2_734 rfl ?_
            refine lv_goto (tgt := 772) S.x S.b d_Mpg_make2_735 (by decide) ?_
            exact px_vret S hr hlk hAe hw (Nat.le_of_ble_eq_true rfl) (Nat.le_of_ble_eq_true rfl) (⟨ef436, ea437, rfl, (show (ef 60).toInt ≤ (ef436 60).toInt from by first | exact oz_3eddb8f087 e391 e441 e404 | omega), (show (ef436 60).toInt ≤ (ef 60).toInt + wt from by first | exact oz_003cf3ba25 hw9.2.2 e392 e441 e405 | omega), (show (ef436 64).toInt = (ef 64).toInt from by first | exact oz_e13fc83238 e393 e442 e406 | omega), (show (ef436 65).toInt = (ef 65).toInt from by first | exact oz_e13fc83238 e394 e443 e407 | omega), (show CdK ea ea437 (ef 60).toInt from hcd), (show SgQ X9 (ea437 61) (ef 60).toInt (ef436 60).toInt fi S9 (0 :: S9) lv9 from (hsg.tq (by omega) (by omega) rfl))⟩) d_Mpg_make2_772
  · refine List.forall_mem_cons.mpr ⟨fun c445 => ?_, List.forall_mem_cons.mpr ⟨fun c445 => ?_, List.forall_mem_cons.mpr ⟨fun c445 => ?_, List.forall_mem_cons.mpr ⟨fun c445 => ?_, List.forall_mem_cons.mpr ⟨fun c445 => ?_, List.forall_mem_cons.mpr ⟨fun c445 => ?_, List.forall_mem_cons.mpr ⟨fun c445 => ?_, List.forall_mem_cons.mpr ⟨fun c445 => ?_, fun _ h => absurd h List.not_mem_nil⟩⟩⟩⟩⟩⟩⟩⟩
    · simp only [List.mem_cons, List.not_mem_nil, or_false] at c445
      refine lv_aload_n S.x S.b d_Mpg_make2_52 rfl (lv_at hl 0 rfl) ?_
      have hw12 := EwV.k12 hmk_p0.1 (by omega)
      refine lv_iconst (v := 1) S.x S.b d_Mpg_make2_53 (by decide) ?_
      refine lv_aload_n S.x S.b d_Mpg_make2_54 rfl (lv_at hl 0 rfl) ?_
      refine px_get S k_Mpg hT hw 0 0 10 (v := .ref (r 10)) rfl rfl rfl (by decide) m9_234 d_Mpg_make2_55 ?_
      refine lv_aload_n S.x S.b d_Mpg_make2_58 rfl (lv_at hl 0 rfl) ?_
      refine px_get S k_Mpg hT hw 0 0 15 (v := .ref (r 15)) rfl rfl rfl (by decide) m9_239 d_Mpg_make2_59 ?_
      refine lv_iload_n S.x S.b d_Mpg_make2_62 rfl (lv_at hl 1 rfl) ?_
      refine px_iald S hT hw 0 11 (n := 2100) (f := (na 15)) rfl gp_15 (x := p0) (vp_in_iff.mpr (by constructor <;> omega)) d_Mpg_make2_63 ?_
      refine lv_topi (fun z446 ez446 => ?_)
      have lz446 := Int32.le_toInt z446
      have uz446 := Int32.toInt_lt z446
      have rz446 := EcV.tok hec_p0 ez446
      refine px_iald S hT hw 0 9 (n := 2060) (f := (ta 10)) rfl gp_10 (x := z446) (vp_in_iff.mpr (by constructor <;> omega)) d_Mpg_make2_64 ?_
      refine lv_topi (fun z447 ez447 => ?_)
      have lz447 := Int32.le_toInt z447
      have uz447 := Int32.toInt_lt z447
      refine lv_iconst (v := 0) S.x S.b d_Mpg_make2_65 (by decide) ?_
      refine px_calli (pr := []) (px_runV (As := [.int 1, .int z447, .int 0]) (rest := []) S (c_mp_emit l D cs h r g tf ta pf na ma wa cf ca xf xa ef ea 1 z447 0  (show 0 ≤ (ef 60).toInt from by first | exact g4 | omega) (show (ef 60).toInt < 7000 from by first | exact oz_a47963ef3b g5 hw12 | omega) _) hT (pr := []) (pcs := [wdP cs h r g tf ta pf na ma wa cf ca ef ea xf xa]) hw px_X.tt (px_recv hT hw 0 0 rfl rfl rfl) m13_86 m13_83 m13_85 ms_14_2 m1_21 q_Mpg_emit ⟨show 0 + 1 ≤ (2 * (d + 1) + 10) from (by first | exact oz_e5e3eaa915 | omega), show 8 + (4 + 11) + 0 ≤ (120 * (d + 1) + 320) from (by first | exact oz_de8ca50626 | omega)⟩ hl.1 rfl (Nat.le_of_ble_eq_true rfl) d_Mpg_make2_66 ⟨Nat.le_of_ble_eq_true rfl, Nat.le_of_ble_eq_true rfl⟩) hw hA (fun v453 p452 H locs hp452 hw => ?_)
      obtain ⟨ef450, ea451, rfl, e454, e455, e456, e457, e458⟩ := hp452
      have e454 : v453.toInt = (ef 60).toInt := e454
      have e455 : (ef450 60).toInt = (ef 60).toInt + 1 := e455
      have e456 : (ef450 64).toInt = (ef 64).toInt := e456
      have e457 : (ef450 65).toInt = (ef 65).toInt := e457
      have e458 : EmU ea ea451 (ef 60) (1 : Int32) z447 (0 : Int32) := e458
      have hcd := hcd.tr e458.cd (by omega)
      have hsg := hsg.em e458 (by omega) rfl (by first | omega | (simp only [List.length_cons, List.length_append]; omega)) (.push S9 rfl)
      have hw : pw D A s.heap H locs [wdP cs h r g tf ta pf na ma wa cf ca ef450 ea451 xf xa] := hw
      have lv453 := Int32.le_toInt v453
      have uv453 := Int32.toInt_lt v453
      refine lv_pop S.x S.b d_Mpg_make2_69 rfl ?_
      refine lv_goto (tgt := 772) S.x S.b d_Mpg_make2_70 (by decide) ?_
      exact px_vret S hr hlk hAe hw (Nat.le_of_ble_eq_true rfl) (Nat.le_of_ble_eq_true rfl) (⟨ef450, ea451, rfl, (show (ef 60).toInt ≤ (ef450 60).toInt from by first | exact oz_7db54039c4 e455 | omega), (show (ef450 60).toInt ≤ (ef 60).toInt + wt from by first | exact oz_33b972cc46 hw12 e455 | omega), (show (ef450 64).toInt = (ef 64).toInt from by first | exact e456 | omega), (show (ef450 65).toInt = (ef 65).toInt from by first | exact e457 | omega), (show CdK ea ea451 (ef 60).toInt from hcd), (show SgQ X9 (ea451 61) (ef 60).toInt (ef450 60).toInt fi S9 (0 :: S9) lv9 from (hsg.tq (by omega) (by omega) rfl))⟩) d_Mpg_make2_772
    · simp only [List.mem_cons, List.not_mem_nil, or_false] at c445
      refine lv_aload_n S.x S.b d_Mpg_make2_73 rfl (lv_at hl 0 rfl) ?_
      have hw12 := EwV.k12 hmk_p0.1 (by omega)
      refine px_get S k_Mpg hT hw 0 0 18 (v := .ref (r 18)) rfl rfl rfl (by decide) m10_3 d_Mpg_make2_74 ?_
      refine lv_iload_n S.x S.b d_Mpg_make2_77 rfl (lv_at hl 1 rfl) ?_
      refine px_iald S hT hw 0 14 (n := 2100) (f := (ma 18)) rfl gp_18 (x := p0) (vp_in_iff.mpr (by constructor <;> omega)) d_Mpg_make2_78 ?_
      refine lv_topi (fun z459 ez459 => ?_)
      have lz459 := Int32.le_toInt z459
      have uz459 := Int32.toInt_lt z459
      have rz459 : z459.toInt = (ma 18 p0.toNatClampNeg).toInt := by rw [ez459]
      refine lv_if_ge (tgt := 98) S.x S.b d_Mpg_make2_79 (by decide) (fun c460 => ?_) (fun c460 => ?_)
      · have nc460 : (0 : Int) ≤ z459.toInt := (i_le (x := 0) (y := z459)).mp c460
        refine lv_aload_n S.x S.b d_Mpg_make2_98 rfl (lv_at hl 0 rfl) ?_
        refine lv_iconst (v := 2) S.x S.b d_Mpg_make2_99 (by decide) ?_
        refine lv_aload_n S.x S.b d_Mpg_make2_100 rfl (lv_at hl 0 rfl) ?_
        refine px_get S k_Mpg hT hw 0 0 18 (v := .ref (r 18)) rfl rfl rfl (by decide) m10_3 d_Mpg_make2_101 ?_
        refine lv_iload_n S.x S.b d_Mpg_make2_104 rfl (lv_at hl 1 rfl) ?_
        refine px_iald S hT hw 0 14 (n := 2100) (f := (ma 18)) rfl gp_18 (x := p0) (vp_in_iff.mpr (by constructor <;> omega)) d_Mpg_make2_105 ?_
        refine lv_topi (fun z462 ez462 => ?_)
        have lz462 := Int32.le_toInt z462
        have uz462 := Int32.toInt_lt z462
        have rz462 : z462.toInt = (ma 18 p0.toNatClampNeg).toInt := by rw [ez462]
        refine lv_iconst (v := 0) S.x S.b d_Mpg_make2_106 (by decide) ?_
        refine px_calli (pr := []) (px_runV (As := [.int 2, .int z462, .int 0]) (rest := []) S (c_mp_emit l D cs h r g tf ta pf na ma wa cf ca xf xa ef ea 2 z462 0  (show 0 ≤ (ef 60).toInt from by first | exact g4 | omega) (show (ef 60).toInt < 7000 from by first | exact oz_a47963ef3b g5 hw12 | omega) _) hT (pr := []) (pcs := [wdP cs h r g tf ta pf na ma wa cf ca ef ea xf xa]) hw px_X.tt (px_recv hT hw 0 0 rfl rfl rfl) m13_86 m13_83 m13_85 ms_14_2 m1_21 q_Mpg_emit ⟨show 0 + 1 ≤ (2 * (d + 1) + 10) from (by first | exact oz_e5e3eaa915 | omega), show 8 + (4 + 11) + 0 ≤ (120 * (d + 1) + 320) from (by first | exact oz_de8ca50626 | omega)⟩ hl.1 rfl (Nat.le_of_ble_eq_true rfl) d_Mpg_make2_107 ⟨Nat.le_of_ble_eq_true rfl, Nat.le_of_ble_eq_true rfl⟩) hw hA (fun v468 p467 H locs hp467 hw => ?_)
        obtain ⟨ef465, ea466, rfl, e469, e470, e471, e472, e473⟩ := hp467
        have e469 : v468.toInt = (ef 60).toInt := e469
        have e470 : (ef465 60).toInt = (ef 60).toInt + 1 := e470
        have e471 : (ef465 64).toInt = (ef 64).toInt := e471
        have e472 : (ef465 65).toInt = (ef 65).toInt := e472
        have e473 : EmU ea ea466 (ef 60) (2 : Int32) z462 (0 : Int32) := e473
        have hcd := hcd.tr e473.cd (by omega)
        have hsg := hsg.em e473 (by omega) rfl (by first | omega | (simp only [List.length_cons, List.length_append]; omega)) (hcx.load (by rw [ez462]; exact MkB.f2 hts hmk_p0 (by omega) (by omega)) (Or.inl rfl))
        have hw : pw D A s.heap H locs [wdP cs h r g tf ta pf na ma wa cf ca ef465 ea466 xf xa] := hw
        have lv468 := Int32.le_toInt v468
        have uv468 := Int32.toInt_lt v468
        refine lv_pop S.x S.b d_Mpg_make2_110 rfl ?_
        refine lv_goto (tgt := 772) S.x S.b d_Mpg_make2_111 (by decide) ?_
        exact px_vret S hr hlk hAe hw (Nat.le_of_ble_eq_true rfl) (Nat.le_of_ble_eq_true rfl) (⟨ef465, ea466, rfl, (show (ef 60).toInt ≤ (ef465 60).toInt from by first | exact oz_7db54039c4 e470 | omega), (show (ef465 60).toInt ≤ (ef 60).toInt + wt from by first | exact oz_33b972cc46 hw12 e470 | omega), (show (ef465 64).toInt = (ef 64).toInt from by first | exact e471 | omega), (show (ef465 65).toInt = (ef 65).toInt from by first | exact e472 | omega), (show CdK ea ea466 (ef 60).toInt from hcd), (show SgQ X9 (ea466 61) (ef 60).toInt (ef465 60).toInt fi S9 (0 :: S9) lv9 from (hsg.tq (by omega) (by omega) rfl))⟩) d_Mpg_make2_772
      · have nc460 : ¬ (0 : Int) ≤ z459.toInt := mt (i_le (x := 0) (y := z459)).mpr c460
        refine lv_aload_n S.x S.b d_Mpg_make2_82 rfl (lv_at hl 0 rfl) ?_
        refine lv_iconst (v := 1) S.x S.b d_Mpg_make2_83 (by decide) ?_
        refine lv_aload_n S.x S.b d_Mpg_make2_84 rfl (lv_at hl 0 rfl) ?_
        refine px_get S k_Mpg hT hw 0 0 19 (v := .ref (r 19)) rfl rfl rfl (by decide) m10_5 d_Mpg_make2_85 ?_
        refine lv_iload_n S.x S.b d_Mpg_make2_88 rfl (lv_at hl 1 rfl) ?_
        refine px_iald S hT hw 0 15 (n := 2100) (f := (ma 19)) rfl gp_19 (x := p0) (vp_in_iff.mpr (by constructor <;> omega)) d_Mpg_make2_89 ?_
        refine lv_topi (fun z474 ez474 => ?_)
        have lz474 := Int32.le_toInt z474
        have uz474 := Int32.toInt_lt z474
        refine lv_iconst (v := 0) S.x S.b d_Mpg_make2_90 (by decide) ?_
        refine px_calli (pr := []) (px_runV (As := [.int 1, .int z474, .int 0]) (rest := []) S (c_mp_emit l D cs h r g tf ta pf na ma wa cf ca xf xa ef ea 1 z474 0  (show 0 ≤ (ef 60).toInt from by first | exact g4 | omega) (show (ef 60).toInt < 7000 from by first | exact oz_a47963ef3b g5 hw12 | omega) _) hT (pr := []) (pcs := [wdP cs h r g tf ta pf na ma wa cf ca ef ea xf xa]) hw px_X.tt (px_recv hT hw 0 0 rfl rfl rfl) m13_86 m13_83 m13_85 ms_14_2 m1_21 q_Mpg_emit ⟨show 0 + 1 ≤ (2 * (d + 1) + 10) from (by first | exact oz_e5e3eaa915 | omega), show 8 + (4 + 11) + 0 ≤ (120 * (d + 1) + 320) from (by first | exact oz_de8ca50626 | omega)⟩ hl.1 rfl (Nat.le_of_ble_eq_true rfl) d_Mpg_make2_91 ⟨Nat.le_of_ble_eq_true rfl, Nat.le_of_ble_eq_true rfl⟩) hw hA (fun v480 p479 H locs hp479 hw => ?_)
        obtain ⟨ef477, ea478, rfl, e481, e482, e483, e484, e485⟩ := hp479
        have e481 : v480.toInt = (ef 60).toInt := e481
        have e482 : (ef477 60).toInt = (ef 60).toInt + 1 := e482
        have e483 : (ef477 64).toInt = (ef 64).toInt := e483
        have e484 : (ef477 65).toInt = (ef 65).toInt := e484
        have e485 : EmU ea ea478 (ef 60) (1 : Int32) z474 (0 : Int32) := e485
        have hcd := hcd.tr e485.cd (by omega)
        have hsg := hsg.em e485 (by omega) rfl (by first | omega | (simp only [List.length_cons, List.length_append]; omega)) (.push S9 rfl)
        have hw : pw D A s.heap H locs [wdP cs h r g tf ta pf na ma wa cf ca ef477 ea478 xf xa] := hw
        have lv480 := Int32.le_toInt v480
        have uv480 := Int32.toInt_lt v480
        refine lv_pop S.x S.b d_Mpg_make2_94 rfl ?_
        refine lv_goto (tgt := 772) S.x S.b d_Mpg_make2_95 (by decide) ?_
        exact px_vret S hr hlk hAe hw (Nat.le_of_ble_eq_true rfl) (Nat.le_of_ble_eq_true rfl) (⟨ef477, ea478, rfl, (show (ef 60).toInt ≤ (ef477 60).toInt from by first | exact oz_7db54039c4 e482 | omega), (show (ef477 60).toInt ≤ (ef 60).toInt + wt from by first | exact oz_33b972cc46 hw12 e482 | omega), (show (ef477 64).toInt = (ef 64).toInt from by first | exact e483 | omega), (show (ef477 65).toInt = (ef 65).toInt from by first | exact e484 | omega), (show CdK ea ea478 (ef 60).toInt from hcd), (show SgQ X9 (ea478 61) (ef 60).toInt (ef477 60).toInt fi S9 (0 :: S9) lv9 from (hsg.tq (by omega) (by omega) rfl))⟩) d_Mpg_make2_772
    · simp only [List.mem_cons, List.not_mem_nil, or_false] at c445
      refine lv_iconst (v := 0) S.x S.b d_Mpg_make2_114 (by decide) ?_
      refine lv_istore_n (lv' := [(2, .int 0), (0, .ref h), (1, .int p0)]) S.x S.b d_Mpg_make2_115 rfl hl (by decide) rfl (fun ls hl => ?_)
      refine lv_aload_n S.x S.b d_Mpg_make2_116 rfl (lv_at hl 1 rfl) ?_
      refine px_get S k_Mpg hT hw 0 0 17 (v := .ref (r 17)) rfl rfl rfl (by decide) m10_1 d_Mpg_make2_117 ?_
      refine lv_iload_n S.x S.b d_Mpg_make2_120 rfl (lv_at hl 2 rfl) ?_
      refine px_iald S hT hw 0 13 (n := 2100) (f := (na 17)) rfl gp_17 (x := p0) (vp_in_iff.mpr (by constructor <;> omega)) d_Mpg_make2_121 ?_
      refine lv_topi (fun z486 ez486 => ?_)
      have lz486 := Int32.le_toInt z486
      have uz486 := Int32.toInt_lt z486
      have har := MkB.f3 hts hmk_p0 (by omega) ez486
      refine lv_istore_n (lv' := [(3, .int z486), (2, .int 0), (0, .ref h), (1, .int p0)]) S.x S.b d_Mpg_make2_122 rfl hl (by decide) rfl (fun ls hl => ?_)
      exact J123 (((pf 13).toInt - (p0.toInt + 1)).toNat + 1) ef ea (p0.toInt + 1) (wt - 1) (0 : Int32) z486 _ _ ls (show 0 ≤ (0 : Int) from by first | exact oz_5a341f00aa | omega) (show (0 : Int) + p0.toInt + 1 ≤ (p0.toInt + 1) from by first | exact oz_5323360a91 | omega) (show (p0.toInt + 1) ≤ (pf 13).toInt from by omega) (show (ef 60).toInt ≤ (ef 60).toInt from by first | exact oz_1cb5f934a5 | omega) (show (ef 60).toInt + (wt - 1) + 1 ≤ (ef 60).toInt + wt from by first | exact oz_b266494760 | omega) (show (ef 64).toInt = (ef 64).toInt from rfl) (show (ef 65).toInt = (ef 65).toInt from rfl) (show CdK ea ea (ef 60).toInt from hcd) (show (na 14 p0.toNatClampNeg).toInt = 3 from by omega) (show ArB ta (tf 6).toInt na ma0 ma ca V d (p0.toInt + 1) (pf 13).toInt (wt - 1) bh nf (ma 18 p0.toNatClampNeg).toInt (0 : Int) z486 from har) (show SgQ X9 (ea 61) (ef 60).toInt (ef 60).toInt fi S9 (aslots (tkl na ma0 ca (ma 18 p0.toNatClampNeg).toInt) ((0 : Int)).toNat ++ S9) lv9 from (hsg.tq (by omega) (by omega) (by rfl))) (show (pf 13).toInt - (p0.toInt + 1) < (((((pf 13).toInt - (p0.toInt + 1)).toNat + 1 : Nat) : Int) : Int) from by first | exact oz_natlt | omega) hw (lv_sub hl [2, 3, 1, 0] rfl)
    · simp only [List.mem_cons, List.not_mem_nil, or_false] at c445
      refine lv_aload_n S.x S.b d_Mpg_make2_268 rfl (lv_at hl 0 rfl) ?_
      refine lv_aload_n S.x S.b d_Mpg_make2_269 rfl (lv_at hl 0 rfl) ?_
      refine px_get S k_Mpg hT hw 0 0 17 (v := .ref (r 17)) rfl rfl rfl (by decide) m10_1 d_Mpg_make2_270 ?_
      refine lv_iload_n S.x S.b d_Mpg_make2_273 rfl (lv_at hl 1 rfl) ?_
      refine px_iald S hT hw 0 13 (n := 2100) (f := (na 17)) rfl gp_17 (x := p0) (vp_in_iff.mpr (by constructor <;> omega)) d_Mpg_make2_274 ?_
      refine lv_topi (fun z487 ez487 => ?_)
      have lz487 := Int32.le_toInt z487
      have uz487 := Int32.toInt_lt z487
      obtain ⟨hmk_z487, hsy4⟩ := MkB.f4 hts hmk_p0 (by omega) ez487; have hec_z487 := hmk_z487.ec; have hrg_z487 := EcV.rng hec_z487; have hnn_z487 := hmk_z487.nn
      refine px_callv (pr := []) (px_runV (As := [.int z487]) (rest := []) S (hLK ma0 ys ns nf (wt - 1) V vl vh X9 fi S9 lv9 bh h r g tf ta pf na ma wa cf ca xf xa ef ea z487 (show (pf 13).toInt ≤ 2100 from by first | exact g0 | omega) (show (tf 6).toInt ≤ 2049 from by first | exact g1 | omega) (show (cf 38).toInt = nf from by first | exact g2 | omega) (show 0 ≤ nf from by first | exact g3 | omega) (show 0 ≤ (ef 60).toInt from by first | exact g4 | omega) (show (ef 60).toInt + (wt - 1) ≤ 7000 from by first | exact oz_689fc9b9cc g5 | omega) (show (S9.length : Int) + bh ≤ X9.tall fi from by first | exact g6 | omega) htk (FnT.eq hft (by omega)) hfp han hts hcx hmk_z487 _) hT (pr := []) (pcs := [wdP cs h r g tf ta pf na ma wa cf ca ef ea xf xa]) hw (oX_call (P := (fun A U H => (oP A g U H))) (pr := []) oG_P hw hA hP) (px_recv hT hw 0 0 rfl rfl rfl) m13_90 m13_87 m13_89 ms_14_3 m1_21 q_Mpg_make2 ⟨show (2 * d + 10) + 1 ≤ (2 * (d + 1) + 10) from (by first | exact oz_ab1a9076e0 | omega), show 8 + (8 + 11) + (120 * d + 320) ≤ (120 * (d + 1) + 320) from (by first | exact oz_59e4787ab3 | omega)⟩ hl.1 rfl (Nat.le_of_ble_eq_true rfl) d_Mpg_make2_275 ⟨Nat.le_of_ble_eq_true rfl, Nat.le_of_ble_eq_true rfl⟩) hw hA (fun p492 H locs hp492 hw => ?_)
      obtain ⟨ef490, ea491, rfl, e494, e495, e496, e497, e498, e499⟩ := hp492
      have e494 : (ef 60).toInt ≤ (ef490 60).toInt := e494
      have e495 : (ef490 60).toInt ≤ (ef 60).toInt + (wt - 1) := e495
      have e496 : (ef490 64).toInt = (ef 64).toInt := e496
      have e497 : (ef490 65).toInt = (ef 65).toInt := e497
      have e498 : CdK ea ea491 (ef 60).toInt := e498
      have hcd := hcd.tr e498 (by omega)
      have e499 : SgQ X9 (ea491 61) (ef 60).toInt (ef490 60).toInt fi S9 (0 :: S9) lv9 := e499
      have hsg := hsg.ap e498 e499 (by omega)
      have hw : pw D A s.heap H locs [wdP cs h r g tf ta pf na ma wa cf ca ef490 ea491 xf xa] := hw
      refine lv_aload_n S.x S.b d_Mpg_make2_278 rfl (lv_at hl 0 rfl) ?_
      refine lv_iconst (v := 4) S.x S.b d_Mpg_make2_279 (by decide) ?_
      refine lv_aload_n S.x S.b d_Mpg_make2_280 rfl (lv_at hl 0 rfl) ?_
      refine px_get S k_Mpg hT hw 0 0 18 (v := .ref (r 18)) rfl rfl rfl (by decide) m10_3 d_Mpg_make2_281 ?_
      refine lv_iload_n S.x S.b d_Mpg_make2_284 rfl (lv_at hl 1 rfl) ?_
      refine px_iald S hT hw 0 14 (n := 2100) (f := (ma 18)) rfl gp_18 (x := p0) (vp_in_iff.mpr (by constructor <;> omega)) d_Mpg_make2_285 ?_
      refine lv_topi (fun z500 ez500 => ?_)
      have lz500 := Int32.le_toInt z500
      have uz500 := Int32.toInt_lt z500
      have rz500 : z500.toInt = (ma 18 p0.toNatClampNeg).toInt := by rw [ez500]
      refine lv_iconst (v := 0) S.x S.b d_Mpg_make2_286 (by decide) ?_
      refine px_calli (pr := []) (px_runV (As := [.int 4, .int z500, .int 0]) (rest := []) S (c_mp_emit l D cs h r g tf ta pf na ma wa cf ca xf xa ef490 ea491 4 z500 0  (show 0 ≤ (ef490 60).toInt from by first | exact oz_16d7fa9f32 e494 g4 | omega) (show (ef490 60).toInt < 7000 from by first | exact oz_f17f6cd5d6 e495 g5 | omega) _) hT (pr := []) (pcs := [wdP cs h r g tf ta pf na ma wa cf ca ef490 ea491 xf xa]) hw px_X.tt (px_recv hT hw 0 0 rfl rfl rfl) m13_86 m13_83 m13_85 ms_14_2 m1_21 q_Mpg_emit ⟨show 0 + 1 ≤ (2 * (d + 1) + 10) from (by first | exact oz_e5e3eaa915 | omega), show 8 + (4 + 11) + 0 ≤ (120 * (d + 1) + 320) from (by first | exact oz_de8ca50626 | omega)⟩ hl.1 rfl (Nat.le_of_ble_eq_true rfl) d_Mpg_make2_287 ⟨Nat.le_of_ble_eq_true rfl, Nat.le_of_ble_eq_true rfl⟩) hw hA (fun v506 p505 H locs hp505 hw => ?_)
      obtain ⟨ef503, ea504, rfl, e507, e508, e509, e510, e511⟩ := hp505
      have e507 : v506.toInt = (ef490 60).toInt := e507
      have e508 : (ef503 60).toInt = (ef490 60).toInt + 1 := e508
      have e509 : (ef503 64).toInt = (ef490 64).toInt := e509
      have e510 : (ef503 65).toInt = (ef490 65).toInt := e510
      have e511 : EmU ea491 ea504 (ef490 60) (4 : Int32) z500 (0 : Int32) := e511
      have hcd := hcd.tr e511.cd (by omega)
      have hsg := hsg.em e511 (by omega) rfl (by first | omega | (simp only [List.length_cons, List.length_append]; omega)) (hcx.elem (by rw [ez500]; exact hsy4) (Or.inl rfl))
      have hw : pw D A s.heap H locs [wdP cs h r g tf ta pf na ma wa cf ca ef503 ea504 xf xa] := hw
      have lv506 := Int32.le_toInt v506
      have uv506 := Int32.toInt_lt v506
      refine lv_pop S.x S.b d_Mpg_make2_290 rfl ?_
      refine lv_goto (tgt := 772) S.x S.b d_Mpg_make2_291 (by decide) ?_
      exact px_vret S hr hlk hAe hw (Nat.le_of_ble_eq_true rfl) (Nat.le_of_ble_eq_true rfl) (⟨ef503, ea504, rfl, (show (ef 60).toInt ≤ (ef503 60).toInt from by first | exact oz_887c409de9 e494 e508 | omega), (show (ef503 60).toInt ≤ (ef 60).toInt + wt from by first | exact oz_8a56fd6753 e495 e508 | omega), (show (ef503 64).toInt = (ef 64).toInt from by first | exact oz_1687f4cc65 e496 e509 | omega), (show (ef503 65).toInt = (ef 65).toInt from by first | exact oz_1687f4cc65 e497 e510 | omega), (show CdK ea ea504 (ef 60).toInt from hcd), (show SgQ X9 (ea504 61) (ef 60).toInt (ef503 60).toInt fi S9 (0 :: S9) lv9 from (hsg.tq (by omega) (by omega) rfl))⟩) d_Mpg_make2_772
    · simp only [List.mem_cons, List.not_mem_nil, or_false] at c445
      refine lv_aload_n S.x S.b d_Mpg_make2_294 rfl (lv_at hl 0 rfl) ?_
      refine px_get S k_Mpg hT hw 0 0 8 (v := .ref (r 8)) rfl rfl rfl (by decide) m9_232 d_Mpg_make2_295 ?_
      refine lv_aload_n S.x S.b d_Mpg_make2_298 rfl (lv_at hl 0 rfl) ?_
      refine px_get S k_Mpg hT hw 0 0 15 (v := .ref (r 15)) rfl rfl rfl (by decide) m9_239 d_Mpg_make2_299 ?_
      refine lv_iload_n S.x S.b d_Mpg_make2_302 rfl (lv_at hl 1 rfl) ?_
      refine px_iald S hT hw 0 11 (n := 2100) (f := (na 15)) rfl gp_15 (x := p0) (vp_in_iff.mpr (by constructor <;> omega)) d_Mpg_make2_303 ?_
      refine lv_topi (fun z512 ez512 => ?_)
      have lz512 := Int32.le_toInt z512
      have uz512 := Int32.toInt_lt z512
      have rz512 := EcV.tok hec_p0 ez512
      refine px_iald S hT hw 0 7 (n := 2060) (f := (ta 8)) rfl gp_8 (x := z512) (vp_in_iff.mpr (by constructor <;> omega)) d_Mpg_make2_304 ?_
      refine lv_topi (fun z513 ez513 => ?_)
      have lz513 := Int32.le_toInt z513
      have uz513 := Int32.toInt_lt z513
      have rz513 : z513.toInt = sz ta z512 := by rw [ez513]; rfl
      refine lv_iconst (v := 2) S.x S.b d_Mpg_make2_305 (by decide) ?_
      refine lv_icmp_ne (tgt := 318) S.x S.b d_Mpg_make2_306 (by decide) (fun c514 => ?_) (fun c514 => ?_)
      · have nc514 : ¬ z513.toInt = (2 : Int) := mt (i_eq (x := z513) (y := 2)).mpr c514
        refine lv_aload_n S.x S.b d_Mpg_make2_318 rfl (lv_at hl 0 rfl) ?_
        refine lv_aload_n S.x S.b d_Mpg_make2_319 rfl (lv_at hl 0 rfl) ?_
        refine px_get S k_Mpg hT hw 0 0 17 (v := .ref (r 17)) rfl rfl rfl (by decide) m10_1 d_Mpg_make2_320 ?_
        refine lv_iload_n S.x S.b d_Mpg_make2_323 rfl (lv_at hl 1 rfl) ?_
        refine px_iald S hT hw 0 13 (n := 2100) (f := (na 17)) rfl gp_17 (x := p0) (vp_in_iff.mpr (by constructor <;> omega)) d_Mpg_make2_324 ?_
        refine lv_topi (fun z516 ez516 => ?_)
        have lz516 := Int32.le_toInt z516
        have uz516 := Int32.toInt_lt z516
        have hmk_z516 := MkB.f5 hts hmk_p0 (by omega) ez516; have hec_z516 := hmk_z516.ec; have hrg_z516 := EcV.rng hec_z516; have hnn_z516 := hmk_z516.nn
        refine px_callv (pr := []) (px_runV (As := [.int z516]) (rest := []) S (hLK ma0 ys ns nf (wt - 1) V vl vh X9 fi S9 lv9 bh h r g tf ta pf na ma wa cf ca xf xa ef ea z516 (show (pf 13).toInt ≤ 2100 from by first | exact g0 | omega) (show (tf 6).toInt ≤ 2049 from by first | exact g1 | omega) (show (cf 38).toInt = nf from by first | exact g2 | omega) (show 0 ≤ nf from by first | exact g3 | omega) (show 0 ≤ (ef 60).toInt from by first | exact g4 | omega) (show (ef 60).toInt + (wt - 1) ≤ 7000 from by first | exact oz_689fc9b9cc g5 | omega) (show (S9.length : Int) + bh ≤ X9.tall fi from by first | exact g6 | omega) htk (FnT.eq hft (by omega)) hfp han hts hcx hmk_z516 _) hT (pr := []) (pcs := [wdP cs h r g tf ta pf na ma wa cf ca ef ea xf xa]) hw (oX_call (P := (fun A U H => (oP A g U H))) (pr := []) oG_P hw hA hP) (px_recv hT hw 0 0 rfl rfl rfl) m13_90 m13_87 m13_89 ms_14_3 m1_21 q_Mpg_make2 ⟨show (2 * d + 10) + 1 ≤ (2 * (d + 1) + 10) from (by first | exact oz_ab1a9076e0 | omega), show 8 + (8 + 11) + (120 * d + 320) ≤ (120 * (d + 1) + 320) from (by first | exact oz_59e4787ab3 | omega)⟩ hl.1 rfl (Nat.le_of_ble_eq_true rfl) d_Mpg_make2_325 ⟨Nat.le_of_ble_eq_true rfl, Nat.le_of_ble_eq_true rfl⟩) hw hA (fun p521 H locs hp521 hw => ?_)
        obtain ⟨ef519, ea520, rfl, e523, e524, e525, e526, e527, e528⟩ := hp521
        have e523 : (ef 60).toInt ≤ (ef519 60).toInt := e523
        have e524 : (ef519 60).toInt ≤ (ef 60).toInt + (wt - 1) := e524
        have e525 : (ef519 64).toInt = (ef 64).toInt := e525
        have e526 : (ef519 65).toInt = (ef 65).toInt := e526
        have e527 : CdK ea ea520 (ef 60).toInt := e527
        have hcd := hcd.tr e527 (by omega)
        have e528 : SgQ X9 (ea520 61) (ef 60).toInt (ef519 60).toInt fi S9 (0 :: S9) lv9 := e528
        have hsg := hsg.ap e527 e528 (by omega)
        have hw : pw D A s.heap H locs [wdP cs h r g tf ta pf na ma wa cf ca ef519 ea520 xf xa] := hw
        refine lv_aload_n S.x S.b d_Mpg_make2_328 rfl (lv_at hl 0 rfl) ?_
        refine lv_bipush (v := 10) S.x S.b d_Mpg_make2_329 (by decide) ?_
        refine lv_aload_n S.x S.b d_Mpg_make2_331 rfl (lv_at hl 0 rfl) ?_
        refine px_get S k_Mpg hT hw 0 0 4 (v := .ref (r 4)) rfl rfl rfl (by decide) m9_228 d_Mpg_make2_332 ?_
        refine lv_aload_n S.x S.b d_Mpg_make2_335 rfl (lv_at hl 0 rfl) ?_
        refine px_get S k_Mpg hT hw 0 0 7 (v := .ref (r 7)) rfl rfl rfl (by decide) m9_231 d_Mpg_make2_336 ?_
        refine lv_aload_n S.x S.b d_Mpg_make2_339 rfl (lv_at hl 0 rfl) ?_
        refine px_get S k_Mpg hT hw 0 0 15 (v := .ref (r 15)) rfl rfl rfl (by decide) m9_239 d_Mpg_make2_340 ?_
        refine lv_iload_n S.x S.b d_Mpg_make2_343 rfl (lv_at hl 1 rfl) ?_
        refine px_iald S hT hw 0 11 (n := 2100) (f := (na 15)) rfl gp_15 (x := p0) (vp_in_iff.mpr (by constructor <;> omega)) d_Mpg_make2_344 ?_
        refine lv_topi (fun z529 ez529 => ?_)
        have lz529 := Int32.le_toInt z529
        have uz529 := Int32.toInt_lt z529
        have rz529 := EcV.tok hec_p0 ez529
        refine px_iald S hT hw 0 6 (n := 2060) (f := (ta 7)) rfl gp_7 (x := z529) (vp_in_iff.mpr (by constructor <;> omega)) d_Mpg_make2_345 ?_
        refine lv_topi (fun z530 ez530 => ?_)
        have lz530 := Int32.le_toInt z530
        have uz530 := Int32.toInt_lt z530
        have rz530 : z530.toInt = bp ta z529 := by rw [ez530]; rfl
        have hz5 := tk_z5 htk (x := z529) (by omega) (by omega) (by rw [ez529]; exact EcV.n9 hec_p0 (by omega)); have hb5 := tk_b htk (x := z529) (by omega) (by omega)
        refine px_bald S hT hw 0 5 (n := 2048) (f := (ta 4)) rfl gp_4 (x := z530) (vp_in_iff.mpr (by first | exact oz_eacedfd6de rz530 hb5.1 hb5.2.2.1 hz5 hb5.2.2.2 | (constructor <;> omega))) d_Mpg_make2_346 ?_
        refine lv_topi (fun z531 ez531 => ?_)
        have lz531 := Int32.le_toInt z531
        have uz531 := Int32.toInt_lt z531
        refine lv_iconst (v := 0) S.x S.b d_Mpg_make2_347 (by decide) ?_
        refine px_calli (pr := []) (px_runV (As := [.int 10, .int z531, .int 0]) (rest := []) S (c_mp_emit l D cs h r g tf ta pf na ma wa cf ca xf xa ef519 ea520 10 z531 0  (show 0 ≤ (ef519 60).toInt from by first | exact oz_16d7fa9f32 e523 g4 | omega) (show (ef519 60).toInt < 7000 from by first | exact oz_f17f6cd5d6 e524 g5 | omega) _) hT (pr := []) (pcs := [wdP cs h r g tf ta pf na ma wa cf ca ef519 ea520 xf xa]) hw px_X.tt (px_recv hT hw 0 0 rfl rfl rfl) m13_86 m13_83 m13_85 ms_14_2 m1_21 q_Mpg_emit ⟨show 0 + 1 ≤ (2 * (d + 1) + 10) from (by first | exact oz_e5e3eaa915 | omega), show 8 + (4 + 11) + 0 ≤ (120 * (d + 1) + 320) from (by first | exact oz_de8ca50626 | omega)⟩ hl.1 rfl (Nat.le_of_ble_eq_true rfl) d_Mpg_make2_348 ⟨Nat.le_of_ble_eq_true rfl, Nat.le_of_ble_eq_true rfl⟩) hw hA (fun v537 p536 H locs hp536 hw => ?_)
        obtain ⟨ef534, ea535, rfl, e538, e539, e540, e541, e542⟩ := hp536
        have e538 : v537.toInt = (ef519 60).toInt := e538
        have e539 : (ef534 60).toInt = (ef519 60).toInt + 1 := e539
        have e540 : (ef534 64).toInt = (ef519 64).toInt := e540
        have e541 : (ef534 65).toInt = (ef519 65).toInt := e541
        have e542 : EmU ea520 ea535 (ef519 60) (10 : Int32) z531 (0 : Int32) := e542
        have hcd := hcd.tr e542.cd (by omega)
        have hsg := hsg.em e542 (by omega) rfl (by first | omega | (simp only [List.length_cons, List.length_append]; omega)) (.alone S9 rfl)
        have hw : pw D A s.heap H locs [wdP cs h r g tf ta pf na ma wa cf ca ef534 ea535 xf xa] := hw
        have lv537 := Int32.le_toInt v537
        have uv537 := Int32.toInt_lt v537
        refine lv_pop S.x S.b d_Mpg_make2_351 rfl ?_
        refine lv_goto (tgt := 772) S.x S.b d_Mpg_make2_352 (by decide) ?_
        exact px_vret S hr hlk hAe hw (Nat.le_of_ble_eq_true rfl) (Nat.le_of_ble_eq_true rfl) (⟨ef534, ea535, rfl, (show (ef 60).toInt ≤ (ef534 60).toInt from by first | exact oz_887c409de9 e523 e539 | omega), (show (ef534 60).toInt ≤ (ef 60).toInt + wt from by first | exact oz_8a56fd6753 e524 e539 | omega), (show (ef534 64).toInt = (ef 64).toInt from by first | exact oz_1687f4cc65 e525 e540 | omega), (show (ef534 65).toInt = (ef 65).toInt from by first | exact oz_1687f4cc65 e526 e541 | omega), (show CdK ea ea535 (ef 60).toInt from hcd), (show SgQ X9 (ea535 61) (ef 60).toInt (ef534 60).toInt fi S9 (0 :: S9) lv9 from (hsg.tq (by omega) (by omega) rfl))⟩) d_Mpg_make2_772
      · have nc514 : z513.toInt = (2 : Int) := (i_eq (x := z513) (y := 2)).mp c514
        refine lv_aload_n S.x S.b d_Mpg_make2_309 rfl (lv_at hl 0 rfl) ?_
        have hszq : sz ta (na 15 p0.toNatClampNeg) = 2 := (by rw [← ez512]; omega)
        refine lv_iload_n S.x S.b d_Mpg_make2_310 rfl (lv_at hl 1 rfl) ?_
        refine lv_iconst (v := 2) S.x S.b d_Mpg_make2_311 (by decide) ?_
        refine px_callv (pr := []) (px_runV (As := [.int p0, .int 2]) (rest := []) S (c_mp_makeStep l D cs ma0 ys ns nf d wt V vl vh X9 fi S9 lv9 bh h r g tf ta pf na ma wa cf ca xf xa ef ea p0 2  (show (pf 13).toInt ≤ 2100 from by first | exact g0 | omega) (show (tf 6).toInt ≤ 2049 from by first | exact g1 | omega) (show (cf 38).toInt = nf from by first | exact g2 | omega) (show 0 ≤ nf from by first | exact g3 | omega) (show 0 ≤ (ef 60).toInt from by first | exact g4 | omega) (show (ef 60).toInt + wt ≤ 7000 from by first | exact g5 | omega) (show (S9.length : Int) + bh ≤ X9.tall fi from by first | exact g6 | omega) (show ((na 14 p0.toNatClampNeg).toInt = 5 ∧ sz ta (na 15 p0.toNatClampNeg) = 2) ∨ (na 14 p0.toNatClampNeg).toInt = 6 from by omega) htk (FnT.eq hft (by omega)) hfp han hts hcx hmk_p0 hLK _) hT (pr := []) (pcs := [wdP cs h r g tf ta pf na ma wa cf ca ef ea xf xa]) hw (oX_call (P := (fun A U H => (oP A g U H))) (pr := []) oG_P hw hA hP) (px_recv hT hw 0 0 rfl rfl rfl) m13_94 m13_91 m13_93 ms_14_4 m1_21 q_Mpg_makeStep ⟨show (2 * d + 11) + 1 ≤ (2 * (d + 1) + 10) from (by first | exact oz_de31cc35be | omega), show 8 + (5 + 11) + (120 * d + 380) ≤ (120 * (d + 1) + 320) from (by first | exact oz_8434db3628 | omega)⟩ hl.1 rfl (Nat.le_of_ble_eq_true rfl) d_Mpg_make2_312 ⟨Nat.le_of_ble_eq_true rfl, Nat.le_of_ble_eq_true rfl⟩) hw hA (fun p547 H locs hp547 hw => ?_)
        obtain ⟨ef545, ea546, rfl, e549, e550, e551, e552, e553, e554⟩ := hp547
        have e549 : (ef 60).toInt ≤ (ef545 60).toInt := e549
        have e550 : (ef545 60).toInt ≤ (ef 60).toInt + wt := e550
        have e551 : (ef545 64).toInt = (ef 64).toInt := e551
        have e552 : (ef545 65).toInt = (ef 65).toInt := e552
        have e553 : CdK ea ea546 (ef 60).toInt := e553
        have hcd := hcd.tr e553 (by omega)
        have e554 : SgQ X9 (ea546 61) (ef 60).toInt (ef545 60).toInt fi S9 (0 :: S9) lv9 := e554
        have hsg := hsg.ap e553 e554 (by omega)
        have hw : pw D A s.heap H locs [wdP cs h r g tf ta pf na ma wa cf ca ef545 ea546 xf xa] := hw
        refine lv_goto (tgt := 772) S.x S.b d_Mpg_make2_315 (by decide) ?_
        exact px_vret S hr hlk hAe hw (Nat.le_of_ble_eq_true rfl) (Nat.le_of_ble_eq_true rfl) (⟨ef545, ea546, rfl, (show (ef 60).toInt ≤ (ef545 60).toInt from by first | exact e549 | omega), (show (ef545 60).toInt ≤ (ef 60).toInt + wt from by first | exact e550 | omega), (show (ef545 64).toInt = (ef 64).toInt from by first | exact e551 | omega), (show (ef545 65).toInt = (ef 65).toInt from by first | exact e552 | omega), (show CdK ea ea546 (ef 60).toInt from hcd), (show SgQ X9 (ea546 61) (ef 60).toInt (ef545 60).toInt fi S9 (0 :: S9) lv9 from (hsg.tq (by omega) (by omega) rfl))⟩) d_Mpg_make2_772
    · simp only [List.mem_cons, List.not_mem_nil, or_false] at c445
      refine lv_aload_n S.x S.b d_Mpg_make2_355 rfl (lv_at hl 0 rfl) ?_
      refine lv_iload_n S.x S.b d_Mpg_make2_356 rfl (lv_at hl 1 rfl) ?_
      refine lv_iconst (v := 0) S.x S.b d_Mpg_make2_357 (by decide) ?_
      refine px_callv (pr := []) (px_runV (As := [.int p0, .int 0]) (rest := []) S (c_mp_makeStep l D cs ma0 ys ns nf d wt V vl vh X9 fi S9 lv9 bh h r g tf ta pf na ma wa cf ca xf xa ef ea p0 0  (show (pf 13).toInt ≤ 2100 from by first | exact g0 | omega) (show (tf 6).toInt ≤ 2049 from by first | exact g1 | omega) (show (cf 38).toInt = nf from by first | exact g2 | omega) (show 0 ≤ nf from by first | exact g3 | omega) (show 0 ≤ (ef 60).toInt from by first | exact g4 | omega) (show (ef 60).toInt + wt ≤ 7000 from by first | exact g5 | omega) (show (S9.length : Int) + bh ≤ X9.tall fi from by first | exact g6 | omega) (show ((na 14 p0.toNatClampNeg).toInt = 5 ∧ sz ta (na 15 p0.toNatClampNeg) = 2) ∨ (na 14 p0.toNatClampNeg).toInt = 6 from by omega) htk (FnT.eq hft (by omega)) hfp han hts hcx hmk_p0 hLK _) hT (pr := []) (pcs := [wdP cs h r g tf ta pf na ma wa cf ca ef ea xf xa]) hw (oX_call (P := (fun A U H => (oP A g U H))) (pr := []) oG_P hw hA hP) (px_recv hT hw 0 0 rfl rfl rfl) m13_94 m13_91 m13_93 ms_14_4 m1_21 q_Mpg_makeStep ⟨show (2 * d + 11) + 1 ≤ (2 * (d + 1) + 10) from (by first | exact oz_de31cc35be | omega), show 8 + (5 + 11) + (120 * d + 380) ≤ (120 * (d + 1) + 320) from (by first | exact oz_8434db3628 | omega)⟩ hl.1 rfl (Nat.le_of_ble_eq_true rfl) d_Mpg_make2_358 ⟨Nat.le_of_ble_eq_true rfl, Nat.le_of_ble_eq_true rfl⟩) hw hA (fun p559 H locs hp559 hw => ?_)
      obtain ⟨ef557, ea558, rfl, e561, e562, e563, e564, e565, e566⟩ := hp559
      have e561 : (ef 60).toInt ≤ (ef557 60).toInt := e561
      have e562 : (ef557 60).toInt ≤ (ef 60).toInt + wt := e562
      have e563 : (ef557 64).toInt = (ef 64).toInt := e563
      have e564 : (ef557 65).toInt = (ef 65).toInt := e564
      have e565 : CdK ea ea558 (ef 60).toInt := e565
      have hcd := hcd.tr e565 (by omega)
      have e566 : SgQ X9 (ea558 61) (ef 60).toInt (ef557 60).toInt fi S9 (0 :: S9) lv9 := e566
      have hsg := hsg.ap e565 e566 (by omega)
      have hw : pw D A s.heap H locs [wdP cs h r g tf ta pf na ma wa cf ca ef557 ea558 xf xa] := hw
      refine lv_goto (tgt := 772) S.x S.b d_Mpg_make2_361 (by decide) ?_
      exact px_vret S hr hlk hAe hw (Nat.le_of_ble_eq_true rfl) (Nat.le_of_ble_eq_true rfl) (⟨ef557, ea558, rfl, (show (ef 60).toInt ≤ (ef557 60).toInt from by first | exact e561 | omega), (show (ef557 60).toInt ≤ (ef 60).toInt + wt from by first | exact e562 | omega), (show (ef557 64).toInt = (ef 64).toInt from by first | exact e563 | omega), (show (ef557 65).toInt = (ef 65).toInt from by first | exact e564 | omega), (show CdK ea ea558 (ef 60).toInt from hcd), (show SgQ X9 (ea558 61) (ef 60).toInt (ef557 60).toInt fi S9 (0 :: S9) lv9 from (hsg.tq (by omega) (by omega) rfl))⟩) d_Mpg_make2_772
    · simp only [List.mem_cons, List.not_mem_nil, or_false] at c445
      refine lv_aload_n S.x S.b d_Mpg_make2_364 rfl (lv_at hl 0 rfl) ?_
      refine lv_aload_n S.x S.b d_Mpg_make2_365 rfl (lv_at hl 0 rfl) ?_
      refine px_get S k_Mpg hT hw 0 0 17 (v := .ref (r 17)) rfl rfl rfl (by decide) m10_1 d_Mpg_make2_366 ?_
      refine lv_iload_n S.x S.b d_Mpg_make2_369 rfl (lv_at hl 1 rfl) ?_
      refine px_iald S hT hw 0 13 (n := 2100) (f := (na 17)) rfl gp_17 (x := p0) (vp_in_iff.mpr (by constructor <;> omega)) d_Mpg_make2_370 ?_
      refine lv_topi (fun z567 ez567 => ?_)
      have lz567 := Int32.le_toInt z567
      have uz567 := Int32.toInt_lt z567
      obtain ⟨mc, w1, w2, hmc, hmk_z567, hrm, hw7⟩ := MkB.f7 hts han hmk_p0 (by omega) ez567; have hec_z567 := hmk_z567.ec; have hrg_z567 := EcV.rng hec_z567; have hnn_z567 := hmk_z567.nn
      refine px_callv (pr := []) (px_runV (As := [.int z567]) (rest := []) S (hLK ma0 ys ns nf w1 V vl vh X9 fi S9 lv9 bh h r g tf ta pf na ma wa cf ca xf xa ef ea z567 (show (pf 13).toInt ≤ 2100 from by first | exact g0 | omega) (show (tf 6).toInt ≤ 2049 from by first | exact g1 | omega) (show (cf 38).toInt = nf from by first | exact g2 | omega) (show 0 ≤ nf from by first | exact g3 | omega) (show 0 ≤ (ef 60).toInt from by first | exact g4 | omega) (show (ef 60).toInt + w1 ≤ 7000 from by first | exact oz_7ced39cc50 g5 hw7.2.2.2 hw7.2.1 | omega) (show (S9.length : Int) + bh ≤ X9.tall fi from by first | exact g6 | omega) htk (FnT.eq hft (by omega)) hfp han hts hcx hmk_z567 _) hT (pr := []) (pcs := [wdP cs h r g tf ta pf na ma wa cf ca ef ea xf xa]) hw (oX_call (P := (fun A U H => (oP A g U H))) (pr := []) oG_P hw hA hP) (px_recv hT hw 0 0 rfl rfl rfl) m13_90 m13_87 m13_89 ms_14_3 m1_21 q_Mpg_make2 ⟨show (2 * d + 10) + 1 ≤ (2 * (d + 1) + 10) from (by first | exact oz_ab1a9076e0 | omega), show 8 + (8 + 11) + (120 * d + 320) ≤ (120 * (d + 1) + 320) from (by first | exact oz_59e4787ab3 | omega)⟩ hl.1 rfl (Nat.le_of_ble_eq_true rfl) d_Mpg_make2_371 ⟨Nat.le_of_ble_eq_true rfl, Nat.le_of_ble_eq_true rfl⟩) hw hA (fun p572 H locs hp572 hw => ?_)
      obtain ⟨ef570, ea571, rfl, e574, e575, e576, e577, e578, e579⟩ := hp572
      have e574 : (ef 60).toInt ≤ (ef570 60).toInt := e574
      have e575 : (ef570 60).toInt ≤ (ef 60).toInt + w1 := e575
      have e576 : (ef570 64).toInt = (ef 64).toInt := e576
      have e577 : (ef570 65).toInt = (ef 65).toInt := e577
      have e578 : CdK ea ea571 (ef 60).toInt := e578
      have hcd := hcd.tr e578 (by omega)
      have e579 : SgQ X9 (ea571 61) (ef 60).toInt (ef570 60).toInt fi S9 (0 :: S9) lv9 := e579
      have hsg := hsg.ap e578 e579 (by omega)
      have hw : pw D A s.heap H locs [wdP cs h r g tf ta pf na ma wa cf ca ef570 ea571 xf xa] := hw
      refine lv_iconst (v := (-1)) S.x S.b d_Mpg_make2_374 (by decide) ?_
      refine lv_istore_n (lv' := [(3, .int (-1)), (0, .ref h), (1, .int p0)]) S.x S.b d_Mpg_make2_375 rfl hl (by decide) rfl (fun ls hl => ?_)
      refine lv_aload_n S.x S.b d_Mpg_make2_376 rfl (lv_at hl 1 rfl) ?_
      refine px_get S k_Mpg hT hw 0 0 21 (v := .ref (r 21)) rfl rfl rfl (by decide) m10_7 d_Mpg_make2_377 ?_
      refine lv_aload_n S.x S.b d_Mpg_make2_380 rfl (lv_at hl 1 rfl) ?_
      refine px_get S k_Mpg hT hw 0 0 17 (v := .ref (r 17)) rfl rfl rfl (by decide) m10_1 d_Mpg_make2_381 ?_
      refine lv_iload_n S.x S.b d_Mpg_make2_384 rfl (lv_at hl 2 rfl) ?_
      refine px_iald S hT hw 0 13 (n := 2100) (f := (na 17)) rfl gp_17 (x := p0) (vp_in_iff.mpr (by constructor <;> omega)) d_Mpg_make2_385 ?_
      refine lv_topi (fun z580 ez580 => ?_)
      have lz580 := Int32.le_toInt z580
      have uz580 := Int32.toInt_lt z580
      have hsz580 : z567 = z580 := ez567.trans ez580.symm; subst hsz580
      refine px_iald S hT hw 0 17 (n := 2100) (f := (na 21)) rfl gp_21 (x := z567) (vp_in_iff.mpr (by constructor <;> omega)) d_Mpg_make2_386 ?_
      refine lv_topi (fun z581 ez581 => ?_)
      have lz581 := Int32.le_toInt z581
      have uz581 := Int32.toInt_lt z581
      refine lv_istore (lv' := [(4, .int z581), (3, .int (-1)), (0, .ref h), (1, .int p0)]) S.x S.b d_Mpg_make2_387 hl (by decide) rfl (fun ls hl => ?_)
      exact J389 (((pf 13).toInt - mc).toNat + 1) ef570 ea571 mc w2 (-1) z581 _ _ ls (show 0 ≤ mc from by first | exact hmc.1 | omega) (show mc ≤ (pf 13).toInt from by first | exact oz_fdad9fdf0a hmc.2 | omega) (show (ef 60).toInt ≤ (ef570 60).toInt from by first | exact e574 | omega) (show (ef570 60).toInt + w2 ≤ (ef 60).toInt + wt from by first | exact oz_68a3de4aae hw7.2.2.2 e575 | omega) (show (ma 22 p0.toNatClampNeg).toInt < 3 → (ef570 60).toInt + w2 + 4 ≤ (ef 60).toInt + wt from by omega) (show (ef570 64).toInt = (ef 64).toInt from by first | exact e576 | omega) (show (ef570 65).toInt = (ef 65).toInt from by first | exact e577 | omega) (show CdK ea ea571 (ef 60).toInt from hcd) (show (na 14 p0.toNatClampNeg).toInt = 7 from by omega) (show RvM ta (tf 6).toInt na ma0 ma ca V d mc (pf 13).toInt w2 bh z581 from (by rw [ez581]; exact hrm)) (show ChI X9 (ea571 61) (ef 60).toInt (ef570 60).toInt fi S9 lv9 (-1) (ma 22 p0.toNatClampNeg).toInt from (chi_0 (hsg.tq (by omega) (by omega) rfl) (by decide))) (show (pf 13).toInt - mc < (((((pf 13).toInt - mc).toNat + 1 : Nat) : Int) : Int) from by first | exact oz_natlt | omega) hw (lv_sub hl [2, 3, 1, 0] rfl)
    · simp only [List.mem_cons, List.not_mem_nil, or_false] at c445
      refine lv_aload_n S.x S.b d_Mpg_make2_580 rfl (lv_at hl 0 rfl) ?_
      refine lv_aload_n S.x S.b d_Mpg_make2_581 rfl (lv_at hl 0 rfl) ?_
      refine px_get S k_Mpg hT hw 0 0 17 (v := .ref (r 17)) rfl rfl rfl (by decide) m10_1 d_Mpg_make2_582 ?_
      refine lv_iload_n S.x S.b d_Mpg_make2_585 rfl (lv_at hl 1 rfl) ?_
      refine px_iald S hT hw 0 13 (n := 2100) (f := (na 17)) rfl gp_17 (x := p0) (vp_in_iff.mpr (by constructor <;> omega)) d_Mpg_make2_586 ?_
      refine lv_topi (fun z582 ez582 => ?_)
      have lz582 := Int32.le_toInt z582
      have uz582 := Int32.toInt_lt z582
      obtain ⟨w1, w2, w3, hmk_z582, hmk_y8, hmk_x8, hw8⟩ := MkB.f8 hts han hmk_p0 (by omega) ez582; have hec_z582 := hmk_z582.ec; have hrg_z582 := EcV.rng hec_z582; have hnn_z582 := hmk_z582.nn
      refine px_callv (pr := []) (px_runV (As := [.int z582]) (rest := []) S (hLK ma0 ys ns nf w1 V vl vh X9 fi S9 lv9 bh h r g tf ta pf na ma wa cf ca xf xa ef ea z582 (show (pf 13).toInt ≤ 2100 from by first | exact g0 | omega) (show (tf 6).toInt ≤ 2049 from by first | exact g1 | omega) (show (cf 38).toInt = nf from by first | exact g2 | omega) (show 0 ≤ nf from by first | exact g3 | omega) (show 0 ≤ (ef 60).toInt from by first | exact g4 | omega) (show (ef 60).toInt + w1 ≤ 7000 from by omega) (show (S9.length : Int) + bh ≤ X9.tall fi from by first | exact g6 | omega) htk (FnT.eq hft (by omega)) hfp han hts hcx hmk_z582 _) hT (pr := []) (pcs := [wdP cs h r g tf ta pf na ma wa cf ca ef ea xf xa]) hw (oX_call (P := (fun A U H => (oP A g U H))) (pr := []) oG_P hw hA hP) (px_recv hT hw 0 0 rfl rfl rfl) m13_90 m13_87 m13_89 ms_14_3 m1_21 q_Mpg_make2 ⟨show (2 * d + 10) + 1 ≤ (2 * (d + 1) + 10) from (by first | exact oz_ab1a9076e0 | omega), show 8 + (8 + 11) + (120 * d + 320) ≤ (120 * (d + 1) + 320) from (by first | exact oz_59e4787ab3 | omega)⟩ hl.1 rfl (Nat.le_of_ble_eq_true rfl) d_Mpg_make2_587 ⟨Nat.le_of_ble_eq_true rfl, Nat.le_of_ble_eq_true rfl⟩) hw hA (fun p587 H locs hp587 hw => ?_)
      obtain ⟨ef585, ea586, rfl, e589, e590, e591, e592, e593, e594⟩ := hp587
      have e589 : (ef 60).toInt ≤ (ef585 60).toInt := e589
      have e590 : (ef585 60).toInt ≤ (ef 60).toInt + w1 := e590
      have e591 : (ef585 64).toInt = (ef 64).toInt := e591
      have e592 : (ef585 65).toInt = (ef 65).toInt := e592
      have e593 : CdK ea ea586 (ef 60).toInt := e593
      have hcd := hcd.tr e593 (by omega)
      have e594 : SgQ X9 (ea586 61) (ef 60).toInt (ef585 60).toInt fi S9 (0 :: S9) lv9 := e594
      have hsg := hsg.ap e593 e594 (by omega)
      have hw : pw D A s.heap H locs [wdP cs h r g tf ta pf na ma wa cf ca ef585 ea586 xf xa] := hw
      refine lv_aload_n S.x S.b d_Mpg_make2_590 rfl (lv_at hl 0 rfl) ?_
      refine lv_bipush (v := 13) S.x S.b d_Mpg_make2_591 (by decide) ?_
      refine lv_iconst (v := 0) S.x S.b d_Mpg_make2_593 (by decide) ?_
      refine lv_iconst (v := 0) S.x S.b d_Mpg_make2_594 (by decide) ?_
      refine px_calli (pr := []) (px_runV (As := [.int 13, .int 0, .int 0]) (rest := []) S (c_mp_emit l D cs h r g tf ta pf na ma wa cf ca xf xa ef585 ea586 13 0 0  (show 0 ≤ (ef585 60).toInt from by first | exact oz_16d7fa9f32 e589 g4 | omega) (show (ef585 60).toInt < 7000 from by omega) _) hT (pr := []) (pcs := [wdP cs h r g tf ta pf na ma wa cf ca ef585 ea586 xf xa]) hw px_X.tt (px_recv hT hw 0 0 rfl rfl rfl) m13_86 m13_83 m13_85 ms_14_2 m1_21 q_Mpg_emit ⟨show 0 + 1 ≤ (2 * (d + 1) + 10) from (by first | exact oz_e5e3eaa915 | omega), show 8 + (4 + 11) + 0 ≤ (120 * (d + 1) + 320) from (by first | exact oz_de8ca50626 | omega)⟩ hl.1 rfl (Nat.le_of_ble_eq_true rfl) d_Mpg_make2_595 ⟨Nat.le_of_ble_eq_true rfl, Nat.le_of_ble_eq_true rfl⟩) hw hA (fun v600 p599 H locs hp599 hw => ?_)
      obtain ⟨ef597, ea598, rfl, e601, e602, e603, e604, e605⟩ := hp599
      have e601 : v600.toInt = (ef585 60).toInt := e601
      have e602 : (ef597 60).toInt = (ef585 60).toInt + 1 := e602
      have e603 : (ef597 64).toInt = (ef585 64).toInt := e603
      have e604 : (ef597 65).toInt = (ef585 65).toInt := e604
      have e605 : EmU ea586 ea598 (ef585 60) (13 : Int32) (0 : Int32) (0 : Int32) := e605
      have hcd := hcd.tr e605.cd (by omega)
      have hw : pw D A s.heap H locs [wdP cs h r g tf ta pf na ma wa cf ca ef597 ea598 xf xa] := hw
      have lv600 := Int32.le_toInt v600
      have uv600 := Int32.toInt_lt v600
      refine lv_istore (lv' := [(4, .int v600), (0, .ref h), (1, .int p0)]) S.x S.b d_Mpg_make2_598 hl (by decide) rfl (fun ls hl => ?_)
      refine lv_aload_n S.x S.b d_Mpg_make2_600 rfl (lv_at hl 1 rfl) ?_
      refine lv_aload_n S.x S.b d_Mpg_make2_601 rfl (lv_at hl 1 rfl) ?_
      refine px_get S k_Mpg hT hw 0 0 18 (v := .ref (r 18)) rfl rfl rfl (by decide) m10_3 d_Mpg_make2_602 ?_
      refine lv_iload_n S.x S.b d_Mpg_make2_605 rfl (lv_at hl 2 rfl) ?_
      refine px_iald S hT hw 0 14 (n := 2100) (f := (ma 18)) rfl gp_18 (x := p0) (vp_in_iff.mpr (by constructor <;> omega)) d_Mpg_make2_606 ?_
      refine lv_topi (fun z606 ez606 => ?_)
      have lz606 := Int32.le_toInt z606
      have uz606 := Int32.toInt_lt z606
      have rz606 : z606.toInt = (ma 18 p0.toNatClampNeg).toInt := by rw [ez606]
      have hmk_z606 : MkB ta (tf 6).toInt na ma0 ma ca V d (pf 13).toInt w2 bh z606 := (by rw [ez606]; exact hmk_y8); have hec_z606 := hmk_z606.ec; have hrg_z606 := EcV.rng hec_z606; have hnn_z606 := hmk_z606.nn
      refine px_callv (pr := []) (px_runV (As := [.int z606]) (rest := []) S (hLK ma0 ys ns nf w2 V vl vh X9 fi S9 lv9 bh h r g tf ta pf na ma wa cf ca xf xa ef597 ea598 z606 (show (pf 13).toInt ≤ 2100 from by first | exact g0 | omega) (show (tf 6).toInt ≤ 2049 from by first | exact g1 | omega) (show (cf 38).toInt = nf from by first | exact g2 | omega) (show 0 ≤ nf from by first | exact g3 | omega) (show 0 ≤ (ef597 60).toInt from by first | exact oz_2188d1bf01 e602 e589 g4 | omega) (show (ef597 60).toInt + w2 ≤ 7000 from by omega) (show (S9.length : Int) + bh ≤ X9.tall fi from by first | exact g6 | omega) htk (FnT.eq hft (by omega)) hfp han hts hcx hmk_z606 _) hT (pr := []) (pcs := [wdP cs h r g tf ta pf na ma wa cf ca ef597 ea598 xf xa]) hw (oX_call (P := (fun A U H => (oP A g U H))) (pr := []) oG_P hw hA hP) (px_recv hT hw 0 0 rfl rfl rfl) m13_90 m13_87 m13_89 ms_14_3 m1_21 q_Mpg_make2 ⟨show (2 * d + 10) + 1 ≤ (2 * (d + 1) + 10) from (by first | exact oz_ab1a9076e0 | omega), show 8 + (8 + 11) + (120 * d + 320) ≤ (120 * (d + 1) + 320) from (by first | exact oz_59e4787ab3 | omega)⟩ hl.1 rfl (Nat.le_of_ble_eq_true rfl) d_Mpg_make2_607 ⟨Nat.le_of_ble_eq_true rfl, Nat.le_of_ble_eq_true rfl⟩) hw hA (fun p611 H locs hp611 hw => ?_)
      obtain ⟨ef609, ea610, rfl, e613, e614, e615, e616, e617, e618⟩ := hp611
      have e613 : (ef597 60).toInt ≤ (ef609 60).toInt := e613
      have e614 : (ef609 60).toInt ≤ (ef597 60).toInt + w2 := e614
      have e615 : (ef609 64).toInt = (ef597 64).toInt := e615
      have e616 : (ef609 65).toInt = (ef597 65).toInt := e616
      have e617 : CdK ea598 ea610 (ef597 60).toInt := e617
      have hcd := hcd.tr e617 (by omega)
      have e618 : SgQ X9 (ea610 61) (ef597 60).toInt (ef609 60).toInt fi S9 (0 :: S9) lv9 := e618
      have hw : pw D A s.heap H locs [wdP cs h r g tf ta pf na ma wa cf ca ef609 ea610 xf xa] := hw
      refine lv_aload_n S.x S.b d_Mpg_make2_610 rfl (lv_at hl 1 rfl) ?_
      refine lv_bipush (v := 12) S.x S.b d_Mpg_make2_611 (by decide) ?_
      refine lv_iconst (v := 0) S.x S.b d_Mpg_make2_613 (by decide) ?_
      refine lv_iconst (v := 0) S.x S.b d_Mpg_make2_614 (by decide) ?_
      refine px_calli (pr := []) (px_runV (As := [.int 12, .int 0, .int 0]) (rest := []) S (c_mp_emit l D cs h r g tf ta pf na ma wa cf ca xf xa ef609 ea610 12 0 0  (show 0 ≤ (ef609 60).toInt from by first | exact oz_6501cbe7e5 e613 e602 e589 g4 | omega) (show (ef609 60).toInt < 7000 from by omega) _) hT (pr := []) (pcs := [wdP cs h r g tf ta pf na ma wa cf ca ef609 ea610 xf xa]) hw px_X.tt (px_recv hT hw 0 0 rfl rfl rfl) m13_86 m13_83 m13_85 ms_14_2 m1_21 q_Mpg_emit ⟨show 0 + 1 ≤ (2 * (d + 1) + 10) from (by first | exact oz_e5e3eaa915 | omega), show 8 + (4 + 11) + 0 ≤ (120 * (d + 1) + 320) from (by first | exact oz_de8ca50626 | omega)⟩ hl.1 rfl (Nat.le_of_ble_eq_true rfl) d_Mpg_make2_615 ⟨Nat.le_of_ble_eq_true rfl, Nat.le_of_ble_eq_true rfl⟩) hw hA (fun v624 p623 H locs hp623 hw => ?_)
      obtain ⟨ef621, ea622, rfl, e625, e626, e627, e628, e629⟩ := hp623
      have e625 : v624.toInt = (ef609 60).toInt := e625
      have e626 : (ef621 60).toInt = (ef609 60).toInt + 1 := e626
      have e627 : (ef621 64).toInt = (ef609 64).toInt := e627
      have e628 : (ef621 65).toInt = (ef609 65).toInt := e628
      have e629 : EmU ea610 ea622 (ef609 60) (12 : Int32) (0 : Int32) (0 : Int32) := e629
      have hcd := hcd.tr e629.cd (by omega)
      have hw : pw D A s.heap H locs [wdP cs h r g tf ta pf na ma wa cf ca ef621 ea622 xf xa] := hw
      have lv624 := Int32.le_toInt v624
      have uv624 := Int32.toInt_lt v624
      refine lv_istore (lv' := [(5, .int v624), (4, .int v600), (0, .ref h), (1, .int p0)]) S.x S.b d_Mpg_make2_618 hl (by decide) rfl (fun ls hl => ?_)
      refine lv_aload_n S.x S.b d_Mpg_make2_620 rfl (lv_at hl 2 rfl) ?_
      refine lv_iload S.x S.b d_Mpg_make2_621 (lv_at hl 1 rfl) ?_
      refine px_callv (pr := []) (px_runV (As := [.int v600]) (rest := []) S (c_mp_land l D cs h r g tf ta pf na ma wa cf ca ef621 xf xa ea622 v600  (show 0 ≤ v600.toInt from by first | exact oz_9921a0d148 e601 e589 g4 | omega) (show v600.toInt < 7000 from by omega) _) hT (pr := []) (pcs := [wdP cs h r g tf ta pf na ma wa cf ca ef621 ea622 xf xa]) hw px_X.tt (px_recv hT hw 0 0 rfl rfl rfl) m13_106 m13_103 m13_105 ms_14_7 m1_21 q_Mpg_land ⟨show 0 + 1 ≤ (2 * (d + 1) + 10) from (by first | exact oz_e5e3eaa915 | omega), show 8 + (2 + 11) + 0 ≤ (120 * (d + 1) + 320) from (by first | exact oz_05fdf8690f | omega)⟩ hl.1 rfl (Nat.le_of_ble_eq_true rfl) d_Mpg_make2_623 ⟨Nat.le_of_ble_eq_true rfl, Nat.le_of_ble_eq_true rfl⟩) hw hA (fun p632 H locs hp632 hw => ?_)
      obtain ⟨ea631, rfl, e634⟩ := hp632
      have e634 : LaU ea622 ea631 v600 (ef621 60) := e634
      have hcd := hcd.tr (LaU.cd e634 (s := (ef 60).toInt) (by omega)) (Int.le_refl _)
      have hw : pw D A s.heap H locs [wdP cs h r g tf ta pf na ma wa cf ca ef621 ea631 xf xa] := hw
      refine lv_aload_n S.x S.b d_Mpg_make2_626 rfl (lv_at hl 2 rfl) ?_
      refine lv_aload_n S.x S.b d_Mpg_make2_627 rfl (lv_at hl 2 rfl) ?_
      refine px_get S k_Mpg hT hw 0 0 19 (v := .ref (r 19)) rfl rfl rfl (by decide) m10_5 d_Mpg_make2_628 ?_
      refine lv_iload_n S.x S.b d_Mpg_make2_631 rfl (lv_at hl 3 rfl) ?_
      refine px_iald S hT hw 0 15 (n := 2100) (f := (ma 19)) rfl gp_19 (x := p0) (vp_in_iff.mpr (by constructor <;> omega)) d_Mpg_make2_632 ?_
      refine lv_topi (fun z635 ez635 => ?_)
      have lz635 := Int32.le_toInt z635
      have uz635 := Int32.toInt_lt z635
      have hmk_z635 : MkB ta (tf 6).toInt na ma0 ma ca V d (pf 13).toInt w3 bh z635 := (by rw [ez635]; exact hmk_x8); have hec_z635 := hmk_z635.ec; have hrg_z635 := EcV.rng hec_z635; have hnn_z635 := hmk_z635.nn
      refine px_callv (pr := []) (px_runV (As := [.int z635]) (rest := []) S (hLK ma0 ys ns nf w3 V vl vh X9 fi S9 lv9 bh h r g tf ta pf na ma wa cf ca xf xa ef621 ea631 z635 (show (pf 13).toInt ≤ 2100 from by first | exact g0 | omega) (show (tf 6).toInt ≤ 2049 from by first | exact g1 | omega) (show (cf 38).toInt = nf from by first | exact g2 | omega) (show 0 ≤ nf from by first | exact g3 | omega) (show 0 ≤ (ef621 60).toInt from by first | exact oz_78bd7587d7 e626 e613 e602 e589 g4 | omega) (show (ef621 60).toInt + w3 ≤ 7000 from by first | exact oz_665bdb3ca1 hw8.2.2.2 e626 g5 e590 e614 e602 | omega) (show (S9.length : Int) + bh ≤ X9.tall fi from by first | exact g6 | omega) htk (FnT.eq hft (by omega)) hfp han hts hcx hmk_z635 _) hT (pr := []) (pcs := [wdP cs h r g tf ta pf na ma wa cf ca ef621 ea631 xf xa]) hw (oX_call (P := (fun A U H => (oP A g U H))) (pr := []) oG_P hw hA hP) (px_recv hT hw 0 0 rfl rfl rfl) m13_90 m13_87 m13_89 ms_14_3 m1_21 q_Mpg_make2 ⟨show (2 * d + 10) + 1 ≤ (2 * (d + 1) + 10) from (by first | exact oz_ab1a9076e0 | omega), show 8 + (8 + 11) + (120 * d + 320) ≤ (120 * (d + 1) + 320) from (by first | exact oz_59e4787ab3 | omega)⟩ hl.1 rfl (Nat.le_of_ble_eq_true rfl) d_Mpg_make2_633 ⟨Nat.le_of_ble_eq_true rfl, Nat.le_of_ble_eq_true rfl⟩) hw hA (fun p640 H locs hp640 hw => ?_)
      obtain ⟨ef638, ea639, rfl, e642, e643, e644, e645, e646, e647⟩ := hp640
      have e642 : (ef621 60).toInt ≤ (ef638 60).toInt := e642
      have e643 : (ef638 60).toInt ≤ (ef621 60).toInt + w3 := e643
      have e644 : (ef638 64).toInt = (ef621 64).toInt := e644
      have e645 : (ef638 65).toInt = (ef621 65).toInt := e645
      have e646 : CdK ea631 ea639 (ef621 60).toInt := e646
      have hcd := hcd.tr e646 (by omega)
      have e647 : SgQ X9 (ea639 61) (ef621 60).toInt (ef638 60).toInt fi S9 (0 :: S9) lv9 := e647
      have hw : pw D A s.heap H locs [wdP cs h r g tf ta pf na ma wa cf ca ef638 ea639 xf xa] := hw
      refine lv_aload_n S.x S.b d_Mpg_make2_636 rfl (lv_at hl 2 rfl) ?_
      refine lv_iload S.x S.b d_Mpg_make2_637 (lv_at hl 0 rfl) ?_
      refine px_callv (pr := []) (px_runV (As := [.int v624]) (rest := []) S (c_mp_land l D cs h r g tf ta pf na ma wa cf ca ef638 xf xa ea639 v624  (show 0 ≤ v624.toInt from by first | exact oz_2d9ae659ef e625 e613 e602 e589 g4 | omega) (show v624.toInt < 7000 from by first | exact oz_186d00e865 e625 e614 hw8.2.2.2 e602 g5 e590 hnn_z635.1 | omega) _) hT (pr := []) (pcs := [wdP cs h r g tf ta pf na ma wa cf ca ef638 ea639 xf xa]) hw px_X.tt (px_recv hT hw 0 0 rfl rfl rfl) m13_106 m13_103 m13_105 ms_14_7 m1_21 q_Mpg_land ⟨show 0 + 1 ≤ (2 * (d + 1) + 10) from (by first | exact oz_e5e3eaa915 | omega), show 8 + (2 + 11) + 0 ≤ (120 * (d + 1) + 320) from (by first | exact oz_05fdf8690f | omega)⟩ hl.1 rfl (Nat.le_of_ble_eq_true rfl) d_Mpg_make2_639 ⟨Nat.le_of_ble_eq_true rfl, Nat.le_of_ble_eq_true rfl⟩) hw hA (fun p650 H locs hp650 hw => ?_)
      obtain ⟨ea649, rfl, e652⟩ := hp650
      have e652 : LaU ea639 ea649 v624 (ef638 60) := e652
      have hcd := hcd.tr (LaU.cd e652 (s := (ef 60).toInt) (by omega)) (Int.le_refl _)
      have hw : pw D A s.heap H locs [wdP cs h r g tf ta pf na ma wa cf ca ef638 ea649 xf xa] := hw
      refine lv_goto (tgt := 772) S.x S.b d_Mpg_make2_642 (by decide) ?_
      exact px_vret S hr hlk hAe hw (Nat.le_of_ble_eq_true rfl) (Nat.le_of_ble_eq_true rfl) (⟨ef638, ea649, rfl, (show (ef 60).toInt ≤ (ef638 60).toInt from by first | exact oz_013402b7ac e589 e642 e602 e626 e613 | omega), (show (ef638 60).toInt ≤ (ef 60).toInt + wt from by first | exact oz_2ac729c12b hw8.2.2.2 e590 e643 e602 e614 e626 | omega), (show (ef638 64).toInt = (ef 64).toInt from by first | exact oz_0867352dd7 e591 e644 e603 e627 e615 | omega), (show (ef638 65).toInt = (ef 65).toInt from by first | exact oz_0867352dd7 e592 e645 e604 e628 e616 | omega), (show CdK ea ea649 (ef 60).toInt from hcd), (show SgQ X9 (ea649 61) (ef 60).toInt (ef638 60).toInt fi S9 (0 :: S9) lv9 from ((sgq_if hsg e605 e617 e618 e629 e634 e646 e647 e652 (by omega) (by omega) (by omega) (by omega) (by omega) (by omega) rfl rfl (by omega) (by omega) (by omega)).tq rfl (by omega) rfl))⟩) d_Mpg_make2_772
theorem makc_all (l : Launch) (D : va_G) (cs : Nat → ClassId) : ∀ d : Nat, MakC l D cs d := by
  intro d
  induction d with
  | zero => intro ma0 ys ns nf wt V vl vh X9 fi S9 lv9 bh h r g tf ta pf na ma wa cf ca xf xa ef ea p0 g0 g1 g2 g3 g4 g5 g6 htk hft hfp han hts hcx hmk; exact (mkb_0 hmk).elim
  | succ d ih => intro ma0 ys ns nf wt V vl vh X9 fi S9 lv9 bh h r g tf ta pf na ma wa cf ca xf xa ef ea p0 g0 g1 g2 g3 g4 g5 g6 htk hft hfp han hts hcx hmk; exact c_mp_mk1 l D cs ma0 ys ns nf d wt V vl vh X9 fi S9 lv9 bh h r g tf ta pf na ma wa cf ca xf xa ef ea p0 g0 g1 g2 g3 g4 g5 g6 htk hft hfp han hts hcx hmk ih
set_option maxHeartbeats 4000000 in
set_option maxRecDepth 100000 in
theorem c_S_make (l : Launch) (D : va_G) (cs : Nat → ClassId) (ma0 : Nat → Nat → Int32) (ys : Int) (ns : Int) (nf : Int) (d : Nat) (wt : Int) (V : Nat → Nat → Prop) (vl : Int) (vh : Int) (X9 : Cx) (fi : Int) (S9 : List Nat) (lv9 : Nat) (bh : Int) (h : Nat) (r : Nat → Nat) (g : Nat → Nat → Option Nat) (tf : Nat → Int32) (ta : Nat → Nat → Int32) (pf : Nat → Int32) (na : Nat → Nat → Int32) (ma : Nat → Nat → Int32) (wa : Nat → Nat → Int32) (cf : Nat → Int32) (ca : Nat → Nat → Int32) (xf : Nat → Int32) (xa : Nat → Nat → Int32) (ef : Nat → Int32) (ea : Nat → Nat → Int32) (p0 : Int32)  (g0 : (pf 13).toInt ≤ 2100) (g1 : (tf 6).toInt ≤ 2049) (g2 : (cf 38).toInt = nf) (g3 : 0 ≤ nf) (g4 : 0 ≤ (ef 60).toInt) (g5 : (ef 60).toInt + wt ≤ 7000) (g6 : (S9.length : Int) + bh ≤ X9.tall fi) (htk : TkI tf ta) (hft : FnT (tf 6).toInt na ca (cf 38).toInt) (hfp : FnP na ca nf) (han : Ann na ma0 ma) (hts : Ts (Gk ta ca na ma0 ns ys nf) na ma vl vh V) (hcx : CxI X9 fi ca ns ys nf (tkl na ma0 ca)) (hmk : MkB ta (tf 6).toInt na ma0 ma ca V d (pf 13).toInt wt bh p0) : MetV l y_Mpg_make2 b_Mpg_make2 8 D cs (2 * d + 10) (120 * d + 320) (0) (0) [.ref h, .int p0] [wdP cs h r g tf ta pf na ma wa cf ca ef ea xf xa] (oX (fun A U H => (oP A g U H)) [wdP cs h r g tf ta pf na ma wa cf ca ef ea xf xa]) (fun ps => ∃ (ef' : Nat → Int32) (ea' : Nat → Nat → Int32), (ps = [wdP cs h r g tf ta pf na ma wa cf ca ef' ea' xf xa]) ∧ ((ef 60).toInt ≤ (ef' 60).toInt) ∧ ((ef' 60).toInt ≤ (ef 60).toInt + wt) ∧ ((ef' 64).toInt = (ef 64).toInt) ∧ ((ef' 65).toInt = (ef 65).toInt) ∧ (CdK ea ea' (ef 60).toInt) ∧ (SgQ X9 (ea' 61) (ef 60).toInt (ef' 60).toInt fi S9 (0 :: S9) lv9)) := by
  exact makc_all l D cs d ma0 ys ns nf wt V vl vh X9 fi S9 lv9 bh h r g tf ta pf na ma wa cf ca xf xa ef ea p0 g0 g1 g2 g3 g4 g5 g6 htk hft hfp han hts hcx hmk
