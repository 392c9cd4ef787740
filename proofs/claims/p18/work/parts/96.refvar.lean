theorem oz_df4bd3ed07 {a0 a1 : Int} (h0 : a0 ≤ a1 + 10) : a0 ≤ a1 + 20 := by omega
theorem oz_fb8337ea2f {n0 : Nat}  : (8 * n0 + 19) + 1 ≤ (8 * n0 + 21) := by omega
theorem oz_bfe85df265 {n0 : Nat}  : 8 + 1 ≤ (8 * n0 + 22) := by omega
theorem oz_e42671736c {n0 : Nat}  : 8 + (2 + 11) + 240 ≤ (220 * n0 + 1000) := by omega
theorem oz_7b203170f1 {a0 a1 a2 a3 : Int} (h0 : a1 = a2 + 1) (h1 : a0 = a3) (h2 : a3 ≤ a2 + 10) : a0 ≤ a1 + 20 := by omega
theorem oz_8dace4bcab {a0 a2 : Int} {n1 : Nat} (h0 : 61 ≤ a2 + (n1 : Int)) (h1 : a0 = a2 + 1) : 61 ≤ a0 + (n1 : Int) := by omega
theorem oz_99ea2e68f7 {n0 : Nat}  : (8 * n0 + 20) + 1 ≤ (8 * n0 + 22) := by omega
theorem oz_c38e98c1d4 {n0 : Nat}  : 8 + (7 + 11) + (220 * n0 + 720) ≤ (220 * n0 + 1000) := by omega
theorem oz_218a0807e9 {n0 : Nat}  : 8 + (2 + 11) + 280 ≤ (220 * n0 + 1000) := by omega
theorem oz_f101e7799b {a0 a1 : Int} (h0 : a1 + 2 ≤ a0) (h1 : 0 ≤ a1) : 0 ≤ a0 := by omega
theorem oz_2fda51eb4e {n0 : Nat}  : 4 + 1 ≤ (8 * n0 + 22) := by omega
theorem oz_d6cda90a70 {n0 : Nat}  : 8 + (3 + 11) + 160 ≤ (220 * n0 + 1040) := by omega
theorem oz_b64b673260 {a0 a1 a2 a3 : Int} (h0 : a0 = a1 + a2) (h1 : a3 + 2 ≤ a1) (h2 : 0 ≤ a2) (h3 : 0 ≤ a3) : 0 ≤ a0 := by omega
theorem oz_cb83f671bb {n0 : Nat}  : 8 + (2 + 11) + 280 ≤ (220 * n0 + 1040) := by omega
theorem oz_94d32250eb {a0 a1 a2 a3 a4 : Int} (h0 : a0 + 2 ≤ a2) (h1 : a1 = a3 + 1) (h2 : a3 = a2 + a4) (h3 : 0 ≤ a4) : a0 + 1 ≤ a1 := by omega
theorem oz_2ebd56080c {a0 a1 a2 a3 : Int} (h0 : a0 + 1 ≤ a2) (h1 : a1 = a3) (h2 : a3 = a2) : a0 ≤ a1 := by omega
theorem oz_c359fb2b6f {a0 a1 a2 a3 a4 : Int} (h0 : a0 + 2 ≤ a2) (h1 : a3 + 1 ≤ a1) (h2 : a2 + a4 ≤ a3) (h3 : 0 ≤ a4) : a0 + 1 ≤ a1 := by omega
theorem oz_0ca4cad411 {a0 a1 a2 a3 : Int} (h0 : a0 = a1) (h1 : a2 + 1 ≤ a1) (h2 : a3 < a2) (h3 : 0 ≤ a3) : 0 ≤ a0 := by omega
theorem oz_a8f84bca48 {a0 a1 a2 a3 a4 a5 a6 : Int} (h0 : a1 = a2 + a3) (h1 : a0 = a4) (h2 : a4 - a5 ≤ a2 - a6) (h3 : 0 ≤ a3) (h4 : a5 ≤ a6 + 10) : a0 ≤ a1 + 10 := by omega
theorem oz_6dd5f776aa {a0 a2 a3 : Int} {n1 : Nat} (h0 : 61 ≤ a2 + (n1 : Int)) (h1 : a0 = a3) (h2 : a3 = a2 + 1) : 61 ≤ a0 + (n1 : Int) := by omega
theorem oz_5c83947939 {n0 : Nat}  : (8 * n0 + 21) + 1 ≤ (8 * n0 + 22) := by omega
theorem oz_153ed780d7 {n0 : Nat}  : 8 + (2 + 11) + (220 * n0 + 720) ≤ (220 * n0 + 1040) := by omega
theorem oz_1720b8be8f {a0 a1 a2 : Int} (h0 : a0 = a1) (h1 : a2 + (a1) ≤ 61) (h2 : 1 ≤ a2) : a0 ≤ 60 := by omega
theorem oz_75767867f4 {a0 a1 a2 a3 a4 : Int} (h0 : a0 + 2 ≤ a2) (h1 : a3 + 1 ≤ a1) (h2 : a3 = a2 + a4) (h3 : 0 ≤ a4) : a0 + 2 ≤ a1 := by omega
theorem oz_06e07f79f9 {a0 a1 a2 a3 a4 : Int} (h0 : a0 + 2 ≤ a2) (h1 : a3 + 1 ≤ a1) (h2 : a2 + a4 ≤ a3) (h3 : 0 ≤ a4) : a0 + 2 ≤ a1 := by omega
theorem oz_13a567a7c9 {n0 : Nat}  : 8 + (2 + 11) + 240 ≤ (220 * n0 + 1040) := by omega
theorem oz_58f4248ce7 {a0 a1 a2 a3 : Int} (h0 : a1 = a2 + 1) (h1 : a0 = a3) (h2 : a3 ≤ a2 + 10) : a0 ≤ a1 + 10 := by omega
theorem oz_ec7811a741 {a0 a1 a2 : Int} (h0 : a2 = a0 + 1) (h1 : a2 + 1 ≤ a1) : a0 + 2 ≤ a1 := by omega
theorem oz_90fe4a4ae3 {a0 a1 a2 a3 : Int} (h0 : a0 + a2 ≤ a3) (h1 : a3 + 1 ≤ a1) (h2 : 1 ≤ a2) : a0 + 2 ≤ a1 := by omega
theorem oz_a8abe01589 {a0 a1 a2 : Int} (h0 : a1 = a2 + (1 : Int)) : a0 - a0 ≤ a1 - a2 := by omega
theorem oz_fd92aef528 {n0 : Nat}  : 7 + 1 ≤ (8 * n0 + 23) := by omega
theorem oz_e425a20bf9 {n0 : Nat}  : 8 + (1 + 11) + 150 ≤ (220 * n0 + 1080) := by omega
theorem oz_80360dfd4e {a0 a1 a2 a3 a4 : Int} (h0 : a0 = a1) (h1 : a1 ≤ a2 + 10) (h2 : a3 = a2 + 1) (h3 : a4 ≤ 2049) (h4 : a3 < a4) : a0 < 2100 := by omega
theorem oz_3a3e558922 {n0 : Nat}  : 0 + 1 ≤ (8 * n0 + 23) := by omega
theorem oz_3c5f256d30 {n0 : Nat}  : 8 + (3 + 11) + 0 ≤ (220 * n0 + 1080) := by omega
theorem oz_6eea02e9ae {n0 : Nat}  : 3 + 1 ≤ (8 * n0 + 23) := by omega
theorem oz_f28206c579 {n0 : Nat}  : 8 + (2 + 11) + 120 ≤ (220 * n0 + 1080) := by omega
theorem oz_645281caa0 {n0 : Nat}  : 4 + 1 ≤ (8 * n0 + 23) := by omega
theorem oz_b19864c2d5 {n0 : Nat}  : 8 + (3 + 11) + 160 ≤ (220 * n0 + 1080) := by omega
theorem oz_a39e3a791c {a0 a1 a2 a3 a4 : Int} (h0 : a2 = a0 + 1) (h1 : a1 = a3 + a4) (h2 : a3 = a2) (h3 : 0 ≤ a4) : a0 + 1 ≤ a1 := by omega
theorem oz_24060ab0d2 {a0 a1 a2 a3 : Int} (h0 : a2 = a0) (h1 : a1 = a3) (h2 : a3 = a2 + 1) : a0 + 1 ≤ a1 := by omega
theorem oz_0e37f16741 {a0 a1 a2 a3 a4 a5 a6 a7 a8 : Int} (h0 : a4 = a3 + 1) (h1 : a5 = a1) (h2 : a2 = a6 + a7) (h3 : a0 = a8) (h4 : a8 = a5 + 1) (h5 : a6 = a4) (h6 : 0 ≤ a7) : a0 - a1 ≤ a2 - a3 := by omega
theorem oz_896afde169 {a0 a1 a2 a3 a4 : Int} (h0 : a0 + 1 ≤ a2) (h1 : a3 + a4 ≤ a1) (h2 : a3 = a2) (h3 : 0 ≤ a4) : a0 + 1 ≤ a1 := by omega
theorem oz_a20ea26d85 {a0 a1 a2 a3 a4 : Int} (h0 : a0 = a1 + a2) (h1 : a1 = a3) (h2 : 0 ≤ a2) (h3 : 0 ≤ a4) (h4 : a3 = a4 + 1) : 0 ≤ a0 := by omega
theorem oz_9c5f4b2410 {a0 a1 a2 a3 : Int} (h0 : a0 = a1) (h1 : a1 = a2) (h2 : a2 = a3) (h3 : a3 ≤ 60) : a0 ≤ 60 := by omega
theorem oz_f11508e9ce {a0 a1 a2 a3 a4 a5 a6 a7 a8 : Int} (h0 : a1 = a2 + a3) (h1 : a0 = a4) (h2 : a4 = a5 + 1) (h3 : a2 = a6) (h4 : 0 ≤ a3) (h5 : a7 ≤ a8 + 10) (h6 : a6 = a8 + 1) (h7 : a5 = a7) : a0 ≤ a1 + 20 := by omega
theorem oz_bfab698a8f {a0 a1 a2 a3 a4 a5 a6 a7 : Int} (h0 : a1 = a2) (h1 : a0 = a3) (h2 : a2 = a4) (h3 : a3 = a5) (h4 : a4 = a6) (h5 : a5 = a7) (h6 : a7 ≤ a6) : a0 ≤ a1 := by omega
theorem oz_85fe22b1fe {a0 a2 a3 a4 : Int} {n1 : Nat} (h0 : 61 ≤ a2 + (n1 : Int)) (h1 : a0 = a3) (h2 : a4 = a2) (h3 : a3 = a4) : 61 ≤ a0 + (n1 : Int) := by omega
theorem oz_abbc2b8bb4 {n0 : Nat}  : (8 * n0 + 20) + 1 ≤ (8 * n0 + 23) := by omega
theorem oz_bcc9bde07e {n0 : Nat}  : 8 + (7 + 11) + (220 * n0 + 720) ≤ (220 * n0 + 1080) := by omega
theorem oz_e19ec92da6 {a0 a1 a2 a3 a4 a5 : Int} (h0 : a2 = a0 + 1) (h1 : a3 + 1 ≤ a1) (h2 : a4 = a2) (h3 : a3 = a4 + a5) (h4 : 0 ≤ a5) : a0 + 1 ≤ a1 := by omega
theorem oz_e7ff4a7562 {a0 a1 a2 a3 a4 : Int} (h0 : a2 = a0) (h1 : a3 + 1 ≤ a1) (h2 : a4 = a2 + 1) (h3 : a3 = a4) : a0 + 1 ≤ a1 := by omega
theorem oz_114c64ebb3 {a0 a1 a2 a3 a4 a5 a6 a7 a8 a9 a10 : Int} (h0 : a4 = a3 + 1) (h1 : a5 = a1) (h2 : a0 - a6 ≤ a2 - a7) (h3 : a8 = a5 + 1) (h4 : a9 = a4) (h5 : a7 = a9 + a10) (h6 : a6 = a8) (h7 : 0 ≤ a10) : a0 - a1 ≤ a2 - a3 := by omega
theorem oz_70128076fa {a0 a1 a2 a3 a4 a5 : Int} (h0 : a0 + 1 ≤ a2) (h1 : a3 + 1 ≤ a1) (h2 : a4 = a2) (h3 : a4 + a5 ≤ a3) (h4 : 0 ≤ a5) : a0 + 1 ≤ a1 := by omega
theorem oz_be30f41976 {a0 a1 a2 a3 a4 a5 a6 a7 : Int} (h0 : a1 = a2 + 1) (h1 : a0 = a3) (h2 : a3 = a4 + 1) (h3 : a2 = a5) (h4 : a6 ≤ a7 + 10) (h5 : a5 = a7 + 1) (h6 : a4 = a6) : a0 ≤ a1 + 10 := by omega
theorem oz_7d30a791a5 {a0 a2 a3 a4 : Int} {n1 : Nat} (h0 : 61 ≤ a2 + (n1 : Int)) (h1 : a0 = a3 + 1) (h2 : a4 = a2) (h3 : a3 = a4) : 61 ≤ a0 + (n1 : Int) := by omega
theorem oz_f0aeccfe56 {n0 : Nat}  : (8 * n0 + 21) + 1 ≤ (8 * n0 + 23) := by omega
theorem oz_456b1f83b9 {n0 : Nat}  : 8 + (2 + 11) + (220 * n0 + 720) ≤ (220 * n0 + 1080) := by omega
theorem oz_6104897945 {n0 : Nat}  : 8 + 1 ≤ (8 * n0 + 23) := by omega
theorem oz_8b811c5ba0 {n0 : Nat}  : 8 + (2 + 11) + 280 ≤ (220 * n0 + 1080) := by omega
theorem oz_c7dd3fa87a {a0 a1 a2 a3 a4 a5 : Int} (h0 : a0 = a1 + 1) (h1 : a2 + 1 ≤ a1) (h2 : 0 ≤ a3) (h3 : a4 = a3 + 1) (h4 : a5 = a4) (h5 : a2 = a5 + 1) : 0 ≤ a0 := by omega
theorem oz_a3e699849a {a0 a1 a2 a3 a4 a5 a6 a7 : Int} (h0 : a2 = a0 + 1) (h1 : a1 = a3 + a4) (h2 : a5 = a2) (h3 : a3 = a6 + 1) (h4 : 0 ≤ a4) (h5 : a7 = a5 + 1) (h6 : a7 + 1 ≤ a6) : a0 + 1 ≤ a1 := by omega
theorem oz_9efa0bf84c {a0 a1 a2 a3 a4 a5 a6 : Int} (h0 : a2 = a0) (h1 : a1 = a3) (h2 : a4 = a2 + 1) (h3 : a3 = a5) (h4 : a6 = a4) (h5 : a6 + 1 ≤ a5) : a0 + 1 ≤ a1 := by omega
theorem oz_9ee47fe6a1 {a0 a1 a2 a3 a4 a5 a6 a7 a8 a9 a10 a11 a12 a13 a14 : Int} (h0 : a4 = a3 + 1) (h1 : a5 = a1) (h2 : a2 = a6 + a7) (h3 : a0 = a8) (h4 : a9 = a5 + 1) (h5 : a10 = a4) (h6 : a6 = a11 + 1) (h7 : a8 = a12) (h8 : 0 ≤ a7) (h9 : a13 = a10 + 1) (h10 : a14 = a9) (h11 : a12 - a14 ≤ a11 - a13) : a0 - a1 ≤ a2 - a3 := by omega
theorem oz_04b75c25d1 {a0 a1 a2 a3 a4 a5 a6 a7 a8 : Int} (h0 : a0 + 1 ≤ a2) (h1 : a3 + a4 ≤ a1) (h2 : a5 = a2) (h3 : a6 + 1 ≤ a3) (h4 : 0 ≤ a4) (h5 : a5 + a7 ≤ a8) (h6 : a8 + 1 ≤ a6) (h7 : 1 ≤ a7) : a0 + 1 ≤ a1 := by omega
theorem oz_0e50ed1885 {a0 a1 a2 a3 a4 a5 a6 : Int} (h0 : a2 = a1) (h1 : a0 = a3) (h2 : a4 = a2) (h3 : a3 = a5 - 1) (h4 : a6 = a4 + 1) (h5 : a5 = a6) : a0 = a1 := by omega
theorem oz_9c07d0d680 {a0 a1 a2 a3 a4 a5 a6 a7 : Int} (h0 : a0 = a1 + a2) (h1 : a1 = a3 + 1) (h2 : 0 ≤ a2) (h3 : 0 ≤ a4) (h4 : a5 = a4 + 1) (h5 : a6 = a5) (h6 : a7 = a6 + 1) (h7 : a7 + 1 ≤ a3) : 0 ≤ a0 := by omega
theorem oz_ce2203671d {a0 a1 a2 a3 a4 a5 a6 a7 : Int} (h0 : a0 = a1) (h1 : a1 = a2 - 1) (h2 : a2 = a3) (h3 : a3 = a4 + 1) (h4 : a4 = a5) (h5 : a5 = a6) (h6 : a7 ≤ a6) (h7 : 0 ≤ a7) : 0 ≤ a0 := by omega
theorem oz_ddab08c2ef {a0 a1 a2 a3 a4 : Int} (h0 : a0 = a1) (h1 : a1 = a2 - 1) (h2 : a2 = a3) (h3 : a3 = a4 + 1) (h4 : a4 < 60) : a0 ≤ 60 := by omega
theorem oz_8489396632 {a0 a1 a2 a3 a4 a5 a6 : Int} (h0 : a0 = a1) (h1 : a1 = a2) (h2 : a3 + 1 ≤ a2) (h3 : a3 = a4) (h4 : a4 = a5 + 1) (h5 : a5 = a6) (h6 : 0 ≤ a6) : 0 ≤ a0 := by omega
theorem oz_75ff170364 {a0 a1 a2 a3 a4 a5 a6 a7 a8 a9 a10 a11 a12 a13 a14 : Int} (h0 : a1 = a2 + a3) (h1 : a0 = a4) (h2 : a2 = a5 + 1) (h3 : a4 = a6) (h4 : 0 ≤ a3) (h5 : a7 ≤ a8 + 10) (h6 : a9 = a8 + 1) (h7 : a10 = a9) (h8 : a11 = a10 + 1) (h9 : a6 - a12 ≤ a5 - a11) (h10 : a13 = a7) (h11 : a12 = a14) (h12 : a14 = a13 + 1) : a0 ≤ a1 + 10 := by omega
theorem oz_208e951691 {a0 a1 a2 a3 a4 a5 a6 : Int} (h0 : a0 = a1) (h1 : a1 = a2) (h2 : a2 = a3) (h3 : a3 = a4) (h4 : a4 = a5) (h5 : a5 = a6) (h6 : 0 ≤ a6) : 0 ≤ a0 := by omega
theorem oz_0cc86014eb {a0 a1 a2 a3 a4 a5 a6 a7 a8 a9 a10 a11 a12 a13 : Int} (h0 : a1 = a2) (h1 : a0 = a3) (h2 : a2 = a4 - 1) (h3 : a3 = a5) (h4 : a4 = a6) (h5 : a5 = a7) (h6 : a6 = a8 + 1) (h7 : a7 = a9) (h8 : a8 = a10) (h9 : a9 = a11) (h10 : a10 = a12) (h11 : a11 = a13) (h12 : a13 ≤ a12) : a0 ≤ a1 := by omega
theorem oz_d1b755c2b4 {a0 a2 a3 a4 a5 a6 a7 : Int} {n1 : Nat} (h0 : 61 ≤ a2 + (n1 : Int)) (h1 : a0 = a3) (h2 : a4 = a2) (h3 : a3 = a5 - 1) (h4 : a6 = a4) (h5 : a5 = a7) (h6 : a7 = a6 + 1) : 61 ≤ a0 + (n1 : Int) := by omega
theorem oz_72b69290f2 {a0 a1 a2 a3 a4 a5 a6 : Int} (h0 : a0 = a2) (h1 : a1 = a3) (h2 : a4 = a2 + 1) (h3 : a3 = a5) (h4 : a6 = a4) (h5 : a6 + 1 ≤ a5) : a0 < a1 := by omega
theorem oz_2095af30c2 {n0 : Nat}  : (8 * n0 + 22) + 1 ≤ (8 * n0 + 23) := by omega
theorem oz_1cc549009d {n0 : Nat}  : 8 + (4 + 11) + (220 * n0 + 1040) ≤ (220 * n0 + 1080) := by omega
theorem oz_63646b65f0 {a0 a1 a2 a3 a4 a5 a6 a7 a8 : Int} (h0 : a2 = a0 + 1) (h1 : a3 + 1 ≤ a1) (h2 : a4 = a2) (h3 : a3 = a5 + a6) (h4 : a7 = a4 + 1) (h5 : a7 + 1 ≤ a8) (h6 : a5 = a8 + 1) (h7 : 0 ≤ a6) : a0 + 1 ≤ a1 := by omega
theorem oz_930744b6fe {a0 a1 a2 a3 a4 a5 a6 a7 : Int} (h0 : a2 = a0) (h1 : a3 ≤ a1) (h2 : a4 = a2 + 1) (h3 : a3 = a5) (h4 : a6 = a4) (h5 : a5 = a7) (h6 : a6 + 1 ≤ a7) : a0 + 1 ≤ a1 := by omega
theorem oz_2d496d47b7 {a0 a1 a2 a3 a4 a5 a6 a7 a8 a9 a10 a11 a12 a13 a14 a15 a16 : Int} (h0 : a4 = a3 + 1) (h1 : a5 = a1) (h2 : a0 - a6 ≤ a2 - a7) (h3 : a8 = a5 + 1) (h4 : a9 = a4) (h5 : a7 = a10 + a11) (h6 : a6 = a12) (h7 : a13 = a9 + 1) (h8 : a14 = a8) (h9 : a15 - a14 ≤ a16 - a13) (h10 : a10 = a16 + 1) (h11 : a12 = a15) (h12 : 0 ≤ a11) : a0 - a1 ≤ a2 - a3 := by omega
theorem oz_cc30fab572 {a0 a1 a2 a3 a4 a5 a6 a7 a8 a9 : Int} (h0 : a0 + 1 ≤ a2) (h1 : a3 + 1 ≤ a1) (h2 : a4 = a2) (h3 : a5 + a6 ≤ a3) (h4 : a4 + a7 ≤ a8) (h5 : a9 + 1 ≤ a5) (h6 : 0 ≤ a6) (h7 : 1 ≤ a7) (h8 : a8 + 1 ≤ a9) : a0 + 1 ≤ a1 := by omega
theorem oz_b3e8b0d22b {a0 a1 a2 a3 a4 a5 a6 a7 : Int} (h0 : a2 = a1) (h1 : a0 = a3) (h2 : a4 = a2) (h3 : a3 = a5) (h4 : a6 = a4 + 1) (h5 : a5 = a7 - 1) (h6 : a7 = a6) : a0 = a1 := by omega
theorem oz_ada9f7f295 {a0 a1 a2 a3 a4 a5 a6 a7 : Int} (h0 : a2 = a1) (h1 : a0 = a3) (h2 : a4 = a2) (h3 : a3 = a5) (h4 : a6 = a4) (h5 : a5 = a7) (h6 : a7 = a6) : a0 = a1 := by omega
theorem oz_471d089718 {n0 : Nat}  : 4 + 1 ≤ (8 * n0 + 24) := by omega
theorem oz_677681d3e1 {n0 : Nat}  : 8 + (3 + 11) + 160 ≤ (220 * n0 + 1120) := by omega
theorem oz_3f453873c8 {a0 a1 a2 a3 : Int} (h0 : a0 + 1 ≤ a2) (h1 : a1 = a2 + a3) (h2 : 0 ≤ a3) : a0 + 1 ≤ a1 := by omega
theorem oz_1e32788057 {a0 a1 a2 a3 a4 a5 a6 : Int} (h0 : a4 - a1 ≤ a5 - a3) (h1 : a2 = a5 + a6) (h2 : a0 = a4) (h3 : 0 ≤ a6) : a0 - a1 ≤ a2 - a3 := by omega
theorem oz_f22ed27fb1 {a0 a1 a2 a3 : Int} (h0 : a0 + 1 ≤ a2) (h1 : a2 + a3 ≤ a1) (h2 : 0 ≤ a3) : a0 + 1 ≤ a1 := by omega
theorem oz_c9654dfc48 {a0 a1 a2 a3 a4 a5 : Int} (h0 : a1 = a2) (h1 : a0 = a3) (h2 : a2 = a4) (h3 : a3 = a5) (h4 : a5 ≤ a4) : a0 ≤ a1 := by omega
theorem oz_5733b16367 {a0 a2 a3 : Int} {n1 : Nat} (h0 : 61 ≤ a2 + (n1 : Int)) (h1 : a0 = a3) (h2 : a3 = a2) : 61 ≤ a0 + (n1 : Int) := by omega
theorem oz_b1689c77fe {n0 : Nat}  : (8 * n0 + 23) + 1 ≤ (8 * n0 + 24) := by omega
theorem oz_af8f76027a {n0 : Nat}  : 8 + (2 + 11) + (220 * n0 + 1080) ≤ (220 * n0 + 1120) := by omega
theorem oz_1fa6c9b1b7 {a0 a1 a2 : Int} (h0 : a0 ≤ a1 + 10) (h1 : a1 + 1 < a2) (h2 : a2 ≤ 2049) : a0 < 2100 := by omega
theorem oz_be43429043 {n0 : Nat}  : 0 + 1 ≤ (8 * n0 + 25) := by omega
theorem oz_5ede5659e9 {n0 : Nat}  : 8 + (3 + 11) + 0 ≤ (220 * n0 + 1160) := by omega
theorem oz_935cf6b5f1 {a0 a1 a2 : Int} (h0 : a0 = a1) (h1 : 0 ≤ a1) (h2 : a1 + 1 < a2) (h3 : a2 ≤ 2049) : 0 ≤ a0 ∧ a0 < ((2060 : Nat) : Int) := by omega
theorem oz_9bc226aaf4 {a0 a1 a2 : Int} (h0 : a0 = a1 + (1 : Int)) (h1 : a1 = a2) (h2 : 0 ≤ a2) : 0 ≤ a0 := by omega
theorem oz_93bebfa6cb {a0 a1 a2 a3 : Int} (h0 : a2 + 1 < a1) (h1 : a0 = a3 + (1 : Int)) (h2 : a3 = a2) : a0 < a1 := by omega
theorem oz_49be2cf98c {a0 a1 a2 a3 a4 : Int} (h0 : a0 = a2 + 1) (h1 : a1 = a3 + (1 : Int)) (h2 : a2 ≤ a4 + 10) (h3 : a3 = a4) : a0 ≤ a1 + 10 := by omega
theorem oz_aa346cce6a {n0 : Nat}  : (8 * n0 + 24) + 1 ≤ (8 * n0 + 25) := by omega
theorem oz_34fdbe3ac9 {n0 : Nat}  : 8 + (4 + 11) + (220 * n0 + 1120) ≤ (220 * n0 + 1160) := by omega
theorem oz_5ec5cff5c7 {a0 a1 a2 a3 : Int} (h0 : a1 + 1 ≤ a0) (h1 : a1 = a2 + (1 : Int)) (h2 : 0 ≤ a3) (h3 : a2 = a3) : 0 ≤ a0 := by omega
theorem oz_d9162dcc32 {n0 : Nat}  : 7 + 1 ≤ (8 * n0 + 25) := by omega
theorem oz_8dc84fedcb {n0 : Nat}  : 8 + (2 + 11) + 230 ≤ (220 * n0 + 1160) := by omega
theorem oz_e69ebdcefb {a0 a1 a2 a3 a4 : Int} (h0 : a2 = a0) (h1 : a1 = a3 + 1) (h2 : a4 = a2 + (1 : Int)) (h3 : a4 + 1 ≤ a3) : a0 + 1 ≤ a1 := by omega
theorem oz_b67d4358c9 {a0 a1 a2 a3 : Int} (h0 : a2 = a0 + 1) (h1 : a1 = a3) (h2 : a2 + 1 ≤ a3) : a0 + 1 ≤ a1 := by omega
theorem oz_85dfe7ce3a {a0 a1 a2 a3 a4 a5 a6 a7 a8 : Int} (h0 : a4 = a1 + 1) (h1 : a5 = a3) (h2 : a2 = a6 + 1) (h3 : a0 = a7) (h4 : a8 = a5 + (1 : Int)) (h5 : a7 - a4 ≤ a6 - a8) : a0 - a1 ≤ a2 - a3 := by omega
theorem oz_b24f33b5c5 {a0 a1 a2 a3 a4 a5 : Int} (h0 : a2 = a0) (h1 : a3 + 1 ≤ a1) (h2 : a2 + a4 ≤ a5) (h3 : a5 + 1 ≤ a3) (h4 : 1 ≤ a4) : a0 + 1 ≤ a1 := by omega
theorem m11_210 : Cond.methodLink "HomeSystemModel$Program" 457 ⟨"HomeSystemModel$Program", "opensMark", "(Ljava/lang/String;)V"⟩ ∈ AL := AL_11 (List.mem_of_getElem? (i := 210) rfl) rfl
theorem m11_213 : Cond.code ⟨"HomeSystemModel$Program", "opensMark", "(Ljava/lang/String;)V"⟩ prog_16_method_24_code 2 (Option.none : Option Jvm.ClassFile.FieldType) ∈ AL := AL_11 (List.mem_of_getElem? (i := 213) rfl) rfl
theorem ms_8_13 : Cond.selects "HomeSystemModel$Program" ⟨"HomeSystemModel$Program", "opensMark", "(Ljava/lang/String;)V"⟩ ⟨"HomeSystemModel$Program", "opensMark", "(Ljava/lang/String;)V"⟩ ∈ AL := AL_p (q := (⟨"HomeSystemModel$Program", "opensMark", "(Ljava/lang/String;)V"⟩, 69)) (by unfold lw_privs; exact List.mem_append_right _ (List.mem_append_right _ (List.mem_append_right _ (List.mem_append_right _ (List.mem_append_right _ (List.mem_append_right _ (List.mem_append_right _ (List.mem_append_left _ (List.mem_of_getElem? (i := 13) rfl)))))))))
theorem m11_212 : Cond.instanceMethod ⟨"HomeSystemModel$Program", "opensMark", "(Ljava/lang/String;)V"⟩ ∈ AL := AL_11 (List.mem_of_getElem? (i := 212) rfl) rfl
theorem m12_7 : Cond.methodLink "HomeSystemModel$Program" 451 ⟨"HomeSystemModel$Program", "constant", "()I"⟩ ∈ AL := AL_12 (List.mem_of_getElem? (i := 7) rfl) rfl
theorem m12_10 : Cond.code ⟨"HomeSystemModel$Program", "constant", "()I"⟩ prog_16_method_45_code 2 (Option.some FieldType.int) ∈ AL := AL_12 (List.mem_of_getElem? (i := 10) rfl) rfl
theorem ms_9_4 : Cond.selects "HomeSystemModel$Program" ⟨"HomeSystemModel$Program", "constant", "()I"⟩ ⟨"HomeSystemModel$Program", "constant", "()I"⟩ ∈ AL := AL_p (q := (⟨"HomeSystemModel$Program", "constant", "()I"⟩, 69)) (by unfold lw_privs; exact List.mem_append_right _ (List.mem_append_right _ (List.mem_append_right _ (List.mem_append_right _ (List.mem_append_right _ (List.mem_append_right _ (List.mem_append_right _ (List.mem_append_right _ (List.mem_append_left _ (List.mem_of_getElem? (i := 4) rfl))))))))))
theorem m12_9 : Cond.instanceMethod ⟨"HomeSystemModel$Program", "constant", "()I"⟩ ∈ AL := AL_12 (List.mem_of_getElem? (i := 9) rfl) rfl
theorem m12_114 : Cond.methodLink "HomeSystemModel$Program" 454 ⟨"HomeSystemModel$Program", "arrayValue", "(I)V"⟩ ∈ AL := AL_12 (List.mem_of_getElem? (i := 114) rfl) rfl
theorem m12_117 : Cond.code ⟨"HomeSystemModel$Program", "arrayValue", "(I)V"⟩ prog_16_method_46_code 4 (Option.none : Option Jvm.ClassFile.FieldType) ∈ AL := AL_12 (List.mem_of_getElem? (i := 117) rfl) rfl
theorem ms_10_14 : Cond.selects "HomeSystemModel$Program" ⟨"HomeSystemModel$Program", "arrayValue", "(I)V"⟩ ⟨"HomeSystemModel$Program", "arrayValue", "(I)V"⟩ ∈ AL := AL_p (q := (⟨"HomeSystemModel$Program", "arrayValue", "(I)V"⟩, 69)) (by unfold lw_privs; exact List.mem_append_right _ (List.mem_append_right _ (List.mem_append_right _ (List.mem_append_right _ (List.mem_append_right _ (List.mem_append_right _ (List.mem_append_right _ (List.mem_append_right _ (List.mem_append_right _ (List.mem_append_left _ (List.mem_of_getElem? (i := 14) rfl)))))))))))
theorem m12_116 : Cond.instanceMethod ⟨"HomeSystemModel$Program", "arrayValue", "(I)V"⟩ ∈ AL := AL_12 (List.mem_of_getElem? (i := 116) rfl) rfl
theorem m12_110 : Cond.methodLink "HomeSystemModel$Program" 448 ⟨"HomeSystemModel$Program", "variable", "()I"⟩ ∈ AL := AL_12 (List.mem_of_getElem? (i := 110) rfl) rfl
theorem m12_113 : Cond.code ⟨"HomeSystemModel$Program", "variable", "()I"⟩ prog_16_method_44_code 2 (Option.some FieldType.int) ∈ AL := AL_12 (List.mem_of_getElem? (i := 113) rfl) rfl
theorem ms_10_13 : Cond.selects "HomeSystemModel$Program" ⟨"HomeSystemModel$Program", "variable", "()I"⟩ ⟨"HomeSystemModel$Program", "variable", "()I"⟩ ∈ AL := AL_p (q := (⟨"HomeSystemModel$Program", "variable", "()I"⟩, 69)) (by unfold lw_privs; exact List.mem_append_right _ (List.mem_append_right _ (List.mem_append_right _ (List.mem_append_right _ (List.mem_append_right _ (List.mem_append_right _ (List.mem_append_right _ (List.mem_append_right _ (List.mem_append_right _ (List.mem_append_left _ (List.mem_of_getElem? (i := 13) rfl)))))))))))
theorem m12_112 : Cond.instanceMethod ⟨"HomeSystemModel$Program", "variable", "()I"⟩ ∈ AL := AL_12 (List.mem_of_getElem? (i := 112) rfl) rfl
theorem m12_106 : Cond.methodLink "HomeSystemModel$Program" 460 ⟨"HomeSystemModel$Program", "variables", "()I"⟩ ∈ AL := AL_12 (List.mem_of_getElem? (i := 106) rfl) rfl
theorem m12_109 : Cond.code ⟨"HomeSystemModel$Program", "variables", "()I"⟩ prog_16_method_43_code 4 (Option.some FieldType.int) ∈ AL := AL_12 (List.mem_of_getElem? (i := 109) rfl) rfl
theorem ms_10_12 : Cond.selects "HomeSystemModel$Program" ⟨"HomeSystemModel$Program", "variables", "()I"⟩ ⟨"HomeSystemModel$Program", "variables", "()I"⟩ ∈ AL := AL_p (q := (⟨"HomeSystemModel$Program", "variables", "()I"⟩, 69)) (by unfold lw_privs; exact List.mem_append_right _ (List.mem_append_right _ (List.mem_append_right _ (List.mem_append_right _ (List.mem_append_right _ (List.mem_append_right _ (List.mem_append_right _ (List.mem_append_right _ (List.mem_append_right _ (List.mem_append_left _ (List.mem_of_getElem? (i := 12) rfl)))))))))))
theorem m12_108 : Cond.instanceMethod ⟨"HomeSystemModel$Program", "variables", "()I"⟩ ∈ AL := AL_12 (List.mem_of_getElem? (i := 108) rfl) rfl
abbrev b_Mpg_constant : ByteArray := prog_16_method_45_code
def y_Mpg_constant : MethodName := ⟨"HomeSystemModel$Program", "constant", "()I"⟩
theorem d_Mpg_constant_0 : decode b_Mpg_constant 0 = .ok (.aload_n 0, 1) := by decide +kernel
theorem d_Mpg_constant_1 : decode b_Mpg_constant 1 = .ok (.invokevirtual 393, 3) := by decide +kernel
theorem d_Mpg_constant_4 : decode b_Mpg_constant 4 = .ok (.istore_n 1, 1) := by decide +kernel
theorem d_Mpg_constant_5 : decode b_Mpg_constant 5 = .ok (.iload_n 1, 1) := by decide +kernel
theorem d_Mpg_constant_6 : decode b_Mpg_constant 6 = .ok (.ifCond .ge 9, 3) := by decide +kernel
theorem d_Mpg_constant_9 : decode b_Mpg_constant 9 = .ok (.iconst (-1), 1) := by decide +kernel
theorem d_Mpg_constant_10 : decode b_Mpg_constant 10 = .ok (.iload_n 1, 1) := by decide +kernel
theorem d_Mpg_constant_11 : decode b_Mpg_constant 11 = .ok (.isub, 1) := by decide +kernel
theorem d_Mpg_constant_12 : decode b_Mpg_constant 12 = .ok (.goto 4, 3) := by decide +kernel
theorem d_Mpg_constant_15 : decode b_Mpg_constant 15 = .ok (.iload_n 1, 1) := by decide +kernel
theorem d_Mpg_constant_16 : decode b_Mpg_constant 16 = .ok (.ireturn, 1) := by decide +kernel
theorem q_Mpg_constant : px_y y_Mpg_constant 0 := by unfold px_y; decide +kernel
set_option maxHeartbeats 4000000 in
set_option maxRecDepth 100000 in
theorem c_mp_constant (l : Launch) (D : va_G) (cs : Nat → ClassId) (h : Nat) (r : Nat → Nat) (g : Nat → Nat → Option Nat) (tf : Nat → Int32) (ta : Nat → Nat → Int32) (cf : Nat → Int32) (ca : Nat → Nat → Int32) (ef : Nat → Int32) (ea : Nat → Nat → Int32) (xf : Nat → Int32) (xa : Nat → Nat → Int32) (pf : Nat → Int32) (na : Nat → Nat → Int32) (ma : Nat → Nat → Int32) (wa : Nat → Nat → Int32) (lv : Nat) (g0 : 0 ≤ (pf 11).toInt) (g1 : (pf 11).toInt < (tf 6).toInt) (g2 : (tf 6).toInt ≤ 2049) (g3 : 0 ≤ (pf 12).toInt) (g4 : (pf 12).toInt ≤ 60) (g5 : 0 ≤ (pf 13).toInt) (g6 : (pf 13).toInt ≤ (pf 11).toInt + 10) (g7 : 0 ≤ (pf 26).toInt) (g8 : (pf 26).toInt ≤ (pf 12).toInt) (g9 : 61 ≤ (pf 12).toInt + (lv : Int)) (g10 : lv ≤ 61) (hlf : l.flags = pinnedFlags ++ [noTraceFlag]) (htk : TkI tf ta) (hfs : FsI (tf 6).toInt (pf 13).toInt na) : ThI l y_Mpg_constant b_Mpg_constant 2 (.int) D cs (8 * lv + 21) (220 * lv + 720) [.ref h] [wdP cs h r g tf ta pf na ma wa cf ca ef ea xf xa] (oX (fun A U H => (oN A U H) ∧ (oP A g U H)) [wdP cs h r g tf ta pf na ma wa cf ca ef ea xf xa]) "java/lang/IllegalArgumentException" (fun v ps => ∃ (pf' : Nat → Int32) (na' : Nat → Nat → Int32) (ma' : Nat → Nat → Int32) (wa' : Nat → Nat → Int32), (ps = [wdP cs h r g tf ta pf' na' ma' wa' cf ca ef ea xf xa]) ∧ ((pf 11).toInt + 1 ≤ (pf' 11).toInt) ∧ ((pf' 11).toInt < (tf 6).toInt) ∧ ((pf 13).toInt + 1 ≤ (pf' 13).toInt) ∧ ((pf' 13).toInt - (pf 13).toInt ≤ (pf' 11).toInt - (pf 11).toInt) ∧ (bp ta (pf 11) + 1 ≤ bp ta (pf' 11)) ∧ ((pf' 12).toInt = (pf 12).toInt) ∧ ((pf' 24).toInt = (pf 24).toInt) ∧ ((pf' 25).toInt = (pf 25).toInt) ∧ ((pf' 26).toInt = (pf 26).toInt) ∧ (FrB (pf 13).toInt na ma na' ma') ∧ (FrW (pf 26).toInt wa wa') ∧ (ExR ta (tf 6).toInt na' ma' v (pf 13).toInt (pf' 13).toInt (3 * (bp ta (pf' 11) - bp ta (pf 11))) (pf 12).toInt) ∧ (FsI (tf 6).toInt (pf' 13).toInt na') ∧ (R_mp_constant ta pf na ma wa pf' na' ma' wa' v 0)) (fun ps => ∃ (pf' : Nat → Int32) (na' : Nat → Nat → Int32) (ma' : Nat → Nat → Int32) (wa' : Nat → Nat → Int32), ps = [wdP cs h r g tf ta pf' na' ma' wa' cf ca ef ea xf xa] ∧ 0 ≤ (pf' 11).toInt ∧ (pf' 11).toInt + 1 ≤ (tf 6).toInt ∧ R_mp_constant ta pf na ma wa pf' na' ma' wa' 0 1) := by
  refine th_enter (by decide) (Nat.le_of_ble_eq_true rfl) ?_
  intro p e s m below meth c A ls hAe S hr hlk hnm hA hT hX hw hl hne hadm
  have hl : lv_has ls 2 [(0, .ref h)] := hl
  have cstm1 : ((-1) : Int32).toInt = (-1) := rfl
  have hX : (fun A U H => (oN A U H) ∧ (oP A g U H)) A s s.heap := by rw [hAe]; exact hX
  obtain ⟨hN, hP⟩ := hX
  have hZ := hP.1
  have hF0 := hP.2.1
  have hfb : FrB (pf 13).toInt na ma na ma := FrB.rf
  have hfw : FrW (pf 26).toInt wa wa := FrW.rf
  refine lv_aload_n S.x S.b d_Mpg_constant_0 rfl (lv_at hl 0 rfl) ?_
  first | refine th_calli (ps0 := [wdP cs h r g tf ta pf na ma wa cf ca ef ea xf xa]) (pr := []) (pcs := [wdP cs h r g tf ta pf na ma wa cf ca ef ea xf xa]) (As := []) (rest := []) (c_S_conditional l D cs h r g tf ta cf ca ef ea xf xa pf na ma wa  lv (show 0 ≤ (pf 11).toInt from g0) (show (pf 11).toInt < (tf 6).toInt from g1) (show (tf 6).toInt ≤ 2049 from g2) (show 0 ≤ (pf 12).toInt from g3) (show (pf 12).toInt ≤ 60 from g4) (show 0 ≤ (pf 13).toInt from g5) (show (pf 13).toInt ≤ (pf 11).toInt + 20 from (oz_df4bd3ed07 g6)) (show 0 ≤ (pf 26).toInt from g7) (show (pf 26).toInt ≤ (pf 12).toInt from g8) (show 61 ≤ (pf 12).toInt + (lv : Int) from g9) (show lv ≤ 61 from g10) hlf htk (FsI.le (N' := (pf 13).toInt) hfs (by omega))) S hT hw (oX_call (P := (fun A U H => (oN A U H) ∧ (oP A g U H))) (pr := []) (oG_and oG_N oG_P) hw hA ⟨hN, hP⟩) (px_recv hT hw 0 0 rfl rfl rfl) m12_14 m12_11 m12_13 ms_9_5 m1_21 q_Mpg_conditional ⟨show (8 * lv + 19) + 1 ≤ (8 * lv + 21) from (oz_fb8337ea2f), show 8 + (7 + 11) + (220 * lv + 690) ≤ (220 * lv + 720) from (oz_ccc3430cee)⟩ hl.1 rfl (Nat.le_of_ble_eq_true rfl) d_Mpg_constant_1 ⟨Nat.le_of_ble_eq_true rfl, Nat.le_of_ble_eq_true rfl⟩ hne hlk hA hAe (fun o t h => Or.inr h) ?_ (fun v10 p9 H locs hp9 hw => ?_) | (refine th_calli (ps0 := [wdP cs h r g tf ta pf na ma wa cf ca ef ea xf xa]) (pr := []) (pcs := [wdP cs h r g tf ta pf na ma wa cf ca ef ea xf xa]) (As := []) (rest := []) (c_S_conditional l D cs h r g tf ta cf ca ef ea xf xa pf na ma wa  lv (show 0 ≤ (pf 11).toInt from by first | exact g0 | omega) (show (pf 11).toInt < (tf 6).toInt from by first | exact g1 | omega) (show (tf 6).toInt ≤ 2049 from by first | exact g2 | omega) (show 0 ≤ (pf 12).toInt from by first | exact g3 | omega) (show (pf 12).toInt ≤ 60 from by first | exact g4 | omega) (show 0 ≤ (pf 13).toInt from by first | exact g5 | omega) (show (pf 13).toInt ≤ (pf 11).toInt + 20 from by first | exact oz_df4bd3ed07 g6 | omega) (show 0 ≤ (pf 26).toInt from by first | exact g7 | omega) (show (pf 26).toInt ≤ (pf 12).toInt from by first | exact g8 | omega) (show 61 ≤ (pf 12).toInt + (lv : Int) from by first | exact g9 | omega) (show lv ≤ 61 from by first | exact g10 | omega) hlf htk (FsI.le (N' := (pf 13).toInt) hfs (by omega))) S hT hw (oX_call (P := (fun A U H => (oN A U H) ∧ (oP A g U H))) (pr := []) (oG_and oG_N oG_P) hw hA ⟨hN, hP⟩) (px_recv hT hw 0 0 rfl rfl rfl) m12_14 m12_11 m12_13 ms_9_5 m1_21 q_Mpg_conditional ⟨show (8 * lv + 19) + 1 ≤ (8 * lv + 21) from (by first | exact oz_fb8337ea2f | omega), show 8 + (7 + 11) + (220 * lv + 690) ≤ (220 * lv + 720) from (by first | exact oz_ccc3430cee | omega)⟩ hl.1 rfl (Nat.le_of_ble_eq_true rfl) d_Mpg_constant_1 ⟨Nat.le_of_ble_eq_true rfl, Nat.le_of_ble_eq_true rfl⟩ hne hlk hA hAe (fun o t h => Or.inr h) ?_ (fun v10 p9 H locs hp9 hw => ?_))
  · exact fun p1 H1 locs1 hp hw => by obtain ⟨pq1, pq2, pq3, pq4, rfl, hq1, hq2, hq3⟩ := hp; exact ⟨_, ⟨pq1, pq2, pq3, pq4, rfl, hq1, hq2, (Or.inl (Or.inl ⟨pq1, pq2, pq3, pq4, ⟨lv, hq3⟩, rfl, rfl, rfl, rfl, rfl, rfl⟩))⟩, hw⟩
  obtain ⟨pf5, na6, ma7, wa8, rfl, e11, e12, e13, e14, e15, e16, e17, e18, e19, e20, e21, e22, e23, e24⟩ := hp9
  have e11 : (pf 11).toInt + 1 ≤ (pf5 11).toInt := e11
  have e12 : (pf5 11).toInt < (tf 6).toInt := e12
  have e13 : (pf 13).toInt + 1 ≤ (pf5 13).toInt := e13
  have e14 : (pf5 13).toInt - (pf 13).toInt ≤ (pf5 11).toInt - (pf 11).toInt := e14
  have e15 : bp ta (pf 11) + 1 ≤ bp ta (pf5 11) := e15
  have e16 : (pf5 12).toInt = (pf 12).toInt := e16
  have e17 : (pf5 24).toInt = (pf 24).toInt := e17
  have e18 : (pf5 25).toInt = (pf 25).toInt := e18
  have e19 : (pf5 26).toInt = (pf 26).toInt := e19
  have e20 : FrB (pf 13).toInt na ma na6 ma7 := e20
  have hfb := hfb.tr e20 (by omega)
  have e21 : FrW (pf 26).toInt wa wa8 := e21
  have hfw := hfw.tr e21 (by omega)
  have e22 : ExD ta (tf 6).toInt na6 ma7 v10 (pf 13).toInt (pf5 13).toInt (3 * (bp ta (pf5 11) - bp ta (pf 11))) (pf 12).toInt := e22
  have hxd_v10 := e22
  have hnx_v10 := hxd_v10.num
  have e23 : FsI (tf 6).toInt (pf5 13).toInt na6 := e23
  have hfs := e23
  have e24 : R_mp_conditional (RL_mp_expression lv) (RL_mp_conditional lv) ta pf na ma wa pf5 na6 ma7 wa8 v10 0 := e24
  have e24X : RX_mp_conditional ta pf na ma wa pf5 na6 ma7 wa8 v10 0 := ⟨lv, e24⟩
  have lv10 := Int32.le_toInt v10
  have uv10 := Int32.toInt_lt v10
  refine lv_istore_n (lv' := [(1, .int v10), (0, .ref h)]) S.x S.b d_Mpg_constant_4 rfl hl (by decide) rfl (fun ls hl => ?_)
  refine lv_iload_n S.x S.b d_Mpg_constant_5 rfl (lv_at hl 0 rfl) ?_
  refine lv_if_ge (tgt := 15) S.x S.b d_Mpg_constant_6 (by decide) (fun c25 => ?_) (fun c25 => ?_)
  · have nc25 : (0 : Int) ≤ v10.toInt := (i_le (x := 0) (y := v10)).mp c25
    refine lv_iload_n S.x S.b d_Mpg_constant_15 rfl (lv_at hl 0 rfl) ?_
    have ht_v10 := hxd_v10.pos (by omega); have hn_ht_v10 := ht_v10.num
    first | exact th_iret (v := v10) S hr rfl hlk hAe hw (⟨pf5, na6, ma7, wa8, rfl, (show (pf 11).toInt + 1 ≤ (pf5 11).toInt from e11), (show (pf5 11).toInt < (tf 6).toInt from e12), (show (pf 13).toInt + 1 ≤ (pf5 13).toInt from e13), (show (pf5 13).toInt - (pf 13).toInt ≤ (pf5 11).toInt - (pf 11).toInt from e14), (show bp ta (pf 11) + 1 ≤ bp ta (pf5 11) from e15), (show (pf5 12).toInt = (pf 12).toInt from e16), (show (pf5 24).toInt = (pf 24).toInt from e17), (show (pf5 25).toInt = (pf 25).toInt from e18), (show (pf5 26).toInt = (pf 26).toInt from e19), (show FrB (pf 13).toInt na ma na6 ma7 from hfb), (show FrW (pf 26).toInt wa wa8 from hfw), (show ExR ta (tf 6).toInt na6 ma7 v10 (pf 13).toInt (pf5 13).toInt (3 * (bp ta (pf5 11) - bp ta (pf 11))) (pf 12).toInt from (ExR.le ht_v10 (by omega) (by omega) (by omega) (by omega))), (show FsI (tf 6).toInt (pf5 13).toInt na6 from (FsI.le hfs (by omega))), (show R_mp_constant ta pf na ma wa pf5 na6 ma7 wa8 v10 0 from (Or.inl (Or.inr ⟨pf5, na6, ma7, wa8, v10, e24X, Or.inl ⟨nc25, rfl, rfl, rfl, rfl, rfl, rfl⟩⟩)))⟩) d_Mpg_constant_16 | (exact th_iret (v := v10) S hr rfl hlk hAe hw (⟨pf5, na6, ma7, wa8, rfl, (show (pf 11).toInt + 1 ≤ (pf5 11).toInt from by first | exact e11 | omega), (show (pf5 11).toInt < (tf 6).toInt from by first | exact e12 | omega), (show (pf 13).toInt + 1 ≤ (pf5 13).toInt from by first | exact e13 | omega), (show (pf5 13).toInt - (pf 13).toInt ≤ (pf5 11).toInt - (pf 11).toInt from by first | exact e14 | omega), (show bp ta (pf 11) + 1 ≤ bp ta (pf5 11) from by first | exact e15 | omega), (show (pf5 12).toInt = (pf 12).toInt from by first | exact e16 | omega), (show (pf5 24).toInt = (pf 24).toInt from by first | exact e17 | omega), (show (pf5 25).toInt = (pf 25).toInt from by first | exact e18 | omega), (show (pf5 26).toInt = (pf 26).toInt from by first | exact e19 | omega), (show FrB (pf 13).toInt na ma na6 ma7 from hfb), (show FrW (pf 26).toInt wa wa8 from hfw), (show ExR ta (tf 6).toInt na6 ma7 v10 (pf 13).toInt (pf5 13).toInt (3 * (bp ta (pf5 11) - bp ta (pf 11))) (pf 12).toInt from (ExR.le ht_v10 (by omega) (by omega) (by omega) (by omega))), (show FsI (tf 6).toInt (pf5 13).toInt na6 from (FsI.le hfs (by omega))), (show R_mp_constant ta pf na ma wa pf5 na6 ma7 wa8 v10 0 from (Or.inl (Or.inr ⟨pf5, na6, ma7, wa8, v10, e24X, Or.inl ⟨nc25, rfl, rfl, rfl, rfl, rfl, rfl⟩⟩)))⟩) d_Mpg_constant_16)
  · have nc25 : ¬ (0 : Int) ≤ v10.toInt := mt (i_le (x := 0) (y := v10)).mpr c25
    refine lv_iconst (v := (-1)) S.x S.b d_Mpg_constant_9 (by decide) ?_
    refine lv_iload_n S.x S.b d_Mpg_constant_10 rfl (lv_at hl 0 rfl) ?_
    refine lv_isub S.x S.b d_Mpg_constant_11 ?_
    refine lv_topi (fun z27 ez27 => ?_)
    have tz27 : z27.toInt = ((-1 : Int) - v10.toInt + 2147483648) % 4294967296 - 2147483648 := by rw [ez27]; exact i_sub (-1) v10
    have lz27 := Int32.le_toInt z27
    have uz27 := Int32.toInt_lt z27
    try replace tz27 : z27.toInt = (-1 : Int) - v10.toInt := by omega
    have ht_z27 := hxd_v10.neg (z := z27) (by omega) (by omega); have hn_ht_z27 := ht_z27.num
    refine lv_goto (tgt := 16) S.x S.b d_Mpg_constant_12 (by decide) ?_
    first | exact th_iret (v := z27) S hr rfl hlk hAe hw (⟨pf5, na6, ma7, wa8, rfl, (show (pf 11).toInt + 1 ≤ (pf5 11).toInt from e11), (show (pf5 11).toInt < (tf 6).toInt from e12), (show (pf 13).toInt + 1 ≤ (pf5 13).toInt from e13), (show (pf5 13).toInt - (pf 13).toInt ≤ (pf5 11).toInt - (pf 11).toInt from e14), (show bp ta (pf 11) + 1 ≤ bp ta (pf5 11) from e15), (show (pf5 12).toInt = (pf 12).toInt from e16), (show (pf5 24).toInt = (pf 24).toInt from e17), (show (pf5 25).toInt = (pf 25).toInt from e18), (show (pf5 26).toInt = (pf 26).toInt from e19), (show FrB (pf 13).toInt na ma na6 ma7 from hfb), (show FrW (pf 26).toInt wa wa8 from hfw), (show ExR ta (tf 6).toInt na6 ma7 z27 (pf 13).toInt (pf5 13).toInt (3 * (bp ta (pf5 11) - bp ta (pf 11))) (pf 12).toInt from (ExR.le ht_z27 (by omega) (by omega) (by omega) (by omega))), (show FsI (tf 6).toInt (pf5 13).toInt na6 from (FsI.le hfs (by omega))), (show R_mp_constant ta pf na ma wa pf5 na6 ma7 wa8 z27 0 from (Or.inl (Or.inr ⟨pf5, na6, ma7, wa8, v10, e24X, Or.inr ⟨nc25, z27, ez27, rfl, rfl, rfl, rfl, rfl, rfl⟩⟩)))⟩) d_Mpg_constant_16 | (exact th_iret (v := z27) S hr rfl hlk hAe hw (⟨pf5, na6, ma7, wa8, rfl, (show (pf 11).toInt + 1 ≤ (pf5 11).toInt from by first | exact e11 | omega), (show (pf5 11).toInt < (tf 6).toInt from by first | exact e12 | omega), (show (pf 13).toInt + 1 ≤ (pf5 13).toInt from by first | exact e13 | omega), (show (pf5 13).toInt - (pf 13).toInt ≤ (pf5 11).toInt - (pf 11).toInt from by first | exact e14 | omega), (show bp ta (pf 11) + 1 ≤ bp ta (pf5 11) from by first | exact e15 | omega), (show (pf5 12).toInt = (pf 12).toInt from by first | exact e16 | omega), (show (pf5 24).toInt = (pf 24).toInt from by first | exact e17 | omega), (show (pf5 25).toInt = (pf 25).toInt from by first | exact e18 | omega), (show (pf5 26).toInt = (pf 26).toInt from by first | exact e19 | omega), (show FrB (pf 13).toInt na ma na6 ma7 from hfb), (show FrW (pf 26).toInt wa wa8 from hfw), (show ExR ta (tf 6).toInt na6 ma7 z27 (pf 13).toInt (pf5 13).toInt (3 * (bp ta (pf5 11) - bp ta (pf 11))) (pf 12).toInt from (ExR.le ht_z27 (by omega) (by omega) (by omega) (by omega))), (show FsI (tf 6).toInt (pf5 13).toInt na6 from (FsI.le hfs (by omega))), (show R_mp_constant ta pf na ma wa pf5 na6 ma7 wa8 z27 0 from (Or.inl (Or.inr ⟨pf5, na6, ma7, wa8, v10, e24X, Or.inr ⟨nc25, z27, ez27, rfl, rfl, rfl, rfl, rfl, rfl⟩⟩)))⟩) d_Mpg_constant_16)
abbrev b_Mpg_inParentheses : ByteArray := prog_16_method_50_code
def y_Mpg_inParentheses : MethodName := ⟨"HomeSystemModel$Program", "inParentheses", "()I"⟩
theorem d_Mpg_inParentheses_0 : decode b_Mpg_inParentheses 0 = .ok (.aload_n 0, 1) := by decide +kernel
theorem d_Mpg_inParentheses_1 : decode b_Mpg_inParentheses 1 = .ok (.ldc 87, 2) := by decide +kernel
theorem d_Mpg_inParentheses_3 : decode b_Mpg_inParentheses 3 = .ok (.invokevirtual 457, 3) := by decide +kernel
theorem d_Mpg_inParentheses_6 : decode b_Mpg_inParentheses 6 = .ok (.aload_n 0, 1) := by decide +kernel
theorem d_Mpg_inParentheses_7 : decode b_Mpg_inParentheses 7 = .ok (.invokevirtual 403, 3) := by decide +kernel
theorem d_Mpg_inParentheses_10 : decode b_Mpg_inParentheses 10 = .ok (.istore_n 1, 1) := by decide +kernel
theorem d_Mpg_inParentheses_11 : decode b_Mpg_inParentheses 11 = .ok (.aload_n 0, 1) := by decide +kernel
theorem d_Mpg_inParentheses_12 : decode b_Mpg_inParentheses 12 = .ok (.ldc 89, 2) := by decide +kernel
theorem d_Mpg_inParentheses_14 : decode b_Mpg_inParentheses 14 = .ok (.invokevirtual 439, 3) := by decide +kernel
theorem d_Mpg_inParentheses_17 : decode b_Mpg_inParentheses 17 = .ok (.iload_n 1, 1) := by decide +kernel
theorem d_Mpg_inParentheses_18 : decode b_Mpg_inParentheses 18 = .ok (.ireturn, 1) := by decide +kernel
theorem q_Mpg_inParentheses : px_y y_Mpg_inParentheses 0 := by unfold px_y; decide +kernel
set_option maxHeartbeats 4000000 in
set_option maxRecDepth 100000 in
theorem c_mp_inParentheses (l : Launch) (D : va_G) (cs : Nat → ClassId) (h : Nat) (r : Nat → Nat) (g : Nat → Nat → Option Nat) (tf : Nat → Int32) (ta : Nat → Nat → Int32) (cf : Nat → Int32) (ca : Nat → Nat → Int32) (ef : Nat → Int32) (ea : Nat → Nat → Int32) (xf : Nat → Int32) (xa : Nat → Nat → Int32) (pf : Nat → Int32) (na : Nat → Nat → Int32) (ma : Nat → Nat → Int32) (wa : Nat → Nat → Int32) (lv : Nat) (g0 : 0 ≤ (pf 11).toInt) (g1 : (pf 11).toInt < (tf 6).toInt) (g2 : (tf 6).toInt ≤ 2049) (g3 : 0 ≤ (pf 12).toInt) (g4 : (pf 12).toInt ≤ 60) (g5 : 0 ≤ (pf 13).toInt) (g6 : (pf 13).toInt ≤ (pf 11).toInt + 10) (g7 : 0 ≤ (pf 26).toInt) (g8 : (pf 26).toInt ≤ (pf 12).toInt) (g9 : 61 ≤ (pf 12).toInt + (lv : Int)) (g10 : lv ≤ 61) (hlf : l.flags = pinnedFlags ++ [noTraceFlag]) (htk : TkI tf ta) (hfs : FsI (tf 6).toInt (pf 13).toInt na) : ThI l y_Mpg_inParentheses b_Mpg_inParentheses 2 (.int) D cs (8 * lv + 22) (220 * lv + 1000) [.ref h] [wdP cs h r g tf ta pf na ma wa cf ca ef ea xf xa] (oX (fun A U H => (oN A U H) ∧ (oP A g U H)) [wdP cs h r g tf ta pf na ma wa cf ca ef ea xf xa]) "java/lang/IllegalArgumentException" (fun v ps => ∃ (pf' : Nat → Int32) (na' : Nat → Nat → Int32) (ma' : Nat → Nat → Int32) (wa' : Nat → Nat → Int32), (ps = [wdP cs h r g tf ta pf' na' ma' wa' cf ca ef ea xf xa]) ∧ ((pf 11).toInt + 1 ≤ (pf' 11).toInt) ∧ ((pf' 11).toInt < (tf 6).toInt) ∧ ((pf 13).toInt + 1 ≤ (pf' 13).toInt) ∧ ((pf' 13).toInt - (pf 13).toInt ≤ (pf' 11).toInt - (pf 11).toInt) ∧ (bp ta (pf 11) + 1 ≤ bp ta (pf' 11)) ∧ ((pf' 12).toInt = (pf 12).toInt) ∧ ((pf' 24).toInt = (pf 24).toInt) ∧ ((pf' 25).toInt = (pf 25).toInt) ∧ ((pf' 26).toInt = (pf 26).toInt) ∧ (FrB (pf 13).toInt na ma na' ma') ∧ (FrW (pf 26).toInt wa wa') ∧ (ExR ta (tf 6).toInt na' ma' v (pf 13).toInt (pf' 13).toInt (3 * (bp ta (pf' 11) - bp ta (pf 11)) - 6) (pf 12).toInt) ∧ (FsI (tf 6).toInt (pf' 13).toInt na') ∧ (R_mp_inParentheses ta pf na ma wa pf' na' ma' wa' v 0)) (fun ps => ∃ (pf' : Nat → Int32) (na' : Nat → Nat → Int32) (ma' : Nat → Nat → Int32) (wa' : Nat → Nat → Int32), ps = [wdP cs h r g tf ta pf' na' ma' wa' cf ca ef ea xf xa] ∧ 0 ≤ (pf' 11).toInt ∧ (pf' 11).toInt + 1 ≤ (tf 6).toInt ∧ R_mp_inParentheses ta pf na ma wa pf' na' ma' wa' 0 1) := by
  refine th_enter (by decide) (Nat.le_of_ble_eq_true rfl) ?_
  intro p e s m below meth c A ls hAe S hr hlk hnm hA hT hX hw hl hne hadm
  have hl : lv_has ls 2 [(0, .ref h)] := hl
  have hX : (fun A U H => (oN A U H) ∧ (oP A g U H)) A s s.heap := by rw [hAe]; exact hX
  obtain ⟨hN, hP⟩ := hX
  have hZ := hP.1
  have hF0 := hP.2.1
  have hfb : FrB (pf 13).toInt na ma na ma := FrB.rf
  have hfw : FrW (pf 26).toInt wa wa := FrW.rf
  refine lv_aload_n S.x S.b d_Mpg_inParentheses_0 rfl (lv_at hl 0 rfl) ?_
  obtain ⟨sk1, hRsk1, st2, hSsk1⟩ := oP_litB hP (k := 87) (tx := "(") (n := 1) (List.mem_of_getElem? (i := 35) rfl)
  refine va_ldcS S.x S.b S.own hRsk1 d_Mpg_inParentheses_1 ?_
  first | refine th_callv (ps0 := [wdP cs h r g tf ta pf na ma wa cf ca ef ea xf xa]) (pr := []) (pcs := [wdP cs h r g tf ta pf na ma wa cf ca ef ea xf xa]) (As := [.ref sk1]) (rest := []) (c_mp_opensMark l D cs sk1 1 (lby "(") h r g tf ta na ma wa cf ca ef ea xf xa pf   (show 0 ≤ (pf 11).toInt from g0) (show (pf 11).toInt < (tf 6).toInt from g1) (show (tf 6).toInt ≤ 2049 from g2) (show 0 ≤ (pf 12).toInt from g3) (show (pf 12).toInt ≤ 60 from g4) (show 1 ≤ 100 from by omega) hlf htk) S hT hw (oX_call (P := (fun A U H => (oN A U H) ∧ (oP A g U H) ∧ (StLt A sk1 1 (lby "(") U H))) (pr := []) (oG_and oG_N (oG_and oG_P oG_QB)) hw hA ⟨hN, hP, ⟨_, hSsk1⟩⟩) (px_recv hT hw 0 0 rfl rfl rfl) m11_213 m11_210 m11_212 ms_8_13 m1_21 q_Mpg_opensMark ⟨show 8 + 1 ≤ (8 * lv + 22) from (oz_bfe85df265), show 8 + (2 + 11) + 240 ≤ (220 * lv + 1000) from (oz_e42671736c)⟩ hl.1 rfl (Nat.le_of_ble_eq_true rfl) d_Mpg_inParentheses_3 ⟨Nat.le_of_ble_eq_true rfl, Nat.le_of_ble_eq_true rfl⟩ hne hlk hA hAe (fun o t h => Or.inr h) ?_ (fun p6 H locs hp6 hw => ?_) | (refine th_callv (ps0 := [wdP cs h r g tf ta pf na ma wa cf ca ef ea xf xa]) (pr := []) (pcs := [wdP cs h r g tf ta pf na ma wa cf ca ef ea xf xa]) (As := [.ref sk1]) (rest := []) (c_mp_opensMark l D cs sk1 1 (lby "(") h r g tf ta na ma wa cf ca ef ea xf xa pf   (show 0 ≤ (pf 11).toInt from by first | exact g0 | omega) (show (pf 11).toInt < (tf 6).toInt from by first | exact g1 | omega) (show (tf 6).toInt ≤ 2049 from by first | exact g2 | omega) (show 0 ≤ (pf 12).toInt from by first | exact g3 | omega) (show (pf 12).toInt ≤ 60 from by first | exact g4 | omega) (show 1 ≤ 100 from by omega) hlf htk) S hT hw (oX_call (P := (fun A U H => (oN A U H) ∧ (oP A g U H) ∧ (StLt A sk1 1 (lby "(") U H))) (pr := []) (oG_and oG_N (oG_and oG_P oG_QB)) hw hA ⟨hN, hP, ⟨_, hSsk1⟩⟩) (px_recv hT hw 0 0 rfl rfl rfl) m11_213 m11_210 m11_212 ms_8_13 m1_21 q_Mpg_opensMark ⟨show 8 + 1 ≤ (8 * lv + 22) from (by first | exact oz_bfe85df265 | omega), show 8 + (2 + 11) + 240 ≤ (220 * lv + 1000) from (by first | exact oz_e42671736c | omega)⟩ hl.1 rfl (Nat.le_of_ble_eq_true rfl) d_Mpg_inParentheses_3 ⟨Nat.le_of_ble_eq_true rfl, Nat.le_of_ble_eq_true rfl⟩ hne hlk hA hAe (fun o t h => Or.inr h) ?_ (fun p6 H locs hp6 hw => ?_))
  · exact fun p1 H1 locs1 hp hw => by obtain ⟨pq1, pq2, pq3, pq4, rfl, hq1, hq2, hu_na, hu_ma, hu_wa, hq3⟩ := hp; exact ⟨_, ⟨pq1, pq2, pq3, pq4, rfl, hq1, hq2, (Or.inl (Or.inl ⟨pq1, hq3, rfl, hu_na, hu_ma, hu_wa, rfl, rfl⟩))⟩, hw⟩
  obtain ⟨pf5, rfl, e8, e9, e10, e11, e12, e13, e14, e15, e16, e17, e18⟩ := hp6
  have e8 : (pf5 11).toInt = (pf 11).toInt + 1 := e8
  have e9 : (pf5 11).toInt < (tf 6).toInt := e9
  have e10 : bp ta (pf 11) + sz ta (pf 11) ≤ bp ta (pf5 11) := e10
  have e11 : 1 ≤ sz ta (pf 11) := e11
  have e12 : (pf5 12).toInt = (pf 12).toInt + 1 := e12
  have e13 : (pf 12).toInt < 60 := e13
  have e14 : (pf5 13).toInt = (pf 13).toInt := e14
  have e15 : (pf5 24).toInt = (pf 24).toInt := e15
  have e16 : (pf5 25).toInt = (pf 25).toInt := e16
  have e17 : (pf5 26).toInt = (pf 26).toInt := e17
  have e18 : R_mp_opensMark 1 (lby "(") ta pf pf5 0 := e18
  refine lv_aload_n S.x S.b d_Mpg_inParentheses_6 rfl (lv_at hl 0 rfl) ?_
  first | refine th_calli (ps0 := [wdP cs h r g tf ta pf na ma wa cf ca ef ea xf xa]) (pr := []) (pcs := [wdP cs h r g tf ta pf5 na ma wa cf ca ef ea xf xa]) (As := []) (rest := []) (c_S_expression l D cs h r g tf ta cf ca ef ea xf xa pf5 na ma wa  lv (show 0 ≤ (pf5 11).toInt from (oz_ae613611c0 e8 g0)) (show (pf5 11).toInt < (tf 6).toInt from e9) (show (tf 6).toInt ≤ 2049 from g2) (show 0 ≤ (pf5 12).toInt from (oz_ae613611c0 e12 g3)) (show (pf5 12).toInt ≤ 60 from (oz_6710fd9021 e12 e13)) (show 0 ≤ (pf5 13).toInt from (oz_f3ebed1ad0 e14 g5)) (show (pf5 13).toInt ≤ (pf5 11).toInt + 20 from (oz_7b203170f1 e8 e14 g6)) (show 0 ≤ (pf5 26).toInt from (oz_f3ebed1ad0 e17 g7)) (show (pf5 26).toInt ≤ (pf5 12).toInt from (oz_d87b110ba5 e12 e17 g8)) (show 61 ≤ (pf5 12).toInt + (lv : Int) from (oz_8dace4bcab g9 e12)) (show lv ≤ 61 from g10) hlf htk (FsI.le (N' := (pf5 13).toInt) hfs (by omega))) S hT hw (oX_call (P := (fun A U H => (oN A U H) ∧ (oP A g U H))) (pr := []) (oG_and oG_N oG_P) hw hA ⟨hN, hP⟩) (px_recv hT hw 0 0 rfl rfl rfl) m12_38 m12_35 m12_37 ms_9_11 m1_21 q_Mpg_expression ⟨show (8 * lv + 20) + 1 ≤ (8 * lv + 22) from (oz_99ea2e68f7), show 8 + (7 + 11) + (220 * lv + 720) ≤ (220 * lv + 1000) from (oz_c38e98c1d4)⟩ hl.1 rfl (Nat.le_of_ble_eq_true rfl) d_Mpg_inParentheses_7 ⟨Nat.le_of_ble_eq_true rfl, Nat.le_of_ble_eq_true rfl⟩ hne hlk hA hAe (fun o t h => Or.inr h) ?_ (fun v28 p27 H locs hp27 hw => ?_) | (refine th_calli (ps0 := [wdP cs h r g tf ta pf na ma wa cf ca ef ea xf xa]) (pr := []) (pcs := [wdP cs h r g tf ta pf5 na ma wa cf ca ef ea xf xa]) (As := []) (rest := []) (c_S_expression l D cs h r g tf ta cf ca ef ea xf xa pf5 na ma wa  lv (show 0 ≤ (pf5 11).toInt from by first | exact oz_ae613611c0 e8 g0 | omega) (show (pf5 11).toInt < (tf 6).toInt from by first | exact e9 | omega) (show (tf 6).toInt ≤ 2049 from by first | exact g2 | omega) (show 0 ≤ (pf5 12).toInt from by first | exact oz_ae613611c0 e12 g3 | omega) (show (pf5 12).toInt ≤ 60 from by first | exact oz_6710fd9021 e12 e13 | omega) (show 0 ≤ (pf5 13).toInt from by first | exact oz_f3ebed1ad0 e14 g5 | omega) (show (pf5 13).toInt ≤ (pf5 11).toInt + 20 from by first | exact oz_7b203170f1 e8 e14 g6 | omega) (show 0 ≤ (pf5 26).toInt from by first | exact oz_f3ebed1ad0 e17 g7 | omega) (show (pf5 26).toInt ≤ (pf5 12).toInt from by first | exact oz_d87b110ba5 e12 e17 g8 | omega) (show 61 ≤ (pf5 12).toInt + (lv : Int) from by first | exact oz_8dace4bcab g9 e12 | omega) (show lv ≤ 61 from by first | exact g10 | omega) hlf htk (FsI.le (N' := (pf5 13).toInt) hfs (by omega))) S hT hw (oX_call (P := (fun A U H => (oN A U H) ∧ (oP A g U H))) (pr := []) (oG_and oG_N oG_P) hw hA ⟨hN, hP⟩) (px_recv hT hw 0 0 rfl rfl rfl) m12_38 m12_35 m12_37 ms_9_11 m1_21 q_Mpg_expression ⟨show (8 * lv + 20) + 1 ≤ (8 * lv + 22) from (by first | exact oz_99ea2e68f7 | omega), show 8 + (7 + 11) + (220 * lv + 720) ≤ (220 * lv + 1000) from (by first | exact oz_c38e98c1d4 | omega)⟩ hl.1 rfl (Nat.le_of_ble_eq_true rfl) d_Mpg_inParentheses_7 ⟨Nat.le_of_ble_eq_true rfl, Nat.le_of_ble_eq_true rfl⟩ hne hlk hA hAe (fun o t h => Or.inr h) ?_ (fun v28 p27 H locs hp27 hw => ?_))
  · exact fun p1 H1 locs1 hp hw => by obtain ⟨pq1, pq2, pq3, pq4, rfl, hq1, hq2, hq3⟩ := hp; exact ⟨_, ⟨pq1, pq2, pq3, pq4, rfl, hq1, hq2, (Or.inl (Or.inr ⟨pf5, e18, Or.inl ⟨pq1, pq2, pq3, pq4, ⟨lv, hq3⟩, rfl, rfl, rfl, rfl, rfl, rfl⟩⟩))⟩, hw⟩
  obtain ⟨pf23, na24, ma25, wa26, rfl, e29, e30, e31, e32, e33, e34, e35, e36, e37, e38, e39, e40, e41, e42⟩ := hp27
  have e29 : (pf5 11).toInt + 1 ≤ (pf23 11).toInt := e29
  have e30 : (pf23 11).toInt < (tf 6).toInt := e30
  have e31 : (pf5 13).toInt + 1 ≤ (pf23 13).toInt := e31
  have e32 : (pf23 13).toInt - (pf5 13).toInt ≤ (pf23 11).toInt - (pf5 11).toInt := e32
  have e33 : bp ta (pf5 11) + 1 ≤ bp ta (pf23 11) := e33
  have e34 : (pf23 12).toInt = (pf5 12).toInt := e34
  have e35 : (pf23 24).toInt = (pf5 24).toInt := e35
  have e36 : (pf23 25).toInt = (pf5 25).toInt := e36
  have e37 : (pf23 26).toInt = (pf5 26).toInt := e37
  have e38 : FrB (pf5 13).toInt na ma na24 ma25 := e38
  have hfb := hfb.tr e38 (by omega)
  have e39 : FrW (pf5 26).toInt wa wa26 := e39
  have hfw := hfw.tr e39 (by omega)
  have e40 : ExR ta (tf 6).toInt na24 ma25 v28 (pf5 13).toInt (pf23 13).toInt (3 * (bp ta (pf23 11) - bp ta (pf5 11))) (pf5 12).toInt := e40
  have ht_v28 := e40
  have hn_ht_v28 := ht_v28.num
  have e41 : FsI (tf 6).toInt (pf23 13).toInt na24 := e41
  have hfs := e41
  have e42 : R_mp_expression (RL_mp_expression lv) (RL_mp_conditional lv) ta pf5 na ma wa pf23 na24 ma25 wa26 v28 0 := e42
  have e42X : RX_mp_expression ta pf5 na ma wa pf23 na24 ma25 wa26 v28 0 := ⟨lv, e42⟩
  have lv28 := Int32.le_toInt v28
  have uv28 := Int32.toInt_lt v28
  refine lv_istore_n (lv' := [(1, .int v28), (0, .ref h)]) S.x S.b d_Mpg_inParentheses_10 rfl hl (by decide) rfl (fun ls hl => ?_)
  refine lv_aload_n S.x S.b d_Mpg_inParentheses_11 rfl (lv_at hl 1 rfl) ?_
  obtain ⟨sk43, hRsk43, st44, hSsk43⟩ := oP_litB hP (k := 89) (tx := ")") (n := 1) (List.mem_of_getElem? (i := 36) rfl)
  refine va_ldcS S.x S.b S.own hRsk43 d_Mpg_inParentheses_12 ?_
  first | refine th_callv (ps0 := [wdP cs h r g tf ta pf na ma wa cf ca ef ea xf xa]) (pr := []) (pcs := [wdP cs h r g tf ta pf23 na24 ma25 wa26 cf ca ef ea xf xa]) (As := [.ref sk43]) (rest := []) (c_mp_closes l D cs sk43 1 (lby ")") h r g tf ta na24 ma25 wa26 cf ca ef ea xf xa pf23   (show 0 ≤ (pf23 11).toInt from (oz_4606bbd1cf e29 e8 g0)) (show (pf23 11).toInt < (tf 6).toInt from e30) (show (tf 6).toInt ≤ 2049 from g2) (show 1 ≤ (pf23 12).toInt from (oz_a564fc7457 e34 e12 g8 g7)) (show (pf23 12).toInt ≤ 60 from (oz_1a76b13bbc e34 e12 e13)) (show 1 ≤ 100 from by omega) hlf htk) S hT hw (oX_call (P := (fun A U H => (oN A U H) ∧ (oP A g U H) ∧ (StLt A sk43 1 (lby ")") U H))) (pr := []) (oG_and oG_N (oG_and oG_P oG_QB)) hw hA ⟨hN, hP, ⟨_, hSsk43⟩⟩) (px_recv hT hw 0 0 rfl rfl rfl) m12_53 m12_50 m12_52 ms_9_14 m1_21 q_Mpg_closes ⟨show 8 + 1 ≤ (8 * lv + 22) from (oz_bfe85df265), show 8 + (2 + 11) + 280 ≤ (220 * lv + 1000) from (oz_218a0807e9)⟩ hl.1 rfl (Nat.le_of_ble_eq_true rfl) d_Mpg_inParentheses_14 ⟨Nat.le_of_ble_eq_true rfl, Nat.le_of_ble_eq_true rfl⟩ hne hlk hA hAe (fun o t h => Or.inr h) ?_ (fun p48 H locs hp48 hw => ?_) | (refine th_callv (ps0 := [wdP cs h r g tf ta pf na ma wa cf ca ef ea xf xa]) (pr := []) (pcs := [wdP cs h r g tf ta pf23 na24 ma25 wa26 cf ca ef ea xf xa]) (As := [.ref sk43]) (rest := []) (c_mp_closes l D cs sk43 1 (lby ")") h r g tf ta na24 ma25 wa26 cf ca ef ea xf xa pf23   (show 0 ≤ (pf23 11).toInt from by first | exact oz_4606bbd1cf e29 e8 g0 | omega) (show (pf23 11).toInt < (tf 6).toInt from by first | exact e30 | omega) (show (tf 6).toInt ≤ 2049 from by first | exact g2 | omega) (show 1 ≤ (pf23 12).toInt from by first | exact oz_a564fc7457 e34 e12 g8 g7 | omega) (show (pf23 12).toInt ≤ 60 from by first | exact oz_1a76b13bbc e34 e12 e13 | omega) (show 1 ≤ 100 from by omega) hlf htk) S hT hw (oX_call (P := (fun A U H => (oN A U H) ∧ (oP A g U H) ∧ (StLt A sk43 1 (lby ")") U H))) (pr := []) (oG_and oG_N (oG_and oG_P oG_QB)) hw hA ⟨hN, hP, ⟨_, hSsk43⟩⟩) (px_recv hT hw 0 0 rfl rfl rfl) m12_53 m12_50 m12_52 ms_9_14 m1_21 q_Mpg_closes ⟨show 8 + 1 ≤ (8 * lv + 22) from (by first | exact oz_bfe85df265 | omega), show 8 + (2 + 11) + 280 ≤ (220 * lv + 1000) from (by first | exact oz_218a0807e9 | omega)⟩ hl.1 rfl (Nat.le_of_ble_eq_true rfl) d_Mpg_inParentheses_14 ⟨Nat.le_of_ble_eq_true rfl, Nat.le_of_ble_eq_true rfl⟩ hne hlk hA hAe (fun o t h => Or.inr h) ?_ (fun p48 H locs hp48 hw => ?_))
  · exact fun p1 H1 locs1 hp hw => by obtain ⟨pq1, pq2, pq3, pq4, rfl, hq1, hq2, hu_na, hu_ma, hu_wa, hq3⟩ := hp; exact ⟨_, ⟨pq1, pq2, pq3, pq4, rfl, hq1, hq2, (Or.inl (Or.inr ⟨pf5, e18, Or.inr ⟨pf23, na24, ma25, wa26, v28, e42X, Or.inl ⟨pq1, hq3, rfl, hu_na, hu_ma, hu_wa, rfl, rfl⟩⟩⟩))⟩, hw⟩
  obtain ⟨pf47, rfl, e50, e51, e52, e53, e54, e55, e56, e57, e58⟩ := hp48
  have e50 : (pf47 11).toInt = (pf23 11).toInt + 1 := e50
  have e51 : (pf47 11).toInt < (tf 6).toInt := e51
  have e52 : bp ta (pf23 11) + 1 ≤ bp ta (pf47 11) := e52
  have e53 : (pf47 12).toInt = (pf23 12).toInt - 1 := e53
  have e54 : (pf47 13).toInt = (pf23 13).toInt := e54
  have e55 : (pf47 24).toInt = (pf23 24).toInt := e55
  have e56 : (pf47 25).toInt = (pf23 25).toInt := e56
  have e57 : (pf47 26).toInt = (pf23 26).toInt := e57
  have e58 : R_mp_closes 1 (lby ")") ta pf23 pf47 0 := e58
  refine lv_iload_n S.x S.b d_Mpg_inParentheses_17 rfl (lv_at hl 0 rfl) ?_
  first | exact th_iret (v := v28) S hr rfl hlk hAe hw (⟨pf47, na24, ma25, wa26, rfl, (show (pf 11).toInt + 1 ≤ (pf47 11).toInt from (oz_40adf82cfc e8 e50 e29)), (show (pf47 11).toInt < (tf 6).toInt from e51), (show (pf 13).toInt + 1 ≤ (pf47 13).toInt from (oz_56e011771b e14 e54 e31)), (show (pf47 13).toInt - (pf 13).toInt ≤ (pf47 11).toInt - (pf 11).toInt from (oz_367be77e0e e8 e14 e50 e54 e32)), (show bp ta (pf 11) + 1 ≤ bp ta (pf47 11) from (oz_666f9d906c e10 e52 e11 e33)), (show (pf47 12).toInt = (pf 12).toInt from (oz_e2f0d2d242 e12 e53 e34)), (show (pf47 24).toInt = (pf 24).toInt from (oz_e13fc83238 e15 e55 e35)), (show (pf47 25).toInt = (pf 25).toInt from (oz_e13fc83238 e16 e56 e36)), (show (pf47 26).toInt = (pf 26).toInt from (oz_e13fc83238 e17 e57 e37)), (show FrB (pf 13).toInt na ma na24 ma25 from hfb), (show FrW (pf 26).toInt wa wa26 from hfw), (show ExR ta (tf 6).toInt na24 ma25 v28 (pf 13).toInt (pf47 13).toInt (3 * (bp ta (pf47 11) - bp ta (pf 11)) - 6) (pf 12).toInt from (ExR.le ht_v28 (by omega) (by omega) (by omega) (by omega))), (show FsI (tf 6).toInt (pf47 13).toInt na24 from (FsI.le hfs (by omega))), (show R_mp_inParentheses ta pf na ma wa pf47 na24 ma25 wa26 v28 0 from (Or.inl (Or.inr ⟨pf5, e18, Or.inr ⟨pf23, na24, ma25, wa26, v28, e42X, Or.inr ⟨pf47, e58, rfl, rfl, rfl, rfl, rfl, rfl⟩⟩⟩)))⟩) d_Mpg_inParentheses_18 | (exact th_iret (v := v28) S hr rfl hlk hAe hw (⟨pf47, na24, ma25, wa26, rfl, (show (pf 11).toInt + 1 ≤ (pf47 11).toInt from by first | exact oz_40adf82cfc e8 e50 e29 | omega), (show (pf47 11).toInt < (tf 6).toInt from by first | exact e51 | omega), (show (pf 13).toInt + 1 ≤ (pf47 13).toInt from by first | exact oz_56e011771b e14 e54 e31 | omega), (show (pf47 13).toInt - (pf 13).toInt ≤ (pf47 11).toInt - (pf 11).toInt from by first | exact oz_367be77e0e e8 e14 e50 e54 e32 | omega), (show bp ta (pf 11) + 1 ≤ bp ta (pf47 11) from by first | exact oz_666f9d906c e10 e52 e11 e33 | omega), (show (pf47 12).toInt = (pf 12).toInt from by first | exact oz_e2f0d2d242 e12 e53 e34 | omega), (show (pf47 24).toInt = (pf 24).toInt from by first | exact oz_e13fc83238 e15 e55 e35 | omega), (show (pf47 25).toInt = (pf 25).toInt from by first | exact oz_e13fc83238 e16 e56 e36 | omega), (show (pf47 26).toInt = (pf 26).toInt from by first | exact oz_e13fc83238 e17 e57 e37 | omega), (show FrB (pf 13).toInt na ma na24 ma25 from hfb), (show FrW (pf 26).toInt wa wa26 from hfw), (show ExR ta (tf 6).toInt na24 ma25 v28 (pf 13).toInt (pf47 13).toInt (3 * (bp ta (pf47 11) - bp ta (pf 11)) - 6) (pf 12).toInt from (ExR.le ht_v28 (by omega) (by omega) (by omega) (by omega))), (show FsI (tf 6).toInt (pf47 13).toInt na24 from (FsI.le hfs (by omega))), (show R_mp_inParentheses ta pf na ma wa pf47 na24 ma25 wa26 v28 0 from (Or.inl (Or.inr ⟨pf5, e18, Or.inr ⟨pf23, na24, ma25, wa26, v28, e42X, Or.inr ⟨pf47, e58, rfl, rfl, rfl, rfl, rfl, rfl⟩⟩⟩)))⟩) d_Mpg_inParentheses_18)
abbrev b_Mpg_arrayValue : ByteArray := prog_16_method_46_code
def y_Mpg_arrayValue : MethodName := ⟨"HomeSystemModel$Program", "arrayValue", "(I)V"⟩
theorem d_Mpg_arrayValue_0 : decode b_Mpg_arrayValue 0 = .ok (.aload_n 0, 1) := by decide +kernel
theorem d_Mpg_arrayValue_1 : decode b_Mpg_arrayValue 1 = .ok (.getfield 222, 3) := by decide +kernel
theorem d_Mpg_arrayValue_4 : decode b_Mpg_arrayValue 4 = .ok (.iload_n 1, 1) := by decide +kernel
theorem d_Mpg_arrayValue_5 : decode b_Mpg_arrayValue 5 = .ok (.aload_n 0, 1) := by decide +kernel
theorem d_Mpg_arrayValue_6 : decode b_Mpg_arrayValue 6 = .ok (.getfield 360, 3) := by decide +kernel
theorem d_Mpg_arrayValue_9 : decode b_Mpg_arrayValue 9 = .ok (.iastore, 1) := by decide +kernel
theorem d_Mpg_arrayValue_10 : decode b_Mpg_arrayValue 10 = .ok (.aload_n 0, 1) := by decide +kernel
theorem d_Mpg_arrayValue_11 : decode b_Mpg_arrayValue 11 = .ok (.getfield 201, 3) := by decide +kernel
theorem d_Mpg_arrayValue_14 : decode b_Mpg_arrayValue 14 = .ok (.aload_n 0, 1) := by decide +kernel
theorem d_Mpg_arrayValue_15 : decode b_Mpg_arrayValue 15 = .ok (.getfield 360, 3) := by decide +kernel
theorem d_Mpg_arrayValue_18 : decode b_Mpg_arrayValue 18 = .ok (.baload, 1) := by decide +kernel
theorem d_Mpg_arrayValue_19 : decode b_Mpg_arrayValue 19 = .ok (.iconst 4, 1) := by decide +kernel
theorem d_Mpg_arrayValue_20 : decode b_Mpg_arrayValue 20 = .ok (.if_icmp .ne 21, 3) := by decide +kernel
theorem d_Mpg_arrayValue_23 : decode b_Mpg_arrayValue 23 = .ok (.aload_n 0, 1) := by decide +kernel
theorem d_Mpg_arrayValue_24 : decode b_Mpg_arrayValue 24 = .ok (.getfield 231, 3) := by decide +kernel
theorem d_Mpg_arrayValue_27 : decode b_Mpg_arrayValue 27 = .ok (.iload_n 1, 1) := by decide +kernel
theorem d_Mpg_arrayValue_28 : decode b_Mpg_arrayValue 28 = .ok (.iconst 3, 1) := by decide +kernel
theorem d_Mpg_arrayValue_29 : decode b_Mpg_arrayValue 29 = .ok (.iastore, 1) := by decide +kernel
theorem d_Mpg_arrayValue_30 : decode b_Mpg_arrayValue 30 = .ok (.aload_n 0, 1) := by decide +kernel
theorem d_Mpg_arrayValue_31 : decode b_Mpg_arrayValue 31 = .ok (.dup, 1) := by decide +kernel
theorem d_Mpg_arrayValue_32 : decode b_Mpg_arrayValue 32 = .ok (.getfield 360, 3) := by decide +kernel
theorem d_Mpg_arrayValue_35 : decode b_Mpg_arrayValue 35 = .ok (.iconst 1, 1) := by decide +kernel
theorem d_Mpg_arrayValue_36 : decode b_Mpg_arrayValue 36 = .ok (.iadd, 1) := by decide +kernel
theorem d_Mpg_arrayValue_37 : decode b_Mpg_arrayValue 37 = .ok (.putfield 360, 3) := by decide +kernel
theorem d_Mpg_arrayValue_40 : decode b_Mpg_arrayValue 40 = .ok (.return_, 1) := by decide +kernel
theorem d_Mpg_arrayValue_41 : decode b_Mpg_arrayValue 41 = .ok (.aload_n 0, 1) := by decide +kernel
theorem d_Mpg_arrayValue_42 : decode b_Mpg_arrayValue 42 = .ok (.getfield 231, 3) := by decide +kernel
theorem d_Mpg_arrayValue_45 : decode b_Mpg_arrayValue 45 = .ok (.iload_n 1, 1) := by decide +kernel
theorem d_Mpg_arrayValue_46 : decode b_Mpg_arrayValue 46 = .ok (.iconst 2, 1) := by decide +kernel
theorem d_Mpg_arrayValue_47 : decode b_Mpg_arrayValue 47 = .ok (.iastore, 1) := by decide +kernel
theorem d_Mpg_arrayValue_48 : decode b_Mpg_arrayValue 48 = .ok (.aload_n 0, 1) := by decide +kernel
theorem d_Mpg_arrayValue_49 : decode b_Mpg_arrayValue 49 = .ok (.ldc 91, 2) := by decide +kernel
theorem d_Mpg_arrayValue_51 : decode b_Mpg_arrayValue 51 = .ok (.invokevirtual 457, 3) := by decide +kernel
theorem d_Mpg_arrayValue_54 : decode b_Mpg_arrayValue 54 = .ok (.aload_n 0, 1) := by decide +kernel
theorem d_Mpg_arrayValue_55 : decode b_Mpg_arrayValue 55 = .ok (.invokevirtual 451, 3) := by decide +kernel
theorem d_Mpg_arrayValue_58 : decode b_Mpg_arrayValue 58 = .ok (.istore_n 2, 1) := by decide +kernel
theorem d_Mpg_arrayValue_59 : decode b_Mpg_arrayValue 59 = .ok (.aload_n 0, 1) := by decide +kernel
theorem d_Mpg_arrayValue_60 : decode b_Mpg_arrayValue 60 = .ok (.getfield 219, 3) := by decide +kernel
theorem d_Mpg_arrayValue_63 : decode b_Mpg_arrayValue 63 = .ok (.iload_n 1, 1) := by decide +kernel
theorem d_Mpg_arrayValue_64 : decode b_Mpg_arrayValue 64 = .ok (.iload_n 2, 1) := by decide +kernel
theorem d_Mpg_arrayValue_65 : decode b_Mpg_arrayValue 65 = .ok (.iastore, 1) := by decide +kernel
theorem d_Mpg_arrayValue_66 : decode b_Mpg_arrayValue 66 = .ok (.aload_n 0, 1) := by decide +kernel
theorem d_Mpg_arrayValue_67 : decode b_Mpg_arrayValue 67 = .ok (.ldc 99, 2) := by decide +kernel
theorem d_Mpg_arrayValue_69 : decode b_Mpg_arrayValue 69 = .ok (.invokevirtual 370, 3) := by decide +kernel
theorem d_Mpg_arrayValue_72 : decode b_Mpg_arrayValue 72 = .ok (.ifCond .eq 20, 3) := by decide +kernel
theorem d_Mpg_arrayValue_75 : decode b_Mpg_arrayValue 75 = .ok (.aload_n 0, 1) := by decide +kernel
theorem d_Mpg_arrayValue_76 : decode b_Mpg_arrayValue 76 = .ok (.invokevirtual 451, 3) := by decide +kernel
theorem d_Mpg_arrayValue_79 : decode b_Mpg_arrayValue 79 = .ok (.istore_n 3, 1) := by decide +kernel
theorem d_Mpg_arrayValue_80 : decode b_Mpg_arrayValue 80 = .ok (.aload_n 0, 1) := by decide +kernel
theorem d_Mpg_arrayValue_81 : decode b_Mpg_arrayValue 81 = .ok (.getfield 228, 3) := by decide +kernel
theorem d_Mpg_arrayValue_84 : decode b_Mpg_arrayValue 84 = .ok (.iload_n 2, 1) := by decide +kernel
theorem d_Mpg_arrayValue_85 : decode b_Mpg_arrayValue 85 = .ok (.iload_n 3, 1) := by decide +kernel
theorem d_Mpg_arrayValue_86 : decode b_Mpg_arrayValue 86 = .ok (.iastore, 1) := by decide +kernel
theorem d_Mpg_arrayValue_87 : decode b_Mpg_arrayValue 87 = .ok (.iload_n 3, 1) := by decide +kernel
theorem d_Mpg_arrayValue_88 : decode b_Mpg_arrayValue 88 = .ok (.istore_n 2, 1) := by decide +kernel
theorem d_Mpg_arrayValue_89 : decode b_Mpg_arrayValue 89 = .ok (.goto (-23), 3) := by decide +kernel
theorem d_Mpg_arrayValue_92 : decode b_Mpg_arrayValue 92 = .ok (.aload_n 0, 1) := by decide +kernel
theorem d_Mpg_arrayValue_93 : decode b_Mpg_arrayValue 93 = .ok (.ldc 93, 2) := by decide +kernel
theorem d_Mpg_arrayValue_95 : decode b_Mpg_arrayValue 95 = .ok (.invokevirtual 439, 3) := by decide +kernel
theorem d_Mpg_arrayValue_98 : decode b_Mpg_arrayValue 98 = .ok (.return_, 1) := by decide +kernel
theorem q_Mpg_arrayValue : px_y y_Mpg_arrayValue 1 := by unfold px_y; decide +kernel
set_option maxHeartbeats 4000000 in
set_option maxRecDepth 100000 in
theorem c_mp_arrayValue (l : Launch) (D : va_G) (cs : Nat → ClassId) (h : Nat) (r : Nat → Nat) (g : Nat → Nat → Option Nat) (tf : Nat → Int32) (ta : Nat → Nat → Int32) (cf : Nat → Int32) (ca : Nat → Nat → Int32) (ef : Nat → Int32) (ea : Nat → Nat → Int32) (xf : Nat → Int32) (xa : Nat → Nat → Int32) (pf : Nat → Int32) (na : Nat → Nat → Int32) (ma : Nat → Nat → Int32) (wa : Nat → Nat → Int32) (p0 : Int32) (lv : Nat) (g0 : 0 ≤ (pf 11).toInt) (g1 : (pf 11).toInt < (tf 6).toInt) (g2 : (tf 6).toInt ≤ 2049) (g3 : 0 ≤ (pf 12).toInt) (g4 : (pf 12).toInt ≤ 60) (g5 : 0 ≤ (pf 13).toInt) (g6 : (pf 13).toInt ≤ (pf 11).toInt + 10) (g7 : 0 ≤ (pf 26).toInt) (g8 : (pf 26).toInt ≤ (pf 12).toInt) (g9 : 61 ≤ (pf 12).toInt + (lv : Int)) (g10 : lv ≤ 61) (g11 : 0 ≤ p0.toInt) (g12 : p0.toInt < (pf 13).toInt) (hlf : l.flags = pinnedFlags ++ [noTraceFlag]) (htk : TkI tf ta) (hfs : FsI (tf 6).toInt (pf 13).toInt na) : ThV l y_Mpg_arrayValue b_Mpg_arrayValue 4 D cs (8 * lv + 22) (220 * lv + 1040) [.ref h, .int p0] [wdP cs h r g tf ta pf na ma wa cf ca ef ea xf xa] (oX (fun A U H => (oN A U H) ∧ (oP A g U H)) [wdP cs h r g tf ta pf na ma wa cf ca ef ea xf xa]) "java/lang/IllegalArgumentException" (fun ps => ∃ (pf' : Nat → Int32) (na' : Nat → Nat → Int32) (ma' : Nat → Nat → Int32) (wa' : Nat → Nat → Int32), (ps = [wdP cs h r g tf ta pf' na' ma' wa' cf ca ef ea xf xa]) ∧ ((pf 11).toInt + 1 ≤ (pf' 11).toInt) ∧ ((pf' 11).toInt < (tf 6).toInt) ∧ ((pf 13).toInt ≤ (pf' 13).toInt) ∧ ((pf' 13).toInt - (pf 13).toInt ≤ (pf' 11).toInt - (pf 11).toInt) ∧ (bp ta (pf 11) + 1 ≤ bp ta (pf' 11)) ∧ ((pf' 12).toInt = (pf 12).toInt) ∧ ((pf' 24).toInt = (pf 24).toInt) ∧ ((pf' 25).toInt = (pf 25).toInt) ∧ ((pf' 26).toInt = (pf 26).toInt) ∧ (FrV (pf 13).toInt p0 na ma na' ma') ∧ (FrW (pf 26).toInt wa wa') ∧ (AvV ta (tf 6).toInt na' ma' p0 (pf 11) (pf 13).toInt (pf' 13).toInt (3 * (bp ta (pf' 11) - bp ta (pf 11))) 130) ∧ (FsI (tf 6).toInt (pf' 13).toInt na') ∧ (R_mp_arrayValue ta p0 pf na ma wa pf' na' ma' wa' 0)) (fun ps => ∃ (pf' : Nat → Int32) (na' : Nat → Nat → Int32) (ma' : Nat → Nat → Int32) (wa' : Nat → Nat → Int32), ps = [wdP cs h r g tf ta pf' na' ma' wa' cf ca ef ea xf xa] ∧ 0 ≤ (pf' 11).toInt ∧ (pf' 11).toInt + 1 ≤ (tf 6).toInt ∧ R_mp_arrayValue ta p0 pf na ma wa pf' na' ma' wa' 1) := by
  refine th_enter (by decide) (Nat.le_of_ble_eq_true rfl) ?_
  intro p e s m below meth c A ls hAe S hr hlk hnm hA hT hX hw hl hne hadm
  have hl : lv_has ls 4 [(0, .ref h), (1, .int p0)] := hl
  have lp0 := Int32.le_toInt p0
  have up0 := Int32.toInt_lt p0
  have cst1 : (1 : Int32).toInt = 1 := rfl
  have cst2 : (2 : Int32).toInt = 2 := rfl
  have cst3 : (3 : Int32).toInt = 3 := rfl
  have cst4 : (4 : Int32).toInt = 4 := rfl
  have hX : (fun A U H => (oN A U H) ∧ (oP A g U H)) A s s.heap := by rw [hAe]; exact hX
  obtain ⟨hN, hP⟩ := hX
  have hZ := hP.1
  have hF0 := hP.2.1
  have hfb : FrV (pf 13).toInt p0 na ma na ma := FrV.rf (by omega) (by omega)
  have hfw : FrW (pf 26).toInt wa wa := FrW.rf
  have J66 : ∀ (n_66 : Nat) (pf_66 : Nat → Int32) (na_66 : Nat → Nat → Int32) (ma_66 : Nat → Nat → Int32) (wa_66 : Nat → Nat → Int32) (x66_2 : Int32) (H : Heap) (locs : List Loc) (ls : Array Slot), ((pf_66 24).toInt = (pf 24).toInt) → ((pf_66 25).toInt = (pf 25).toInt) → ((pf_66 26).toInt = (pf 26).toInt) → ((pf_66 12).toInt = (pf 12).toInt + 1) → ((pf_66 12).toInt ≤ 60) → ((pf 11).toInt + 2 ≤ (pf_66 11).toInt) → ((pf_66 11).toInt < (tf 6).toInt) → ((pf 13).toInt + 1 ≤ (pf_66 13).toInt) → ((pf_66 13).toInt - (pf 13).toInt ≤ (pf_66 11).toInt - (pf 11).toInt) → (bp ta (pf 11) + 2 ≤ bp ta (pf_66 11)) → (FrV (pf 13).toInt p0 na ma na_66 ma_66) → (FrW (pf 26).toInt wa wa_66) → (FlN ma_66 19 p0 (pf 11)) → (FlN ma_66 22 p0 2) → (RfC ta (tf 6).toInt na_66 ma_66 (ma_66 18) p0 x66_2 (pf 13).toInt (pf_66 13).toInt (3 * (bp ta (pf_66 11) - bp ta (pf 11))) 130) → (FsI (tf 6).toInt (pf_66 13).toInt na_66) → (K_mp_arrayValue_66 ta p0 pf na ma wa pf_66 na_66 ma_66 wa_66 x66_2) → (tf 6).toInt - (pf_66 11).toInt < (n_66 : Int) → pw D A s.heap H locs [wdP cs h r g tf ta pf_66 na_66 ma_66 wa_66 cf ca ef ea xf xa] → lv_has ls 4 [(0, .ref h), (1, .int p0), (2, .int x66_2)] → W p l e { frames := (8 * lv + 22), cells := 1, slots := 6, locals := (220 * lv + 1040) } s m [.ref h, .int p0].toArray below meth c H locs 0 0 (tx_MQ below (thQv D (va_A ([wdP cs h r g tf ta pf na ma wa cf ca ef ea xf xa] : List va_W).flatten s.heap.size) "java/lang/IllegalArgumentException" (fun ps => ∃ (pf' : Nat → Int32) (na' : Nat → Nat → Int32) (ma' : Nat → Nat → Int32) (wa' : Nat → Nat → Int32), (ps = [wdP cs h r g tf ta pf' na' ma' wa' cf ca ef ea xf xa]) ∧ ((pf 11).toInt + 1 ≤ (pf' 11).toInt) ∧ ((pf' 11).toInt < (tf 6).toInt) ∧ ((pf 13).toInt ≤ (pf' 13).toInt) ∧ ((pf' 13).toInt - (pf 13).toInt ≤ (pf' 11).toInt - (pf 11).toInt) ∧ (bp ta (pf 11) + 1 ≤ bp ta (pf' 11)) ∧ ((pf' 12).toInt = (pf 12).toInt) ∧ ((pf' 24).toInt = (pf 24).toInt) ∧ ((pf' 25).toInt = (pf 25).toInt) ∧ ((pf' 26).toInt = (pf 26).toInt) ∧ (FrV (pf 13).toInt p0 na ma na' ma') ∧ (FrW (pf 26).toInt wa wa') ∧ (AvV ta (tf 6).toInt na' ma' p0 (pf 11) (pf 13).toInt (pf' 13).toInt (3 * (bp ta (pf' 11) - bp ta (pf 11))) 130) ∧ (FsI (tf 6).toInt (pf' 13).toInt na') ∧ (R_mp_arrayValue ta p0 pf na ma wa pf' na' ma' wa' 0)) (fun ps => ∃ (pf' : Nat → Int32) (na' : Nat → Nat → Int32) (ma' : Nat → Nat → Int32) (wa' : Nat → Nat → Int32), ps = [wdP cs h r g tf ta pf' na' ma' wa' cf ca ef ea xf xa] ∧ 0 ≤ (pf' 11).toInt ∧ (pf' 11).toInt + 1 ≤ (tf 6).toInt ∧ R_mp_arrayValue ta p0 pf na ma wa pf' na' ma' wa' 1) s.heap.size (tot s.heap)) [.ref h, .int p0].toArray s 1 6 A) (F0 m 66 ls []) := by
    intro  n_66
    induction n_66 with
    | zero =>
      intro pf_66 na_66 ma_66 wa_66 x66_2 H locs ls k66_0 k66_1 k66_2 k66_3 k66_4 k66_5 k66_6 k66_7 k66_8 k66_9 k66_10 k66_11 k66_12 k66_13 k66_14 k66_15 k66_16 hm hw hl
      have lx66_2 := Int32.le_toInt x66_2
      have ux66_2 := Int32.toInt_lt x66_2
      have hfb := k66_10
      have hfw := k66_11
      have hf_19_p0 : ma_66 19 p0.toNatClampNeg = (pf 11) := k66_12
      have hf_22_p0 : ma_66 22 p0.toNatClampNeg = 2 := k66_13
      obtain ⟨b1, hf_18_p0, hrw_x66_2⟩ := k66_14
      have rq_b1 := hf_18_p0
      have hn_hrw_x66_2 := hrw_x66_2.num
      have hfs := k66_15
      exact absurd hm (by omega)
    | succ n_66 ih66 =>
      intro pf_66 na_66 ma_66 wa_66 x66_2 H locs ls k66_0 k66_1 k66_2 k66_3 k66_4 k66_5 k66_6 k66_7 k66_8 k66_9 k66_10 k66_11 k66_12 k66_13 k66_14 k66_15 k66_16 hm hw hl
      have lx66_2 := Int32.le_toInt x66_2
      have ux66_2 := Int32.toInt_lt x66_2
      have hfb := k66_10
      have hfw := k66_11
      have hf_19_p0 : ma_66 19 p0.toNatClampNeg = (pf 11) := k66_12
      have hf_22_p0 : ma_66 22 p0.toNatClampNeg = 2 := k66_13
      obtain ⟨b2, hf_18_p0, hrw_x66_2⟩ := k66_14
      have rq_b2 := hf_18_p0
      have hn_hrw_x66_2 := hrw_x66_2.num
      have hfs := k66_15
      refine lv_aload_n S.x S.b d_Mpg_arrayValue_66 rfl (lv_at hl 0 rfl) ?_
      obtain ⟨sk3, hRsk3, st4, hSsk3⟩ := oP_litB hP (k := 99) (tx := ",") (n := 1) (List.mem_of_getElem? (i := 41) rfl)
      refine va_ldcS S.x S.b S.own hRsk3 d_Mpg_arrayValue_67 ?_
      first | refine px_calli (pr := []) (px_runV (As := [.ref sk3]) (rest := []) S (c_mp_takes l D cs sk3 1 (lby ",") h r g tf ta na_66 ma_66 wa_66 cf ca ef ea xf xa pf_66   (show 0 ≤ (pf_66 11).toInt from (oz_f101e7799b k66_5 g0)) (show (pf_66 11).toInt < (tf 6).toInt from k66_6) (show (tf 6).toInt ≤ 2049 from g2) (show 1 ≤ 100 from by omega) htk _) hT (pr := []) (pcs := [wdP cs h r g tf ta pf_66 na_66 ma_66 wa_66 cf ca ef ea xf xa]) hw (oX_call (P := (fun A U H => (oP A g U H) ∧ (StLt A sk3 1 (lby ",") U H))) (pr := []) (oG_and oG_P oG_QB) hw hA ⟨hP, ⟨_, hSsk3⟩⟩) (px_recv hT hw 0 0 rfl rfl rfl) m12_6 m12_3 m12_5 ms_9_3 m1_21 q_Mpg_takes ⟨show 4 + 1 ≤ (8 * lv + 22) from (oz_2fda51eb4e), show 8 + (3 + 11) + 160 ≤ (220 * lv + 1040) from (oz_d6cda90a70)⟩ hl.1 rfl (Nat.le_of_ble_eq_true rfl) d_Mpg_arrayValue_69 ⟨Nat.le_of_ble_eq_true rfl, Nat.le_of_ble_eq_true rfl⟩) hw hA (fun v9 p8 H locs hp8 hw => ?_) | (refine px_calli (pr := []) (px_runV (As := [.ref sk3]) (rest := []) S (c_mp_takes l D cs sk3 1 (lby ",") h r g tf ta na_66 ma_66 wa_66 cf ca ef ea xf xa pf_66   (show 0 ≤ (pf_66 11).toInt from by first | exact oz_f101e7799b k66_5 g0 | omega) (show (pf_66 11).toInt < (tf 6).toInt from by first | exact k66_6 | omega) (show (tf 6).toInt ≤ 2049 from by first | exact g2 | omega) (show 1 ≤ 100 from by omega) htk _) hT (pr := []) (pcs := [wdP cs h r g tf ta pf_66 na_66 ma_66 wa_66 cf ca ef ea xf xa]) hw (oX_call (P := (fun A U H => (oP A g U H) ∧ (StLt A sk3 1 (lby ",") U H))) (pr := []) (oG_and oG_P oG_QB) hw hA ⟨hP, ⟨_, hSsk3⟩⟩) (px_recv hT hw 0 0 rfl rfl rfl) m12_6 m12_3 m12_5 ms_9_3 m1_21 q_Mpg_takes ⟨show 4 + 1 ≤ (8 * lv + 22) from (by first | exact oz_2fda51eb4e | omega), show 8 + (3 + 11) + 160 ≤ (220 * lv + 1040) from (by first | exact oz_d6cda90a70 | omega)⟩ hl.1 rfl (Nat.le_of_ble_eq_true rfl) d_Mpg_arrayValue_69 ⟨Nat.le_of_ble_eq_true rfl, Nat.le_of_ble_eq_true rfl⟩) hw hA (fun v9 p8 H locs hp8 hw => ?_))
      obtain ⟨pf7, rfl, e10, e11, e12, e13, e14, e15, e16, e17, e18, e19⟩ := hp8
      have e10 := z_rng e10
      have e11 : (pf7 11).toInt = (pf_66 11).toInt + v9.toInt := e11
      have e12 : (pf7 11).toInt < (tf 6).toInt := e12
      have e13 : bp ta (pf_66 11) + v9.toInt ≤ bp ta (pf7 11) := e13
      have e14 : (pf7 12).toInt = (pf_66 12).toInt := e14
      have e15 : (pf7 13).toInt = (pf_66 13).toInt := e15
      have e16 : (pf7 24).toInt = (pf_66 24).toInt := e16
      have e17 : (pf7 25).toInt = (pf_66 25).toInt := e17
      have e18 : (pf7 26).toInt = (pf_66 26).toInt := e18
      have e19 : R_mp_takes 1 (lby ",") ta pf_66 pf7 v9 := e19
      have lv9 := Int32.le_toInt v9
      have uv9 := Int32.toInt_lt v9
      refine lv_if_eq (tgt := 92) S.x S.b d_Mpg_arrayValue_72 (by decide) (fun c20 => ?_) (fun c20 => ?_)
      · have nc20 : v9.toInt = (0 : Int) := (i_eq (x := v9) (y := 0)).mp c20
        refine lv_aload_n S.x S.b d_Mpg_arrayValue_92 rfl (lv_at hl 0 rfl) ?_
        obtain ⟨sk22, hRsk22, st23, hSsk22⟩ := oP_litB hP (k := 93) (tx := "}") (n := 1) (List.mem_of_getElem? (i := 38) rfl)
        refine va_ldcS S.x S.b S.own hRsk22 d_Mpg_arrayValue_93 ?_
        first | refine th_callv (ps0 := [wdP cs h r g tf ta pf na ma wa cf ca ef ea xf xa]) (pr := []) (pcs := [wdP cs h r g tf ta pf7 na_66 ma_66 wa_66 cf ca ef ea xf xa]) (As := [.ref sk22]) (rest := []) (c_mp_closes l D cs sk22 1 (lby "}") h r g tf ta na_66 ma_66 wa_66 cf ca ef ea xf xa pf7   (show 0 ≤ (pf7 11).toInt from (oz_b64b673260 e11 k66_5 e10.1 g0)) (show (pf7 11).toInt < (tf 6).toInt from e12) (show (tf 6).toInt ≤ 2049 from g2) (show 1 ≤ (pf7 12).toInt from (oz_a564fc7457 e14 k66_3 g8 g7)) (show (pf7 12).toInt ≤ 60 from (oz_a3db38fa3c e14 k66_4)) (show 1 ≤ 100 from by omega) hlf htk) S hT hw (oX_call (P := (fun A U H => (oN A U H) ∧ (oP A g U H) ∧ (StLt A sk22 1 (lby "}") U H))) (pr := []) (oG_and oG_N (oG_and oG_P oG_QB)) hw hA ⟨hN, hP, ⟨_, hSsk22⟩⟩) (px_recv hT hw 0 0 rfl rfl rfl) m12_53 m12_50 m12_52 ms_9_14 m1_21 q_Mpg_closes ⟨show 8 + 1 ≤ (8 * lv + 22) from (oz_bfe85df265), show 8 + (2 + 11) + 280 ≤ (220 * lv + 1040) from (oz_cb83f671bb)⟩ hl.1 rfl (Nat.le_of_ble_eq_true rfl) d_Mpg_arrayValue_95 ⟨Nat.le_of_ble_eq_true rfl, Nat.le_of_ble_eq_true rfl⟩ hne hlk hA hAe (fun o t h => Or.inr h) ?_ (fun p27 H locs hp27 hw => ?_) | (refine th_callv (ps0 := [wdP cs h r g tf ta pf na ma wa cf ca ef ea xf xa]) (pr := []) (pcs := [wdP cs h r g tf ta pf7 na_66 ma_66 wa_66 cf ca ef ea xf xa]) (As := [.ref sk22]) (rest := []) (c_mp_closes l D cs sk22 1 (lby "}") h r g tf ta na_66 ma_66 wa_66 cf ca ef ea xf xa pf7   (show 0 ≤ (pf7 11).toInt from by first | exact oz_b64b673260 e11 k66_5 e10.1 g0 | omega) (show (pf7 11).toInt < (tf 6).toInt from by first | exact e12 | omega) (show (tf 6).toInt ≤ 2049 from by first | exact g2 | omega) (show 1 ≤ (pf7 12).toInt from by first | exact oz_a564fc7457 e14 k66_3 g8 g7 | omega) (show (pf7 12).toInt ≤ 60 from by first | exact oz_a3db38fa3c e14 k66_4 | omega) (show 1 ≤ 100 from by omega) hlf htk) S hT hw (oX_call (P := (fun A U H => (oN A U H) ∧ (oP A g U H) ∧ (StLt A sk22 1 (lby "}") U H))) (pr := []) (oG_and oG_N (oG_and oG_P oG_QB)) hw hA ⟨hN, hP, ⟨_, hSsk22⟩⟩) (px_recv hT hw 0 0 rfl rfl rfl) m12_53 m12_50 m12_52 ms_9_14 m1_21 q_Mpg_closes ⟨show 8 + 1 ≤ (8 * lv + 22) from (by first | exact oz_bfe85df265 | omega), show 8 + (2 + 11) + 280 ≤ (220 * lv + 1040) from (by first | exact oz_cb83f671bb | omega)⟩ hl.1 rfl (Nat.le_of_ble_eq_true rfl) d_Mpg_arrayValue_95 ⟨Nat.le_of_ble_eq_true rfl, Nat.le_of_ble_eq_true rfl⟩ hne hlk hA hAe (fun o t h => Or.inr h) ?_ (fun p27 H locs hp27 hw => ?_))
        · exact fun p1 H1 locs1 hp hw => by obtain ⟨pq1, pq2, pq3, pq4, rfl, hq1, hq2, hu_na, hu_ma, hu_wa, hq3⟩ := hp; exact ⟨_, ⟨pq1, pq2, pq3, pq4, rfl, hq1, hq2, (k66_16 _ _ _ _ _ 1 (Or.inr (Or.inl ⟨rfl, x66_2, rfl, rfl, rfl, rfl, rfl, b2, rq_b2, pf7, v9, e19, Or.inl ⟨nc20, Or.inl ⟨pq1, hq3, rfl, hu_na, hu_ma, hu_wa, rfl⟩⟩⟩)))⟩, hw⟩
        obtain ⟨pf26, rfl, e29, e30, e31, e32, e33, e34, e35, e36, e37⟩ := hp27
        have e29 : (pf26 11).toInt = (pf7 11).toInt + 1 := e29
        have e30 : (pf26 11).toInt < (tf 6).toInt := e30
        have e31 : bp ta (pf7 11) + 1 ≤ bp ta (pf26 11) := e31
        have e32 : (pf26 12).toInt = (pf7 12).toInt - 1 := e32
        have e33 : (pf26 13).toInt = (pf7 13).toInt := e33
        have e34 : (pf26 24).toInt = (pf7 24).toInt := e34
        have e35 : (pf26 25).toInt = (pf7 25).toInt := e35
        have e36 : (pf26 26).toInt = (pf7 26).toInt := e36
        have e37 : R_mp_closes 1 (lby "}") ta pf7 pf26 0 := e37
        first | exact th_vret S hr hlk hAe hw (⟨pf26, na_66, ma_66, wa_66, rfl, (show (pf 11).toInt + 1 ≤ (pf26 11).toInt from (oz_94d32250eb k66_5 e29 e11 e10.1)), (show (pf26 11).toInt < (tf 6).toInt from e30), (show (pf 13).toInt ≤ (pf26 13).toInt from (oz_2ebd56080c k66_7 e33 e15)), (show (pf26 13).toInt - (pf 13).toInt ≤ (pf26 11).toInt - (pf 11).toInt from (oz_30a30b177f k66_8 e29 e33 e11 e15 e10.1)), (show bp ta (pf 11) + 1 ≤ bp ta (pf26 11) from (oz_c359fb2b6f k66_9 e31 e13 e10.1)), (show (pf26 12).toInt = (pf 12).toInt from (oz_e2f0d2d242 k66_3 e32 e14)), (show (pf26 24).toInt = (pf 24).toInt from (oz_e13fc83238 k66_0 e34 e16)), (show (pf26 25).toInt = (pf 25).toInt from (oz_e13fc83238 k66_1 e35 e17)), (show (pf26 26).toInt = (pf 26).toInt from (oz_e13fc83238 k66_2 e36 e18)), (show FrV (pf 13).toInt p0 na ma na_66 ma_66 from hfb), (show FrW (pf 26).toInt wa wa_66 from hfw), (show AvV ta (tf 6).toInt na_66 ma_66 p0 (pf 11) (pf 13).toInt (pf26 13).toInt (3 * (bp ta (pf26 11) - bp ta (pf 11))) 130 from ⟨hf_19_p0, ⟨by omega, by omega⟩, Or.inr ⟨hf_22_p0, _, _, hf_18_p0, RwV.le hrw_x66_2 (by omega) (by omega) (by omega) (by omega)⟩⟩), (show FsI (tf 6).toInt (pf26 13).toInt na_66 from (FsI.le hfs (by omega))), (show R_mp_arrayValue ta p0 pf na ma wa pf26 na_66 ma_66 wa_66 0 from (k66_16 _ _ _ _ _ 1 (Or.inr (Or.inl ⟨rfl, x66_2, rfl, rfl, rfl, rfl, rfl, b2, rq_b2, pf7, v9, e19, Or.inl ⟨nc20, Or.inr ⟨pf26, e37, rfl, rfl, rfl, rfl, rfl⟩⟩⟩))))⟩) d_Mpg_arrayValue_98 | (exact th_vret S hr hlk hAe hw (⟨pf26, na_66, ma_66, wa_66, rfl, (show (pf 11).toInt + 1 ≤ (pf26 11).toInt from by first | exact oz_94d32250eb k66_5 e29 e11 e10.1 | omega), (show (pf26 11).toInt < (tf 6).toInt from by first | exact e30 | omega), (show (pf 13).toInt ≤ (pf26 13).toInt from by first | exact oz_2ebd56080c k66_7 e33 e15 | omega), (show (pf26 13).toInt - (pf 13).toInt ≤ (pf26 11).toInt - (pf 11).toInt from by first | exact oz_30a30b177f k66_8 e29 e33 e11 e15 e10.1 | omega), (show bp ta (pf 11) + 1 ≤ bp ta (pf26 11) from by first | exact oz_c359fb2b6f k66_9 e31 e13 e10.1 | omega), (show (pf26 12).toInt = (pf 12).toInt from by first | exact oz_e2f0d2d242 k66_3 e32 e14 | omega), (show (pf26 24).toInt = (pf 24).toInt from by first | exact oz_e13fc83238 k66_0 e34 e16 | omega), (show (pf26 25).toInt = (pf 25).toInt from by first | exact oz_e13fc83238 k66_1 e35 e17 | omega), (show (pf26 26).toInt = (pf 26).toInt from by first | exact oz_e13fc83238 k66_2 e36 e18 | omega), (show FrV (pf 13).toInt p0 na ma na_66 ma_66 from hfb), (show FrW (pf 26).toInt wa wa_66 from hfw), (show AvV ta (tf 6).toInt na_66 ma_66 p0 (pf 11) (pf 13).toInt (pf26 13).toInt (3 * (bp ta (pf26 11) - bp ta (pf 11))) 130 from ⟨hf_19_p0, ⟨by omega, by omega⟩, Or.inr ⟨hf_22_p0, _, _, hf_18_p0, RwV.le hrw_x66_2 (by omega) (by omega) (by omega) (by omega)⟩⟩), (show FsI (tf 6).toInt (pf26 13).toInt na_66 from (FsI.le hfs (by omega))), (show R_mp_arrayValue ta p0 pf na ma wa pf26 na_66 ma_66 wa_66 0 from (k66_16 _ _ _ _ _ 1 (Or.inr (Or.inl ⟨rfl, x66_2, rfl, rfl, rfl, rfl, rfl, b2, rq_b2, pf7, v9, e19, Or.inl ⟨nc20, Or.inr ⟨pf26, e37, rfl, rfl, rfl, rfl, rfl⟩⟩⟩))))⟩) d_Mpg_arrayValue_98)
      · have nc20 : ¬ v9.toInt = (0 : Int) := mt (i_eq (x := v9) (y := 0)).mpr c20
        refine lv_aload_n S.x S.b d_Mpg_arrayValue_75 rfl (lv_at hl 0 rfl) ?_
        first | refine th_calli (ps0 := [wdP cs h r g tf ta pf na ma wa cf ca ef ea xf xa]) (pr := []) (pcs := [wdP cs h r g tf ta pf7 na_66 ma_66 wa_66 cf ca ef ea xf xa]) (As := []) (rest := []) (c_mp_constant l D cs h r g tf ta cf ca ef ea xf xa pf7 na_66 ma_66 wa_66  lv (show 0 ≤ (pf7 11).toInt from (oz_b64b673260 e11 k66_5 e10.1 g0)) (show (pf7 11).toInt < (tf 6).toInt from e12) (show (tf 6).toInt ≤ 2049 from g2) (show 0 ≤ (pf7 12).toInt from (oz_aec871f755 e14 k66_3 g8 g7)) (show (pf7 12).toInt ≤ 60 from (oz_a3db38fa3c e14 k66_4)) (show 0 ≤ (pf7 13).toInt from (oz_0ca4cad411 e15 k66_7 g12 g11)) (show (pf7 13).toInt ≤ (pf7 11).toInt + 10 from (oz_a8f84bca48 e11 e15 k66_8 e10.1 g6)) (show 0 ≤ (pf7 26).toInt from (oz_e2fef14871 e18 k66_2 g7)) (show (pf7 26).toInt ≤ (pf7 12).toInt from (oz_fa9ebf953c e14 e18 k66_2 k66_3 g8)) (show 61 ≤ (pf7 12).toInt + (lv : Int) from (oz_6dd5f776aa g9 e14 k66_3)) (show lv ≤ 61 from g10) hlf htk (FsI.le (N' := (pf7 13).toInt) hfs (by omega))) S hT hw (oX_call (P := (fun A U H => (oN A U H) ∧ (oP A g U H))) (pr := []) (oG_and oG_N oG_P) hw hA ⟨hN, hP⟩) (px_recv hT hw 0 0 rfl rfl rfl) m12_10 m12_7 m12_9 ms_9_4 m1_21 q_Mpg_constant ⟨show (8 * lv + 21) + 1 ≤ (8 * lv + 22) from (oz_5c83947939), show 8 + (2 + 11) + (220 * lv + 720) ≤ (220 * lv + 1040) from (oz_153ed780d7)⟩ hl.1 rfl (Nat.le_of_ble_eq_true rfl) d_Mpg_arrayValue_76 ⟨Nat.le_of_ble_eq_true rfl, Nat.le_of_ble_eq_true rfl⟩ hne hlk hA hAe (fun o t h => Or.inr h) ?_ (fun v47 p46 H locs hp46 hw => ?_) | (refine th_calli (ps0 := [wdP cs h r g tf ta pf na ma wa cf ca ef ea xf xa]) (pr := []) (pcs := [wdP cs h r g tf ta pf7 na_66 ma_66 wa_66 cf ca ef ea xf xa]) (As := []) (rest := []) (c_mp_constant l D cs h r g tf ta cf ca ef ea xf xa pf7 na_66 ma_66 wa_66  lv (show 0 ≤ (pf7 11).toInt from by first | exact oz_b64b673260 e11 k66_5 e10.1 g0 | omega) (show (pf7 11).toInt < (tf 6).toInt from by first | exact e12 | omega) (show (tf 6).toInt ≤ 2049 from by first | exact g2 | omega) (show 0 ≤ (pf7 12).toInt from by first | exact oz_aec871f755 e14 k66_3 g8 g7 | omega) (show (pf7 12).toInt ≤ 60 from by first | exact oz_a3db38fa3c e14 k66_4 | omega) (show 0 ≤ (pf7 13).toInt from by first | exact oz_0ca4cad411 e15 k66_7 g12 g11 | omega) (show (pf7 13).toInt ≤ (pf7 11).toInt + 10 from by first | exact oz_a8f84bca48 e11 e15 k66_8 e10.1 g6 | omega) (show 0 ≤ (pf7 26).toInt from by first | exact oz_e2fef14871 e18 k66_2 g7 | omega) (show (pf7 26).toInt ≤ (pf7 12).toInt from by first | exact oz_fa9ebf953c e14 e18 k66_2 k66_3 g8 | omega) (show 61 ≤ (pf7 12).toInt + (lv : Int) from by first | exact oz_6dd5f776aa g9 e14 k66_3 | omega) (show lv ≤ 61 from by first | exact g10 | omega) hlf htk (FsI.le (N' := (pf7 13).toInt) hfs (by omega))) S hT hw (oX_call (P := (fun A U H => (oN A U H) ∧ (oP A g U H))) (pr := []) (oG_and oG_N oG_P) hw hA ⟨hN, hP⟩) (px_recv hT hw 0 0 rfl rfl rfl) m12_10 m12_7 m12_9 ms_9_4 m1_21 q_Mpg_constant ⟨show (8 * lv + 21) + 1 ≤ (8 * lv + 22) from (by first | exact oz_5c83947939 | omega), show 8 + (2 + 11) + (220 * lv + 720) ≤ (220 * lv + 1040) from (by first | exact oz_153ed780d7 | omega)⟩ hl.1 rfl (Nat.le_of_ble_eq_true rfl) d_Mpg_arrayValue_76 ⟨Nat.le_of_ble_eq_true rfl, Nat.le_of_ble_eq_true rfl⟩ hne hlk hA hAe (fun o t h => Or.inr h) ?_ (fun v47 p46 H locs hp46 hw => ?_))
        · exact fun p1 H1 locs1 hp hw => by obtain ⟨pq1, pq2, pq3, pq4, rfl, hq1, hq2, hq3⟩ := hp; exact ⟨_, ⟨pq1, pq2, pq3, pq4, rfl, hq1, hq2, (k66_16 _ _ _ _ _ 1 (Or.inr (Or.inl ⟨rfl, x66_2, rfl, rfl, rfl, rfl, rfl, b2, rq_b2, pf7, v9, e19, Or.inr ⟨nc20, Or.inl ⟨pq1, pq2, pq3, pq4, hq3, rfl, rfl, rfl, rfl, rfl⟩⟩⟩)))⟩, hw⟩
        obtain ⟨pf42, na43, ma44, wa45, rfl, e48, e49, e50, e51, e52, e53, e54, e55, e56, e57, e58, e59, e60, e61⟩ := hp46
        have e48 : (pf7 11).toInt + 1 ≤ (pf42 11).toInt := e48
        have e49 : (pf42 11).toInt < (tf 6).toInt := e49
        have e50 : (pf7 13).toInt + 1 ≤ (pf42 13).toInt := e50
        have e51 : (pf42 13).toInt - (pf7 13).toInt ≤ (pf42 11).toInt - (pf7 11).toInt := e51
        have e52 : bp ta (pf7 11) + 1 ≤ bp ta (pf42 11) := e52
        have e53 : (pf42 12).toInt = (pf7 12).toInt := e53
        have e54 : (pf42 24).toInt = (pf7 24).toInt := e54
        have e55 : (pf42 25).toInt = (pf7 25).toInt := e55
        have e56 : (pf42 26).toInt = (pf7 26).toInt := e56
        have e57 : FrB (pf7 13).toInt na_66 ma_66 na43 ma44 := e57
        have hf_19_p0 := (fb_m e57 (by omega) (by omega)).trans hf_19_p0
        have hf_22_p0 := (fb_m e57 (by omega) (by omega)).trans hf_22_p0
        have hf_18_p0 := (fb_m e57 (by omega) (by omega)).trans hf_18_p0
        have hrw_x66_2 := hrw_x66_2.ag fc_ok (FrB.ag e57 (by omega))
        have hfb := hfb.tr e57 (by omega)
        have e58 : FrW (pf7 26).toInt wa_66 wa45 := e58
        have hfw := hfw.tr e58 (by omega)
        have e59 : ExR ta (tf 6).toInt na43 ma44 v47 (pf7 13).toInt (pf42 13).toInt (3 * (bp ta (pf42 11) - bp ta (pf7 11))) (pf7 12).toInt := e59
        have ht_v47 := e59
        have hn_ht_v47 := ht_v47.num
        have e60 : FsI (tf 6).toInt (pf42 13).toInt na43 := e60
        have hfs := e60
        have e61 : R_mp_constant ta pf7 na_66 ma_66 wa_66 pf42 na43 ma44 wa45 v47 0 := e61
        have lv47 := Int32.le_toInt v47
        have uv47 := Int32.toInt_lt v47
        refine lv_istore_n (lv' := [(3, .int v47), (0, .ref h), (1, .int p0), (2, .int x66_2)]) S.x S.b d_Mpg_arrayValue_79 rfl hl (by decide) rfl (fun ls hl => ?_)
        have hv_v47 := vl_c (exr_vl ht_v47 (by omega)); have hn_hv_v47 := hv_v47.num fc_ok
        refine lv_aload_n S.x S.b d_Mpg_arrayValue_80 rfl (lv_at hl 1 rfl) ?_
        refine gP_21 S hT hw 0 rfl m10_7 d_Mpg_arrayValue_81 ?_
        refine lv_iload_n S.x S.b d_Mpg_arrayValue_84 rfl (lv_at hl 3 rfl) ?_
        refine lv_iload_n S.x S.b d_Mpg_arrayValue_85 rfl (lv_at hl 0 rfl) ?_
        refine px_iast S hT hw 0 17 (n := 2100) (f := (na43 21)) (x := x66_2) (y := v47) rfl gp_21 (vp_in_iff.mpr (by constructor <;> omega)) d_Mpg_arrayValue_86 (w' := wdP cs h r g tf ta pf42 (va_up na43 21 (upd (na43 21) x66_2.toNatClampNeg v47)) ma44 wa45 cf ca ef ea xf xa) (ps' := [wdP cs h r g tf ta pf42 (va_up na43 21 (upd (na43 21) x66_2.toNatClampNeg v47)) ma44 wa45 cf ca ef ea xf xa]) sp_21 rfl (fun H locs hw => ?_)
        obtain ⟨na62, hu_na62⟩ : ∃ y : Nat → Nat → Int32, y = va_up na43 21 (upd (na43 21) x66_2.toNatClampNeg v47) := ⟨_, rfl⟩
        have hw : pw D A s.heap _ _ [wdP cs h r g tf ta pf42 na62 ma44 wa45 cf ca ef ea xf xa] := (by rw [hu_na62]; exact hw)
        have hrw_v47 := row_s hrw_x66_2 (VlV.le hv_v47 (by omega) (Int.le_refl _) (Int.le_refl _) (by omega)) fc_ok (by omega) hu_na62
        have hn_hrw_v47 := hrw_v47.num
        have hf_21_x66_2 : na62 21 x66_2.toNatClampNeg = v47 := (by rw [hu_na62, va_up_s, pk_us])
        have hfs : FsI _ _ na62 := (by rw [hu_na62]; exact FsI.un hfs (by decide))
        have hfb := FrV.un hfb (by omega) (by omega) hu_na62
        refine lv_iload_n S.x S.b d_Mpg_arrayValue_87 rfl (lv_at hl 0 rfl) ?_
        refine lv_istore_n (lv' := [(2, .int v47), (3, .int v47), (0, .ref h), (1, .int p0)]) S.x S.b d_Mpg_arrayValue_88 rfl hl (by decide) rfl (fun ls hl => ?_)
        refine lv_goto (tgt := 66) S.x S.b d_Mpg_arrayValue_89 (by decide) ?_
        first | exact ih66 pf42 na62 ma44 wa45 v47 _ _ ls (show (pf42 24).toInt = (pf 24).toInt from (oz_e13fc83238 k66_0 e54 e16)) (show (pf42 25).toInt = (pf 25).toInt from (oz_e13fc83238 k66_1 e55 e17)) (show (pf42 26).toInt = (pf 26).toInt from (oz_e13fc83238 k66_2 e56 e18)) (show (pf42 12).toInt = (pf 12).toInt + 1 from (oz_706b28522e k66_3 e53 e14)) (show (pf42 12).toInt ≤ 60 from (oz_1720b8be8f e53 hn_ht_v47.2.2.2 hn_ht_v47.2.2.1)) (show (pf 11).toInt + 2 ≤ (pf42 11).toInt from (oz_75767867f4 k66_5 e48 e11 e10.1)) (show (pf42 11).toInt < (tf 6).toInt from e49) (show (pf 13).toInt + 1 ≤ (pf42 13).toInt from (oz_fab14cc7ba k66_7 e50 e15)) (show (pf42 13).toInt - (pf 13).toInt ≤ (pf42 11).toInt - (pf 11).toInt from (oz_69e545e602 k66_8 e51 e11 e15 e10.1)) (show bp ta (pf 11) + 2 ≤ bp ta (pf42 11) from (oz_06e07f79f9 k66_9 e52 e13 e10.1)) (show FrV (pf 13).toInt p0 na ma na62 ma44 from hfb) (show FrW (pf 26).toInt wa wa45 from hfw) (show FlN ma44 19 p0 (pf 11) from hf_19_p0) (show FlN ma44 22 p0 2 from hf_22_p0) (show RfC ta (tf 6).toInt na62 ma44 (ma44 18) p0 v47 (pf 13).toInt (pf42 13).toInt (3 * (bp ta (pf42 11) - bp ta (pf 11))) 130 from ⟨_, hf_18_p0, (RwV.le hrw_v47 (by omega) (by omega) (by omega) (by omega))⟩) (show FsI (tf 6).toInt (pf42 13).toInt na62 from (FsI.le hfs (by omega))) (show K_mp_arrayValue_66 ta p0 pf na ma wa pf42 na62 ma44 wa45 v47 from (fun y_f0 y_f1 y_f2 y_f3 y_t k hE => k66_16 y_f0 y_f1 y_f2 y_f3 y_t (k + 1) (Or.inr (Or.inl ⟨rfl, x66_2, rfl, rfl, rfl, rfl, rfl, b2, rq_b2, pf7, v9, e19, Or.inr ⟨nc20, Or.inr ⟨pf42, na43, ma44, wa45, v47, e61, na62, hu_na62, hE⟩⟩⟩)))) (show (tf 6).toInt - (pf42 11).toInt < (n_66 : Int) from (oz_1bf882f997 hm e48 e11 e10.1)) hw (lv_sub hl [2, 3, 0] rfl) | (exact ih66 pf42 na62 ma44 wa45 v47 _ _ ls (show (pf42 24).toInt = (pf 24).toInt from by first | exact oz_e13fc83238 k66_0 e54 e16 | omega) (show (pf42 25).toInt = (pf 25).toInt from by first | exact oz_e13fc83238 k66_1 e55 e17 | omega) (show (pf42 26).toInt = (pf 26).toInt from by first | exact oz_e13fc83238 k66_2 e56 e18 | omega) (show (pf42 12).toInt = (pf 12).toInt + 1 from by first | exact oz_706b28522e k66_3 e53 e14 | omega) (show (pf42 12).toInt ≤ 60 from by first | exact oz_1720b8be8f e53 hn_ht_v47.2.2.2 hn_ht_v47.2.2.1 | omega) (show (pf 11).toInt + 2 ≤ (pf42 11).toInt from by first | exact oz_75767867f4 k66_5 e48 e11 e10.1 | omega) (show (pf42 11).toInt < (tf 6).toInt from by first | exact e49 | omega) (show (pf 13).toInt + 1 ≤ (pf42 13).toInt from by first | exact oz_fab14cc7ba k66_7 e50 e15 | omega) (show (pf42 13).toInt - (pf 13).toInt ≤ (pf42 11).toInt - (pf 11).toInt from by first | exact oz_69e545e602 k66_8 e51 e11 e15 e10.1 | omega) (show bp ta (pf 11) + 2 ≤ bp ta (pf42 11) from by first | exact oz_06e07f79f9 k66_9 e52 e13 e10.1 | omega) (show FrV (pf 13).toInt p0 na ma na62 ma44 from hfb) (show FrW (pf 26).toInt wa wa45 from hfw) (show FlN ma44 19 p0 (pf 11) from hf_19_p0) (show FlN ma44 22 p0 2 from hf_22_p0) (show RfC ta (tf 6).toInt na62 ma44 (ma44 18) p0 v47 (pf 13).toInt (pf42 13).toInt (3 * (bp ta (pf42 11) - bp ta (pf 11))) 130 from ⟨_, hf_18_p0, (RwV.le hrw_v47 (by omega) (by omega) (by omega) (by omega))⟩) (show FsI (tf 6).toInt (pf42 13).toInt na62 from (FsI.le hfs (by omega))) (show K_mp_arrayValue_66 ta p0 pf na ma wa pf42 na62 ma44 wa45 v47 from (fun y_f0 y_f1 y_f2 y_f3 y_t k hE => k66_16 y_f0 y_f1 y_f2 y_f3 y_t (k + 1) (Or.inr (Or.inl ⟨rfl, x66_2, rfl, rfl, rfl, rfl, rfl, b2, rq_b2, pf7, v9, e19, Or.inr ⟨nc20, Or.inr ⟨pf42, na43, ma44, wa45, v47, e61, na62, hu_na62, hE⟩⟩⟩)))) (show (tf 6).toInt - (pf42 11).toInt < (n_66 : Int) from by first | exact oz_1bf882f997 hm e48 e11 e10.1 | omega) hw (lv_sub hl [2, 3, 0] rfl))
  refine lv_aload_n S.x S.b d_Mpg_arrayValue_0 rfl (lv_at hl 0 rfl) ?_
  refine gP_19 S hT hw 0 rfl m10_5 d_Mpg_arrayValue_1 ?_
  refine lv_iload_n S.x S.b d_Mpg_arrayValue_4 rfl (lv_at hl 1 rfl) ?_
  refine lv_aload_n S.x S.b d_Mpg_arrayValue_5 rfl (lv_at hl 0 rfl) ?_
  refine gP_11 (v := (pf 11)) S hT hw 0 rfl rfl m9_235 d_Mpg_arrayValue_6 ?_
  refine px_iast S hT hw 0 15 (n := 2100) (f := (ma 19)) (x := p0) (y := (pf 11)) rfl gp_19 (vp_in_iff.mpr (by constructor <;> omega)) d_Mpg_arrayValue_9 (w' := wdP cs h r g tf ta pf na (va_up ma 19 (upd (ma 19) p0.toNatClampNeg (pf 11))) wa cf ca ef ea xf xa) (ps' := [wdP cs h r g tf ta pf na (va_up ma 19 (upd (ma 19) p0.toNatClampNeg (pf 11))) wa cf ca ef ea xf xa]) sp_19 rfl (fun H locs hw => ?_)
  obtain ⟨ma63, hu_ma63⟩ : ∃ y : Nat → Nat → Int32, y = va_up ma 19 (upd (ma 19) p0.toNatClampNeg (pf 11)) := ⟨_, rfl⟩
  have hw : pw D A s.heap _ _ [wdP cs h r g tf ta pf na ma63 wa cf ca ef ea xf xa] := (by rw [hu_ma63]; exact hw)
  have hf_19_p0 : ma63 19 p0.toNatClampNeg = (pf 11) := (by rw [hu_ma63, va_up_s, pk_us])
  have hfb := FrV.us hfb (by decide) hu_ma63
  refine lv_aload_n S.x S.b d_Mpg_arrayValue_10 rfl (lv_at hl 0 rfl) ?_
  refine gP_9 S hT hw 0 rfl m9_233 d_Mpg_arrayValue_11 ?_
  refine lv_aload_n S.x S.b d_Mpg_arrayValue_14 rfl (lv_at hl 0 rfl) ?_
  refine gP_11 (v := (pf 11)) S hT hw 0 rfl rfl m9_235 d_Mpg_arrayValue_15 ?_
  refine px_bald S hT hw 0 8 (n := 2060) (f := (ta 9)) rfl gp_9 (x := (pf 11)) (vp_in_iff.mpr (by first | exact oz_846323bf3a g0 g1 g2 | (constructor <;> omega))) d_Mpg_arrayValue_18 ?_
  refine lv_topi (fun z64 ez64 => ?_)
  have lz64 := Int32.le_toInt z64
  have uz64 := Int32.toInt_lt z64
  have rz64 := tk_s htk (x := (pf 11)) (by omega) (by omega) ez64
  have hz4 := tk_b htk (x := (pf 11)) (by omega) (by omega)
  refine lv_iconst (v := 4) S.x S.b d_Mpg_arrayValue_19 (by decide) ?_
  refine lv_icmp_ne (tgt := 41) S.x S.b d_Mpg_arrayValue_20 (by decide) (fun c65 => ?_) (fun c65 => ?_)
  · have nc65 : ¬ z64.toInt = (4 : Int) := mt (i_eq (x := z64) (y := 4)).mpr c65
    refine lv_aload_n S.x S.b d_Mpg_arrayValue_41 rfl (lv_at hl 0 rfl) ?_
    refine gP_22 S hT hw 0 rfl m10_9 d_Mpg_arrayValue_42 ?_
    refine lv_iload_n S.x S.b d_Mpg_arrayValue_45 rfl (lv_at hl 1 rfl) ?_
    refine lv_iconst (v := 2) S.x S.b d_Mpg_arrayValue_46 (by decide) ?_
    refine px_iast S hT hw 0 18 (n := 2100) (f := (ma63 22)) (x := p0) (y := 2) rfl gp_22 (vp_in_iff.mpr (by constructor <;> omega)) d_Mpg_arrayValue_47 (w' := wdP cs h r g tf ta pf na (va_up ma63 22 (upd (ma63 22) p0.toNatClampNeg 2)) wa cf ca ef ea xf xa) (ps' := [wdP cs h r g tf ta pf na (va_up ma63 22 (upd (ma63 22) p0.toNatClampNeg 2)) wa cf ca ef ea xf xa]) sp_22 rfl (fun H locs hw => ?_)
    obtain ⟨ma67, hu_ma67⟩ : ∃ y : Nat → Nat → Int32, y = va_up ma63 22 (upd (ma63 22) p0.toNatClampNeg 2) := ⟨_, rfl⟩
    have hw : pw D A s.heap _ _ [wdP cs h r g tf ta pf na ma67 wa cf ca ef ea xf xa] := (by rw [hu_ma67]; exact hw)
    have hf_19_p0 := (fl_n hu_ma67 (by decide)).trans hf_19_p0
    have hf_22_p0 : ma67 22 p0.toNatClampNeg = (2 : Int32) := (by rw [hu_ma67, va_up_s, pk_us])
    have hfb := FrV.us hfb (by decide) hu_ma67
    refine lv_aload_n S.x S.b d_Mpg_arrayValue_48 rfl (lv_at hl 0 rfl) ?_
    obtain ⟨sk68, hRsk68, st69, hSsk68⟩ := oP_litB hP (k := 91) (tx := "{") (n := 1) (List.mem_of_getElem? (i := 37) rfl)
    refine va_ldcS S.x S.b S.own hRsk68 d_Mpg_arrayValue_49 ?_
    first | refine th_callv (ps0 := [wdP cs h r g tf ta pf na ma wa cf ca ef ea xf xa]) (pr := []) (pcs := [wdP cs h r g tf ta pf na ma67 wa cf ca ef ea xf xa]) (As := [.ref sk68]) (rest := []) (c_mp_opensMark l D cs sk68 1 (lby "{") h r g tf ta na ma67 wa cf ca ef ea xf xa pf   (show 0 ≤ (pf 11).toInt from g0) (show (pf 11).toInt < (tf 6).toInt from g1) (show (tf 6).toInt ≤ 2049 from g2) (show 0 ≤ (pf 12).toInt from g3) (show (pf 12).toInt ≤ 60 from g4) (show 1 ≤ 100 from by omega) hlf htk) S hT hw (oX_call (P := (fun A U H => (oN A U H) ∧ (oP A g U H) ∧ (StLt A sk68 1 (lby "{") U H))) (pr := []) (oG_and oG_N (oG_and oG_P oG_QB)) hw hA ⟨hN, hP, ⟨_, hSsk68⟩⟩) (px_recv hT hw 0 0 rfl rfl rfl) m11_213 m11_210 m11_212 ms_8_13 m1_21 q_Mpg_opensMark ⟨show 8 + 1 ≤ (8 * lv + 22) from (oz_bfe85df265), show 8 + (2 + 11) + 240 ≤ (220 * lv + 1040) from (oz_13a567a7c9)⟩ hl.1 rfl (Nat.le_of_ble_eq_true rfl) d_Mpg_arrayValue_51 ⟨Nat.le_of_ble_eq_true rfl, Nat.le_of_ble_eq_true rfl⟩ hne hlk hA hAe (fun o t h => Or.inr h) ?_ (fun p73 H locs hp73 hw => ?_) | (refine th_callv (ps0 := [wdP cs h r g tf ta pf na ma wa cf ca ef ea xf xa]) (pr := []) (pcs := [wdP cs h r g tf ta pf na ma67 wa cf ca ef ea xf xa]) (As := [.ref sk68]) (rest := []) (c_mp_opensMark l D cs sk68 1 (lby "{") h r g tf ta na ma67 wa cf ca ef ea xf xa pf   (show 0 ≤ (pf 11).toInt from by first | exact g0 | omega) (show (pf 11).toInt < (tf 6).toInt from by first | exact g1 | omega) (show (tf 6).toInt ≤ 2049 from by first | exact g2 | omega) (show 0 ≤ (pf 12).toInt from by first | exact g3 | omega) (show (pf 12).toInt ≤ 60 from by first | exact g4 | omega) (show 1 ≤ 100 from by omega) hlf htk) S hT hw (oX_call (P := (fun A U H => (oN A U H) ∧ (oP A g U H) ∧ (StLt A sk68 1 (lby "{") U H))) (pr := []) (oG_and oG_N (oG_and oG_P oG_QB)) hw hA ⟨hN, hP, ⟨_, hSsk68⟩⟩) (px_recv hT hw 0 0 rfl rfl rfl) m11_213 m11_210 m11_212 ms_8_13 m1_21 q_Mpg_opensMark ⟨show 8 + 1 ≤ (8 * lv + 22) from (by first | exact oz_bfe85df265 | omega), show 8 + (2 + 11) + 240 ≤ (220 * lv + 1040) from (by first | exact oz_13a567a7c9 | omega)⟩ hl.1 rfl (Nat.le_of_ble_eq_true rfl) d_Mpg_arrayValue_51 ⟨Nat.le_of_ble_eq_true rfl, Nat.le_of_ble_eq_true rfl⟩ hne hlk hA hAe (fun o t h => Or.inr h) ?_ (fun p73 H locs hp73 hw => ?_))
    · exact fun p1 H1 locs1 hp hw => by obtain ⟨pq1, pq2, pq3, pq4, rfl, hq1, hq2, hu_na, hu_ma, hu_wa, hq3⟩ := hp; exact ⟨_, ⟨pq1, pq2, pq3, pq4, rfl, hq1, hq2, (Exists.intro 1 (Or.inl ⟨rfl, ma63, hu_ma63, z64, ez64, Or.inl ⟨nc65, ma67, hu_ma67, Or.inl ⟨pq1, hq3, rfl, hu_na, hu_ma, hu_wa, rfl⟩⟩⟩))⟩, hw⟩
    obtain ⟨pf72, rfl, e75, e76, e77, e78, e79, e80, e81, e82, e83, e84, e85⟩ := hp73
    have e75 : (pf72 11).toInt = (pf 11).toInt + 1 := e75
    have e76 : (pf72 11).toInt < (tf 6).toInt := e76
    have e77 : bp ta (pf 11) + sz ta (pf 11) ≤ bp ta (pf72 11) := e77
    have e78 : 1 ≤ sz ta (pf 11) := e78
    have e79 : (pf72 12).toInt = (pf 12).toInt + 1 := e79
    have e80 : (pf 12).toInt < 60 := e80
    have e81 : (pf72 13).toInt = (pf 13).toInt := e81
    have e82 : (pf72 24).toInt = (pf 24).toInt := e82
    have e83 : (pf72 25).toInt = (pf 25).toInt := e83
    have e84 : (pf72 26).toInt = (pf 26).toInt := e84
    have e85 : R_mp_opensMark 1 (lby "{") ta pf pf72 0 := e85
    refine lv_aload_n S.x S.b d_Mpg_arrayValue_54 rfl (lv_at hl 0 rfl) ?_
    first | refine th_calli (ps0 := [wdP cs h r g tf ta pf na ma wa cf ca ef ea xf xa]) (pr := []) (pcs := [wdP cs h r g tf ta pf72 na ma67 wa cf ca ef ea xf xa]) (As := []) (rest := []) (c_mp_constant l D cs h r g tf ta cf ca ef ea xf xa pf72 na ma67 wa  lv (show 0 ≤ (pf72 11).toInt from (oz_ae613611c0 e75 g0)) (show (pf72 11).toInt < (tf 6).toInt from e76) (show (tf 6).toInt ≤ 2049 from g2) (show 0 ≤ (pf72 12).toInt from (oz_ae613611c0 e79 g3)) (show (pf72 12).toInt ≤ 60 from (oz_6710fd9021 e79 e80)) (show 0 ≤ (pf72 13).toInt from (oz_f3ebed1ad0 e81 g5)) (show (pf72 13).toInt ≤ (pf72 11).toInt + 10 from (oz_58f4248ce7 e75 e81 g6)) (show 0 ≤ (pf72 26).toInt from (oz_f3ebed1ad0 e84 g7)) (show (pf72 26).toInt ≤ (pf72 12).toInt from (oz_d87b110ba5 e79 e84 g8)) (show 61 ≤ (pf72 12).toInt + (lv : Int) from (oz_8dace4bcab g9 e79)) (show lv ≤ 61 from g10) hlf htk (FsI.le (N' := (pf72 13).toInt) hfs (by omega))) S hT hw (oX_call (P := (fun A U H => (oN A U H) ∧ (oP A g U H))) (pr := []) (oG_and oG_N oG_P) hw hA ⟨hN, hP⟩) (px_recv hT hw 0 0 rfl rfl rfl) m12_10 m12_7 m12_9 ms_9_4 m1_21 q_Mpg_constant ⟨show (8 * lv + 21) + 1 ≤ (8 * lv + 22) from (oz_5c83947939), show 8 + (2 + 11) + (220 * lv + 720) ≤ (220 * lv + 1040) from (oz_153ed780d7)⟩ hl.1 rfl (Nat.le_of_ble_eq_true rfl) d_Mpg_arrayValue_55 ⟨Nat.le_of_ble_eq_true rfl, Nat.le_of_ble_eq_true rfl⟩ hne hlk hA hAe (fun o t h => Or.inr h) ?_ (fun v95 p94 H locs hp94 hw => ?_) | (refine th_calli (ps0 := [wdP cs h r g tf ta pf na ma wa cf ca ef ea xf xa]) (pr := []) (pcs := [wdP cs h r g tf ta pf72 na ma67 wa cf ca ef ea xf xa]) (As := []) (rest := []) (c_mp_constant l D cs h r g tf ta cf ca ef ea xf xa pf72 na ma67 wa  lv (show 0 ≤ (pf72 11).toInt from by first | exact oz_ae613611c0 e75 g0 | omega) (show (pf72 11).toInt < (tf 6).toInt from by first | exact e76 | omega) (show (tf 6).toInt ≤ 2049 from by first | exact g2 | omega) (show 0 ≤ (pf72 12).toInt from by first | exact oz_ae613611c0 e79 g3 | omega) (show (pf72 12).toInt ≤ 60 from by first | exact oz_6710fd9021 e79 e80 | omega) (show 0 ≤ (pf72 13).toInt from by first | exact oz_f3ebed1ad0 e81 g5 | omega) (show (pf72 13).toInt ≤ (pf72 11).toInt + 10 from by first | exact oz_58f4248ce7 e75 e81 g6 | omega) (show 0 ≤ (pf72 26).toInt from by first | exact oz_f3ebed1ad0 e84 g7 | omega) (show (pf72 26).toInt ≤ (pf72 12).toInt from by first | exact oz_d87b110ba5 e79 e84 g8 | omega) (show 61 ≤ (pf72 12).toInt + (lv : Int) from by first | exact oz_8dace4bcab g9 e79 | omega) (show lv ≤ 61 from by first | exact g10 | omega) hlf htk (FsI.le (N' := (pf72 13).toInt) hfs (by omega))) S hT hw (oX_call (P := (fun A U H => (oN A U H) ∧ (oP A g U H))) (pr := []) (oG_and oG_N oG_P) hw hA ⟨hN, hP⟩) (px_recv hT hw 0 0 rfl rfl rfl) m12_10 m12_7 m12_9 ms_9_4 m1_21 q_Mpg_constant ⟨show (8 * lv + 21) + 1 ≤ (8 * lv + 22) from (by first | exact oz_5c83947939 | omega), show 8 + (2 + 11) + (220 * lv + 720) ≤ (220 * lv + 1040) from (by first | exact oz_153ed780d7 | omega)⟩ hl.1 rfl (Nat.le_of_ble_eq_true rfl) d_Mpg_arrayValue_55 ⟨Nat.le_of_ble_eq_true rfl, Nat.le_of_ble_eq_true rfl⟩ hne hlk hA hAe (fun o t h => Or.inr h) ?_ (fun v95 p94 H locs hp94 hw => ?_))
    · exact fun p1 H1 locs1 hp hw => by obtain ⟨pq1, pq2, pq3, pq4, rfl, hq1, hq2, hq3⟩ := hp; exact ⟨_, ⟨pq1, pq2, pq3, pq4, rfl, hq1, hq2, (Exists.intro 1 (Or.inl ⟨rfl, ma63, hu_ma63, z64, ez64, Or.inl ⟨nc65, ma67, hu_ma67, Or.inr ⟨pf72, e85, Or.inl ⟨pq1, pq2, pq3, pq4, hq3, rfl, rfl, rfl, rfl, rfl⟩⟩⟩⟩))⟩, hw⟩
    obtain ⟨pf90, na91, ma92, wa93, rfl, e96, e97, e98, e99, e100, e101, e102, e103, e104, e105, e106, e107, e108, e109⟩ := hp94
    have e96 : (pf72 11).toInt + 1 ≤ (pf90 11).toInt := e96
    have e97 : (pf90 11).toInt < (tf 6).toInt := e97
    have e98 : (pf72 13).toInt + 1 ≤ (pf90 13).toInt := e98
    have e99 : (pf90 13).toInt - (pf72 13).toInt ≤ (pf90 11).toInt - (pf72 11).toInt := e99
    have e100 : bp ta (pf72 11) + 1 ≤ bp ta (pf90 11) := e100
    have e101 : (pf90 12).toInt = (pf72 12).toInt := e101
    have e102 : (pf90 24).toInt = (pf72 24).toInt := e102
    have e103 : (pf90 25).toInt = (pf72 25).toInt := e103
    have e104 : (pf90 26).toInt = (pf72 26).toInt := e104
    have e105 : FrB (pf72 13).toInt na ma67 na91 ma92 := e105
    have hf_19_p0 := (fb_m e105 (by omega) (by omega)).trans hf_19_p0
    have hf_22_p0 := (fb_m e105 (by omega) (by omega)).trans hf_22_p0
    have hfb := hfb.tr e105 (by omega)
    have e106 : FrW (pf72 26).toInt wa wa93 := e106
    have hfw := hfw.tr e106 (by omega)
    have e107 : ExR ta (tf 6).toInt na91 ma92 v95 (pf72 13).toInt (pf90 13).toInt (3 * (bp ta (pf90 11) - bp ta (pf72 11))) (pf72 12).toInt := e107
    have ht_v95 := e107
    have hn_ht_v95 := ht_v95.num
    have e108 : FsI (tf 6).toInt (pf90 13).toInt na91 := e108
    have hfs := e108
    have e109 : R_mp_constant ta pf72 na ma67 wa pf90 na91 ma92 wa93 v95 0 := e109
    have lv95 := Int32.le_toInt v95
    have uv95 := Int32.toInt_lt v95
    refine lv_istore_n (lv' := [(2, .int v95), (0, .ref h), (1, .int p0)]) S.x S.b d_Mpg_arrayValue_58 rfl hl (by decide) rfl (fun ls hl => ?_)
    refine lv_aload_n S.x S.b d_Mpg_arrayValue_59 rfl (lv_at hl 1 rfl) ?_
    refine gP_18 S hT hw 0 rfl m10_3 d_Mpg_arrayValue_60 ?_
    refine lv_iload_n S.x S.b d_Mpg_arrayValue_63 rfl (lv_at hl 2 rfl) ?_
    refine lv_iload_n S.x S.b d_Mpg_arrayValue_64 rfl (lv_at hl 0 rfl) ?_
    refine px_iast S hT hw 0 14 (n := 2100) (f := (ma92 18)) (x := p0) (y := v95) rfl gp_18 (vp_in_iff.mpr (by constructor <;> omega)) d_Mpg_arrayValue_65 (w' := wdP cs h r g tf ta pf90 na91 (va_up ma92 18 (upd (ma92 18) p0.toNatClampNeg v95)) wa93 cf ca ef ea xf xa) (ps' := [wdP cs h r g tf ta pf90 na91 (va_up ma92 18 (upd (ma92 18) p0.toNatClampNeg v95)) wa93 cf ca ef ea xf xa]) sp_18 rfl (fun H locs hw => ?_)
    obtain ⟨ma110, hu_ma110⟩ : ∃ y : Nat → Nat → Int32, y = va_up ma92 18 (upd (ma92 18) p0.toNatClampNeg v95) := ⟨_, rfl⟩
    have hw : pw D A s.heap _ _ [wdP cs h r g tf ta pf90 na91 ma110 wa93 cf ca ef ea xf xa] := (by rw [hu_ma110]; exact hw)
    obtain ⟨ht_v95, hdq_v95⟩ := ht_v95.ag (ag_m hu_ma110 (by omega) (by omega)) (by omega)
    have hn_ht_v95 := ht_v95.num
    have hf_19_p0 := (fl_n hu_ma110 (by decide)).trans hf_19_p0
    have hf_22_p0 := (fl_n hu_ma110 (by decide)).trans hf_22_p0
    have hf_18_p0 : ma110 18 p0.toNatClampNeg = v95 := (by rw [hu_ma110, va_up_s, pk_us])
    have hfb := FrV.us hfb (by decide) hu_ma110
    first | exact J66 (((tf 6).toInt - (pf90 11).toInt).toNat + 1) pf90 na91 ma110 wa93 v95 _ _ ls (show (pf90 24).toInt = (pf 24).toInt from (oz_1687f4cc65 e82 e102)) (show (pf90 25).toInt = (pf 25).toInt from (oz_1687f4cc65 e83 e103)) (show (pf90 26).toInt = (pf 26).toInt from (oz_1687f4cc65 e84 e104)) (show (pf90 12).toInt = (pf 12).toInt + 1 from (oz_d71c8747a8 e79 e101)) (show (pf90 12).toInt ≤ 60 from (oz_1a76b13bbc e101 e79 e80)) (show (pf 11).toInt + 2 ≤ (pf90 11).toInt from (oz_ec7811a741 e75 e96)) (show (pf90 11).toInt < (tf 6).toInt from e97) (show (pf 13).toInt + 1 ≤ (pf90 13).toInt from (oz_4495b4e10b e81 e98)) (show (pf90 13).toInt - (pf 13).toInt ≤ (pf90 11).toInt - (pf 11).toInt from (oz_44664987d4 e75 e81 e99)) (show bp ta (pf 11) + 2 ≤ bp ta (pf90 11) from (oz_90fe4a4ae3 e77 e100 e78)) (show FrV (pf 13).toInt p0 na ma na91 ma110 from hfb) (show FrW (pf 26).toInt wa wa93 from hfw) (show FlN ma110 19 p0 (pf 11) from hf_19_p0) (show FlN ma110 22 p0 2 from hf_22_p0) (show RfC ta (tf 6).toInt na91 ma110 (ma110 18) p0 v95 (pf 13).toInt (pf90 13).toInt (3 * (bp ta (pf90 11) - bp ta (pf 11))) 130 from ⟨_, hf_18_p0, (RwV.le (row_0 (vl_c (exr_vl ht_v95 (by omega))) fc_ok) (by omega) (by omega) (by omega) (by omega))⟩) (show FsI (tf 6).toInt (pf90 13).toInt na91 from (FsI.le hfs (by omega))) (show K_mp_arrayValue_66 ta p0 pf na ma wa pf90 na91 ma110 wa93 v95 from (fun y_f0 y_f1 y_f2 y_f3 y_t k hE => Exists.intro (k + 1) (Or.inl ⟨rfl, ma63, hu_ma63, z64, ez64, Or.inl ⟨nc65, ma67, hu_ma67, Or.inr ⟨pf72, e85, Or.inr ⟨pf90, na91, ma92, wa93, v95, e109, ma110, hu_ma110, hE⟩⟩⟩⟩))) (show (tf 6).toInt - (pf90 11).toInt < (((((tf 6).toInt - (pf90 11).toInt).toNat + 1 : Nat) : Int) : Int) from oz_natlt) hw (lv_sub hl [1, 2, 0] rfl) | (exact J66 (((tf 6).toInt - (pf90 11).toInt).toNat + 1) pf90 na91 ma110 wa93 v95 _ _ ls (show (pf90 24).toInt = (pf 24).toInt from by first | exact oz_1687f4cc65 e82 e102 | omega) (show (pf90 25).toInt = (pf 25).toInt from by first | exact oz_1687f4cc65 e83 e103 | omega) (show (pf90 26).toInt = (pf 26).toInt from by first | exact oz_1687f4cc65 e84 e104 | omega) (show (pf90 12).toInt = (pf 12).toInt + 1 from by first | exact oz_d71c8747a8 e79 e101 | omega) (show (pf90 12).toInt ≤ 60 from by first | exact oz_1a76b13bbc e101 e79 e80 | omega) (show (pf 11).toInt + 2 ≤ (pf90 11).toInt from by first | exact oz_ec7811a741 e75 e96 | omega) (show (pf90 11).toInt < (tf 6).toInt from by first | exact e97 | omega) (show (pf 13).toInt + 1 ≤ (pf90 13).toInt from by first | exact oz_4495b4e10b e81 e98 | omega) (show (pf90 13).toInt - (pf 13).toInt ≤ (pf90 11).toInt - (pf 11).toInt from by first | exact oz_44664987d4 e75 e81 e99 | omega) (show bp ta (pf 11) + 2 ≤ bp ta (pf90 11) from by first | exact oz_90fe4a4ae3 e77 e100 e78 | omega) (show FrV (pf 13).toInt p0 na ma na91 ma110 from hfb) (show FrW (pf 26).toInt wa wa93 from hfw) (show FlN ma110 19 p0 (pf 11) from hf_19_p0) (show FlN ma110 22 p0 2 from hf_22_p0) (show RfC ta (tf 6).toInt na91 ma110 (ma110 18) p0 v95 (pf 13).toInt (pf90 13).toInt (3 * (bp ta (pf90 11) - bp ta (pf 11))) 130 from ⟨_, hf_18_p0, (RwV.le (row_0 (vl_c (exr_vl ht_v95 (by omega))) fc_ok) (by omega) (by omega) (by omega) (by omega))⟩) (show FsI (tf 6).toInt (pf90 13).toInt na91 from (FsI.le hfs (by omega))) (show K_mp_arrayValue_66 ta p0 pf na ma wa pf90 na91 ma110 wa93 v95 from (fun y_f0 y_f1 y_f2 y_f3 y_t k hE => Exists.intro (k + 1) (Or.inl ⟨rfl, ma63, hu_ma63, z64, ez64, Or.inl ⟨nc65, ma67, hu_ma67, Or.inr ⟨pf72, e85, Or.inr ⟨pf90, na91, ma92, wa93, v95, e109, ma110, hu_ma110, hE⟩⟩⟩⟩))) (show (tf 6).toInt - (pf90 11).toInt < (((((tf 6).toInt - (pf90 11).toInt).toNat + 1 : Nat) : Int) : Int) from by first | exact oz_natlt | omega) hw (lv_sub hl [1, 2, 0] rfl))
  · have nc65 : z64.toInt = (4 : Int) := (i_eq (x := z64) (y := 4)).mp c65
    refine lv_aload_n S.x S.b d_Mpg_arrayValue_23 rfl (lv_at hl 0 rfl) ?_
    refine gP_22 S hT hw 0 rfl m10_9 d_Mpg_arrayValue_24 ?_
    refine lv_iload_n S.x S.b d_Mpg_arrayValue_27 rfl (lv_at hl 1 rfl) ?_
    refine lv_iconst (v := 3) S.x S.b d_Mpg_arrayValue_28 (by decide) ?_
    refine px_iast S hT hw 0 18 (n := 2100) (f := (ma63 22)) (x := p0) (y := 3) rfl gp_22 (vp_in_iff.mpr (by constructor <;> omega)) d_Mpg_arrayValue_29 (w' := wdP cs h r g tf ta pf na (va_up ma63 22 (upd (ma63 22) p0.toNatClampNeg 3)) wa cf ca ef ea xf xa) (ps' := [wdP cs h r g tf ta pf na (va_up ma63 22 (upd (ma63 22) p0.toNatClampNeg 3)) wa cf ca ef ea xf xa]) sp_22 rfl (fun H locs hw => ?_)
    obtain ⟨ma111, hu_ma111⟩ : ∃ y : Nat → Nat → Int32, y = va_up ma63 22 (upd (ma63 22) p0.toNatClampNeg 3) := ⟨_, rfl⟩
    have hw : pw D A s.heap _ _ [wdP cs h r g tf ta pf na ma111 wa cf ca ef ea xf xa] := (by rw [hu_ma111]; exact hw)
    have hf_19_p0 := (fl_n hu_ma111 (by decide)).trans hf_19_p0
    have hf_22_p0 : ma111 22 p0.toNatClampNeg = (3 : Int32) := (by rw [hu_ma111, va_up_s, pk_us])
    have hfb := FrV.us hfb (by decide) hu_ma111
    refine lv_aload_n S.x S.b d_Mpg_arrayValue_30 rfl (lv_at hl 0 rfl) ?_
    refine lv_dup S.x S.b d_Mpg_arrayValue_31 rfl ?_
    refine gP_11 (v := (pf 11)) S hT hw 0 rfl rfl m9_235 d_Mpg_arrayValue_32 ?_
    refine lv_iconst (v := 1) S.x S.b d_Mpg_arrayValue_35 (by decide) ?_
    refine lv_iadd S.x S.b d_Mpg_arrayValue_36 ?_
    have lr112 := Int32.le_toInt (pf 11)
    have ur112 := Int32.toInt_lt (pf 11)
    refine lv_topi (fun z113 ez113 => ?_)
    have tz113 : z113.toInt = ((pf 11).toInt + (1 : Int) + 2147483648) % 4294967296 - 2147483648 := by rw [ez113]; exact i_add (pf 11) 1
    have lz113 := Int32.le_toInt z113
    have uz113 := Int32.toInt_lt z113
    try replace tz113 : z113.toInt = (pf 11).toInt + (1 : Int) := by omega
    have hnx36 := tk_n htk (x := (pf 11)) (y := z113) (by omega) (by omega) (by omega)
    refine pP_11 S hT hw 0 rfl m9_235 rfl rfl rfl d_Mpg_arrayValue_37 (ps' := [wdP cs h r g tf ta (upd pf 11 z113) na ma111 wa cf ca ef ea xf xa]) rfl (fun H locs hw => ?_)
    first | exact th_vret S hr hlk hAe hw (⟨(upd pf 11 z113), na, ma111, wa, rfl, (show (pf 11).toInt + 1 ≤ z113.toInt from (oz_38236be559 tz113)), (show z113.toInt < (tf 6).toInt from by omega), (show (pf 13).toInt ≤ (pf 13).toInt from oz_1cb5f934a5), (show (pf 13).toInt - (pf 13).toInt ≤ z113.toInt - (pf 11).toInt from (oz_a8abe01589 tz113)), (show bp ta (pf 11) + 1 ≤ bp ta z113 from (oz_196269e214 hnx36.1 hnx36.2)), (show (pf 12).toInt = (pf 12).toInt from rfl), (show (pf 24).toInt = (pf 24).toInt from rfl), (show (pf 25).toInt = (pf 25).toInt from rfl), (show (pf 26).toInt = (pf 26).toInt from rfl), (show FrV (pf 13).toInt p0 na ma na ma111 from hfb), (show FrW (pf 26).toInt wa wa from hfw), (show AvV ta (tf 6).toInt na ma111 p0 (pf 11) (pf 13).toInt (pf 13).toInt (3 * (bp ta z113 - bp ta (pf 11))) 130 from ⟨hf_19_p0, ⟨by omega, by omega⟩, Or.inl ⟨hf_22_p0, by omega, by omega, by omega⟩⟩), (show FsI (tf 6).toInt (pf 13).toInt na from (FsI.le hfs (by omega))), (show R_mp_arrayValue ta p0 pf na ma wa (upd pf 11 z113) na ma111 wa 0 from (Exists.intro 1 (Or.inl ⟨rfl, ma63, hu_ma63, z64, ez64, Or.inr ⟨nc65, ma111, hu_ma111, z113, ez113, rfl, rfl, rfl, rfl, rfl⟩⟩)))⟩) d_Mpg_arrayValue_40 | (exact th_vret S hr hlk hAe hw (⟨(upd pf 11 z113), na, ma111, wa, rfl, (show (pf 11).toInt + 1 ≤ z113.toInt from by first | exact oz_38236be559 tz113 | omega), (show z113.toInt < (tf 6).toInt from by omega), (show (pf 13).toInt ≤ (pf 13).toInt from by first | exact oz_1cb5f934a5 | omega), (show (pf 13).toInt - (pf 13).toInt ≤ z113.toInt - (pf 11).toInt from by first | exact oz_a8abe01589 tz113 | omega), (show bp ta (pf 11) + 1 ≤ bp ta z113 from by first | exact oz_196269e214 hnx36.1 hnx36.2 | omega), (show (pf 12).toInt = (pf 12).toInt from rfl), (show (pf 24).toInt = (pf 24).toInt from rfl), (show (pf 25).toInt = (pf 25).toInt from rfl), (show (pf 26).toInt = (pf 26).toInt from rfl), (show FrV (pf 13).toInt p0 na ma na ma111 from hfb), (show FrW (pf 26).toInt wa wa from hfw), (show AvV ta (tf 6).toInt na ma111 p0 (pf 11) (pf 13).toInt (pf 13).toInt (3 * (bp ta z113 - bp ta (pf 11))) 130 from ⟨hf_19_p0, ⟨by omega, by omega⟩, Or.inl ⟨hf_22_p0, by omega, by omega, by omega⟩⟩), (show FsI (tf 6).toInt (pf 13).toInt na from (FsI.le hfs (by omega))), (show R_mp_arrayValue ta p0 pf na ma wa (upd pf 11 z113) na ma111 wa 0 from (Exists.intro 1 (Or.inl ⟨rfl, ma63, hu_ma63, z64, ez64, Or.inr ⟨nc65, ma111, hu_ma111, z113, ez113, rfl, rfl, rfl, rfl, rfl⟩⟩)))⟩) d_Mpg_arrayValue_40)
abbrev b_Mpg_variable : ByteArray := prog_16_method_44_code
def y_Mpg_variable : MethodName := ⟨"HomeSystemModel$Program", "variable", "()I"⟩
theorem d_Mpg_variable_0 : decode b_Mpg_variable 0 = .ok (.aload_n 0, 1) := by decide +kernel
theorem d_Mpg_variable_1 : decode b_Mpg_variable 1 = .ok (.bipush 40, 2) := by decide +kernel
theorem d_Mpg_variable_3 : decode b_Mpg_variable 3 = .ok (.aload_n 0, 1) := by decide +kernel
theorem d_Mpg_variable_4 : decode b_Mpg_variable 4 = .ok (.invokevirtual 442, 3) := by decide +kernel
theorem d_Mpg_variable_7 : decode b_Mpg_variable 7 = .ok (.invokevirtual 406, 3) := by decide +kernel
theorem d_Mpg_variable_10 : decode b_Mpg_variable 10 = .ok (.istore_n 1, 1) := by decide +kernel
theorem d_Mpg_variable_11 : decode b_Mpg_variable 11 = .ok (.aload_n 0, 1) := by decide +kernel
theorem d_Mpg_variable_12 : decode b_Mpg_variable 12 = .ok (.getfield 231, 3) := by decide +kernel
theorem d_Mpg_variable_15 : decode b_Mpg_variable 15 = .ok (.iload_n 1, 1) := by decide +kernel
theorem d_Mpg_variable_16 : decode b_Mpg_variable 16 = .ok (.iconst 0, 1) := by decide +kernel
theorem d_Mpg_variable_17 : decode b_Mpg_variable 17 = .ok (.iastore, 1) := by decide +kernel
theorem d_Mpg_variable_18 : decode b_Mpg_variable 18 = .ok (.aload_n 0, 1) := by decide +kernel
theorem d_Mpg_variable_19 : decode b_Mpg_variable 19 = .ok (.ldc 95, 2) := by decide +kernel
theorem d_Mpg_variable_21 : decode b_Mpg_variable 21 = .ok (.invokevirtual 366, 3) := by decide +kernel
theorem d_Mpg_variable_24 : decode b_Mpg_variable 24 = .ok (.ifCond .eq 40, 3) := by decide +kernel
theorem d_Mpg_variable_27 : decode b_Mpg_variable 27 = .ok (.aload_n 0, 1) := by decide +kernel
theorem d_Mpg_variable_28 : decode b_Mpg_variable 28 = .ok (.invokevirtual 383, 3) := by decide +kernel
theorem d_Mpg_variable_31 : decode b_Mpg_variable 31 = .ok (.aload_n 0, 1) := by decide +kernel
theorem d_Mpg_variable_32 : decode b_Mpg_variable 32 = .ok (.getfield 216, 3) := by decide +kernel
theorem d_Mpg_variable_35 : decode b_Mpg_variable 35 = .ok (.iload_n 1, 1) := by decide +kernel
theorem d_Mpg_variable_36 : decode b_Mpg_variable 36 = .ok (.aload_n 0, 1) := by decide +kernel
theorem d_Mpg_variable_37 : decode b_Mpg_variable 37 = .ok (.invokevirtual 451, 3) := by decide +kernel
theorem d_Mpg_variable_40 : decode b_Mpg_variable 40 = .ok (.iastore, 1) := by decide +kernel
theorem d_Mpg_variable_41 : decode b_Mpg_variable 41 = .ok (.aload_n 0, 1) := by decide +kernel
theorem d_Mpg_variable_42 : decode b_Mpg_variable 42 = .ok (.ldc 97, 2) := by decide +kernel
theorem d_Mpg_variable_44 : decode b_Mpg_variable 44 = .ok (.invokevirtual 439, 3) := by decide +kernel
theorem d_Mpg_variable_47 : decode b_Mpg_variable 47 = .ok (.aload_n 0, 1) := by decide +kernel
theorem d_Mpg_variable_48 : decode b_Mpg_variable 48 = .ok (.ldc 107, 2) := by decide +kernel
theorem d_Mpg_variable_50 : decode b_Mpg_variable 50 = .ok (.invokevirtual 370, 3) := by decide +kernel
theorem d_Mpg_variable_53 : decode b_Mpg_variable 53 = .ok (.ifCond .eq 37, 3) := by decide +kernel
theorem d_Mpg_variable_56 : decode b_Mpg_variable 56 = .ok (.aload_n 0, 1) := by decide +kernel
theorem d_Mpg_variable_57 : decode b_Mpg_variable 57 = .ok (.iload_n 1, 1) := by decide +kernel
theorem d_Mpg_variable_58 : decode b_Mpg_variable 58 = .ok (.invokevirtual 454, 3) := by decide +kernel
theorem d_Mpg_variable_61 : decode b_Mpg_variable 61 = .ok (.goto 29, 3) := by decide +kernel
theorem d_Mpg_variable_64 : decode b_Mpg_variable 64 = .ok (.aload_n 0, 1) := by decide +kernel
theorem d_Mpg_variable_65 : decode b_Mpg_variable 65 = .ok (.ldc 107, 2) := by decide +kernel
theorem d_Mpg_variable_67 : decode b_Mpg_variable 67 = .ok (.invokevirtual 370, 3) := by decide +kernel
theorem d_Mpg_variable_70 : decode b_Mpg_variable 70 = .ok (.ifCond .eq 20, 3) := by decide +kernel
theorem d_Mpg_variable_73 : decode b_Mpg_variable 73 = .ok (.aload_n 0, 1) := by decide +kernel
theorem d_Mpg_variable_74 : decode b_Mpg_variable 74 = .ok (.getfield 231, 3) := by decide +kernel
theorem d_Mpg_variable_77 : decode b_Mpg_variable 77 = .ok (.iload_n 1, 1) := by decide +kernel
theorem d_Mpg_variable_78 : decode b_Mpg_variable 78 = .ok (.iconst 1, 1) := by decide +kernel
theorem d_Mpg_variable_79 : decode b_Mpg_variable 79 = .ok (.iastore, 1) := by decide +kernel
theorem d_Mpg_variable_80 : decode b_Mpg_variable 80 = .ok (.aload_n 0, 1) := by decide +kernel
theorem d_Mpg_variable_81 : decode b_Mpg_variable 81 = .ok (.getfield 219, 3) := by decide +kernel
theorem d_Mpg_variable_84 : decode b_Mpg_variable 84 = .ok (.iload_n 1, 1) := by decide +kernel
theorem d_Mpg_variable_85 : decode b_Mpg_variable 85 = .ok (.aload_n 0, 1) := by decide +kernel
theorem d_Mpg_variable_86 : decode b_Mpg_variable 86 = .ok (.invokevirtual 403, 3) := by decide +kernel
theorem d_Mpg_variable_89 : decode b_Mpg_variable 89 = .ok (.iastore, 1) := by decide +kernel
theorem d_Mpg_variable_90 : decode b_Mpg_variable 90 = .ok (.iload_n 1, 1) := by decide +kernel
theorem d_Mpg_variable_91 : decode b_Mpg_variable 91 = .ok (.ireturn, 1) := by decide +kernel
theorem q_Mpg_variable : px_y y_Mpg_variable 0 := by unfold px_y; decide +kernel
set_option maxHeartbeats 4000000 in
set_option maxRecDepth 100000 in
theorem c_mp_variable (l : Launch) (D : va_G) (cs : Nat → ClassId) (h : Nat) (r : Nat → Nat) (g : Nat → Nat → Option Nat) (tf : Nat → Int32) (ta : Nat → Nat → Int32) (cf : Nat → Int32) (ca : Nat → Nat → Int32) (ef : Nat → Int32) (ea : Nat → Nat → Int32) (xf : Nat → Int32) (xa : Nat → Nat → Int32) (pf : Nat → Int32) (na : Nat → Nat → Int32) (ma : Nat → Nat → Int32) (wa : Nat → Nat → Int32) (lv : Nat) (g0 : 0 ≤ (pf 11).toInt) (g1 : (pf 11).toInt < (tf 6).toInt) (g2 : (tf 6).toInt ≤ 2049) (g3 : 0 ≤ (pf 12).toInt) (g4 : (pf 12).toInt ≤ 60) (g5 : 0 ≤ (pf 13).toInt) (g6 : (pf 13).toInt ≤ (pf 11).toInt + 10) (g7 : 0 ≤ (pf 26).toInt) (g8 : (pf 26).toInt ≤ (pf 12).toInt) (g9 : 61 ≤ (pf 12).toInt + (lv : Int)) (g10 : lv ≤ 61) (hlf : l.flags = pinnedFlags ++ [noTraceFlag]) (htk : TkI tf ta) (hfs : FsI (tf 6).toInt (pf 13).toInt na) : ThI l y_Mpg_variable b_Mpg_variable 2 (.int) D cs (8 * lv + 23) (220 * lv + 1080) [.ref h] [wdP cs h r g tf ta pf na ma wa cf ca ef ea xf xa] (oX (fun A U H => (oN A U H) ∧ (oP A g U H)) [wdP cs h r g tf ta pf na ma wa cf ca ef ea xf xa]) "java/lang/IllegalArgumentException" (fun v ps => ∃ (pf' : Nat → Int32) (na' : Nat → Nat → Int32) (ma' : Nat → Nat → Int32) (wa' : Nat → Nat → Int32), (ps = [wdP cs h r g tf ta pf' na' ma' wa' cf ca ef ea xf xa]) ∧ ((pf 11).toInt + 1 ≤ (pf' 11).toInt) ∧ ((pf' 11).toInt < (tf 6).toInt) ∧ ((pf 13).toInt + 1 ≤ (pf' 13).toInt) ∧ ((pf' 13).toInt - (pf 13).toInt ≤ (pf' 11).toInt - (pf 11).toInt) ∧ (bp ta (pf 11) + 1 ≤ bp ta (pf' 11)) ∧ ((pf' 12).toInt = (pf 12).toInt) ∧ ((pf' 24).toInt = (pf 24).toInt) ∧ ((pf' 25).toInt = (pf 25).toInt) ∧ ((pf' 26).toInt = (pf 26).toInt) ∧ (FrB (pf 13).toInt na ma na' ma') ∧ (FrW (pf 26).toInt wa wa') ∧ (VlR ta (tf 6).toInt na' ma' v (pf 13).toInt (pf' 13).toInt (3 * (bp ta (pf' 11) - bp ta (pf 11)) + 3) 130) ∧ (FsI (tf 6).toInt (pf' 13).toInt na') ∧ (R_mp_variable ta pf na ma wa pf' na' ma' wa' v 0)) (fun ps => ∃ (pf' : Nat → Int32) (na' : Nat → Nat → Int32) (ma' : Nat → Nat → Int32) (wa' : Nat → Nat → Int32), ps = [wdP cs h r g tf ta pf' na' ma' wa' cf ca ef ea xf xa] ∧ 0 ≤ (pf' 11).toInt ∧ (pf' 11).toInt + 1 ≤ (tf 6).toInt ∧ R_mp_variable ta pf na ma wa pf' na' ma' wa' 0 1) := by
  refine th_enter (by decide) (Nat.le_of_ble_eq_true rfl) ?_
  intro p e s m below meth c A ls hAe S hr hlk hnm hA hT hX hw hl hne hadm
  have hl : lv_has ls 2 [(0, .ref h)] := hl
  have cst0 : (0 : Int32).toInt = 0 := rfl
  have cst1 : (1 : Int32).toInt = 1 := rfl
  have cst40 : (40 : Int32).toInt = 40 := rfl
  have hX : (fun A U H => (oN A U H) ∧ (oP A g U H)) A s s.heap := by rw [hAe]; exact hX
  obtain ⟨hN, hP⟩ := hX
  have hZ := hP.1
  have hF0 := hP.2.1
  have hfb : FrB (pf 13).toInt na ma na ma := FrB.rf
  have hfw : FrW (pf 26).toInt wa wa := FrW.rf
  refine lv_aload_n S.x S.b d_Mpg_variable_0 rfl (lv_at hl 0 rfl) ?_
  refine lv_bipush (v := 40) S.x S.b d_Mpg_variable_1 (by decide) ?_
  refine lv_aload_n S.x S.b d_Mpg_variable_3 rfl (lv_at hl 0 rfl) ?_
  first | refine th_calli (ps0 := [wdP cs h r g tf ta pf na ma wa cf ca ef ea xf xa]) (pr := []) (pcs := [wdP cs h r g tf ta pf na ma wa cf ca ef ea xf xa]) (As := []) (rest := [.int 40, .ref h]) (c_mp_name l D cs h r g tf ta na ma wa cf ca ef ea xf xa pf   (show 0 ≤ (pf 11).toInt from g0) (show (pf 11).toInt < (tf 6).toInt from g1) (show (tf 6).toInt ≤ 2049 from g2) hlf htk) S hT hw (oX_call (P := (fun A U H => (oN A U H) ∧ (oP A g U H))) (pr := []) (oG_and oG_N oG_P) hw hA ⟨hN, hP⟩) (px_recv hT hw 0 0 rfl rfl rfl) m12_2 m11_239 m12_1 ms_9_2 m1_21 q_Mpg_name ⟨show 7 + 1 ≤ (8 * lv + 23) from (oz_fd92aef528), show 8 + (1 + 11) + 150 ≤ (220 * lv + 1080) from (oz_e425a20bf9)⟩ hl.1 rfl (Nat.le_of_ble_eq_true rfl) d_Mpg_variable_4 ⟨Nat.le_of_ble_eq_true rfl, Nat.le_of_ble_eq_true rfl⟩ hne hlk hA hAe (fun o t h => Or.inr h) ?_ (fun v4 p3 H locs hp3 hw => ?_) | (refine th_calli (ps0 := [wdP cs h r g tf ta pf na ma wa cf ca ef ea xf xa]) (pr := []) (pcs := [wdP cs h r g tf ta pf na ma wa cf ca ef ea xf xa]) (As := []) (rest := [.int 40, .ref h]) (c_mp_name l D cs h r g tf ta na ma wa cf ca ef ea xf xa pf   (show 0 ≤ (pf 11).toInt from by first | exact g0 | omega) (show (pf 11).toInt < (tf 6).toInt from by first | exact g1 | omega) (show (tf 6).toInt ≤ 2049 from by first | exact g2 | omega) hlf htk) S hT hw (oX_call (P := (fun A U H => (oN A U H) ∧ (oP A g U H))) (pr := []) (oG_and oG_N oG_P) hw hA ⟨hN, hP⟩) (px_recv hT hw 0 0 rfl rfl rfl) m12_2 m11_239 m12_1 ms_9_2 m1_21 q_Mpg_name ⟨show 7 + 1 ≤ (8 * lv + 23) from (by first | exact oz_fd92aef528 | omega), show 8 + (1 + 11) + 150 ≤ (220 * lv + 1080) from (by first | exact oz_e425a20bf9 | omega)⟩ hl.1 rfl (Nat.le_of_ble_eq_true rfl) d_Mpg_variable_4 ⟨Nat.le_of_ble_eq_true rfl, Nat.le_of_ble_eq_true rfl⟩ hne hlk hA hAe (fun o t h => Or.inr h) ?_ (fun v4 p3 H locs hp3 hw => ?_))
  · exact fun p1 H1 locs1 hp hw => by obtain ⟨pq1, pq2, pq3, pq4, rfl, hq1, hq2, hu_na, hu_ma, hu_wa, hq3⟩ := hp; exact ⟨_, ⟨pq1, pq2, pq3, pq4, rfl, hq1, hq2, (Or.inl (Or.inl ⟨pq1, hq3, rfl, hu_na, hu_ma, hu_wa, rfl, rfl⟩))⟩, hw⟩
  obtain ⟨pf2, rfl, e5, e6, e7, e8, e9, e10, e11, e12, e13, e14, e15⟩ := hp3
  have e5 : v4.toInt = (pf 11).toInt := e5
  have e6 : SoIs ta v4 1 := e6
  have e7 : (pf2 11).toInt = (pf 11).toInt + 1 := e7
  have e8 : (pf2 11).toInt < (tf 6).toInt := e8
  have e9 : bp ta (pf 11) + 1 ≤ bp ta (pf2 11) := e9
  have e10 : (pf2 12).toInt = (pf 12).toInt := e10
  have e11 : (pf2 13).toInt = (pf 13).toInt := e11
  have e12 : (pf2 24).toInt = (pf 24).toInt := e12
  have e13 : (pf2 25).toInt = (pf 25).toInt := e13
  have e14 : (pf2 26).toInt = (pf 26).toInt := e14
  have e15 : R_mp_name ta pf pf2 v4 0 := e15
  have lv4 := Int32.le_toInt v4
  have uv4 := Int32.toInt_lt v4
  first | refine px_calli (pr := []) (px_runV (As := [.int 40, .int v4]) (rest := []) S (c_mp_make l D cs h r g tf ta wa cf ca ef ea xf xa pf2 na ma 40 v4  (show 0 ≤ (pf2 13).toInt from (oz_f3ebed1ad0 e11 g5)) (show (pf2 13).toInt < 2100 from (oz_80360dfd4e e11 g6 e7 g2 e8)) _) hT (pr := []) (pcs := [wdP cs h r g tf ta pf2 na ma wa cf ca ef ea xf xa]) hw px_X.tt (px_recv hT hw 0 0 rfl rfl rfl) m11_209 m11_206 m11_208 ms_8_12 m1_21 q_Mpg_make ⟨show 0 + 1 ≤ (8 * lv + 23) from (oz_3a3e558922), show 8 + (3 + 11) + 0 ≤ (220 * lv + 1080) from (oz_3c5f256d30)⟩ hl.1 rfl (Nat.le_of_ble_eq_true rfl) d_Mpg_variable_7 ⟨Nat.le_of_ble_eq_true rfl, Nat.le_of_ble_eq_true rfl⟩) hw hA (fun v23 p22 H locs hp22 hw => ?_) | (refine px_calli (pr := []) (px_runV (As := [.int 40, .int v4]) (rest := []) S (c_mp_make l D cs h r g tf ta wa cf ca ef ea xf xa pf2 na ma 40 v4  (show 0 ≤ (pf2 13).toInt from by first | exact oz_f3ebed1ad0 e11 g5 | omega) (show (pf2 13).toInt < 2100 from by first | exact oz_80360dfd4e e11 g6 e7 g2 e8 | omega) _) hT (pr := []) (pcs := [wdP cs h r g tf ta pf2 na ma wa cf ca ef ea xf xa]) hw px_X.tt (px_recv hT hw 0 0 rfl rfl rfl) m11_209 m11_206 m11_208 ms_8_12 m1_21 q_Mpg_make ⟨show 0 + 1 ≤ (8 * lv + 23) from (by first | exact oz_3a3e558922 | omega), show 8 + (3 + 11) + 0 ≤ (220 * lv + 1080) from (by first | exact oz_3c5f256d30 | omega)⟩ hl.1 rfl (Nat.le_of_ble_eq_true rfl) d_Mpg_variable_7 ⟨Nat.le_of_ble_eq_true rfl, Nat.le_of_ble_eq_true rfl⟩) hw hA (fun v23 p22 H locs hp22 hw => ?_))
  obtain ⟨pf19, na20, ma21, rfl, e24, e25, e26, e27, e28, e29, e30, e31, e32⟩ := hp22
  have e24 : v23.toInt = (pf2 13).toInt := e24
  have e25 : (pf19 13).toInt = (pf2 13).toInt + 1 := e25
  have e26 : (pf19 11).toInt = (pf2 11).toInt := e26
  have e27 : (pf19 12).toInt = (pf2 12).toInt := e27
  have e28 : (pf19 24).toInt = (pf2 24).toInt := e28
  have e29 : (pf19 25).toInt = (pf2 25).toInt := e29
  have e30 : (pf19 26).toInt = (pf2 26).toInt := e30
  have e31 : MkN na ma na20 ma21 v23 (40 : Int32) v4 := e31
  have e32 : R_mp_make (40 : Int32) v4 pf2 na ma pf19 na20 ma21 v23 := e32
  obtain ⟨qb331, qb332, qb333, qb334⟩ := tk_eq (ta := ta) (x := (pf19 11)) (y := (pf2 11)) (by omega)
  have hmk_v23 := e31
  have hfm_v23 := MkN.frb (b := v23.toInt) hmk_v23 (by omega) (by omega)
  have hfs := FsI.mk hfs hmk_v23 (by omega) (by omega) (by omega) (by omega)
  have hfb := hfb.tr hfm_v23 (by omega)
  have hf_14_v23 := hmk_v23.2.1 (by decide) (by decide)
  have hf_15_v23 := hmk_v23.2.2.1
  have hf_17_v23 := hmk_v23.2.2.2.2.1
  have hf_21_v23 := hmk_v23.2.2.2.2.2.2.2.2.1
  clear hmk_v23 hfm_v23
  have lv23 := Int32.le_toInt v23
  have uv23 := Int32.toInt_lt v23
  refine lv_istore_n (lv' := [(1, .int v23), (0, .ref h)]) S.x S.b d_Mpg_variable_10 rfl hl (by decide) rfl (fun ls hl => ?_)
  refine lv_aload_n S.x S.b d_Mpg_variable_11 rfl (lv_at hl 1 rfl) ?_
  refine gP_22 S hT hw 0 rfl m10_9 d_Mpg_variable_12 ?_
  refine lv_iload_n S.x S.b d_Mpg_variable_15 rfl (lv_at hl 0 rfl) ?_
  refine lv_iconst (v := 0) S.x S.b d_Mpg_variable_16 (by decide) ?_
  refine px_iast S hT hw 0 18 (n := 2100) (f := (ma21 22)) (x := v23) (y := 0) rfl gp_22 (vp_in_iff.mpr (by constructor <;> omega)) d_Mpg_variable_17 (w' := wdP cs h r g tf ta pf19 na20 (va_up ma21 22 (upd (ma21 22) v23.toNatClampNeg 0)) wa cf ca ef ea xf xa) (ps' := [wdP cs h r g tf ta pf19 na20 (va_up ma21 22 (upd (ma21 22) v23.toNatClampNeg 0)) wa cf ca ef ea xf xa]) sp_22 rfl (fun H locs hw => ?_)
  obtain ⟨ma34, hu_ma34⟩ : ∃ y : Nat → Nat → Int32, y = va_up ma21 22 (upd (ma21 22) v23.toNatClampNeg 0) := ⟨_, rfl⟩
  have hw : pw D A s.heap _ _ [wdP cs h r g tf ta pf19 na20 ma34 wa cf ca ef ea xf xa] := (by rw [hu_ma34]; exact hw)
  have hf_22_v23 : ma34 22 v23.toNatClampNeg = (0 : Int32) := (by rw [hu_ma34, va_up_s, pk_us])
  have hfb : FrB (pf 13).toInt na ma na20 ma34 := (by rw [hu_ma34]; exact FrB.um hfb (by omega) (by omega))
  refine lv_aload_n S.x S.b d_Mpg_variable_18 rfl (lv_at hl 1 rfl) ?_
  obtain ⟨sk35, hRsk35, st36, hSsk35⟩ := oP_litB hP (k := 95) (tx := "[") (n := 1) (List.mem_of_getElem? (i := 39) rfl)
  refine va_ldcS S.x S.b S.own hRsk35 d_Mpg_variable_19 ?_
  first | refine px_calli (pr := []) (px_runV (As := [.ref sk35]) (rest := []) S (c_mp_is l D cs sk35 1 (lby "[") h r g tf ta pf19 na20 ma34 wa cf ca ef ea xf xa   (show 0 ≤ (pf19 11).toInt from (oz_78ad3463af e26 e7 g0)) (show (pf19 11).toInt < (tf 6).toInt from (oz_5d2fbac15b e8 e26)) (show (tf 6).toInt ≤ 2049 from g2) (show 1 ≤ 100 from by omega) htk _) hT (pr := []) (pcs := [wdP cs h r g tf ta pf19 na20 ma34 wa cf ca ef ea xf xa]) hw (oX_call (P := (fun A U H => (oP A g U H) ∧ (StLt A sk35 1 (lby "[") U H))) (pr := []) (oG_and oG_P oG_QB) hw hA ⟨hP, ⟨_, hSsk35⟩⟩) (px_recv hT hw 0 0 rfl rfl rfl) m11_217 m11_214 m11_216 ms_8_14 m1_21 q_Mpg_is ⟨show 3 + 1 ≤ (8 * lv + 23) from (oz_6eea02e9ae), show 8 + (2 + 11) + 120 ≤ (220 * lv + 1080) from (oz_f28206c579)⟩ hl.1 rfl (Nat.le_of_ble_eq_true rfl) d_Mpg_variable_21 ⟨Nat.le_of_ble_eq_true rfl, Nat.le_of_ble_eq_true rfl⟩) hw hA (fun v39 p38 H locs hp38 hw => ?_) | (refine px_calli (pr := []) (px_runV (As := [.ref sk35]) (rest := []) S (c_mp_is l D cs sk35 1 (lby "[") h r g tf ta pf19 na20 ma34 wa cf ca ef ea xf xa   (show 0 ≤ (pf19 11).toInt from by first | exact oz_78ad3463af e26 e7 g0 | omega) (show (pf19 11).toInt < (tf 6).toInt from by first | exact oz_5d2fbac15b e8 e26 | omega) (show (tf 6).toInt ≤ 2049 from by first | exact g2 | omega) (show 1 ≤ 100 from by omega) htk _) hT (pr := []) (pcs := [wdP cs h r g tf ta pf19 na20 ma34 wa cf ca ef ea xf xa]) hw (oX_call (P := (fun A U H => (oP A g U H) ∧ (StLt A sk35 1 (lby "[") U H))) (pr := []) (oG_and oG_P oG_QB) hw hA ⟨hP, ⟨_, hSsk35⟩⟩) (px_recv hT hw 0 0 rfl rfl rfl) m11_217 m11_214 m11_216 ms_8_14 m1_21 q_Mpg_is ⟨show 3 + 1 ≤ (8 * lv + 23) from (by first | exact oz_6eea02e9ae | omega), show 8 + (2 + 11) + 120 ≤ (220 * lv + 1080) from (by first | exact oz_f28206c579 | omega)⟩ hl.1 rfl (Nat.le_of_ble_eq_true rfl) d_Mpg_variable_21 ⟨Nat.le_of_ble_eq_true rfl, Nat.le_of_ble_eq_true rfl⟩) hw hA (fun v39 p38 H locs hp38 hw => ?_))
  obtain ⟨rfl, e40, e41, e42⟩ := hp38
  have e40 := z_rng e40
  have e41 : v39.toInt = 1 → (pf19 11).toInt + 1 < (tf 6).toInt ∧ so ta (pf19 11) = 5 := e41
  have e42 : R_mp_is 1 (lby "[") ta pf19 v39 := e42
  have lv39 := Int32.le_toInt v39
  have uv39 := Int32.toInt_lt v39
  refine lv_if_eq (tgt := 64) S.x S.b d_Mpg_variable_24 (by decide) (fun c43 => ?_) (fun c43 => ?_)
  · have nc43 : v39.toInt = (0 : Int) := (i_eq (x := v39) (y := 0)).mp c43
    refine lv_aload_n S.x S.b d_Mpg_variable_64 rfl (lv_at hl 1 rfl) ?_
    obtain ⟨sk45, hRsk45, st46, hSsk45⟩ := oP_litB hP (k := 107) (tx := "=") (n := 1) (List.mem_of_getElem? (i := 45) rfl)
    refine va_ldcS S.x S.b S.own hRsk45 d_Mpg_variable_65 ?_
    first | refine px_calli (pr := []) (px_runV (As := [.ref sk45]) (rest := []) S (c_mp_takes l D cs sk45 1 (lby "=") h r g tf ta na20 ma34 wa cf ca ef ea xf xa pf19   (show 0 ≤ (pf19 11).toInt from (oz_78ad3463af e26 e7 g0)) (show (pf19 11).toInt < (tf 6).toInt from (oz_5d2fbac15b e8 e26)) (show (tf 6).toInt ≤ 2049 from g2) (show 1 ≤ 100 from by omega) htk _) hT (pr := []) (pcs := [wdP cs h r g tf ta pf19 na20 ma34 wa cf ca ef ea xf xa]) hw (oX_call (P := (fun A U H => (oP A g U H) ∧ (StLt A sk45 1 (lby "=") U H))) (pr := []) (oG_and oG_P oG_QB) hw hA ⟨hP, ⟨_, hSsk45⟩⟩) (px_recv hT hw 0 0 rfl rfl rfl) m12_6 m12_3 m12_5 ms_9_3 m1_21 q_Mpg_takes ⟨show 4 + 1 ≤ (8 * lv + 23) from (oz_645281caa0), show 8 + (3 + 11) + 160 ≤ (220 * lv + 1080) from (oz_b19864c2d5)⟩ hl.1 rfl (Nat.le_of_ble_eq_true rfl) d_Mpg_variable_67 ⟨Nat.le_of_ble_eq_true rfl, Nat.le_of_ble_eq_true rfl⟩) hw hA (fun v51 p50 H locs hp50 hw => ?_) | (refine px_calli (pr := []) (px_runV (As := [.ref sk45]) (rest := []) S (c_mp_takes l D cs sk45 1 (lby "=") h r g tf ta na20 ma34 wa cf ca ef ea xf xa pf19   (show 0 ≤ (pf19 11).toInt from by first | exact oz_78ad3463af e26 e7 g0 | omega) (show (pf19 11).toInt < (tf 6).toInt from by first | exact oz_5d2fbac15b e8 e26 | omega) (show (tf 6).toInt ≤ 2049 from by first | exact g2 | omega) (show 1 ≤ 100 from by omega) htk _) hT (pr := []) (pcs := [wdP cs h r g tf ta pf19 na20 ma34 wa cf ca ef ea xf xa]) hw (oX_call (P := (fun A U H => (oP A g U H) ∧ (StLt A sk45 1 (lby "=") U H))) (pr := []) (oG_and oG_P oG_QB) hw hA ⟨hP, ⟨_, hSsk45⟩⟩) (px_recv hT hw 0 0 rfl rfl rfl) m12_6 m12_3 m12_5 ms_9_3 m1_21 q_Mpg_takes ⟨show 4 + 1 ≤ (8 * lv + 23) from (by first | exact oz_645281caa0 | omega), show 8 + (3 + 11) + 160 ≤ (220 * lv + 1080) from (by first | exact oz_b19864c2d5 | omega)⟩ hl.1 rfl (Nat.le_of_ble_eq_true rfl) d_Mpg_variable_67 ⟨Nat.le_of_ble_eq_true rfl, Nat.le_of_ble_eq_true rfl⟩) hw hA (fun v51 p50 H locs hp50 hw => ?_))
    obtain ⟨pf49, rfl, e52, e53, e54, e55, e56, e57, e58, e59, e60, e61⟩ := hp50
    have e52 := z_rng e52
    have e53 : (pf49 11).toInt = (pf19 11).toInt + v51.toInt := e53
    have e54 : (pf49 11).toInt < (tf 6).toInt := e54
    have e55 : bp ta (pf19 11) + v51.toInt ≤ bp ta (pf49 11) := e55
    have e56 : (pf49 12).toInt = (pf19 12).toInt := e56
    have e57 : (pf49 13).toInt = (pf19 13).toInt := e57
    have e58 : (pf49 24).toInt = (pf19 24).toInt := e58
    have e59 : (pf49 25).toInt = (pf19 25).toInt := e59
    have e60 : (pf49 26).toInt = (pf19 26).toInt := e60
    have e61 : R_mp_takes 1 (lby "=") ta pf19 pf49 v51 := e61
    have lv51 := Int32.le_toInt v51
    have uv51 := Int32.toInt_lt v51
    refine lv_if_eq (tgt := 90) S.x S.b d_Mpg_variable_70 (by decide) (fun c62 => ?_) (fun c62 => ?_)
    · have nc62 : v51.toInt = (0 : Int) := (i_eq (x := v51) (y := 0)).mp c62
      refine lv_iload_n S.x S.b d_Mpg_variable_90 rfl (lv_at hl 0 rfl) ?_
      first | exact th_iret (v := v23) S hr rfl hlk hAe hw (⟨pf49, na20, ma34, wa, rfl, (show (pf 11).toInt + 1 ≤ (pf49 11).toInt from (oz_a39e3a791c e7 e53 e26 e52.1)), (show (pf49 11).toInt < (tf 6).toInt from e54), (show (pf 13).toInt + 1 ≤ (pf49 13).toInt from (oz_24060ab0d2 e11 e57 e25)), (show (pf49 13).toInt - (pf 13).toInt ≤ (pf49 11).toInt - (pf 11).toInt from (oz_0e37f16741 e7 e11 e53 e57 e25 e26 e52.1)), (show bp ta (pf 11) + 1 ≤ bp ta (pf49 11) from (oz_896afde169 e9 e55 qb331 e52.1)), (show (pf49 12).toInt = (pf 12).toInt from (oz_e13fc83238 e10 e56 e27)), (show (pf49 24).toInt = (pf 24).toInt from (oz_e13fc83238 e12 e58 e28)), (show (pf49 25).toInt = (pf 25).toInt from (oz_e13fc83238 e13 e59 e29)), (show (pf49 26).toInt = (pf 26).toInt from (oz_e13fc83238 e14 e60 e30)), (show FrB (pf 13).toInt na ma na20 ma34 from hfb), (show FrW (pf 26).toInt wa wa from hfw), (show VlR ta (tf 6).toInt na20 ma34 v23 (pf 13).toInt (pf49 13).toInt (3 * (bp ta (pf49 11) - bp ta (pf 11)) + 3) 130 from (VlV.le (vr_0 (hi := (pf49 13).toInt) (D := 130) ⟨by omega, hf_14_v23, hf_15_v23, ⟨by omega, by omega⟩, hf_21_v23⟩ (show SoIs ta v4 1 by assumption) (by omega) hf_17_v23 hf_22_v23 (by omega)) (by omega) (by omega) (by omega) (by omega))), (show FsI (tf 6).toInt (pf49 13).toInt na20 from (FsI.le hfs (by omega))), (show R_mp_variable ta pf na ma wa pf49 na20 ma34 wa v23 0 from (Or.inl (Or.inr ⟨pf2, v4, e15, pf19, na20, ma21, v23, e32, ma34, hu_ma34, v39, e42, Or.inl ⟨nc43, pf49, v51, e61, Or.inl ⟨nc62, rfl, rfl, rfl, rfl, rfl, rfl⟩⟩⟩)))⟩) d_Mpg_variable_91 | (exact th_iret (v := v23) S hr rfl hlk hAe hw (⟨pf49, na20, ma34, wa, rfl, (show (pf 11).toInt + 1 ≤ (pf49 11).toInt from by first | exact oz_a39e3a791c e7 e53 e26 e52.1 | omega), (show (pf49 11).toInt < (tf 6).toInt from by first | exact e54 | omega), (show (pf 13).toInt + 1 ≤ (pf49 13).toInt from by first | exact oz_24060ab0d2 e11 e57 e25 | omega), (show (pf49 13).toInt - (pf 13).toInt ≤ (pf49 11).toInt - (pf 11).toInt from by first | exact oz_0e37f16741 e7 e11 e53 e57 e25 e26 e52.1 | omega), (show bp ta (pf 11) + 1 ≤ bp ta (pf49 11) from by first | exact oz_896afde169 e9 e55 qb331 e52.1 | omega), (show (pf49 12).toInt = (pf 12).toInt from by first | exact oz_e13fc83238 e10 e56 e27 | omega), (show (pf49 24).toInt = (pf 24).toInt from by first | exact oz_e13fc83238 e12 e58 e28 | omega), (show (pf49 25).toInt = (pf 25).toInt from by first | exact oz_e13fc83238 e13 e59 e29 | omega), (show (pf49 26).toInt = (pf 26).toInt from by first | exact oz_e13fc83238 e14 e60 e30 | omega), (show FrB (pf 13).toInt na ma na20 ma34 from hfb), (show FrW (pf 26).toInt wa wa from hfw), (show VlR ta (tf 6).toInt na20 ma34 v23 (pf 13).toInt (pf49 13).toInt (3 * (bp ta (pf49 11) - bp ta (pf 11)) + 3) 130 from (VlV.le (vr_0 (hi := (pf49 13).toInt) (D := 130) ⟨by omega, hf_14_v23, hf_15_v23, ⟨by omega, by omega⟩, hf_21_v23⟩ (show SoIs ta v4 1 by assumption) (by omega) hf_17_v23 hf_22_v23 (by omega)) (by omega) (by omega) (by omega) (by omega))), (show FsI (tf 6).toInt (pf49 13).toInt na20 from (FsI.le hfs (by omega))), (show R_mp_variable ta pf na ma wa pf49 na20 ma34 wa v23 0 from (Or.inl (Or.inr ⟨pf2, v4, e15, pf19, na20, ma21, v23, e32, ma34, hu_ma34, v39, e42, Or.inl ⟨nc43, pf49, v51, e61, Or.inl ⟨nc62, rfl, rfl, rfl, rfl, rfl, rfl⟩⟩⟩)))⟩) d_Mpg_variable_91)
    · have nc62 : ¬ v51.toInt = (0 : Int) := mt (i_eq (x := v51) (y := 0)).mpr c62
      refine lv_aload_n S.x S.b d_Mpg_variable_73 rfl (lv_at hl 1 rfl) ?_
      refine gP_22 S hT hw 0 rfl m10_9 d_Mpg_variable_74 ?_
      refine lv_iload_n S.x S.b d_Mpg_variable_77 rfl (lv_at hl 0 rfl) ?_
      refine lv_iconst (v := 1) S.x S.b d_Mpg_variable_78 (by decide) ?_
      refine px_iast S hT hw 0 18 (n := 2100) (f := (ma34 22)) (x := v23) (y := 1) rfl gp_22 (vp_in_iff.mpr (by constructor <;> omega)) d_Mpg_variable_79 (w' := wdP cs h r g tf ta pf49 na20 (va_up ma34 22 (upd (ma34 22) v23.toNatClampNeg 1)) wa cf ca ef ea xf xa) (ps' := [wdP cs h r g tf ta pf49 na20 (va_up ma34 22 (upd (ma34 22) v23.toNatClampNeg 1)) wa cf ca ef ea xf xa]) sp_22 rfl (fun H locs hw => ?_)
      obtain ⟨ma64, hu_ma64⟩ : ∃ y : Nat → Nat → Int32, y = va_up ma34 22 (upd (ma34 22) v23.toNatClampNeg 1) := ⟨_, rfl⟩
      have hw : pw D A s.heap _ _ [wdP cs h r g tf ta pf49 na20 ma64 wa cf ca ef ea xf xa] := (by rw [hu_ma64]; exact hw)
      have hf_22_v23 : ma64 22 v23.toNatClampNeg = (1 : Int32) := (by rw [hu_ma64, va_up_s, pk_us])
      have hfb : FrB (pf 13).toInt na ma na20 ma64 := (by rw [hu_ma64]; exact FrB.um hfb (by omega) (by omega))
      refine lv_aload_n S.x S.b d_Mpg_variable_80 rfl (lv_at hl 1 rfl) ?_
      refine gP_18 S hT hw 0 rfl m10_3 d_Mpg_variable_81 ?_
      refine lv_iload_n S.x S.b d_Mpg_variable_84 rfl (lv_at hl 0 rfl) ?_
      refine lv_aload_n S.x S.b d_Mpg_variable_85 rfl (lv_at hl 1 rfl) ?_
      first | refine th_calli (ps0 := [wdP cs h r g tf ta pf na ma wa cf ca ef ea xf xa]) (pr := []) (pcs := [wdP cs h r g tf ta pf49 na20 ma64 wa cf ca ef ea xf xa]) (As := []) (rest := [.int v23, .ref (r 18)]) (c_S_expression l D cs h r g tf ta cf ca ef ea xf xa pf49 na20 ma64 wa  lv (show 0 ≤ (pf49 11).toInt from (oz_a20ea26d85 e53 e26 e52.1 g0 e7)) (show (pf49 11).toInt < (tf 6).toInt from e54) (show (tf 6).toInt ≤ 2049 from g2) (show 0 ≤ (pf49 12).toInt from (oz_11e71ee49a e56 e27 e10 g3)) (show (pf49 12).toInt ≤ 60 from (oz_9c5f4b2410 e56 e27 e10 g4)) (show 0 ≤ (pf49 13).toInt from (oz_18519da00e e57 e25 e11 g5)) (show (pf49 13).toInt ≤ (pf49 11).toInt + 20 from (oz_f11508e9ce e53 e57 e25 e26 e52.1 g6 e7 e11)) (show 0 ≤ (pf49 26).toInt from (oz_11e71ee49a e60 e30 e14 g7)) (show (pf49 26).toInt ≤ (pf49 12).toInt from (oz_bfab698a8f e56 e60 e27 e30 e10 e14 g8)) (show 61 ≤ (pf49 12).toInt + (lv : Int) from (oz_85fe22b1fe g9 e56 e10 e27)) (show lv ≤ 61 from g10) hlf htk (FsI.le (N' := (pf49 13).toInt) hfs (by omega))) S hT hw (oX_call (P := (fun A U H => (oN A U H) ∧ (oP A g U H))) (pr := []) (oG_and oG_N oG_P) hw hA ⟨hN, hP⟩) (px_recv hT hw 0 0 rfl rfl rfl) m12_38 m12_35 m12_37 ms_9_11 m1_21 q_Mpg_expression ⟨show (8 * lv + 20) + 1 ≤ (8 * lv + 23) from (oz_abbc2b8bb4), show 8 + (7 + 11) + (220 * lv + 720) ≤ (220 * lv + 1080) from (oz_bcc9bde07e)⟩ hl.1 rfl (Nat.le_of_ble_eq_true rfl) d_Mpg_variable_86 ⟨Nat.le_of_ble_eq_true rfl, Nat.le_of_ble_eq_true rfl⟩ hne hlk hA hAe (fun o t h => Or.inr h) ?_ (fun v74 p73 H locs hp73 hw => ?_) | (refine th_calli (ps0 := [wdP cs h r g tf ta pf na ma wa cf ca ef ea xf xa]) (pr := []) (pcs := [wdP cs h r g tf ta pf49 na20 ma64 wa cf ca ef ea xf xa]) (As := []) (rest := [.int v23, .ref (r 18)]) (c_S_expression l D cs h r g tf ta cf ca ef ea xf xa pf49 na20 ma64 wa  lv (show 0 ≤ (pf49 11).toInt from by first | exact oz_a20ea26d85 e53 e26 e52.1 g0 e7 | omega) (show (pf49 11).toInt < (tf 6).toInt from by first | exact e54 | omega) (show (tf 6).toInt ≤ 2049 from by first | exact g2 | omega) (show 0 ≤ (pf49 12).toInt from by first | exact oz_11e71ee49a e56 e27 e10 g3 | omega) (show (pf49 12).toInt ≤ 60 from by first | exact oz_9c5f4b2410 e56 e27 e10 g4 | omega) (show 0 ≤ (pf49 13).toInt from by first | exact oz_18519da00e e57 e25 e11 g5 | omega) (show (pf49 13).toInt ≤ (pf49 11).toInt + 20 from by first | exact oz_f11508e9ce e53 e57 e25 e26 e52.1 g6 e7 e11 | omega) (show 0 ≤ (pf49 26).toInt from by first | exact oz_11e71ee49a e60 e30 e14 g7 | omega) (show (pf49 26).toInt ≤ (pf49 12).toInt from by first | exact oz_bfab698a8f e56 e60 e27 e30 e10 e14 g8 | omega) (show 61 ≤ (pf49 12).toInt + (lv : Int) from by first | exact oz_85fe22b1fe g9 e56 e10 e27 | omega) (show lv ≤ 61 from by first | exact g10 | omega) hlf htk (FsI.le (N' := (pf49 13).toInt) hfs (by omega))) S hT hw (oX_call (P := (fun A U H => (oN A U H) ∧ (oP A g U H))) (pr := []) (oG_and oG_N oG_P) hw hA ⟨hN, hP⟩) (px_recv hT hw 0 0 rfl rfl rfl) m12_38 m12_35 m12_37 ms_9_11 m1_21 q_Mpg_expression ⟨show (8 * lv + 20) + 1 ≤ (8 * lv + 23) from (by first | exact oz_abbc2b8bb4 | omega), show 8 + (7 + 11) + (220 * lv + 720) ≤ (220 * lv + 1080) from (by first | exact oz_bcc9bde07e | omega)⟩ hl.1 rfl (Nat.le_of_ble_eq_true rfl) d_Mpg_variable_86 ⟨Nat.le_of_ble_eq_true rfl, Nat.le_of_ble_eq_true rfl⟩ hne hlk hA hAe (fun o t h => Or.inr h) ?_ (fun v74 p73 H locs hp73 hw => ?_))
      · exact fun p1 H1 locs1 hp hw => by obtain ⟨pq1, pq2, pq3, pq4, rfl, hq1, hq2, hq3⟩ := hp; exact ⟨_, ⟨pq1, pq2, pq3, pq4, rfl, hq1, hq2, (Or.inl (Or.inr ⟨pf2, v4, e15, pf19, na20, ma21, v23, e32, ma34, hu_ma34, v39, e42, Or.inl ⟨nc43, pf49, v51, e61, Or.inr ⟨nc62, ma64, hu_ma64, Or.inl ⟨pq1, pq2, pq3, pq4, ⟨lv, hq3⟩, rfl, rfl, rfl, rfl, rfl, rfl⟩⟩⟩⟩))⟩, hw⟩
      obtain ⟨pf69, na70, ma71, wa72, rfl, e75, e76, e77, e78, e79, e80, e81, e82, e83, e84, e85, e86, e87, e88⟩ := hp73
      have e75 : (pf49 11).toInt + 1 ≤ (pf69 11).toInt := e75
      have e76 : (pf69 11).toInt < (tf 6).toInt := e76
      have e77 : (pf49 13).toInt + 1 ≤ (pf69 13).toInt := e77
      have e78 : (pf69 13).toInt - (pf49 13).toInt ≤ (pf69 11).toInt - (pf49 11).toInt := e78
      have e79 : bp ta (pf49 11) + 1 ≤ bp ta (pf69 11) := e79
      have e80 : (pf69 12).toInt = (pf49 12).toInt := e80
      have e81 : (pf69 24).toInt = (pf49 24).toInt := e81
      have e82 : (pf69 25).toInt = (pf49 25).toInt := e82
      have e83 : (pf69 26).toInt = (pf49 26).toInt := e83
      have e84 : FrB (pf49 13).toInt na20 ma64 na70 ma71 := e84
      have hf_14_v23 := (fb_n e84 (by omega) (by omega)).trans hf_14_v23
      have hf_15_v23 := (fb_n e84 (by omega) (by omega)).trans hf_15_v23
      have hf_17_v23 := (fb_n e84 (by omega) (by omega)).trans hf_17_v23
      have hf_21_v23 := (fb_n e84 (by omega) (by omega)).trans hf_21_v23
      have hf_22_v23 := (fb_m e84 (by omega) (by omega)).trans hf_22_v23
      have hfb := hfb.tr e84 (by omega)
      have e85 : FrW (pf49 26).toInt wa wa72 := e85
      have hfw := hfw.tr e85 (by omega)
      have e86 : ExR ta (tf 6).toInt na70 ma71 v74 (pf49 13).toInt (pf69 13).toInt (3 * (bp ta (pf69 11) - bp ta (pf49 11))) (pf49 12).toInt := e86
      have ht_v74 := e86
      have hn_ht_v74 := ht_v74.num
      have e87 : FsI (tf 6).toInt (pf69 13).toInt na70 := e87
      have hfs := e87
      have e88 : R_mp_expression (RL_mp_expression lv) (RL_mp_conditional lv) ta pf49 na20 ma64 wa pf69 na70 ma71 wa72 v74 0 := e88
      have e88X : RX_mp_expression ta pf49 na20 ma64 wa pf69 na70 ma71 wa72 v74 0 := ⟨lv, e88⟩
      have lv74 := Int32.le_toInt v74
      have uv74 := Int32.toInt_lt v74
      refine px_iast S hT hw 0 14 (n := 2100) (f := (ma71 18)) (x := v23) (y := v74) rfl gp_18 (vp_in_iff.mpr (by constructor <;> omega)) d_Mpg_variable_89 (w' := wdP cs h r g tf ta pf69 na70 (va_up ma71 18 (upd (ma71 18) v23.toNatClampNeg v74)) wa72 cf ca ef ea xf xa) (ps' := [wdP cs h r g tf ta pf69 na70 (va_up ma71 18 (upd (ma71 18) v23.toNatClampNeg v74)) wa72 cf ca ef ea xf xa]) sp_18 rfl (fun H locs hw => ?_)
      obtain ⟨ma89, hu_ma89⟩ : ∃ y : Nat → Nat → Int32, y = va_up ma71 18 (upd (ma71 18) v23.toNatClampNeg v74) := ⟨_, rfl⟩
      have hw : pw D A s.heap _ _ [wdP cs h r g tf ta pf69 na70 ma89 wa72 cf ca ef ea xf xa] := (by rw [hu_ma89]; exact hw)
      obtain ⟨ht_v74, hdq_v74⟩ := ht_v74.ag (ag_m hu_ma89 (by omega) (by omega)) (by omega)
      have hn_ht_v74 := ht_v74.num
      have hf_22_v23 := (fl_n hu_ma89 (by decide)).trans hf_22_v23
      have hf_18_v23 : ma89 18 v23.toNatClampNeg = v74 := (by rw [hu_ma89, va_up_s, pk_us])
      have hfb : FrB (pf 13).toInt na ma na70 ma89 := (by rw [hu_ma89]; exact FrB.um hfb (by omega) (by omega))
      refine lv_iload_n S.x S.b d_Mpg_variable_90 rfl (lv_at hl 0 rfl) ?_
      first | exact th_iret (v := v23) S hr rfl hlk hAe hw (⟨pf69, na70, ma89, wa72, rfl, (show (pf 11).toInt + 1 ≤ (pf69 11).toInt from (oz_e19ec92da6 e7 e75 e26 e53 e52.1)), (show (pf69 11).toInt < (tf 6).toInt from e76), (show (pf 13).toInt + 1 ≤ (pf69 13).toInt from (oz_e7ff4a7562 e11 e77 e25 e57)), (show (pf69 13).toInt - (pf 13).toInt ≤ (pf69 11).toInt - (pf 11).toInt from (oz_114c64ebb3 e7 e11 e78 e25 e26 e53 e57 e52.1)), (show bp ta (pf 11) + 1 ≤ bp ta (pf69 11) from (oz_70128076fa e9 e79 qb331 e55 e52.1)), (show (pf69 12).toInt = (pf 12).toInt from (oz_ff3084e3c1 e10 e80 e27 e56)), (show (pf69 24).toInt = (pf 24).toInt from (oz_ff3084e3c1 e12 e81 e28 e58)), (show (pf69 25).toInt = (pf 25).toInt from (oz_ff3084e3c1 e13 e82 e29 e59)), (show (pf69 26).toInt = (pf 26).toInt from (oz_ff3084e3c1 e14 e83 e30 e60)), (show FrB (pf 13).toInt na ma na70 ma89 from hfb), (show FrW (pf 26).toInt wa wa72 from hfw), (show VlR ta (tf 6).toInt na70 ma89 v23 (pf 13).toInt (pf69 13).toInt (3 * (bp ta (pf69 11) - bp ta (pf 11)) + 3) 130 from (VlV.le (vr_1 (hi := (pf69 13).toInt) (D := 130) ⟨by omega, hf_14_v23, hf_15_v23, ⟨by omega, by omega⟩, hf_21_v23⟩ (show SoIs ta v4 1 by assumption) hf_17_v23 hf_22_v23 hf_18_v23 (by omega) (lo := v23.toInt + 1) (VlV.le (exr_vl ht_v74 (by omega)) (by omega) (by omega) (Int.le_refl _) (by omega)) (by omega)) (by omega) (by omega) (by omega) (by omega))), (show FsI (tf 6).toInt (pf69 13).toInt na70 from (FsI.le hfs (by omega))), (show R_mp_variable ta pf na ma wa pf69 na70 ma89 wa72 v23 0 from (Or.inl (Or.inr ⟨pf2, v4, e15, pf19, na20, ma21, v23, e32, ma34, hu_ma34, v39, e42, Or.inl ⟨nc43, pf49, v51, e61, Or.inr ⟨nc62, ma64, hu_ma64, Or.inr ⟨pf69, na70, ma71, wa72, v74, e88X, ma89, hu_ma89, rfl, rfl, rfl, rfl, rfl, rfl⟩⟩⟩⟩)))⟩) d_Mpg_variable_91 | (exact th_iret (v := v23) S hr rfl hlk hAe hw (⟨pf69, na70, ma89, wa72, rfl, (show (pf 11).toInt + 1 ≤ (pf69 11).toInt from by first | exact oz_e19ec92da6 e7 e75 e26 e53 e52.1 | omega), (show (pf69 11).toInt < (tf 6).toInt from by first | exact e76 | omega), (show (pf 13).toInt + 1 ≤ (pf69 13).toInt from by first | exact oz_e7ff4a7562 e11 e77 e25 e57 | omega), (show (pf69 13).toInt - (pf 13).toInt ≤ (pf69 11).toInt - (pf 11).toInt from by first | exact oz_114c64ebb3 e7 e11 e78 e25 e26 e53 e57 e52.1 | omega), (show bp ta (pf 11) + 1 ≤ bp ta (pf69 11) from by first | exact oz_70128076fa e9 e79 qb331 e55 e52.1 | omega), (show (pf69 12).toInt = (pf 12).toInt from by first | exact oz_ff3084e3c1 e10 e80 e27 e56 | omega), (show (pf69 24).toInt = (pf 24).toInt from by first | exact oz_ff3084e3c1 e12 e81 e28 e58 | omega), (show (pf69 25).toInt = (pf 25).toInt from by first | exact oz_ff3084e3c1 e13 e82 e29 e59 | omega), (show (pf69 26).toInt = (pf 26).toInt from by first | exact oz_ff3084e3c1 e14 e83 e30 e60 | omega), (show FrB (pf 13).toInt na ma na70 ma89 from hfb), (show FrW (pf 26).toInt wa wa72 from hfw), (show VlR ta (tf 6).toInt na70 ma89 v23 (pf 13).toInt (pf69 13).toInt (3 * (bp ta (pf69 11) - bp ta (pf 11)) + 3) 130 from (VlV.le (vr_1 (hi := (pf69 13).toInt) (D := 130) ⟨by omega, hf_14_v23, hf_15_v23, ⟨by omega, by omega⟩, hf_21_v23⟩ (show SoIs ta v4 1 by assumption) hf_17_v23 hf_22_v23 hf_18_v23 (by omega) (lo := v23.toInt + 1) (VlV.le (exr_vl ht_v74 (by omega)) (by omega) (by omega) (Int.le_refl _) (by omega)) (by omega)) (by omega) (by omega) (by omega) (by omega))), (show FsI (tf 6).toInt (pf69 13).toInt na70 from (FsI.le hfs (by omega))), (show R_mp_variable ta pf na ma wa pf69 na70 ma89 wa72 v23 0 from (Or.inl (Or.inr ⟨pf2, v4, e15, pf19, na20, ma21, v23, e32, ma34, hu_ma34, v39, e42, Or.inl ⟨nc43, pf49, v51, e61, Or.inr ⟨nc62, ma64, hu_ma64, Or.inr ⟨pf69, na70, ma71, wa72, v74, e88X, ma89, hu_ma89, rfl, rfl, rfl, rfl, rfl, rfl⟩⟩⟩⟩)))⟩) d_Mpg_variable_91)
  · have nc43 : ¬ v39.toInt = (0 : Int) := mt (i_eq (x := v39) (y := 0)).mpr c43
    refine lv_aload_n S.x S.b d_Mpg_variable_27 rfl (lv_at hl 1 rfl) ?_
    first | refine th_callv (ps0 := [wdP cs h r g tf ta pf na ma wa cf ca ef ea xf xa]) (pr := []) (pcs := [wdP cs h r g tf ta pf19 na20 ma34 wa cf ca ef ea xf xa]) (As := []) (rest := []) (c_mp_opens l D cs h r g tf ta na20 ma34 wa cf ca ef ea xf xa pf19   (show 0 ≤ (pf19 11).toInt from (oz_78ad3463af e26 e7 g0)) (show (pf19 11).toInt < (tf 6).toInt from (oz_5d2fbac15b e8 e26)) (show (tf 6).toInt ≤ 2049 from g2) (show (pf19 11).toInt + 1 < (tf 6).toInt from by omega) (show 0 ≤ (pf19 12).toInt from (oz_9bcc310e9c e27 e10 g8 g7)) (show (pf19 12).toInt ≤ 60 from (oz_d791cd839d e27 e10 g4)) hlf htk) S hT hw (oX_call (P := (fun A U H => (oN A U H) ∧ (oP A g U H))) (pr := []) (oG_and oG_N oG_P) hw hA ⟨hN, hP⟩) (px_recv hT hw 0 0 rfl rfl rfl) m11_238 m11_235 m11_237 ms_9_1 m1_21 q_Mpg_opens ⟨show 7 + 1 ≤ (8 * lv + 23) from (oz_fd92aef528), show 8 + (1 + 11) + 150 ≤ (220 * lv + 1080) from (oz_e425a20bf9)⟩ hl.1 rfl (Nat.le_of_ble_eq_true rfl) d_Mpg_variable_28 ⟨Nat.le_of_ble_eq_true rfl, Nat.le_of_ble_eq_true rfl⟩ hne hlk hA hAe (fun o t h => Or.inr h) ?_ (fun p92 H locs hp92 hw => ?_) | (refine th_callv (ps0 := [wdP cs h r g tf ta pf na ma wa cf ca ef ea xf xa]) (pr := []) (pcs := [wdP cs h r g tf ta pf19 na20 ma34 wa cf ca ef ea xf xa]) (As := []) (rest := []) (c_mp_opens l D cs h r g tf ta na20 ma34 wa cf ca ef ea xf xa pf19   (show 0 ≤ (pf19 11).toInt from by first | exact oz_78ad3463af e26 e7 g0 | omega) (show (pf19 11).toInt < (tf 6).toInt from by first | exact oz_5d2fbac15b e8 e26 | omega) (show (tf 6).toInt ≤ 2049 from by first | exact g2 | omega) (show (pf19 11).toInt + 1 < (tf 6).toInt from by omega) (show 0 ≤ (pf19 12).toInt from by first | exact oz_9bcc310e9c e27 e10 g8 g7 | omega) (show (pf19 12).toInt ≤ 60 from by first | exact oz_d791cd839d e27 e10 g4 | omega) hlf htk) S hT hw (oX_call (P := (fun A U H => (oN A U H) ∧ (oP A g U H))) (pr := []) (oG_and oG_N oG_P) hw hA ⟨hN, hP⟩) (px_recv hT hw 0 0 rfl rfl rfl) m11_238 m11_235 m11_237 ms_9_1 m1_21 q_Mpg_opens ⟨show 7 + 1 ≤ (8 * lv + 23) from (by first | exact oz_fd92aef528 | omega), show 8 + (1 + 11) + 150 ≤ (220 * lv + 1080) from (by first | exact oz_e425a20bf9 | omega)⟩ hl.1 rfl (Nat.le_of_ble_eq_true rfl) d_Mpg_variable_28 ⟨Nat.le_of_ble_eq_true rfl, Nat.le_of_ble_eq_true rfl⟩ hne hlk hA hAe (fun o t h => Or.inr h) ?_ (fun p92 H locs hp92 hw => ?_))
    · exact fun p1 H1 locs1 hp hw => by obtain ⟨pq1, pq2, pq3, pq4, rfl, hq1, hq2, hu_na, hu_ma, hu_wa, hq3⟩ := hp; exact ⟨_, ⟨pq1, pq2, pq3, pq4, rfl, hq1, hq2, (Or.inl (Or.inr ⟨pf2, v4, e15, pf19, na20, ma21, v23, e32, ma34, hu_ma34, v39, e42, Or.inr ⟨nc43, Or.inl ⟨pq1, hq3, rfl, hu_na, hu_ma, hu_wa, rfl, rfl⟩⟩⟩))⟩, hw⟩
    obtain ⟨pf91, rfl, e94, e95, e96, e97, e98, e99, e100, e101, e102, e103, e104⟩ := hp92
    have e94 : (pf91 11).toInt = (pf19 11).toInt + 1 := e94
    have e95 : (pf91 11).toInt < (tf 6).toInt := e95
    have e96 : bp ta (pf19 11) + sz ta (pf19 11) ≤ bp ta (pf91 11) := e96
    have e97 : 1 ≤ sz ta (pf19 11) := e97
    have e98 : (pf91 12).toInt = (pf19 12).toInt + 1 := e98
    have e99 : (pf19 12).toInt < 60 := e99
    have e100 : (pf91 13).toInt = (pf19 13).toInt := e100
    have e101 : (pf91 24).toInt = (pf19 24).toInt := e101
    have e102 : (pf91 25).toInt = (pf19 25).toInt := e102
    have e103 : (pf91 26).toInt = (pf19 26).toInt := e103
    have e104 : R_mp_opens pf19 pf91 0 := e104
    refine lv_aload_n S.x S.b d_Mpg_variable_31 rfl (lv_at hl 1 rfl) ?_
    refine gP_17 S hT hw 0 rfl m10_1 d_Mpg_variable_32 ?_
    refine lv_iload_n S.x S.b d_Mpg_variable_35 rfl (lv_at hl 0 rfl) ?_
    refine lv_aload_n S.x S.b d_Mpg_variable_36 rfl (lv_at hl 1 rfl) ?_
    first | refine th_calli (ps0 := [wdP cs h r g tf ta pf na ma wa cf ca ef ea xf xa]) (pr := []) (pcs := [wdP cs h r g tf ta pf91 na20 ma34 wa cf ca ef ea xf xa]) (As := []) (rest := [.int v23, .ref (r 17)]) (c_mp_constant l D cs h r g tf ta cf ca ef ea xf xa pf91 na20 ma34 wa  lv (show 0 ≤ (pf91 11).toInt from (oz_5322ca43be e94 e26 g0 e7)) (show (pf91 11).toInt < (tf 6).toInt from e95) (show (tf 6).toInt ≤ 2049 from g2) (show 0 ≤ (pf91 12).toInt from (oz_cf2f95fbac e98 e27 e10 g3)) (show (pf91 12).toInt ≤ 60 from (oz_6710fd9021 e98 e99)) (show 0 ≤ (pf91 13).toInt from (oz_18519da00e e100 e25 e11 g5)) (show (pf91 13).toInt ≤ (pf91 11).toInt + 10 from (oz_be30f41976 e94 e100 e25 e26 g6 e7 e11)) (show 0 ≤ (pf91 26).toInt from (oz_11e71ee49a e103 e30 e14 g7)) (show (pf91 26).toInt ≤ (pf91 12).toInt from (oz_0c528c1a49 e98 e103 e27 e30 e10 e14 g8)) (show 61 ≤ (pf91 12).toInt + (lv : Int) from (oz_7d30a791a5 g9 e98 e10 e27)) (show lv ≤ 61 from g10) hlf htk (FsI.le (N' := (pf91 13).toInt) hfs (by omega))) S hT hw (oX_call (P := (fun A U H => (oN A U H) ∧ (oP A g U H))) (pr := []) (oG_and oG_N oG_P) hw hA ⟨hN, hP⟩) (px_recv hT hw 0 0 rfl rfl rfl) m12_10 m12_7 m12_9 ms_9_4 m1_21 q_Mpg_constant ⟨show (8 * lv + 21) + 1 ≤ (8 * lv + 23) from (oz_f0aeccfe56), show 8 + (2 + 11) + (220 * lv + 720) ≤ (220 * lv + 1080) from (oz_456b1f83b9)⟩ hl.1 rfl (Nat.le_of_ble_eq_true rfl) d_Mpg_variable_37 ⟨Nat.le_of_ble_eq_true rfl, Nat.le_of_ble_eq_true rfl⟩ hne hlk hA hAe (fun o t h => Or.inr h) ?_ (fun v114 p113 H locs hp113 hw => ?_) | (refine th_calli (ps0 := [wdP cs h r g tf ta pf na ma wa cf ca ef ea xf xa]) (pr := []) (pcs := [wdP cs h r g tf ta pf91 na20 ma34 wa cf ca ef ea xf xa]) (As := []) (rest := [.int v23, .ref (r 17)]) (c_mp_constant l D cs h r g tf ta cf ca ef ea xf xa pf91 na20 ma34 wa  lv (show 0 ≤ (pf91 11).toInt from by first | exact oz_5322ca43be e94 e26 g0 e7 | omega) (show (pf91 11).toInt < (tf 6).toInt from by first | exact e95 | omega) (show (tf 6).toInt ≤ 2049 from by first | exact g2 | omega) (show 0 ≤ (pf91 12).toInt from by first | exact oz_cf2f95fbac e98 e27 e10 g3 | omega) (show (pf91 12).toInt ≤ 60 from by first | exact oz_6710fd9021 e98 e99 | omega) (show 0 ≤ (pf91 13).toInt from by first | exact oz_18519da00e e100 e25 e11 g5 | omega) (show (pf91 13).toInt ≤ (pf91 11).toInt + 10 from by first | exact oz_be30f41976 e94 e100 e25 e26 g6 e7 e11 | omega) (show 0 ≤ (pf91 26).toInt from by first | exact oz_11e71ee49a e103 e30 e14 g7 | omega) (show (pf91 26).toInt ≤ (pf91 12).toInt from by first | exact oz_0c528c1a49 e98 e103 e27 e30 e10 e14 g8 | omega) (show 61 ≤ (pf91 12).toInt + (lv : Int) from by first | exact oz_7d30a791a5 g9 e98 e10 e27 | omega) (show lv ≤ 61 from by first | exact g10 | omega) hlf htk (FsI.le (N' := (pf91 13).toInt) hfs (by omega))) S hT hw (oX_call (P := (fun A U H => (oN A U H) ∧ (oP A g U H))) (pr := []) (oG_and oG_N oG_P) hw hA ⟨hN, hP⟩) (px_recv hT hw 0 0 rfl rfl rfl) m12_10 m12_7 m12_9 ms_9_4 m1_21 q_Mpg_constant ⟨show (8 * lv + 21) + 1 ≤ (8 * lv + 23) from (by first | exact oz_f0aeccfe56 | omega), show 8 + (2 + 11) + (220 * lv + 720) ≤ (220 * lv + 1080) from (by first | exact oz_456b1f83b9 | omega)⟩ hl.1 rfl (Nat.le_of_ble_eq_true rfl) d_Mpg_variable_37 ⟨Nat.le_of_ble_eq_true rfl, Nat.le_of_ble_eq_true rfl⟩ hne hlk hA hAe (fun o t h => Or.inr h) ?_ (fun v114 p113 H locs hp113 hw => ?_))
    · exact fun p1 H1 locs1 hp hw => by obtain ⟨pq1, pq2, pq3, pq4, rfl, hq1, hq2, hq3⟩ := hp; exact ⟨_, ⟨pq1, pq2, pq3, pq4, rfl, hq1, hq2, (Or.inl (Or.inr ⟨pf2, v4, e15, pf19, na20, ma21, v23, e32, ma34, hu_ma34, v39, e42, Or.inr ⟨nc43, Or.inr ⟨pf91, e104, Or.inl ⟨pq1, pq2, pq3, pq4, hq3, rfl, rfl, rfl, rfl, rfl, rfl⟩⟩⟩⟩))⟩, hw⟩
    obtain ⟨pf109, na110, ma111, wa112, rfl, e115, e116, e117, e118, e119, e120, e121, e122, e123, e124, e125, e126, e127, e128⟩ := hp113
    have e115 : (pf91 11).toInt + 1 ≤ (pf109 11).toInt := e115
    have e116 : (pf109 11).toInt < (tf 6).toInt := e116
    have e117 : (pf91 13).toInt + 1 ≤ (pf109 13).toInt := e117
    have e118 : (pf109 13).toInt - (pf91 13).toInt ≤ (pf109 11).toInt - (pf91 11).toInt := e118
    have e119 : bp ta (pf91 11) + 1 ≤ bp ta (pf109 11) := e119
    have e120 : (pf109 12).toInt = (pf91 12).toInt := e120
    have e121 : (pf109 24).toInt = (pf91 24).toInt := e121
    have e122 : (pf109 25).toInt = (pf91 25).toInt := e122
    have e123 : (pf109 26).toInt = (pf91 26).toInt := e123
    have e124 : FrB (pf91 13).toInt na20 ma34 na110 ma111 := e124
    have hf_14_v23 := (fb_n e124 (by omega) (by omega)).trans hf_14_v23
    have hf_15_v23 := (fb_n e124 (by omega) (by omega)).trans hf_15_v23
    have hf_17_v23 := (fb_n e124 (by omega) (by omega)).trans hf_17_v23
    have hf_21_v23 := (fb_n e124 (by omega) (by omega)).trans hf_21_v23
    have hf_22_v23 := (fb_m e124 (by omega) (by omega)).trans hf_22_v23
    have hfb := hfb.tr e124 (by omega)
    have e125 : FrW (pf91 26).toInt wa wa112 := e125
    have hfw := hfw.tr e125 (by omega)
    have e126 : ExR ta (tf 6).toInt na110 ma111 v114 (pf91 13).toInt (pf109 13).toInt (3 * (bp ta (pf109 11) - bp ta (pf91 11))) (pf91 12).toInt := e126
    have ht_v114 := e126
    have hn_ht_v114 := ht_v114.num
    have e127 : FsI (tf 6).toInt (pf109 13).toInt na110 := e127
    have hfs := e127
    have e128 : R_mp_constant ta pf91 na20 ma34 wa pf109 na110 ma111 wa112 v114 0 := e128
    have lv114 := Int32.le_toInt v114
    have uv114 := Int32.toInt_lt v114
    refine px_iast S hT hw 0 13 (n := 2100) (f := (na110 17)) (x := v23) (y := v114) rfl gp_17 (vp_in_iff.mpr (by constructor <;> omega)) d_Mpg_variable_40 (w' := wdP cs h r g tf ta pf109 (va_up na110 17 (upd (na110 17) v23.toNatClampNeg v114)) ma111 wa112 cf ca ef ea xf xa) (ps' := [wdP cs h r g tf ta pf109 (va_up na110 17 (upd (na110 17) v23.toNatClampNeg v114)) ma111 wa112 cf ca ef ea xf xa]) sp_17 rfl (fun H locs hw => ?_)
    obtain ⟨na129, hu_na129⟩ : ∃ y : Nat → Nat → Int32, y = va_up na110 17 (upd (na110 17) v23.toNatClampNeg v114) := ⟨_, rfl⟩
    have hw : pw D A s.heap _ _ [wdP cs h r g tf ta pf109 na129 ma111 wa112 cf ca ef ea xf xa] := (by rw [hu_na129]; exact hw)
    obtain ⟨ht_v114, hdq_v114⟩ := ht_v114.ag (ag_n hu_na129 (by omega) (by omega)) (by omega)
    have hn_ht_v114 := ht_v114.num
    have hf_14_v23 := (fl_n hu_na129 (by decide)).trans hf_14_v23
    have hf_15_v23 := (fl_n hu_na129 (by decide)).trans hf_15_v23
    have hf_21_v23 := (fl_n hu_na129 (by decide)).trans hf_21_v23
    have hf_17_v23 : na129 17 v23.toNatClampNeg = v114 := (by rw [hu_na129, va_up_s, pk_us])
    have hfs : FsI _ _ na129 := (by rw [hu_na129]; exact FsI.un hfs (by decide))
    have hfb : FrB (pf 13).toInt na ma na129 ma111 := (by rw [hu_na129]; exact FrB.un hfb (by omega) (by omega))
    refine lv_aload_n S.x S.b d_Mpg_variable_41 rfl (lv_at hl 1 rfl) ?_
    obtain ⟨sk130, hRsk130, st131, hSsk130⟩ := oP_litB hP (k := 97) (tx := "]") (n := 1) (List.mem_of_getElem? (i := 40) rfl)
    refine va_ldcS S.x S.b S.own hRsk130 d_Mpg_variable_42 ?_
    first | refine th_callv (ps0 := [wdP cs h r g tf ta pf na ma wa cf ca ef ea xf xa]) (pr := []) (pcs := [wdP cs h r g tf ta pf109 na129 ma111 wa112 cf ca ef ea xf xa]) (As := [.ref sk130]) (rest := []) (c_mp_closes l D cs sk130 1 (lby "]") h r g tf ta na129 ma111 wa112 cf ca ef ea xf xa pf109   (show 0 ≤ (pf109 11).toInt from (oz_519ae28419 e115 e94 g0 e7 e26)) (show (pf109 11).toInt < (tf 6).toInt from e116) (show (tf 6).toInt ≤ 2049 from g2) (show 1 ≤ (pf109 12).toInt from (oz_dcaedb610d e120 e98 e27 e10 g8 g7)) (show (pf109 12).toInt ≤ 60 from (oz_1a76b13bbc e120 e98 e99)) (show 1 ≤ 100 from by omega) hlf htk) S hT hw (oX_call (P := (fun A U H => (oN A U H) ∧ (oP A g U H) ∧ (StLt A sk130 1 (lby "]") U H))) (pr := []) (oG_and oG_N (oG_and oG_P oG_QB)) hw hA ⟨hN, hP, ⟨_, hSsk130⟩⟩) (px_recv hT hw 0 0 rfl rfl rfl) m12_53 m12_50 m12_52 ms_9_14 m1_21 q_Mpg_closes ⟨show 8 + 1 ≤ (8 * lv + 23) from (oz_6104897945), show 8 + (2 + 11) + 280 ≤ (220 * lv + 1080) from (oz_8b811c5ba0)⟩ hl.1 rfl (Nat.le_of_ble_eq_true rfl) d_Mpg_variable_44 ⟨Nat.le_of_ble_eq_true rfl, Nat.le_of_ble_eq_true rfl⟩ hne hlk hA hAe (fun o t h => Or.inr h) ?_ (fun p135 H locs hp135 hw => ?_) | (refine th_callv (ps0 := [wdP cs h r g tf ta pf na ma wa cf ca ef ea xf xa]) (pr := []) (pcs := [wdP cs h r g tf ta pf109 na129 ma111 wa112 cf ca ef ea xf xa]) (As := [.ref sk130]) (rest := []) (c_mp_closes l D cs sk130 1 (lby "]") h r g tf ta na129 ma111 wa112 cf ca ef ea xf xa pf109   (show 0 ≤ (pf109 11).toInt from by first | exact oz_519ae28419 e115 e94 g0 e7 e26 | omega) (show (pf109 11).toInt < (tf 6).toInt from by first | exact e116 | omega) (show (tf 6).toInt ≤ 2049 from by first | exact g2 | omega) (show 1 ≤ (pf109 12).toInt from by first | exact oz_dcaedb610d e120 e98 e27 e10 g8 g7 | omega) (show (pf109 12).toInt ≤ 60 from by first | exact oz_1a76b13bbc e120 e98 e99 | omega) (show 1 ≤ 100 from by omega) hlf htk) S hT hw (oX_call (P := (fun A U H => (oN A U H) ∧ (oP A g U H) ∧ (StLt A sk130 1 (lby "]") U H))) (pr := []) (oG_and oG_N (oG_and oG_P oG_QB)) hw hA ⟨hN, hP, ⟨_, hSsk130⟩⟩) (px_recv hT hw 0 0 rfl rfl rfl) m12_53 m12_50 m12_52 ms_9_14 m1_21 q_Mpg_closes ⟨show 8 + 1 ≤ (8 * lv + 23) from (by first | exact oz_6104897945 | omega), show 8 + (2 + 11) + 280 ≤ (220 * lv + 1080) from (by first | exact oz_8b811c5ba0 | omega)⟩ hl.1 rfl (Nat.le_of_ble_eq_true rfl) d_Mpg_variable_44 ⟨Nat.le_of_ble_eq_true rfl, Nat.le_of_ble_eq_true rfl⟩ hne hlk hA hAe (fun o t h => Or.inr h) ?_ (fun p135 H locs hp135 hw => ?_))
    · exact fun p1 H1 locs1 hp hw => by obtain ⟨pq1, pq2, pq3, pq4, rfl, hq1, hq2, hu_na, hu_ma, hu_wa, hq3⟩ := hp; exact ⟨_, ⟨pq1, pq2, pq3, pq4, rfl, hq1, hq2, (Or.inl (Or.inr ⟨pf2, v4, e15, pf19, na20, ma21, v23, e32, ma34, hu_ma34, v39, e42, Or.inr ⟨nc43, Or.inr ⟨pf91, e104, Or.inr ⟨pf109, na110, ma111, wa112, v114, e128, na129, hu_na129, Or.inl ⟨pq1, hq3, rfl, hu_na, hu_ma, hu_wa, rfl, rfl⟩⟩⟩⟩⟩))⟩, hw⟩
    obtain ⟨pf134, rfl, e137, e138, e139, e140, e141, e142, e143, e144, e145⟩ := hp135
    have e137 : (pf134 11).toInt = (pf109 11).toInt + 1 := e137
    have e138 : (pf134 11).toInt < (tf 6).toInt := e138
    have e139 : bp ta (pf109 11) + 1 ≤ bp ta (pf134 11) := e139
    have e140 : (pf134 12).toInt = (pf109 12).toInt - 1 := e140
    have e141 : (pf134 13).toInt = (pf109 13).toInt := e141
    have e142 : (pf134 24).toInt = (pf109 24).toInt := e142
    have e143 : (pf134 25).toInt = (pf109 25).toInt := e143
    have e144 : (pf134 26).toInt = (pf109 26).toInt := e144
    have e145 : R_mp_closes 1 (lby "]") ta pf109 pf134 0 := e145
    refine lv_aload_n S.x S.b d_Mpg_variable_47 rfl (lv_at hl 1 rfl) ?_
    obtain ⟨sk146, hRsk146, st147, hSsk146⟩ := oP_litB hP (k := 107) (tx := "=") (n := 1) (List.mem_of_getElem? (i := 45) rfl)
    refine va_ldcS S.x S.b S.own hRsk146 d_Mpg_variable_48 ?_
    first | refine px_calli (pr := []) (px_runV (As := [.ref sk146]) (rest := []) S (c_mp_takes l D cs sk146 1 (lby "=") h r g tf ta na129 ma111 wa112 cf ca ef ea xf xa pf134   (show 0 ≤ (pf134 11).toInt from (oz_c7dd3fa87a e137 e115 g0 e7 e26 e94)) (show (pf134 11).toInt < (tf 6).toInt from e138) (show (tf 6).toInt ≤ 2049 from g2) (show 1 ≤ 100 from by omega) htk _) hT (pr := []) (pcs := [wdP cs h r g tf ta pf134 na129 ma111 wa112 cf ca ef ea xf xa]) hw (oX_call (P := (fun A U H => (oP A g U H) ∧ (StLt A sk146 1 (lby "=") U H))) (pr := []) (oG_and oG_P oG_QB) hw hA ⟨hP, ⟨_, hSsk146⟩⟩) (px_recv hT hw 0 0 rfl rfl rfl) m12_6 m12_3 m12_5 ms_9_3 m1_21 q_Mpg_takes ⟨show 4 + 1 ≤ (8 * lv + 23) from (oz_645281caa0), show 8 + (3 + 11) + 160 ≤ (220 * lv + 1080) from (oz_b19864c2d5)⟩ hl.1 rfl (Nat.le_of_ble_eq_true rfl) d_Mpg_variable_50 ⟨Nat.le_of_ble_eq_true rfl, Nat.le_of_ble_eq_true rfl⟩) hw hA (fun v152 p151 H locs hp151 hw => ?_) | (refine px_calli (pr := []) (px_runV (As := [.ref sk146]) (rest := []) S (c_mp_takes l D cs sk146 1 (lby "=") h r g tf ta na129 ma111 wa112 cf ca ef ea xf xa pf134   (show 0 ≤ (pf134 11).toInt from by first | exact oz_c7dd3fa87a e137 e115 g0 e7 e26 e94 | omega) (show (pf134 11).toInt < (tf 6).toInt from by first | exact e138 | omega) (show (tf 6).toInt ≤ 2049 from by first | exact g2 | omega) (show 1 ≤ 100 from by omega) htk _) hT (pr := []) (pcs := [wdP cs h r g tf ta pf134 na129 ma111 wa112 cf ca ef ea xf xa]) hw (oX_call (P := (fun A U H => (oP A g U H) ∧ (StLt A sk146 1 (lby "=") U H))) (pr := []) (oG_and oG_P oG_QB) hw hA ⟨hP, ⟨_, hSsk146⟩⟩) (px_recv hT hw 0 0 rfl rfl rfl) m12_6 m12_3 m12_5 ms_9_3 m1_21 q_Mpg_takes ⟨show 4 + 1 ≤ (8 * lv + 23) from (by first | exact oz_645281caa0 | omega), show 8 + (3 + 11) + 160 ≤ (220 * lv + 1080) from (by first | exact oz_b19864c2d5 | omega)⟩ hl.1 rfl (Nat.le_of_ble_eq_true rfl) d_Mpg_variable_50 ⟨Nat.le_of_ble_eq_true rfl, Nat.le_of_ble_eq_true rfl⟩) hw hA (fun v152 p151 H locs hp151 hw => ?_))
    obtain ⟨pf150, rfl, e153, e154, e155, e156, e157, e158, e159, e160, e161, e162⟩ := hp151
    have e153 := z_rng e153
    have e154 : (pf150 11).toInt = (pf134 11).toInt + v152.toInt := e154
    have e155 : (pf150 11).toInt < (tf 6).toInt := e155
    have e156 : bp ta (pf134 11) + v152.toInt ≤ bp ta (pf150 11) := e156
    have e157 : (pf150 12).toInt = (pf134 12).toInt := e157
    have e158 : (pf150 13).toInt = (pf134 13).toInt := e158
    have e159 : (pf150 24).toInt = (pf134 24).toInt := e159
    have e160 : (pf150 25).toInt = (pf134 25).toInt := e160
    have e161 : (pf150 26).toInt = (pf134 26).toInt := e161
    have e162 : R_mp_takes 1 (lby "=") ta pf134 pf150 v152 := e162
    have lv152 := Int32.le_toInt v152
    have uv152 := Int32.toInt_lt v152
    refine lv_if_eq (tgt := 90) S.x S.b d_Mpg_variable_53 (by decide) (fun c163 => ?_) (fun c163 => ?_)
    · have nc163 : v152.toInt = (0 : Int) := (i_eq (x := v152) (y := 0)).mp c163
      refine lv_iload_n S.x S.b d_Mpg_variable_90 rfl (lv_at hl 0 rfl) ?_
      first | exact th_iret (v := v23) S hr rfl hlk hAe hw (⟨pf150, na129, ma111, wa112, rfl, (show (pf 11).toInt + 1 ≤ (pf150 11).toInt from (oz_a3e699849a e7 e154 e26 e137 e153.1 e94 e115)), (show (pf150 11).toInt < (tf 6).toInt from e155), (show (pf 13).toInt + 1 ≤ (pf150 13).toInt from (oz_9efa0bf84c e11 e158 e25 e141 e100 e117)), (show (pf150 13).toInt - (pf 13).toInt ≤ (pf150 11).toInt - (pf 11).toInt from (oz_9ee47fe6a1 e7 e11 e154 e158 e25 e26 e137 e141 e153.1 e94 e100 e118)), (show bp ta (pf 11) + 1 ≤ bp ta (pf150 11) from (oz_04b75c25d1 e9 e156 qb331 e139 e153.1 e96 e119 e97)), (show (pf150 12).toInt = (pf 12).toInt from (oz_0e50ed1885 e10 e157 e27 e140 e98 e120)), (show (pf150 24).toInt = (pf 24).toInt from (oz_a783471c71 e12 e159 e28 e142 e101 e121)), (show (pf150 25).toInt = (pf 25).toInt from (oz_a783471c71 e13 e160 e29 e143 e102 e122)), (show (pf150 26).toInt = (pf 26).toInt from (oz_a783471c71 e14 e161 e30 e144 e103 e123)), (show FrB (pf 13).toInt na ma na129 ma111 from hfb), (show FrW (pf 26).toInt wa wa112 from hfw), (show VlR ta (tf 6).toInt na129 ma111 v23 (pf 13).toInt (pf150 13).toInt (3 * (bp ta (pf150 11) - bp ta (pf 11)) + 3) 130 from (VlV.le (vr_a0 (hi := (pf150 13).toInt) (D := 130) ⟨by omega, hf_14_v23, hf_15_v23, ⟨by omega, by omega⟩, hf_21_v23⟩ (show SoIs ta v4 1 by assumption) hf_17_v23 hf_22_v23 (by omega) (lo := v23.toInt + 1) (VlV.le (exr_vl ht_v114 (by omega)) (by omega) (by omega) (Int.le_refl _) (by omega)) (by omega)) (by omega) (by omega) (by omega) (by omega))), (show FsI (tf 6).toInt (pf150 13).toInt na129 from (FsI.le hfs (by omega))), (show R_mp_variable ta pf na ma wa pf150 na129 ma111 wa112 v23 0 from (Or.inl (Or.inr ⟨pf2, v4, e15, pf19, na20, ma21, v23, e32, ma34, hu_ma34, v39, e42, Or.inr ⟨nc43, Or.inr ⟨pf91, e104, Or.inr ⟨pf109, na110, ma111, wa112, v114, e128, na129, hu_na129, Or.inr ⟨pf134, e145, pf150, v152, e162, Or.inl ⟨nc163, rfl, rfl, rfl, rfl, rfl, rfl⟩⟩⟩⟩⟩⟩)))⟩) d_Mpg_variable_91 | (exact th_iret (v := v23) S hr rfl hlk hAe hw (⟨pf150, na129, ma111, wa112, rfl, (show (pf 11).toInt + 1 ≤ (pf150 11).toInt from by first | exact oz_a3e699849a e7 e154 e26 e137 e153.1 e94 e115 | omega), (show (pf150 11).toInt < (tf 6).toInt from by first | exact e155 | omega), (show (pf 13).toInt + 1 ≤ (pf150 13).toInt from by first | exact oz_9efa0bf84c e11 e158 e25 e141 e100 e117 | omega), (show (pf150 13).toInt - (pf 13).toInt ≤ (pf150 11).toInt - (pf 11).toInt from by first | exact oz_9ee47fe6a1 e7 e11 e154 e158 e25 e26 e137 e141 e153.1 e94 e100 e118 | omega), (show bp ta (pf 11) + 1 ≤ bp ta (pf150 11) from by first | exact oz_04b75c25d1 e9 e156 qb331 e139 e153.1 e96 e119 e97 | omega), (show (pf150 12).toInt = (pf 12).toInt from by first | exact oz_0e50ed1885 e10 e157 e27 e140 e98 e120 | omega), (show (pf150 24).toInt = (pf 24).toInt from by first | exact oz_a783471c71 e12 e159 e28 e142 e101 e121 | omega), (show (pf150 25).toInt = (pf 25).toInt from by first | exact oz_a783471c71 e13 e160 e29 e143 e102 e122 | omega), (show (pf150 26).toInt = (pf 26).toInt from by first | exact oz_a783471c71 e14 e161 e30 e144 e103 e123 | omega), (show FrB (pf 13).toInt na ma na129 ma111 from hfb), (show FrW (pf 26).toInt wa wa112 from hfw), (show VlR ta (tf 6).toInt na129 ma111 v23 (pf 13).toInt (pf150 13).toInt (3 * (bp ta (pf150 11) - bp ta (pf 11)) + 3) 130 from (VlV.le (vr_a0 (hi := (pf150 13).toInt) (D := 130) ⟨by omega, hf_14_v23, hf_15_v23, ⟨by omega, by omega⟩, hf_21_v23⟩ (show SoIs ta v4 1 by assumption) hf_17_v23 hf_22_v23 (by omega) (lo := v23.toInt + 1) (VlV.le (exr_vl ht_v114 (by omega)) (by omega) (by omega) (Int.le_refl _) (by omega)) (by omega)) (by omega) (by omega) (by omega) (by omega))), (show FsI (tf 6).toInt (pf150 13).toInt na129 from (FsI.le hfs (by omega))), (show R_mp_variable ta pf na ma wa pf150 na129 ma111 wa112 v23 0 from (Or.inl (Or.inr ⟨pf2, v4, e15, pf19, na20, ma21, v23, e32, ma34, hu_ma34, v39, e42, Or.inr ⟨nc43, Or.inr ⟨pf91, e104, Or.inr ⟨pf109, na110, ma111, wa112, v114, e128, na129, hu_na129, Or.inr ⟨pf134, e145, pf150, v152, e162, Or.inl ⟨nc163, rfl, rfl, rfl, rfl, rfl, rfl⟩⟩⟩⟩⟩⟩)))⟩) d_Mpg_variable_91)
    · have nc163 : ¬ v152.toInt = (0 : Int) := mt (i_eq (x := v152) (y := 0)).mpr c163
      refine lv_aload_n S.x S.b d_Mpg_variable_56 rfl (lv_at hl 1 rfl) ?_
      refine lv_iload_n S.x S.b d_Mpg_variable_57 rfl (lv_at hl 0 rfl) ?_
      first | refine th_callv (ps0 := [wdP cs h r g tf ta pf na ma wa cf ca ef ea xf xa]) (pr := []) (pcs := [wdP cs h r g tf ta pf150 na129 ma111 wa112 cf ca ef ea xf xa]) (As := [.int v23]) (rest := []) (c_mp_arrayValue l D cs h r g tf ta cf ca ef ea xf xa pf150 na129 ma111 wa112 v23 lv (show 0 ≤ (pf150 11).toInt from (oz_9c07d0d680 e154 e137 e153.1 g0 e7 e26 e94 e115)) (show (pf150 11).toInt < (tf 6).toInt from e155) (show (tf 6).toInt ≤ 2049 from g2) (show 0 ≤ (pf150 12).toInt from (oz_ce2203671d e157 e140 e120 e98 e27 e10 g8 g7)) (show (pf150 12).toInt ≤ 60 from (oz_ddab08c2ef e157 e140 e120 e98 e99)) (show 0 ≤ (pf150 13).toInt from (oz_8489396632 e158 e141 e117 e100 e25 e11 g5)) (show (pf150 13).toInt ≤ (pf150 11).toInt + 10 from (oz_75ff170364 e154 e158 e137 e141 e153.1 g6 e7 e26 e94 e118 e11 e100 e25)) (show 0 ≤ (pf150 26).toInt from (oz_208e951691 e161 e144 e123 e103 e30 e14 g7)) (show (pf150 26).toInt ≤ (pf150 12).toInt from (oz_0cc86014eb e157 e161 e140 e144 e120 e123 e98 e103 e27 e30 e10 e14 g8)) (show 61 ≤ (pf150 12).toInt + (lv : Int) from (oz_d1b755c2b4 g9 e157 e10 e140 e27 e120 e98)) (show lv ≤ 61 from g10) (show 0 ≤ v23.toInt from (oz_e2fef14871 e24 e11 g5)) (show v23.toInt < (pf150 13).toInt from (oz_72b69290f2 e24 e158 e25 e141 e100 e117)) hlf htk (FsI.le (N' := (pf150 13).toInt) hfs (by omega))) S hT hw (oX_call (P := (fun A U H => (oN A U H) ∧ (oP A g U H))) (pr := []) (oG_and oG_N oG_P) hw hA ⟨hN, hP⟩) (px_recv hT hw 0 0 rfl rfl rfl) m12_117 m12_114 m12_116 ms_10_14 m1_21 q_Mpg_arrayValue ⟨show (8 * lv + 22) + 1 ≤ (8 * lv + 23) from (oz_2095af30c2), show 8 + (4 + 11) + (220 * lv + 1040) ≤ (220 * lv + 1080) from (oz_1cc549009d)⟩ hl.1 rfl (Nat.le_of_ble_eq_true rfl) d_Mpg_variable_58 ⟨Nat.le_of_ble_eq_true rfl, Nat.le_of_ble_eq_true rfl⟩ hne hlk hA hAe (fun o t h => Or.inr h) ?_ (fun p173 H locs hp173 hw => ?_) | (refine th_callv (ps0 := [wdP cs h r g tf ta pf na ma wa cf ca ef ea xf xa]) (pr := []) (pcs := [wdP cs h r g tf ta pf150 na129 ma111 wa112 cf ca ef ea xf xa]) (As := [.int v23]) (rest := []) (c_mp_arrayValue l D cs h r g tf ta cf ca ef ea xf xa pf150 na129 ma111 wa112 v23 lv (show 0 ≤ (pf150 11).toInt from by first | exact oz_9c07d0d680 e154 e137 e153.1 g0 e7 e26 e94 e115 | omega) (show (pf150 11).toInt < (tf 6).toInt from by first | exact e155 | omega) (show (tf 6).toInt ≤ 2049 from by first | exact g2 | omega) (show 0 ≤ (pf150 12).toInt from by first | exact oz_ce2203671d e157 e140 e120 e98 e27 e10 g8 g7 | omega) (show (pf150 12).toInt ≤ 60 from by first | exact oz_ddab08c2ef e157 e140 e120 e98 e99 | omega) (show 0 ≤ (pf150 13).toInt from by first | exact oz_8489396632 e158 e141 e117 e100 e25 e11 g5 | omega) (show (pf150 13).toInt ≤ (pf150 11).toInt + 10 from by first | exact oz_75ff170364 e154 e158 e137 e141 e153.1 g6 e7 e26 e94 e118 e11 e100 e25 | omega) (show 0 ≤ (pf150 26).toInt from by first | exact oz_208e951691 e161 e144 e123 e103 e30 e14 g7 | omega) (show (pf150 26).toInt ≤ (pf150 12).toInt from by first | exact oz_0cc86014eb e157 e161 e140 e144 e120 e123 e98 e103 e27 e30 e10 e14 g8 | omega) (show 61 ≤ (pf150 12).toInt + (lv : Int) from by first | exact oz_d1b755c2b4 g9 e157 e10 e140 e27 e120 e98 | omega) (show lv ≤ 61 from by first | exact g10 | omega) (show 0 ≤ v23.toInt from by first | exact oz_e2fef14871 e24 e11 g5 | omega) (show v23.toInt < (pf150 13).toInt from by first | exact oz_72b69290f2 e24 e158 e25 e141 e100 e117 | omega) hlf htk (FsI.le (N' := (pf150 13).toInt) hfs (by omega))) S hT hw (oX_call (P := (fun A U H => (oN A U H) ∧ (oP A g U H))) (pr := []) (oG_and oG_N oG_P) hw hA ⟨hN, hP⟩) (px_recv hT hw 0 0 rfl rfl rfl) m12_117 m12_114 m12_116 ms_10_14 m1_21 q_Mpg_arrayValue ⟨show (8 * lv + 22) + 1 ≤ (8 * lv + 23) from (by first | exact oz_2095af30c2 | omega), show 8 + (4 + 11) + (220 * lv + 1040) ≤ (220 * lv + 1080) from (by first | exact oz_1cc549009d | omega)⟩ hl.1 rfl (Nat.le_of_ble_eq_true rfl) d_Mpg_variable_58 ⟨Nat.le_of_ble_eq_true rfl, Nat.le_of_ble_eq_true rfl⟩ hne hlk hA hAe (fun o t h => Or.inr h) ?_ (fun p173 H locs hp173 hw => ?_))
      · exact fun p1 H1 locs1 hp hw => by obtain ⟨pq1, pq2, pq3, pq4, rfl, hq1, hq2, hq3⟩ := hp; exact ⟨_, ⟨pq1, pq2, pq3, pq4, rfl, hq1, hq2, (Or.inl (Or.inr ⟨pf2, v4, e15, pf19, na20, ma21, v23, e32, ma34, hu_ma34, v39, e42, Or.inr ⟨nc43, Or.inr ⟨pf91, e104, Or.inr ⟨pf109, na110, ma111, wa112, v114, e128, na129, hu_na129, Or.inr ⟨pf134, e145, pf150, v152, e162, Or.inr ⟨nc163, Or.inl ⟨pq1, pq2, pq3, pq4, hq3, rfl, rfl, rfl, rfl, rfl, rfl⟩⟩⟩⟩⟩⟩⟩))⟩, hw⟩
      obtain ⟨pf169, na170, ma171, wa172, rfl, e175, e176, e177, e178, e179, e180, e181, e182, e183, e184, e185, e186, e187, e188⟩ := hp173
      have e175 : (pf150 11).toInt + 1 ≤ (pf169 11).toInt := e175
      have e176 : (pf169 11).toInt < (tf 6).toInt := e176
      have e177 : (pf150 13).toInt ≤ (pf169 13).toInt := e177
      have e178 : (pf169 13).toInt - (pf150 13).toInt ≤ (pf169 11).toInt - (pf150 11).toInt := e178
      have e179 : bp ta (pf150 11) + 1 ≤ bp ta (pf169 11) := e179
      have e180 : (pf169 12).toInt = (pf150 12).toInt := e180
      have e181 : (pf169 24).toInt = (pf150 24).toInt := e181
      have e182 : (pf169 25).toInt = (pf150 25).toInt := e182
      have e183 : (pf169 26).toInt = (pf150 26).toInt := e183
      have e184 : FrV (pf150 13).toInt v23 na129 ma111 na170 ma171 := e184
      have hf_14_v23 := (FrV.fn e184 (by omega) (by omega)).trans hf_14_v23
      have hf_15_v23 := (FrV.fn e184 (by omega) (by omega)).trans hf_15_v23
      have hf_17_v23 := (FrV.fn e184 (by omega) (by omega)).trans hf_17_v23
      have hf_21_v23 := (FrV.fn e184 (by omega) (by omega)).trans hf_21_v23
      obtain ⟨ht_v114, hdq_v114⟩ := ht_v114.ag (FrV.ag e184 (by omega) (by omega)) (by omega)
      have hn_ht_v114 := ht_v114.num
      have hfb := FrV.fb e184 hfb (by omega) (by omega)
      have e185 : FrW (pf150 26).toInt wa112 wa172 := e185
      have hfw := hfw.tr e185 (by omega)
      have e186 : AvV ta (tf 6).toInt na170 ma171 v23 (pf150 11) (pf150 13).toInt (pf169 13).toInt (3 * (bp ta (pf169 11) - bp ta (pf150 11))) 130 := e186
      have hav := e186
      have e187 : FsI (tf 6).toInt (pf169 13).toInt na170 := e187
      have hfs := e187
      have e188 : R_mp_arrayValue ta v23 pf150 na129 ma111 wa112 pf169 na170 ma171 wa172 0 := e188
      refine lv_goto (tgt := 90) S.x S.b d_Mpg_variable_61 (by decide) ?_
      refine lv_iload_n S.x S.b d_Mpg_variable_90 rfl (lv_at hl 0 rfl) ?_
      first | exact th_iret (v := v23) S hr rfl hlk hAe hw (⟨pf169, na170, ma171, wa172, rfl, (show (pf 11).toInt + 1 ≤ (pf169 11).toInt from (oz_63646b65f0 e7 e175 e26 e154 e94 e115 e137 e153.1)), (show (pf169 11).toInt < (tf 6).toInt from e176), (show (pf 13).toInt + 1 ≤ (pf169 13).toInt from (oz_930744b6fe e11 e177 e25 e158 e100 e141 e117)), (show (pf169 13).toInt - (pf 13).toInt ≤ (pf169 11).toInt - (pf 11).toInt from (oz_2d496d47b7 e7 e11 e178 e25 e26 e154 e158 e94 e100 e118 e137 e141 e153.1)), (show bp ta (pf 11) + 1 ≤ bp ta (pf169 11) from (oz_cc30fab572 e9 e179 qb331 e156 e96 e139 e153.1 e97 e119)), (show (pf169 12).toInt = (pf 12).toInt from (oz_b3e8b0d22b e10 e180 e27 e157 e98 e140 e120)), (show (pf169 24).toInt = (pf 24).toInt from (oz_ada9f7f295 e12 e181 e28 e159 e101 e142 e121)), (show (pf169 25).toInt = (pf 25).toInt from (oz_ada9f7f295 e13 e182 e29 e160 e102 e143 e122)), (show (pf169 26).toInt = (pf 26).toInt from (oz_ada9f7f295 e14 e183 e30 e161 e103 e144 e123)), (show FrB (pf 13).toInt na ma na170 ma171 from hfb), (show FrW (pf 26).toInt wa wa172 from hfw), (show VlR ta (tf 6).toInt na170 ma171 v23 (pf 13).toInt (pf169 13).toInt (3 * (bp ta (pf169 11) - bp ta (pf 11)) + 3) 130 from (VlV.le (AvV.vr hav ⟨by omega, hf_14_v23, hf_15_v23, ⟨by omega, by omega⟩, hf_21_v23⟩ (show SoIs ta v4 1 by assumption) hf_17_v23 (by omega) (VlV.le (exr_vl ht_v114 (by omega)) (lo' := v23.toInt + 1) (by omega) (by omega) (Int.le_refl _) (by omega)) (by omega) (by omega)) (by omega) (by omega) (by omega) (by omega))), (show FsI (tf 6).toInt (pf169 13).toInt na170 from (FsI.le hfs (by omega))), (show R_mp_variable ta pf na ma wa pf169 na170 ma171 wa172 v23 0 from (Or.inl (Or.inr ⟨pf2, v4, e15, pf19, na20, ma21, v23, e32, ma34, hu_ma34, v39, e42, Or.inr ⟨nc43, Or.inr ⟨pf91, e104, Or.inr ⟨pf109, na110, ma111, wa112, v114, e128, na129, hu_na129, Or.inr ⟨pf134, e145, pf150, v152, e162, Or.inr ⟨nc163, Or.inr ⟨pf169, na170, ma171, wa172, e188, rfl, rfl, rfl, rfl, rfl, rfl⟩⟩⟩⟩⟩⟩⟩)))⟩) d_Mpg_variable_91 | (exact th_iret (v := v23) S hr rfl hlk hAe hw (⟨pf169, na170, ma171, wa172, rfl, (show (pf 11).toInt + 1 ≤ (pf169 11).toInt from by first | exact oz_63646b65f0 e7 e175 e26 e154 e94 e115 e137 e153.1 | omega), (show (pf169 11).toInt < (tf 6).toInt from by first | exact e176 | omega), (show (pf 13).toInt + 1 ≤ (pf169 13).toInt from by first | exact oz_930744b6fe e11 e177 e25 e158 e100 e141 e117 | omega), (show (pf169 13).toInt - (pf 13).toInt ≤ (pf169 11).toInt - (pf 11).toInt from by first | exact oz_2d496d47b7 e7 e11 e178 e25 e26 e154 e158 e94 e100 e118 e137 e141 e153.1 | omega), (show bp ta (pf 11) + 1 ≤ bp ta (pf169 11) from by first | exact oz_cc30fab572 e9 e179 qb331 e156 e96 e139 e153.1 e97 e119 | omega), (show (pf169 12).toInt = (pf 12).toInt from by first | exact oz_b3e8b0d22b e10 e180 e27 e157 e98 e140 e120 | omega), (show (pf169 24).toInt = (pf 24).toInt from by first | exact oz_ada9f7f295 e12 e181 e28 e159 e101 e142 e121 | omega), (show (pf169 25).toInt = (pf 25).toInt from by first | exact oz_ada9f7f295 e13 e182 e29 e160 e102 e143 e122 | omega), (show (pf169 26).toInt = (pf 26).toInt from by first | exact oz_ada9f7f295 e14 e183 e30 e161 e103 e144 e123 | omega), (show FrB (pf 13).toInt na ma na170 ma171 from hfb), (show FrW (pf 26).toInt wa wa172 from hfw), (show VlR ta (tf 6).toInt na170 ma171 v23 (pf 13).toInt (pf169 13).toInt (3 * (bp ta (pf169 11) - bp ta (pf 11)) + 3) 130 from (VlV.le (AvV.vr hav ⟨by omega, hf_14_v23, hf_15_v23, ⟨by omega, by omega⟩, hf_21_v23⟩ (show SoIs ta v4 1 by assumption) hf_17_v23 (by omega) (VlV.le (exr_vl ht_v114 (by omega)) (lo' := v23.toInt + 1) (by omega) (by omega) (Int.le_refl _) (by omega)) (by omega) (by omega)) (by omega) (by omega) (by omega) (by omega))), (show FsI (tf 6).toInt (pf169 13).toInt na170 from (FsI.le hfs (by omega))), (show R_mp_variable ta pf na ma wa pf169 na170 ma171 wa172 v23 0 from (Or.inl (Or.inr ⟨pf2, v4, e15, pf19, na20, ma21, v23, e32, ma34, hu_ma34, v39, e42, Or.inr ⟨nc43, Or.inr ⟨pf91, e104, Or.inr ⟨pf109, na110, ma111, wa112, v114, e128, na129, hu_na129, Or.inr ⟨pf134, e145, pf150, v152, e162, Or.inr ⟨nc163, Or.inr ⟨pf169, na170, ma171, wa172, e188, rfl, rfl, rfl, rfl, rfl, rfl⟩⟩⟩⟩⟩⟩⟩)))⟩) d_Mpg_variable_91)
abbrev b_Mpg_variables : ByteArray := prog_16_method_43_code
def y_Mpg_variables : MethodName := ⟨"HomeSystemModel$Program", "variables", "()I"⟩
theorem d_Mpg_variables_0 : decode b_Mpg_variables 0 = .ok (.aload_n 0, 1) := by decide +kernel
theorem d_Mpg_variables_1 : decode b_Mpg_variables 1 = .ok (.invokevirtual 448, 3) := by decide +kernel
theorem d_Mpg_variables_4 : decode b_Mpg_variables 4 = .ok (.istore_n 1, 1) := by decide +kernel
theorem d_Mpg_variables_5 : decode b_Mpg_variables 5 = .ok (.iload_n 1, 1) := by decide +kernel
theorem d_Mpg_variables_6 : decode b_Mpg_variables 6 = .ok (.istore_n 2, 1) := by decide +kernel
theorem d_Mpg_variables_7 : decode b_Mpg_variables 7 = .ok (.aload_n 0, 1) := by decide +kernel
theorem d_Mpg_variables_8 : decode b_Mpg_variables 8 = .ok (.ldc 99, 2) := by decide +kernel
theorem d_Mpg_variables_10 : decode b_Mpg_variables 10 = .ok (.invokevirtual 370, 3) := by decide +kernel
theorem d_Mpg_variables_13 : decode b_Mpg_variables 13 = .ok (.ifCond .eq 20, 3) := by decide +kernel
theorem d_Mpg_variables_16 : decode b_Mpg_variables 16 = .ok (.aload_n 0, 1) := by decide +kernel
theorem d_Mpg_variables_17 : decode b_Mpg_variables 17 = .ok (.invokevirtual 448, 3) := by decide +kernel
theorem d_Mpg_variables_20 : decode b_Mpg_variables 20 = .ok (.istore_n 3, 1) := by decide +kernel
theorem d_Mpg_variables_21 : decode b_Mpg_variables 21 = .ok (.aload_n 0, 1) := by decide +kernel
theorem d_Mpg_variables_22 : decode b_Mpg_variables 22 = .ok (.getfield 228, 3) := by decide +kernel
theorem d_Mpg_variables_25 : decode b_Mpg_variables 25 = .ok (.iload_n 2, 1) := by decide +kernel
theorem d_Mpg_variables_26 : decode b_Mpg_variables 26 = .ok (.iload_n 3, 1) := by decide +kernel
theorem d_Mpg_variables_27 : decode b_Mpg_variables 27 = .ok (.iastore, 1) := by decide +kernel
theorem d_Mpg_variables_28 : decode b_Mpg_variables 28 = .ok (.iload_n 3, 1) := by decide +kernel
theorem d_Mpg_variables_29 : decode b_Mpg_variables 29 = .ok (.istore_n 2, 1) := by decide +kernel
theorem d_Mpg_variables_30 : decode b_Mpg_variables 30 = .ok (.goto (-23), 3) := by decide +kernel
theorem d_Mpg_variables_33 : decode b_Mpg_variables 33 = .ok (.iload_n 1, 1) := by decide +kernel
theorem d_Mpg_variables_34 : decode b_Mpg_variables 34 = .ok (.ireturn, 1) := by decide +kernel
theorem q_Mpg_variables : px_y y_Mpg_variables 0 := by unfold px_y; decide +kernel
set_option maxHeartbeats 4000000 in
set_option maxRecDepth 100000 in
theorem c_mp_variables (l : Launch) (D : va_G) (cs : Nat → ClassId) (h : Nat) (r : Nat → Nat) (g : Nat → Nat → Option Nat) (tf : Nat → Int32) (ta : Nat → Nat → Int32) (cf : Nat → Int32) (ca : Nat → Nat → Int32) (ef : Nat → Int32) (ea : Nat → Nat → Int32) (xf : Nat → Int32) (xa : Nat → Nat → Int32) (pf : Nat → Int32) (na : Nat → Nat → Int32) (ma : Nat → Nat → Int32) (wa : Nat → Nat → Int32) (lv : Nat) (g0 : 0 ≤ (pf 11).toInt) (g1 : (pf 11).toInt < (tf 6).toInt) (g2 : (tf 6).toInt ≤ 2049) (g3 : 0 ≤ (pf 12).toInt) (g4 : (pf 12).toInt ≤ 60) (g5 : 0 ≤ (pf 13).toInt) (g6 : (pf 13).toInt ≤ (pf 11).toInt + 10) (g7 : 0 ≤ (pf 26).toInt) (g8 : (pf 26).toInt ≤ (pf 12).toInt) (g9 : 61 ≤ (pf 12).toInt + (lv : Int)) (g10 : lv ≤ 61) (hlf : l.flags = pinnedFlags ++ [noTraceFlag]) (htk : TkI tf ta) (hfs : FsI (tf 6).toInt (pf 13).toInt na) : ThI l y_Mpg_variables b_Mpg_variables 4 (.int) D cs (8 * lv + 24) (220 * lv + 1120) [.ref h] [wdP cs h r g tf ta pf na ma wa cf ca ef ea xf xa] (oX (fun A U H => (oN A U H) ∧ (oP A g U H)) [wdP cs h r g tf ta pf na ma wa cf ca ef ea xf xa]) "java/lang/IllegalArgumentException" (fun v ps => ∃ (pf' : Nat → Int32) (na' : Nat → Nat → Int32) (ma' : Nat → Nat → Int32) (wa' : Nat → Nat → Int32), (ps = [wdP cs h r g tf ta pf' na' ma' wa' cf ca ef ea xf xa]) ∧ ((pf 11).toInt + 1 ≤ (pf' 11).toInt) ∧ ((pf' 11).toInt < (tf 6).toInt) ∧ ((pf 13).toInt + 1 ≤ (pf' 13).toInt) ∧ ((pf' 13).toInt - (pf 13).toInt ≤ (pf' 11).toInt - (pf 11).toInt) ∧ (bp ta (pf 11) + 1 ≤ bp ta (pf' 11)) ∧ ((pf' 12).toInt = (pf 12).toInt) ∧ ((pf' 24).toInt = (pf 24).toInt) ∧ ((pf' 25).toInt = (pf 25).toInt) ∧ ((pf' 26).toInt = (pf 26).toInt) ∧ (FrB (pf 13).toInt na ma na' ma') ∧ (FrW (pf 26).toInt wa wa') ∧ (RlR ta (tf 6).toInt na' ma' v (pf 13).toInt (pf' 13).toInt (3 * (bp ta (pf' 11) - bp ta (pf 11)) + 3) 130) ∧ (FsI (tf 6).toInt (pf' 13).toInt na') ∧ (R_mp_variables ta pf na ma wa pf' na' ma' wa' v 0)) (fun ps => ∃ (pf' : Nat → Int32) (na' : Nat → Nat → Int32) (ma' : Nat → Nat → Int32) (wa' : Nat → Nat → Int32), ps = [wdP cs h r g tf ta pf' na' ma' wa' cf ca ef ea xf xa] ∧ 0 ≤ (pf' 11).toInt ∧ (pf' 11).toInt + 1 ≤ (tf 6).toInt ∧ R_mp_variables ta pf na ma wa pf' na' ma' wa' 0 1) := by
  refine th_enter (by decide) (Nat.le_of_ble_eq_true rfl) ?_
  intro p e s m below meth c A ls hAe S hr hlk hnm hA hT hX hw hl hne hadm
  have hl : lv_has ls 4 [(0, .ref h)] := hl
  have hX : (fun A U H => (oN A U H) ∧ (oP A g U H)) A s s.heap := by rw [hAe]; exact hX
  obtain ⟨hN, hP⟩ := hX
  have hZ := hP.1
  have hF0 := hP.2.1
  have hfb : FrB (pf 13).toInt na ma na ma := FrB.rf
  have hfw : FrW (pf 26).toInt wa wa := FrW.rf
  have J7 : ∀ (n_7 : Nat) (pf_7 : Nat → Int32) (na_7 : Nat → Nat → Int32) (ma_7 : Nat → Nat → Int32) (wa_7 : Nat → Nat → Int32) (x7_1 x7_2 : Int32) (H : Heap) (locs : List Loc) (ls : Array Slot), ((pf 11).toInt + 1 ≤ (pf_7 11).toInt) → ((pf_7 11).toInt < (tf 6).toInt) → ((pf 13).toInt + 1 ≤ (pf_7 13).toInt) → ((pf_7 13).toInt - (pf 13).toInt ≤ (pf_7 11).toInt - (pf 11).toInt) → (bp ta (pf 11) + 1 ≤ bp ta (pf_7 11)) → ((pf_7 12).toInt = (pf 12).toInt) → ((pf_7 24).toInt = (pf 24).toInt) → ((pf_7 25).toInt = (pf 25).toInt) → ((pf_7 26).toInt = (pf 26).toInt) → (FrB (pf 13).toInt na ma na_7 ma_7) → (FrW (pf 26).toInt wa wa_7) → (RwR ta (tf 6).toInt na_7 ma_7 x7_1 x7_2 (pf 13).toInt (pf_7 13).toInt (3 * (bp ta (pf_7 11) - bp ta (pf 11)) + 3) 130) → (FsI (tf 6).toInt (pf_7 13).toInt na_7) → (K_mp_variables_7 ta pf na ma wa pf_7 na_7 ma_7 wa_7 x7_1 x7_2) → (tf 6).toInt - (pf_7 11).toInt < (n_7 : Int) → pw D A s.heap H locs [wdP cs h r g tf ta pf_7 na_7 ma_7 wa_7 cf ca ef ea xf xa] → lv_has ls 4 [(0, .ref h), (1, .int x7_1), (2, .int x7_2)] → W p l e { frames := (8 * lv + 24), cells := 1, slots := 6, locals := (220 * lv + 1120) } s m [.ref h].toArray below meth c H locs 0 0 (tx_MQ below (thQi D (va_A ([wdP cs h r g tf ta pf na ma wa cf ca ef ea xf xa] : List va_W).flatten s.heap.size) "java/lang/IllegalArgumentException" (fun v ps => ∃ (pf' : Nat → Int32) (na' : Nat → Nat → Int32) (ma' : Nat → Nat → Int32) (wa' : Nat → Nat → Int32), (ps = [wdP cs h r g tf ta pf' na' ma' wa' cf ca ef ea xf xa]) ∧ ((pf 11).toInt + 1 ≤ (pf' 11).toInt) ∧ ((pf' 11).toInt < (tf 6).toInt) ∧ ((pf 13).toInt + 1 ≤ (pf' 13).toInt) ∧ ((pf' 13).toInt - (pf 13).toInt ≤ (pf' 11).toInt - (pf 11).toInt) ∧ (bp ta (pf 11) + 1 ≤ bp ta (pf' 11)) ∧ ((pf' 12).toInt = (pf 12).toInt) ∧ ((pf' 24).toInt = (pf 24).toInt) ∧ ((pf' 25).toInt = (pf 25).toInt) ∧ ((pf' 26).toInt = (pf 26).toInt) ∧ (FrB (pf 13).toInt na ma na' ma') ∧ (FrW (pf 26).toInt wa wa') ∧ (RlR ta (tf 6).toInt na' ma' v (pf 13).toInt (pf' 13).toInt (3 * (bp ta (pf' 11) - bp ta (pf 11)) + 3) 130) ∧ (FsI (tf 6).toInt (pf' 13).toInt na') ∧ (R_mp_variables ta pf na ma wa pf' na' ma' wa' v 0)) (fun ps => ∃ (pf' : Nat → Int32) (na' : Nat → Nat → Int32) (ma' : Nat → Nat → Int32) (wa' : Nat → Nat → Int32), ps = [wdP cs h r g tf ta pf' na' ma' wa' cf ca ef ea xf xa] ∧ 0 ≤ (pf' 11).toInt ∧ (pf' 11).toInt + 1 ≤ (tf 6).toInt ∧ R_mp_variables ta pf na ma wa pf' na' ma' wa' 0 1) s.heap.size (tot s.heap)) [.ref h].toArray s 1 6 A) (F0 m 7 ls []) := by
    intro  n_7
    induction n_7 with
    | zero =>
      intro pf_7 na_7 ma_7 wa_7 x7_1 x7_2 H locs ls k7_0 k7_1 k7_2 k7_3 k7_4 k7_5 k7_6 k7_7 k7_8 k7_9 k7_10 k7_11 k7_12 k7_13 hm hw hl
      have lx7_1 := Int32.le_toInt x7_1
      have ux7_1 := Int32.toInt_lt x7_1
      have lx7_2 := Int32.le_toInt x7_2
      have ux7_2 := Int32.toInt_lt x7_2
      have hfb := k7_9
      have hfw := k7_10
      have hrw_x7_2 := k7_11
      have hn_hrw_x7_2 := hrw_x7_2.num
      have hfs := k7_12
      exact absurd hm (by omega)
    | succ n_7 ih7 =>
      intro pf_7 na_7 ma_7 wa_7 x7_1 x7_2 H locs ls k7_0 k7_1 k7_2 k7_3 k7_4 k7_5 k7_6 k7_7 k7_8 k7_9 k7_10 k7_11 k7_12 k7_13 hm hw hl
      have lx7_1 := Int32.le_toInt x7_1
      have ux7_1 := Int32.toInt_lt x7_1
      have lx7_2 := Int32.le_toInt x7_2
      have ux7_2 := Int32.toInt_lt x7_2
      have hfb := k7_9
      have hfw := k7_10
      have hrw_x7_2 := k7_11
      have hn_hrw_x7_2 := hrw_x7_2.num
      have hfs := k7_12
      refine lv_aload_n S.x S.b d_Mpg_variables_7 rfl (lv_at hl 0 rfl) ?_
      obtain ⟨sk1, hRsk1, st2, hSsk1⟩ := oP_litB hP (k := 99) (tx := ",") (n := 1) (List.mem_of_getElem? (i := 41) rfl)
      refine va_ldcS S.x S.b S.own hRsk1 d_Mpg_variables_8 ?_
      first | refine px_calli (pr := []) (px_runV (As := [.ref sk1]) (rest := []) S (c_mp_takes l D cs sk1 1 (lby ",") h r g tf ta na_7 ma_7 wa_7 cf ca ef ea xf xa pf_7   (show 0 ≤ (pf_7 11).toInt from (oz_06d7f15a5c k7_0 g0)) (show (pf_7 11).toInt < (tf 6).toInt from k7_1) (show (tf 6).toInt ≤ 2049 from g2) (show 1 ≤ 100 from by omega) htk _) hT (pr := []) (pcs := [wdP cs h r g tf ta pf_7 na_7 ma_7 wa_7 cf ca ef ea xf xa]) hw (oX_call (P := (fun A U H => (oP A g U H) ∧ (StLt A sk1 1 (lby ",") U H))) (pr := []) (oG_and oG_P oG_QB) hw hA ⟨hP, ⟨_, hSsk1⟩⟩) (px_recv hT hw 0 0 rfl rfl rfl) m12_6 m12_3 m12_5 ms_9_3 m1_21 q_Mpg_takes ⟨show 4 + 1 ≤ (8 * lv + 24) from (oz_471d089718), show 8 + (3 + 11) + 160 ≤ (220 * lv + 1120) from (oz_677681d3e1)⟩ hl.1 rfl (Nat.le_of_ble_eq_true rfl) d_Mpg_variables_10 ⟨Nat.le_of_ble_eq_true rfl, Nat.le_of_ble_eq_true rfl⟩) hw hA (fun v7 p6 H locs hp6 hw => ?_) | (refine px_calli (pr := []) (px_runV (As := [.ref sk1]) (rest := []) S (c_mp_takes l D cs sk1 1 (lby ",") h r g tf ta na_7 ma_7 wa_7 cf ca ef ea xf xa pf_7   (show 0 ≤ (pf_7 11).toInt from by first | exact oz_06d7f15a5c k7_0 g0 | omega) (show (pf_7 11).toInt < (tf 6).toInt from by first | exact k7_1 | omega) (show (tf 6).toInt ≤ 2049 from by first | exact g2 | omega) (show 1 ≤ 100 from by omega) htk _) hT (pr := []) (pcs := [wdP cs h r g tf ta pf_7 na_7 ma_7 wa_7 cf ca ef ea xf xa]) hw (oX_call (P := (fun A U H => (oP A g U H) ∧ (StLt A sk1 1 (lby ",") U H))) (pr := []) (oG_and oG_P oG_QB) hw hA ⟨hP, ⟨_, hSsk1⟩⟩) (px_recv hT hw 0 0 rfl rfl rfl) m12_6 m12_3 m12_5 ms_9_3 m1_21 q_Mpg_takes ⟨show 4 + 1 ≤ (8 * lv + 24) from (by first | exact oz_471d089718 | omega), show 8 + (3 + 11) + 160 ≤ (220 * lv + 1120) from (by first | exact oz_677681d3e1 | omega)⟩ hl.1 rfl (Nat.le_of_ble_eq_true rfl) d_Mpg_variables_10 ⟨Nat.le_of_ble_eq_true rfl, Nat.le_of_ble_eq_true rfl⟩) hw hA (fun v7 p6 H locs hp6 hw => ?_))
      obtain ⟨pf5, rfl, e8, e9, e10, e11, e12, e13, e14, e15, e16, e17⟩ := hp6
      have e8 := z_rng e8
      have e9 : (pf5 11).toInt = (pf_7 11).toInt + v7.toInt := e9
      have e10 : (pf5 11).toInt < (tf 6).toInt := e10
      have e11 : bp ta (pf_7 11) + v7.toInt ≤ bp ta (pf5 11) := e11
      have e12 : (pf5 12).toInt = (pf_7 12).toInt := e12
      have e13 : (pf5 13).toInt = (pf_7 13).toInt := e13
      have e14 : (pf5 24).toInt = (pf_7 24).toInt := e14
      have e15 : (pf5 25).toInt = (pf_7 25).toInt := e15
      have e16 : (pf5 26).toInt = (pf_7 26).toInt := e16
      have e17 : R_mp_takes 1 (lby ",") ta pf_7 pf5 v7 := e17
      have lv7 := Int32.le_toInt v7
      have uv7 := Int32.toInt_lt v7
      refine lv_if_eq (tgt := 33) S.x S.b d_Mpg_variables_13 (by decide) (fun c18 => ?_) (fun c18 => ?_)
      · have nc18 : v7.toInt = (0 : Int) := (i_eq (x := v7) (y := 0)).mp c18
        refine lv_iload_n S.x S.b d_Mpg_variables_33 rfl (lv_at hl 1 rfl) ?_
        first | exact th_iret (v := x7_1) S hr rfl hlk hAe hw (⟨pf5, na_7, ma_7, wa_7, rfl, (show (pf 11).toInt + 1 ≤ (pf5 11).toInt from (oz_3f453873c8 k7_0 e9 e8.1)), (show (pf5 11).toInt < (tf 6).toInt from e10), (show (pf 13).toInt + 1 ≤ (pf5 13).toInt from (oz_213e98d3f1 k7_2 e13)), (show (pf5 13).toInt - (pf 13).toInt ≤ (pf5 11).toInt - (pf 11).toInt from (oz_1e32788057 k7_3 e9 e13 e8.1)), (show bp ta (pf 11) + 1 ≤ bp ta (pf5 11) from (oz_f22ed27fb1 k7_4 e11 e8.1)), (show (pf5 12).toInt = (pf 12).toInt from (oz_1687f4cc65 k7_5 e12)), (show (pf5 24).toInt = (pf 24).toInt from (oz_1687f4cc65 k7_6 e14)), (show (pf5 25).toInt = (pf 25).toInt from (oz_1687f4cc65 k7_7 e15)), (show (pf5 26).toInt = (pf 26).toInt from (oz_1687f4cc65 k7_8 e16)), (show FrB (pf 13).toInt na ma na_7 ma_7 from hfb), (show FrW (pf 26).toInt wa wa_7 from hfw), (show RlR ta (tf 6).toInt na_7 ma_7 x7_1 (pf 13).toInt (pf5 13).toInt (3 * (bp ta (pf5 11) - bp ta (pf 11)) + 3) 130 from ⟨_, (RwV.le hrw_x7_2 (by omega) (by omega) (by omega) (by omega))⟩), (show FsI (tf 6).toInt (pf5 13).toInt na_7 from (FsI.le hfs (by omega))), (show R_mp_variables ta pf na ma wa pf5 na_7 ma_7 wa_7 x7_1 0 from (k7_13 _ _ _ _ _ _ 1 (Or.inr (Or.inl ⟨rfl, x7_1, x7_2, rfl, rfl, rfl, rfl, rfl, pf5, v7, e17, Or.inl ⟨nc18, rfl, rfl, rfl, rfl, rfl, rfl⟩⟩))))⟩) d_Mpg_variables_34 | (exact th_iret (v := x7_1) S hr rfl hlk hAe hw (⟨pf5, na_7, ma_7, wa_7, rfl, (show (pf 11).toInt + 1 ≤ (pf5 11).toInt from by first | exact oz_3f453873c8 k7_0 e9 e8.1 | omega), (show (pf5 11).toInt < (tf 6).toInt from by first | exact e10 | omega), (show (pf 13).toInt + 1 ≤ (pf5 13).toInt from by first | exact oz_213e98d3f1 k7_2 e13 | omega), (show (pf5 13).toInt - (pf 13).toInt ≤ (pf5 11).toInt - (pf 11).toInt from by first | exact oz_1e32788057 k7_3 e9 e13 e8.1 | omega), (show bp ta (pf 11) + 1 ≤ bp ta (pf5 11) from by first | exact oz_f22ed27fb1 k7_4 e11 e8.1 | omega), (show (pf5 12).toInt = (pf 12).toInt from by first | exact oz_1687f4cc65 k7_5 e12 | omega), (show (pf5 24).toInt = (pf 24).toInt from by first | exact oz_1687f4cc65 k7_6 e14 | omega), (show (pf5 25).toInt = (pf 25).toInt from by first | exact oz_1687f4cc65 k7_7 e15 | omega), (show (pf5 26).toInt = (pf 26).toInt from by first | exact oz_1687f4cc65 k7_8 e16 | omega), (show FrB (pf 13).toInt na ma na_7 ma_7 from hfb), (show FrW (pf 26).toInt wa wa_7 from hfw), (show RlR ta (tf 6).toInt na_7 ma_7 x7_1 (pf 13).toInt (pf5 13).toInt (3 * (bp ta (pf5 11) - bp ta (pf 11)) + 3) 130 from ⟨_, (RwV.le hrw_x7_2 (by omega) (by omega) (by omega) (by omega))⟩), (show FsI (tf 6).toInt (pf5 13).toInt na_7 from (FsI.le hfs (by omega))), (show R_mp_variables ta pf na ma wa pf5 na_7 ma_7 wa_7 x7_1 0 from (k7_13 _ _ _ _ _ _ 1 (Or.inr (Or.inl ⟨rfl, x7_1, x7_2, rfl, rfl, rfl, rfl, rfl, pf5, v7, e17, Or.inl ⟨nc18, rfl, rfl, rfl, rfl, rfl, rfl⟩⟩))))⟩) d_Mpg_variables_34)
      · have nc18 : ¬ v7.toInt = (0 : Int) := mt (i_eq (x := v7) (y := 0)).mpr c18
        refine lv_aload_n S.x S.b d_Mpg_variables_16 rfl (lv_at hl 0 rfl) ?_
        first | refine th_calli (ps0 := [wdP cs h r g tf ta pf na ma wa cf ca ef ea xf xa]) (pr := []) (pcs := [wdP cs h r g tf ta pf5 na_7 ma_7 wa_7 cf ca ef ea xf xa]) (As := []) (rest := []) (c_mp_variable l D cs h r g tf ta cf ca ef ea xf xa pf5 na_7 ma_7 wa_7  lv (show 0 ≤ (pf5 11).toInt from (oz_4f7430b7f2 e9 k7_0 e8.1 g0)) (show (pf5 11).toInt < (tf 6).toInt from e10) (show (tf 6).toInt ≤ 2049 from g2) (show 0 ≤ (pf5 12).toInt from (oz_9bcc310e9c e12 k7_5 g8 g7)) (show (pf5 12).toInt ≤ 60 from (oz_d791cd839d e12 k7_5 g4)) (show 0 ≤ (pf5 13).toInt from (oz_0cb63e6fad e13 k7_2 g5)) (show (pf5 13).toInt ≤ (pf5 11).toInt + 10 from (oz_a8f84bca48 e9 e13 k7_3 e8.1 g6)) (show 0 ≤ (pf5 26).toInt from (oz_e2fef14871 e16 k7_8 g7)) (show (pf5 26).toInt ≤ (pf5 12).toInt from (oz_c9654dfc48 e12 e16 k7_5 k7_8 g8)) (show 61 ≤ (pf5 12).toInt + (lv : Int) from (oz_5733b16367 g9 e12 k7_5)) (show lv ≤ 61 from g10) hlf htk (FsI.le (N' := (pf5 13).toInt) hfs (by omega))) S hT hw (oX_call (P := (fun A U H => (oN A U H) ∧ (oP A g U H))) (pr := []) (oG_and oG_N oG_P) hw hA ⟨hN, hP⟩) (px_recv hT hw 0 0 rfl rfl rfl) m12_113 m12_110 m12_112 ms_10_13 m1_21 q_Mpg_variable ⟨show (8 * lv + 23) + 1 ≤ (8 * lv + 24) from (oz_b1689c77fe), show 8 + (2 + 11) + (220 * lv + 1080) ≤ (220 * lv + 1120) from (oz_af8f76027a)⟩ hl.1 rfl (Nat.le_of_ble_eq_true rfl) d_Mpg_variables_17 ⟨Nat.le_of_ble_eq_true rfl, Nat.le_of_ble_eq_true rfl⟩ hne hlk hA hAe (fun o t h => Or.inr h) ?_ (fun v29 p28 H locs hp28 hw => ?_) | (refine th_calli (ps0 := [wdP cs h r g tf ta pf na ma wa cf ca ef ea xf xa]) (pr := []) (pcs := [wdP cs h r g tf ta pf5 na_7 ma_7 wa_7 cf ca ef ea xf xa]) (As := []) (rest := []) (c_mp_variable l D cs h r g tf ta cf ca ef ea xf xa pf5 na_7 ma_7 wa_7  lv (show 0 ≤ (pf5 11).toInt from by first | exact oz_4f7430b7f2 e9 k7_0 e8.1 g0 | omega) (show (pf5 11).toInt < (tf 6).toInt from by first | exact e10 | omega) (show (tf 6).toInt ≤ 2049 from by first | exact g2 | omega) (show 0 ≤ (pf5 12).toInt from by first | exact oz_9bcc310e9c e12 k7_5 g8 g7 | omega) (show (pf5 12).toInt ≤ 60 from by first | exact oz_d791cd839d e12 k7_5 g4 | omega) (show 0 ≤ (pf5 13).toInt from by first | exact oz_0cb63e6fad e13 k7_2 g5 | omega) (show (pf5 13).toInt ≤ (pf5 11).toInt + 10 from by first | exact oz_a8f84bca48 e9 e13 k7_3 e8.1 g6 | omega) (show 0 ≤ (pf5 26).toInt from by first | exact oz_e2fef14871 e16 k7_8 g7 | omega) (show (pf5 26).toInt ≤ (pf5 12).toInt from by first | exact oz_c9654dfc48 e12 e16 k7_5 k7_8 g8 | omega) (show 61 ≤ (pf5 12).toInt + (lv : Int) from by first | exact oz_5733b16367 g9 e12 k7_5 | omega) (show lv ≤ 61 from by first | exact g10 | omega) hlf htk (FsI.le (N' := (pf5 13).toInt) hfs (by omega))) S hT hw (oX_call (P := (fun A U H => (oN A U H) ∧ (oP A g U H))) (pr := []) (oG_and oG_N oG_P) hw hA ⟨hN, hP⟩) (px_recv hT hw 0 0 rfl rfl rfl) m12_113 m12_110 m12_112 ms_10_13 m1_21 q_Mpg_variable ⟨show (8 * lv + 23) + 1 ≤ (8 * lv + 24) from (by first | exact oz_b1689c77fe | omega), show 8 + (2 + 11) + (220 * lv + 1080) ≤ (220 * lv + 1120) from (by first | exact oz_af8f76027a | omega)⟩ hl.1 rfl (Nat.le_of_ble_eq_true rfl) d_Mpg_variables_17 ⟨Nat.le_of_ble_eq_true rfl, Nat.le_of_ble_eq_true rfl⟩ hne hlk hA hAe (fun o t h => Or.inr h) ?_ (fun v29 p28 H locs hp28 hw => ?_))
        · exact fun p1 H1 locs1 hp hw => by obtain ⟨pq1, pq2, pq3, pq4, rfl, hq1, hq2, hq3⟩ := hp; exact ⟨_, ⟨pq1, pq2, pq3, pq4, rfl, hq1, hq2, (k7_13 _ _ _ _ _ _ 1 (Or.inr (Or.inl ⟨rfl, x7_1, x7_2, rfl, rfl, rfl, rfl, rfl, pf5, v7, e17, Or.inr ⟨nc18, Or.inl ⟨pq1, pq2, pq3, pq4, hq3, rfl, rfl, rfl, rfl, rfl, rfl⟩⟩⟩)))⟩, hw⟩
        obtain ⟨pf24, na25, ma26, wa27, rfl, e30, e31, e32, e33, e34, e35, e36, e37, e38, e39, e40, e41, e42, e43⟩ := hp28
        have e30 : (pf5 11).toInt + 1 ≤ (pf24 11).toInt := e30
        have e31 : (pf24 11).toInt < (tf 6).toInt := e31
        have e32 : (pf5 13).toInt + 1 ≤ (pf24 13).toInt := e32
        have e33 : (pf24 13).toInt - (pf5 13).toInt ≤ (pf24 11).toInt - (pf5 11).toInt := e33
        have e34 : bp ta (pf5 11) + 1 ≤ bp ta (pf24 11) := e34
        have e35 : (pf24 12).toInt = (pf5 12).toInt := e35
        have e36 : (pf24 24).toInt = (pf5 24).toInt := e36
        have e37 : (pf24 25).toInt = (pf5 25).toInt := e37
        have e38 : (pf24 26).toInt = (pf5 26).toInt := e38
        have e39 : FrB (pf5 13).toInt na_7 ma_7 na25 ma26 := e39
        have hrw_x7_2 := hrw_x7_2.ag fv_ok (FrB.ag e39 (by omega))
        have hfb := hfb.tr e39 (by omega)
        have e40 : FrW (pf5 26).toInt wa_7 wa27 := e40
        have hfw := hfw.tr e40 (by omega)
        have e41 : VlR ta (tf 6).toInt na25 ma26 v29 (pf5 13).toInt (pf24 13).toInt (3 * (bp ta (pf24 11) - bp ta (pf5 11)) + 3) 130 := e41
        have hv_v29 := e41
        have hn_hv_v29 := hv_v29.num fv_ok
        have e42 : FsI (tf 6).toInt (pf24 13).toInt na25 := e42
        have hfs := e42
        have e43 : R_mp_variable ta pf5 na_7 ma_7 wa_7 pf24 na25 ma26 wa27 v29 0 := e43
        have lv29 := Int32.le_toInt v29
        have uv29 := Int32.toInt_lt v29
        refine lv_istore_n (lv' := [(3, .int v29), (0, .ref h), (1, .int x7_1), (2, .int x7_2)]) S.x S.b d_Mpg_variables_20 rfl hl (by decide) rfl (fun ls hl => ?_)
        refine lv_aload_n S.x S.b d_Mpg_variables_21 rfl (lv_at hl 1 rfl) ?_
        refine gP_21 S hT hw 0 rfl m10_7 d_Mpg_variables_22 ?_
        refine lv_iload_n S.x S.b d_Mpg_variables_25 rfl (lv_at hl 3 rfl) ?_
        refine lv_iload_n S.x S.b d_Mpg_variables_26 rfl (lv_at hl 0 rfl) ?_
        refine px_iast S hT hw 0 17 (n := 2100) (f := (na25 21)) (x := x7_2) (y := v29) rfl gp_21 (vp_in_iff.mpr (by constructor <;> omega)) d_Mpg_variables_27 (w' := wdP cs h r g tf ta pf24 (va_up na25 21 (upd (na25 21) x7_2.toNatClampNeg v29)) ma26 wa27 cf ca ef ea xf xa) (ps' := [wdP cs h r g tf ta pf24 (va_up na25 21 (upd (na25 21) x7_2.toNatClampNeg v29)) ma26 wa27 cf ca ef ea xf xa]) sp_21 rfl (fun H locs hw => ?_)
        obtain ⟨na44, hu_na44⟩ : ∃ y : Nat → Nat → Int32, y = va_up na25 21 (upd (na25 21) x7_2.toNatClampNeg v29) := ⟨_, rfl⟩
        have hw : pw D A s.heap _ _ [wdP cs h r g tf ta pf24 na44 ma26 wa27 cf ca ef ea xf xa] := (by rw [hu_na44]; exact hw)
        have hrw_v29 := row_s hrw_x7_2 (VlV.le hv_v29 (by omega) (Int.le_refl _) (Int.le_refl _) (by omega)) fv_ok (by omega) hu_na44
        have hn_hrw_v29 := hrw_v29.num
        have hf_21_x7_2 : na44 21 x7_2.toNatClampNeg = v29 := (by rw [hu_na44, va_up_s, pk_us])
        have hfs : FsI _ _ na44 := (by rw [hu_na44]; exact FsI.un hfs (by decide))
        have hfb : FrB (pf 13).toInt na ma na44 ma26 := (by rw [hu_na44]; exact FrB.un hfb (by omega) (by omega))
        refine lv_iload_n S.x S.b d_Mpg_variables_28 rfl (lv_at hl 0 rfl) ?_
        refine lv_istore_n (lv' := [(2, .int v29), (3, .int v29), (0, .ref h), (1, .int x7_1)]) S.x S.b d_Mpg_variables_29 rfl hl (by decide) rfl (fun ls hl => ?_)
        refine lv_goto (tgt := 7) S.x S.b d_Mpg_variables_30 (by decide) ?_
        first | exact ih7 pf24 na44 ma26 wa27 x7_1 v29 _ _ ls (show (pf 11).toInt + 1 ≤ (pf24 11).toInt from (oz_60a7c6baef k7_0 e30 e9 e8.1)) (show (pf24 11).toInt < (tf 6).toInt from e31) (show (pf 13).toInt + 1 ≤ (pf24 13).toInt from (oz_fab14cc7ba k7_2 e32 e13)) (show (pf24 13).toInt - (pf 13).toInt ≤ (pf24 11).toInt - (pf 11).toInt from (oz_69e545e602 k7_3 e33 e9 e13 e8.1)) (show bp ta (pf 11) + 1 ≤ bp ta (pf24 11) from (oz_fe0e09c3b2 k7_4 e34 e11 e8.1)) (show (pf24 12).toInt = (pf 12).toInt from (oz_e13fc83238 k7_5 e35 e12)) (show (pf24 24).toInt = (pf 24).toInt from (oz_e13fc83238 k7_6 e36 e14)) (show (pf24 25).toInt = (pf 25).toInt from (oz_e13fc83238 k7_7 e37 e15)) (show (pf24 26).toInt = (pf 26).toInt from (oz_e13fc83238 k7_8 e38 e16)) (show FrB (pf 13).toInt na ma na44 ma26 from hfb) (show FrW (pf 26).toInt wa wa27 from hfw) (show RwR ta (tf 6).toInt na44 ma26 x7_1 v29 (pf 13).toInt (pf24 13).toInt (3 * (bp ta (pf24 11) - bp ta (pf 11)) + 3) 130 from (RwV.le hrw_v29 (by omega) (by omega) (by omega) (by omega))) (show FsI (tf 6).toInt (pf24 13).toInt na44 from (FsI.le hfs (by omega))) (show K_mp_variables_7 ta pf na ma wa pf24 na44 ma26 wa27 x7_1 v29 from (fun y_f0 y_f1 y_f2 y_f3 y_v y_t k hE => k7_13 y_f0 y_f1 y_f2 y_f3 y_v y_t (k + 1) (Or.inr (Or.inl ⟨rfl, x7_1, x7_2, rfl, rfl, rfl, rfl, rfl, pf5, v7, e17, Or.inr ⟨nc18, Or.inr ⟨pf24, na25, ma26, wa27, v29, e43, na44, hu_na44, hE⟩⟩⟩)))) (show (tf 6).toInt - (pf24 11).toInt < (n_7 : Int) from (oz_1bf882f997 hm e30 e9 e8.1)) hw (lv_sub hl [2, 3, 0] rfl) | (exact ih7 pf24 na44 ma26 wa27 x7_1 v29 _ _ ls (show (pf 11).toInt + 1 ≤ (pf24 11).toInt from by first | exact oz_60a7c6baef k7_0 e30 e9 e8.1 | omega) (show (pf24 11).toInt < (tf 6).toInt from by first | exact e31 | omega) (show (pf 13).toInt + 1 ≤ (pf24 13).toInt from by first | exact oz_fab14cc7ba k7_2 e32 e13 | omega) (show (pf24 13).toInt - (pf 13).toInt ≤ (pf24 11).toInt - (pf 11).toInt from by first | exact oz_69e545e602 k7_3 e33 e9 e13 e8.1 | omega) (show bp ta (pf 11) + 1 ≤ bp ta (pf24 11) from by first | exact oz_fe0e09c3b2 k7_4 e34 e11 e8.1 | omega) (show (pf24 12).toInt = (pf 12).toInt from by first | exact oz_e13fc83238 k7_5 e35 e12 | omega) (show (pf24 24).toInt = (pf 24).toInt from by first | exact oz_e13fc83238 k7_6 e36 e14 | omega) (show (pf24 25).toInt = (pf 25).toInt from by first | exact oz_e13fc83238 k7_7 e37 e15 | omega) (show (pf24 26).toInt = (pf 26).toInt from by first | exact oz_e13fc83238 k7_8 e38 e16 | omega) (show FrB (pf 13).toInt na ma na44 ma26 from hfb) (show FrW (pf 26).toInt wa wa27 from hfw) (show RwR ta (tf 6).toInt na44 ma26 x7_1 v29 (pf 13).toInt (pf24 13).toInt (3 * (bp ta (pf24 11) - bp ta (pf 11)) + 3) 130 from (RwV.le hrw_v29 (by omega) (by omega) (by omega) (by omega))) (show FsI (tf 6).toInt (pf24 13).toInt na44 from (FsI.le hfs (by omega))) (show K_mp_variables_7 ta pf na ma wa pf24 na44 ma26 wa27 x7_1 v29 from (fun y_f0 y_f1 y_f2 y_f3 y_v y_t k hE => k7_13 y_f0 y_f1 y_f2 y_f3 y_v y_t (k + 1) (Or.inr (Or.inl ⟨rfl, x7_1, x7_2, rfl, rfl, rfl, rfl, rfl, pf5, v7, e17, Or.inr ⟨nc18, Or.inr ⟨pf24, na25, ma26, wa27, v29, e43, na44, hu_na44, hE⟩⟩⟩)))) (show (tf 6).toInt - (pf24 11).toInt < (n_7 : Int) from by first | exact oz_1bf882f997 hm e30 e9 e8.1 | omega) hw (lv_sub hl [2, 3, 0] rfl))
  refine lv_aload_n S.x S.b d_Mpg_variables_0 rfl (lv_at hl 0 rfl) ?_
  first | refine th_calli (ps0 := [wdP cs h r g tf ta pf na ma wa cf ca ef ea xf xa]) (pr := []) (pcs := [wdP cs h r g tf ta pf na ma wa cf ca ef ea xf xa]) (As := []) (rest := []) (c_mp_variable l D cs h r g tf ta cf ca ef ea xf xa pf na ma wa  lv (show 0 ≤ (pf 11).toInt from g0) (show (pf 11).toInt < (tf 6).toInt from g1) (show (tf 6).toInt ≤ 2049 from g2) (show 0 ≤ (pf 12).toInt from g3) (show (pf 12).toInt ≤ 60 from g4) (show 0 ≤ (pf 13).toInt from g5) (show (pf 13).toInt ≤ (pf 11).toInt + 10 from g6) (show 0 ≤ (pf 26).toInt from g7) (show (pf 26).toInt ≤ (pf 12).toInt from g8) (show 61 ≤ (pf 12).toInt + (lv : Int) from g9) (show lv ≤ 61 from g10) hlf htk (FsI.le (N' := (pf 13).toInt) hfs (by omega))) S hT hw (oX_call (P := (fun A U H => (oN A U H) ∧ (oP A g U H))) (pr := []) (oG_and oG_N oG_P) hw hA ⟨hN, hP⟩) (px_recv hT hw 0 0 rfl rfl rfl) m12_113 m12_110 m12_112 ms_10_13 m1_21 q_Mpg_variable ⟨show (8 * lv + 23) + 1 ≤ (8 * lv + 24) from (oz_b1689c77fe), show 8 + (2 + 11) + (220 * lv + 1080) ≤ (220 * lv + 1120) from (oz_af8f76027a)⟩ hl.1 rfl (Nat.le_of_ble_eq_true rfl) d_Mpg_variables_1 ⟨Nat.le_of_ble_eq_true rfl, Nat.le_of_ble_eq_true rfl⟩ hne hlk hA hAe (fun o t h => Or.inr h) ?_ (fun v54 p53 H locs hp53 hw => ?_) | (refine th_calli (ps0 := [wdP cs h r g tf ta pf na ma wa cf ca ef ea xf xa]) (pr := []) (pcs := [wdP cs h r g tf ta pf na ma wa cf ca ef ea xf xa]) (As := []) (rest := []) (c_mp_variable l D cs h r g tf ta cf ca ef ea xf xa pf na ma wa  lv (show 0 ≤ (pf 11).toInt from by first | exact g0 | omega) (show (pf 11).toInt < (tf 6).toInt from by first | exact g1 | omega) (show (tf 6).toInt ≤ 2049 from by first | exact g2 | omega) (show 0 ≤ (pf 12).toInt from by first | exact g3 | omega) (show (pf 12).toInt ≤ 60 from by first | exact g4 | omega) (show 0 ≤ (pf 13).toInt from by first | exact g5 | omega) (show (pf 13).toInt ≤ (pf 11).toInt + 10 from by first | exact g6 | omega) (show 0 ≤ (pf 26).toInt from by first | exact g7 | omega) (show (pf 26).toInt ≤ (pf 12).toInt from by first | exact g8 | omega) (show 61 ≤ (pf 12).toInt + (lv : Int) from by first | exact g9 | omega) (show lv ≤ 61 from by first | exact g10 | omega) hlf htk (FsI.le (N' := (pf 13).toInt) hfs (by omega))) S hT hw (oX_call (P := (fun A U H => (oN A U H) ∧ (oP A g U H))) (pr := []) (oG_and oG_N oG_P) hw hA ⟨hN, hP⟩) (px_recv hT hw 0 0 rfl rfl rfl) m12_113 m12_110 m12_112 ms_10_13 m1_21 q_Mpg_variable ⟨show (8 * lv + 23) + 1 ≤ (8 * lv + 24) from (by first | exact oz_b1689c77fe | omega), show 8 + (2 + 11) + (220 * lv + 1080) ≤ (220 * lv + 1120) from (by first | exact oz_af8f76027a | omega)⟩ hl.1 rfl (Nat.le_of_ble_eq_true rfl) d_Mpg_variables_1 ⟨Nat.le_of_ble_eq_true rfl, Nat.le_of_ble_eq_true rfl⟩ hne hlk hA hAe (fun o t h => Or.inr h) ?_ (fun v54 p53 H locs hp53 hw => ?_))
  · exact fun p1 H1 locs1 hp hw => by obtain ⟨pq1, pq2, pq3, pq4, rfl, hq1, hq2, hq3⟩ := hp; exact ⟨_, ⟨pq1, pq2, pq3, pq4, rfl, hq1, hq2, (Exists.intro 1 (Or.inl ⟨rfl, Or.inl ⟨pq1, pq2, pq3, pq4, hq3, rfl, rfl, rfl, rfl, rfl, rfl⟩⟩))⟩, hw⟩
  obtain ⟨pf49, na50, ma51, wa52, rfl, e55, e56, e57, e58, e59, e60, e61, e62, e63, e64, e65, e66, e67, e68⟩ := hp53
  have e55 : (pf 11).toInt + 1 ≤ (pf49 11).toInt := e55
  have e56 : (pf49 11).toInt < (tf 6).toInt := e56
  have e57 : (pf 13).toInt + 1 ≤ (pf49 13).toInt := e57
  have e58 : (pf49 13).toInt - (pf 13).toInt ≤ (pf49 11).toInt - (pf 11).toInt := e58
  have e59 : bp ta (pf 11) + 1 ≤ bp ta (pf49 11) := e59
  have e60 : (pf49 12).toInt = (pf 12).toInt := e60
  have e61 : (pf49 24).toInt = (pf 24).toInt := e61
  have e62 : (pf49 25).toInt = (pf 25).toInt := e62
  have e63 : (pf49 26).toInt = (pf 26).toInt := e63
  have e64 : FrB (pf 13).toInt na ma na50 ma51 := e64
  have hfb := hfb.tr e64 (by omega)
  have e65 : FrW (pf 26).toInt wa wa52 := e65
  have hfw := hfw.tr e65 (by omega)
  have e66 : VlR ta (tf 6).toInt na50 ma51 v54 (pf 13).toInt (pf49 13).toInt (3 * (bp ta (pf49 11) - bp ta (pf 11)) + 3) 130 := e66
  have hv_v54 := e66
  have hn_hv_v54 := hv_v54.num fv_ok
  have e67 : FsI (tf 6).toInt (pf49 13).toInt na50 := e67
  have hfs := e67
  have e68 : R_mp_variable ta pf na ma wa pf49 na50 ma51 wa52 v54 0 := e68
  have lv54 := Int32.le_toInt v54
  have uv54 := Int32.toInt_lt v54
  refine lv_istore_n (lv' := [(1, .int v54), (0, .ref h)]) S.x S.b d_Mpg_variables_4 rfl hl (by decide) rfl (fun ls hl => ?_)
  refine lv_iload_n S.x S.b d_Mpg_variables_5 rfl (lv_at hl 0 rfl) ?_
  refine lv_istore_n (lv' := [(2, .int v54), (1, .int v54), (0, .ref h)]) S.x S.b d_Mpg_variables_6 rfl hl (by decide) rfl (fun ls hl => ?_)
  first | exact J7 (((tf 6).toInt - (pf49 11).toInt).toNat + 1) pf49 na50 ma51 wa52 v54 v54 _ _ ls (show (pf 11).toInt + 1 ≤ (pf49 11).toInt from e55) (show (pf49 11).toInt < (tf 6).toInt from e56) (show (pf 13).toInt + 1 ≤ (pf49 13).toInt from e57) (show (pf49 13).toInt - (pf 13).toInt ≤ (pf49 11).toInt - (pf 11).toInt from e58) (show bp ta (pf 11) + 1 ≤ bp ta (pf49 11) from e59) (show (pf49 12).toInt = (pf 12).toInt from e60) (show (pf49 24).toInt = (pf 24).toInt from e61) (show (pf49 25).toInt = (pf 25).toInt from e62) (show (pf49 26).toInt = (pf 26).toInt from e63) (show FrB (pf 13).toInt na ma na50 ma51 from hfb) (show FrW (pf 26).toInt wa wa52 from hfw) (show RwR ta (tf 6).toInt na50 ma51 v54 v54 (pf 13).toInt (pf49 13).toInt (3 * (bp ta (pf49 11) - bp ta (pf 11)) + 3) 130 from (RwV.le (row_0 hv_v54 fv_ok) (by omega) (by omega) (by omega) (by omega))) (show FsI (tf 6).toInt (pf49 13).toInt na50 from (FsI.le hfs (by omega))) (show K_mp_variables_7 ta pf na ma wa pf49 na50 ma51 wa52 v54 v54 from (fun y_f0 y_f1 y_f2 y_f3 y_v y_t k hE => Exists.intro (k + 1) (Or.inl ⟨rfl, Or.inr ⟨pf49, na50, ma51, wa52, v54, e68, hE⟩⟩))) (show (tf 6).toInt - (pf49 11).toInt < (((((tf 6).toInt - (pf49 11).toInt).toNat + 1 : Nat) : Int) : Int) from oz_natlt) hw (lv_sub hl [2, 1, 0] rfl) | (exact J7 (((tf 6).toInt - (pf49 11).toInt).toNat + 1) pf49 na50 ma51 wa52 v54 v54 _ _ ls (show (pf 11).toInt + 1 ≤ (pf49 11).toInt from by first | exact e55 | omega) (show (pf49 11).toInt < (tf 6).toInt from by first | exact e56 | omega) (show (pf 13).toInt + 1 ≤ (pf49 13).toInt from by first | exact e57 | omega) (show (pf49 13).toInt - (pf 13).toInt ≤ (pf49 11).toInt - (pf 11).toInt from by first | exact e58 | omega) (show bp ta (pf 11) + 1 ≤ bp ta (pf49 11) from by first | exact e59 | omega) (show (pf49 12).toInt = (pf 12).toInt from by first | exact e60 | omega) (show (pf49 24).toInt = (pf 24).toInt from by first | exact e61 | omega) (show (pf49 25).toInt = (pf 25).toInt from by first | exact e62 | omega) (show (pf49 26).toInt = (pf 26).toInt from by first | exact e63 | omega) (show FrB (pf 13).toInt na ma na50 ma51 from hfb) (show FrW (pf 26).toInt wa wa52 from hfw) (show RwR ta (tf 6).toInt na50 ma51 v54 v54 (pf 13).toInt (pf49 13).toInt (3 * (bp ta (pf49 11) - bp ta (pf 11)) + 3) 130 from (RwV.le (row_0 hv_v54 fv_ok) (by omega) (by omega) (by omega) (by omega))) (show FsI (tf 6).toInt (pf49 13).toInt na50 from (FsI.le hfs (by omega))) (show K_mp_variables_7 ta pf na ma wa pf49 na50 ma51 wa52 v54 v54 from (fun y_f0 y_f1 y_f2 y_f3 y_v y_t k hE => Exists.intro (k + 1) (Or.inl ⟨rfl, Or.inr ⟨pf49, na50, ma51, wa52, v54, e68, hE⟩⟩))) (show (tf 6).toInt - (pf49 11).toInt < (((((tf 6).toInt - (pf49 11).toInt).toNat + 1 : Nat) : Int) : Int) from by first | exact oz_natlt | omega) hw (lv_sub hl [2, 1, 0] rfl))
abbrev b_Mpg_declaration : ByteArray := prog_16_method_47_code
def y_Mpg_declaration : MethodName := ⟨"HomeSystemModel$Program", "declaration", "()I"⟩
theorem d_Mpg_declaration_0 : decode b_Mpg_declaration 0 = .ok (.aload_n 0, 1) := by decide +kernel
theorem d_Mpg_declaration_1 : decode b_Mpg_declaration 1 = .ok (.bipush 23, 2) := by decide +kernel
theorem d_Mpg_declaration_3 : decode b_Mpg_declaration 3 = .ok (.aload_n 0, 1) := by decide +kernel
theorem d_Mpg_declaration_4 : decode b_Mpg_declaration 4 = .ok (.getfield 360, 3) := by decide +kernel
theorem d_Mpg_declaration_7 : decode b_Mpg_declaration 7 = .ok (.invokevirtual 406, 3) := by decide +kernel
theorem d_Mpg_declaration_10 : decode b_Mpg_declaration 10 = .ok (.istore_n 1, 1) := by decide +kernel
theorem d_Mpg_declaration_11 : decode b_Mpg_declaration 11 = .ok (.aload_n 0, 1) := by decide +kernel
theorem d_Mpg_declaration_12 : decode b_Mpg_declaration 12 = .ok (.getfield 231, 3) := by decide +kernel
theorem d_Mpg_declaration_15 : decode b_Mpg_declaration 15 = .ok (.iload_n 1, 1) := by decide +kernel
theorem d_Mpg_declaration_16 : decode b_Mpg_declaration 16 = .ok (.aload_n 0, 1) := by decide +kernel
theorem d_Mpg_declaration_17 : decode b_Mpg_declaration 17 = .ok (.getfield 204, 3) := by decide +kernel
theorem d_Mpg_declaration_20 : decode b_Mpg_declaration 20 = .ok (.aload_n 0, 1) := by decide +kernel
theorem d_Mpg_declaration_21 : decode b_Mpg_declaration 21 = .ok (.getfield 360, 3) := by decide +kernel
theorem d_Mpg_declaration_24 : decode b_Mpg_declaration 24 = .ok (.iaload, 1) := by decide +kernel
theorem d_Mpg_declaration_25 : decode b_Mpg_declaration 25 = .ok (.iastore, 1) := by decide +kernel
theorem d_Mpg_declaration_26 : decode b_Mpg_declaration 26 = .ok (.aload_n 0, 1) := by decide +kernel
theorem d_Mpg_declaration_27 : decode b_Mpg_declaration 27 = .ok (.dup, 1) := by decide +kernel
theorem d_Mpg_declaration_28 : decode b_Mpg_declaration 28 = .ok (.getfield 360, 3) := by decide +kernel
theorem d_Mpg_declaration_31 : decode b_Mpg_declaration 31 = .ok (.iconst 1, 1) := by decide +kernel
theorem d_Mpg_declaration_32 : decode b_Mpg_declaration 32 = .ok (.iadd, 1) := by decide +kernel
theorem d_Mpg_declaration_33 : decode b_Mpg_declaration 33 = .ok (.putfield 360, 3) := by decide +kernel
theorem d_Mpg_declaration_36 : decode b_Mpg_declaration 36 = .ok (.aload_n 0, 1) := by decide +kernel
theorem d_Mpg_declaration_37 : decode b_Mpg_declaration 37 = .ok (.getfield 216, 3) := by decide +kernel
theorem d_Mpg_declaration_40 : decode b_Mpg_declaration 40 = .ok (.iload_n 1, 1) := by decide +kernel
theorem d_Mpg_declaration_41 : decode b_Mpg_declaration 41 = .ok (.aload_n 0, 1) := by decide +kernel
theorem d_Mpg_declaration_42 : decode b_Mpg_declaration 42 = .ok (.invokevirtual 460, 3) := by decide +kernel
theorem d_Mpg_declaration_45 : decode b_Mpg_declaration 45 = .ok (.iastore, 1) := by decide +kernel
theorem d_Mpg_declaration_46 : decode b_Mpg_declaration 46 = .ok (.aload_n 0, 1) := by decide +kernel
theorem d_Mpg_declaration_47 : decode b_Mpg_declaration 47 = .ok (.ldc 101, 2) := by decide +kernel
theorem d_Mpg_declaration_49 : decode b_Mpg_declaration 49 = .ok (.invokevirtual 386, 3) := by decide +kernel
theorem d_Mpg_declaration_52 : decode b_Mpg_declaration 52 = .ok (.iload_n 1, 1) := by decide +kernel
theorem d_Mpg_declaration_53 : decode b_Mpg_declaration 53 = .ok (.ireturn, 1) := by decide +kernel
theorem q_Mpg_declaration : px_y y_Mpg_declaration 0 := by unfold px_y; decide +kernel
set_option maxHeartbeats 4000000 in
set_option maxRecDepth 100000 in
theorem c_mp_declaration (l : Launch) (D : va_G) (cs : Nat → ClassId) (h : Nat) (r : Nat → Nat) (g : Nat → Nat → Option Nat) (tf : Nat → Int32) (ta : Nat → Nat → Int32) (cf : Nat → Int32) (ca : Nat → Nat → Int32) (ef : Nat → Int32) (ea : Nat → Nat → Int32) (xf : Nat → Int32) (xa : Nat → Nat → Int32) (pf : Nat → Int32) (na : Nat → Nat → Int32) (ma : Nat → Nat → Int32) (wa : Nat → Nat → Int32) (lv : Nat) (g0 : 0 ≤ (pf 11).toInt) (g1 : (pf 11).toInt < (tf 6).toInt) (g2 : (tf 6).toInt ≤ 2049) (g3 : 0 ≤ (pf 12).toInt) (g4 : (pf 12).toInt ≤ 60) (g5 : 0 ≤ (pf 13).toInt) (g6 : (pf 13).toInt ≤ (pf 11).toInt + 10) (g7 : 0 ≤ (pf 26).toInt) (g8 : (pf 26).toInt ≤ (pf 12).toInt) (g9 : 61 ≤ (pf 12).toInt + (lv : Int)) (g10 : lv ≤ 61) (g11 : (pf 11).toInt + 1 < (tf 6).toInt) (g12 : so ta (pf 11) = 2) (g13 : 0 ≤ wh ta (pf 11)) (g14 : wh ta (pf 11) ≤ 1) (hlf : l.flags = pinnedFlags ++ [noTraceFlag]) (htk : TkI tf ta) (hfs : FsI (tf 6).toInt (pf 13).toInt na) : ThI l y_Mpg_declaration b_Mpg_declaration 2 (.int) D cs (8 * lv + 25) (220 * lv + 1160) [.ref h] [wdP cs h r g tf ta pf na ma wa cf ca ef ea xf xa] (oX (fun A U H => (oN A U H) ∧ (oP A g U H)) [wdP cs h r g tf ta pf na ma wa cf ca ef ea xf xa]) "java/lang/IllegalArgumentException" (fun v ps => ∃ (pf' : Nat → Int32) (na' : Nat → Nat → Int32) (ma' : Nat → Nat → Int32) (wa' : Nat → Nat → Int32), (ps = [wdP cs h r g tf ta pf' na' ma' wa' cf ca ef ea xf xa]) ∧ ((pf 11).toInt + 1 ≤ (pf' 11).toInt) ∧ ((pf' 11).toInt < (tf 6).toInt) ∧ ((pf 13).toInt + 1 ≤ (pf' 13).toInt) ∧ ((pf' 13).toInt - (pf 13).toInt ≤ (pf' 11).toInt - (pf 11).toInt) ∧ (bp ta (pf 11) + 1 ≤ bp ta (pf' 11)) ∧ ((pf' 12).toInt = (pf 12).toInt) ∧ ((pf' 24).toInt = (pf 24).toInt) ∧ ((pf' 25).toInt = (pf 25).toInt) ∧ ((pf' 26).toInt = (pf 26).toInt) ∧ (FrB (pf 13).toInt na ma na' ma') ∧ (FrW (pf 26).toInt wa wa') ∧ (VlS ta (tf 6).toInt na' ma' v (pf 13).toInt (pf' 13).toInt (3 * (bp ta (pf' 11) - bp ta (pf 11))) (200 - (pf 12).toInt)) ∧ (DcN na' v) ∧ (FsI (tf 6).toInt (pf' 13).toInt na') ∧ (R_mp_declaration ta pf na ma wa pf' na' ma' wa' v 0)) (fun ps => ∃ (pf' : Nat → Int32) (na' : Nat → Nat → Int32) (ma' : Nat → Nat → Int32) (wa' : Nat → Nat → Int32), ps = [wdP cs h r g tf ta pf' na' ma' wa' cf ca ef ea xf xa] ∧ 0 ≤ (pf' 11).toInt ∧ (pf' 11).toInt + 1 ≤ (tf 6).toInt ∧ R_mp_declaration ta pf na ma wa pf' na' ma' wa' 0 1) := by
  refine th_enter (by decide) (Nat.le_of_ble_eq_true rfl) ?_
  intro p e s m below meth c A ls hAe S hr hlk hnm hA hT hX hw hl hne hadm
  have hl : lv_has ls 2 [(0, .ref h)] := hl
  have cst1 : (1 : Int32).toInt = 1 := rfl
  have cst23 : (23 : Int32).toInt = 23 := rfl
  have hX : (fun A U H => (oN A U H) ∧ (oP A g U H)) A s s.heap := by rw [hAe]; exact hX
  obtain ⟨hN, hP⟩ := hX
  have hZ := hP.1
  have hF0 := hP.2.1
  have hfb : FrB (pf 13).toInt na ma na ma := FrB.rf
  have hfw : FrW (pf 26).toInt wa wa := FrW.rf
  refine lv_aload_n S.x S.b d_Mpg_declaration_0 rfl (lv_at hl 0 rfl) ?_
  refine lv_bipush (v := 23) S.x S.b d_Mpg_declaration_1 (by decide) ?_
  refine lv_aload_n S.x S.b d_Mpg_declaration_3 rfl (lv_at hl 0 rfl) ?_
  refine gP_11 (v := (pf 11)) S hT hw 0 rfl rfl m9_235 d_Mpg_declaration_4 ?_
  first | refine px_calli (pr := []) (px_runV (As := [.int 23, .int (pf 11)]) (rest := []) S (c_mp_make l D cs h r g tf ta wa cf ca ef ea xf xa pf na ma 23 (pf 11)  (show 0 ≤ (pf 13).toInt from g5) (show (pf 13).toInt < 2100 from (oz_1fa6c9b1b7 g6 g11 g2)) _) hT (pr := []) (pcs := [wdP cs h r g tf ta pf na ma wa cf ca ef ea xf xa]) hw px_X.tt (px_recv hT hw 0 0 rfl rfl rfl) m11_209 m11_206 m11_208 ms_8_12 m1_21 q_Mpg_make ⟨show 0 + 1 ≤ (8 * lv + 25) from (oz_be43429043), show 8 + (3 + 11) + 0 ≤ (220 * lv + 1160) from (oz_5ede5659e9)⟩ hl.1 rfl (Nat.le_of_ble_eq_true rfl) d_Mpg_declaration_7 ⟨Nat.le_of_ble_eq_true rfl, Nat.le_of_ble_eq_true rfl⟩) hw hA (fun v8 p7 H locs hp7 hw => ?_) | (refine px_calli (pr := []) (px_runV (As := [.int 23, .int (pf 11)]) (rest := []) S (c_mp_make l D cs h r g tf ta wa cf ca ef ea xf xa pf na ma 23 (pf 11)  (show 0 ≤ (pf 13).toInt from by first | exact g5 | omega) (show (pf 13).toInt < 2100 from by first | exact oz_1fa6c9b1b7 g6 g11 g2 | omega) _) hT (pr := []) (pcs := [wdP cs h r g tf ta pf na ma wa cf ca ef ea xf xa]) hw px_X.tt (px_recv hT hw 0 0 rfl rfl rfl) m11_209 m11_206 m11_208 ms_8_12 m1_21 q_Mpg_make ⟨show 0 + 1 ≤ (8 * lv + 25) from (by first | exact oz_be43429043 | omega), show 8 + (3 + 11) + 0 ≤ (220 * lv + 1160) from (by first | exact oz_5ede5659e9 | omega)⟩ hl.1 rfl (Nat.le_of_ble_eq_true rfl) d_Mpg_declaration_7 ⟨Nat.le_of_ble_eq_true rfl, Nat.le_of_ble_eq_true rfl⟩) hw hA (fun v8 p7 H locs hp7 hw => ?_))
  obtain ⟨pf4, na5, ma6, rfl, e9, e10, e11, e12, e13, e14, e15, e16, e17⟩ := hp7
  have e9 : v8.toInt = (pf 13).toInt := e9
  have e10 : (pf4 13).toInt = (pf 13).toInt + 1 := e10
  have e11 : (pf4 11).toInt = (pf 11).toInt := e11
  have e12 : (pf4 12).toInt = (pf 12).toInt := e12
  have e13 : (pf4 24).toInt = (pf 24).toInt := e13
  have e14 : (pf4 25).toInt = (pf 25).toInt := e14
  have e15 : (pf4 26).toInt = (pf 26).toInt := e15
  have e16 : MkN na ma na5 ma6 v8 (23 : Int32) (pf 11) := e16
  have e17 : R_mp_make (23 : Int32) (pf 11) pf na ma pf4 na5 ma6 v8 := e17
  obtain ⟨qb181, qb182, qb183, qb184⟩ := tk_eq (ta := ta) (x := (pf4 11)) (y := (pf 11)) (by omega)
  have hmk_v8 := e16
  have hfm_v8 := MkN.frb (b := v8.toInt) hmk_v8 (by omega) (by omega)
  have hfs := FsI.mk hfs hmk_v8 (by omega) (by omega) (by omega) (by omega)
  have hfb := hfb.tr hfm_v8 (by omega)
  have hf_14_v8 := hmk_v8.2.1 (by decide) (by decide)
  have hf_15_v8 := hmk_v8.2.2.1
  have hf_17_v8 := hmk_v8.2.2.2.2.1
  have hf_21_v8 := hmk_v8.2.2.2.2.2.2.2.2.1
  clear hmk_v8 hfm_v8
  have lv8 := Int32.le_toInt v8
  have uv8 := Int32.toInt_lt v8
  refine lv_istore_n (lv' := [(1, .int v8), (0, .ref h)]) S.x S.b d_Mpg_declaration_10 rfl hl (by decide) rfl (fun ls hl => ?_)
  refine lv_aload_n S.x S.b d_Mpg_declaration_11 rfl (lv_at hl 1 rfl) ?_
  refine gP_22 S hT hw 0 rfl m10_9 d_Mpg_declaration_12 ?_
  refine lv_iload_n S.x S.b d_Mpg_declaration_15 rfl (lv_at hl 0 rfl) ?_
  refine lv_aload_n S.x S.b d_Mpg_declaration_16 rfl (lv_at hl 1 rfl) ?_
  refine gP_10 S hT hw 0 rfl m9_234 d_Mpg_declaration_17 ?_
  refine lv_aload_n S.x S.b d_Mpg_declaration_20 rfl (lv_at hl 1 rfl) ?_
  refine gP_11 (v := (pf4 11)) S hT hw 0 rfl rfl m9_235 d_Mpg_declaration_21 ?_
  refine px_iald S hT hw 0 9 (n := 2060) (f := (ta 10)) rfl gp_10 (x := (pf4 11)) (vp_in_iff.mpr (by first | exact oz_935cf6b5f1 e11 g0 g11 g2 | (constructor <;> omega))) d_Mpg_declaration_24 ?_
  refine lv_topi (fun z19 ez19 => ?_)
  have lz19 := Int32.le_toInt z19
  have uz19 := Int32.toInt_lt z19
  have rz19 : z19.toInt = wh ta (pf4 11) := by rw [ez19]; rfl
  refine px_iast S hT hw 0 18 (n := 2100) (f := (ma6 22)) (x := v8) (y := z19) rfl gp_22 (vp_in_iff.mpr (by constructor <;> omega)) d_Mpg_declaration_25 (w' := wdP cs h r g tf ta pf4 na5 (va_up ma6 22 (upd (ma6 22) v8.toNatClampNeg z19)) wa cf ca ef ea xf xa) (ps' := [wdP cs h r g tf ta pf4 na5 (va_up ma6 22 (upd (ma6 22) v8.toNatClampNeg z19)) wa cf ca ef ea xf xa]) sp_22 rfl (fun H locs hw => ?_)
  obtain ⟨ma20, hu_ma20⟩ : ∃ y : Nat → Nat → Int32, y = va_up ma6 22 (upd (ma6 22) v8.toNatClampNeg z19) := ⟨_, rfl⟩
  have hw : pw D A s.heap _ _ [wdP cs h r g tf ta pf4 na5 ma20 wa cf ca ef ea xf xa] := (by rw [hu_ma20]; exact hw)
  have hf_22_v8 : ma20 22 v8.toNatClampNeg = z19 := (by rw [hu_ma20, va_up_s, pk_us])
  have hfb : FrB (pf 13).toInt na ma na5 ma20 := (by rw [hu_ma20]; exact FrB.um hfb (by omega) (by omega))
  refine lv_aload_n S.x S.b d_Mpg_declaration_26 rfl (lv_at hl 1 rfl) ?_
  refine lv_dup S.x S.b d_Mpg_declaration_27 rfl ?_
  refine gP_11 (v := (pf4 11)) S hT hw 0 rfl rfl m9_235 d_Mpg_declaration_28 ?_
  refine lv_iconst (v := 1) S.x S.b d_Mpg_declaration_31 (by decide) ?_
  refine lv_iadd S.x S.b d_Mpg_declaration_32 ?_
  have lr21 := Int32.le_toInt (pf4 11)
  have ur21 := Int32.toInt_lt (pf4 11)
  refine lv_topi (fun z22 ez22 => ?_)
  have tz22 : z22.toInt = ((pf4 11).toInt + (1 : Int) + 2147483648) % 4294967296 - 2147483648 := by rw [ez22]; exact i_add (pf4 11) 1
  have lz22 := Int32.le_toInt z22
  have uz22 := Int32.toInt_lt z22
  try replace tz22 : z22.toInt = (pf4 11).toInt + (1 : Int) := by omega
  have hnx32 := tk_n htk (x := (pf4 11)) (y := z22) (by omega) (by omega) (by omega)
  refine pP_11 S hT hw 0 rfl m9_235 rfl rfl rfl d_Mpg_declaration_33 (ps' := [wdP cs h r g tf ta (upd pf4 11 z22) na5 ma20 wa cf ca ef ea xf xa]) rfl (fun H locs hw => ?_)
  refine lv_aload_n S.x S.b d_Mpg_declaration_36 rfl (lv_at hl 1 rfl) ?_
  refine gP_17 S hT hw 0 rfl m10_1 d_Mpg_declaration_37 ?_
  refine lv_iload_n S.x S.b d_Mpg_declaration_40 rfl (lv_at hl 0 rfl) ?_
  refine lv_aload_n S.x S.b d_Mpg_declaration_41 rfl (lv_at hl 1 rfl) ?_
  first | refine th_calli (ps0 := [wdP cs h r g tf ta pf na ma wa cf ca ef ea xf xa]) (pr := []) (pcs := [wdP cs h r g tf ta (upd pf4 11 z22) na5 ma20 wa cf ca ef ea xf xa]) (As := []) (rest := [.int v8, .ref (r 17)]) (c_mp_variables l D cs h r g tf ta cf ca ef ea xf xa (upd pf4 11 z22) na5 ma20 wa  lv (show 0 ≤ z22.toInt from (oz_9bc226aaf4 tz22 e11 g0)) (show z22.toInt < (tf 6).toInt from (oz_93bebfa6cb g11 tz22 e11)) (show (tf 6).toInt ≤ 2049 from g2) (show 0 ≤ (pf4 12).toInt from (oz_f3ebed1ad0 e12 g3)) (show (pf4 12).toInt ≤ 60 from (oz_a3db38fa3c e12 g4)) (show 0 ≤ (pf4 13).toInt from (oz_ae613611c0 e10 g5)) (show (pf4 13).toInt ≤ z22.toInt + 10 from (oz_49be2cf98c e10 tz22 g6 e11)) (show 0 ≤ (pf4 26).toInt from (oz_f3ebed1ad0 e15 g7)) (show (pf4 26).toInt ≤ (pf4 12).toInt from (oz_508dc9c651 e12 e15 g8)) (show 61 ≤ (pf4 12).toInt + (lv : Int) from (oz_13a538c620 g9 e12)) (show lv ≤ 61 from g10) hlf htk (FsI.le (N' := (pf4 13).toInt) hfs (by omega))) S hT hw (oX_call (P := (fun A U H => (oN A U H) ∧ (oP A g U H))) (pr := []) (oG_and oG_N oG_P) hw hA ⟨hN, hP⟩) (px_recv hT hw 0 0 rfl rfl rfl) m12_109 m12_106 m12_108 ms_10_12 m1_21 q_Mpg_variables ⟨show (8 * lv + 24) + 1 ≤ (8 * lv + 25) from (oz_aa346cce6a), show 8 + (4 + 11) + (220 * lv + 1120) ≤ (220 * lv + 1160) from (oz_34fdbe3ac9)⟩ hl.1 rfl (Nat.le_of_ble_eq_true rfl) d_Mpg_declaration_42 ⟨Nat.le_of_ble_eq_true rfl, Nat.le_of_ble_eq_true rfl⟩ hne hlk hA hAe (fun o t h => Or.inr h) ?_ (fun v32 p31 H locs hp31 hw => ?_) | (refine th_calli (ps0 := [wdP cs h r g tf ta pf na ma wa cf ca ef ea xf xa]) (pr := []) (pcs := [wdP cs h r g tf ta (upd pf4 11 z22) na5 ma20 wa cf ca ef ea xf xa]) (As := []) (rest := [.int v8, .ref (r 17)]) (c_mp_variables l D cs h r g tf ta cf ca ef ea xf xa (upd pf4 11 z22) na5 ma20 wa  lv (show 0 ≤ z22.toInt from by first | exact oz_9bc226aaf4 tz22 e11 g0 | omega) (show z22.toInt < (tf 6).toInt from by first | exact oz_93bebfa6cb g11 tz22 e11 | omega) (show (tf 6).toInt ≤ 2049 from by first | exact g2 | omega) (show 0 ≤ (pf4 12).toInt from by first | exact oz_f3ebed1ad0 e12 g3 | omega) (show (pf4 12).toInt ≤ 60 from by first | exact oz_a3db38fa3c e12 g4 | omega) (show 0 ≤ (pf4 13).toInt from by first | exact oz_ae613611c0 e10 g5 | omega) (show (pf4 13).toInt ≤ z22.toInt + 10 from by first | exact oz_49be2cf98c e10 tz22 g6 e11 | omega) (show 0 ≤ (pf4 26).toInt from by first | exact oz_f3ebed1ad0 e15 g7 | omega) (show (pf4 26).toInt ≤ (pf4 12).toInt from by first | exact oz_508dc9c651 e12 e15 g8 | omega) (show 61 ≤ (pf4 12).toInt + (lv : Int) from by first | exact oz_13a538c620 g9 e12 | omega) (show lv ≤ 61 from by first | exact g10 | omega) hlf htk (FsI.le (N' := (pf4 13).toInt) hfs (by omega))) S hT hw (oX_call (P := (fun A U H => (oN A U H) ∧ (oP A g U H))) (pr := []) (oG_and oG_N oG_P) hw hA ⟨hN, hP⟩) (px_recv hT hw 0 0 rfl rfl rfl) m12_109 m12_106 m12_108 ms_10_12 m1_21 q_Mpg_variables ⟨show (8 * lv + 24) + 1 ≤ (8 * lv + 25) from (by first | exact oz_aa346cce6a | omega), show 8 + (4 + 11) + (220 * lv + 1120) ≤ (220 * lv + 1160) from (by first | exact oz_34fdbe3ac9 | omega)⟩ hl.1 rfl (Nat.le_of_ble_eq_true rfl) d_Mpg_declaration_42 ⟨Nat.le_of_ble_eq_true rfl, Nat.le_of_ble_eq_true rfl⟩ hne hlk hA hAe (fun o t h => Or.inr h) ?_ (fun v32 p31 H locs hp31 hw => ?_))
  · exact fun p1 H1 locs1 hp hw => by obtain ⟨pq1, pq2, pq3, pq4, rfl, hq1, hq2, hq3⟩ := hp; exact ⟨_, ⟨pq1, pq2, pq3, pq4, rfl, hq1, hq2, (Or.inl ⟨pf4, na5, ma6, v8, e17, z19, ez19, ma20, hu_ma20, z22, ez22, Or.inl ⟨pq1, pq2, pq3, pq4, hq3, rfl, rfl, rfl, rfl, rfl, rfl⟩⟩)⟩, hw⟩
  obtain ⟨pf27, na28, ma29, wa30, rfl, e33, e34, e35, e36, e37, e38, e39, e40, e41, e42, e43, e44, e45, e46⟩ := hp31
  have e33 : z22.toInt + 1 ≤ (pf27 11).toInt := e33
  have e34 : (pf27 11).toInt < (tf 6).toInt := e34
  have e35 : (pf4 13).toInt + 1 ≤ (pf27 13).toInt := e35
  have e36 : (pf27 13).toInt - (pf4 13).toInt ≤ (pf27 11).toInt - z22.toInt := e36
  have e37 : bp ta z22 + 1 ≤ bp ta (pf27 11) := e37
  have e38 : (pf27 12).toInt = (pf4 12).toInt := e38
  have e39 : (pf27 24).toInt = (pf4 24).toInt := e39
  have e40 : (pf27 25).toInt = (pf4 25).toInt := e40
  have e41 : (pf27 26).toInt = (pf4 26).toInt := e41
  have e42 : FrB (pf4 13).toInt na5 ma20 na28 ma29 := e42
  have hf_14_v8 := (fb_n e42 (by omega) (by omega)).trans hf_14_v8
  have hf_15_v8 := (fb_n e42 (by omega) (by omega)).trans hf_15_v8
  have hf_17_v8 := (fb_n e42 (by omega) (by omega)).trans hf_17_v8
  have hf_21_v8 := (fb_n e42 (by omega) (by omega)).trans hf_21_v8
  have hf_22_v8 := (fb_m e42 (by omega) (by omega)).trans hf_22_v8
  have hfb := hfb.tr e42 (by omega)
  have e43 : FrW (pf4 26).toInt wa wa30 := e43
  have hfw := hfw.tr e43 (by omega)
  have e44 : RlR ta (tf 6).toInt na28 ma29 v32 (pf4 13).toInt (pf27 13).toInt (3 * (bp ta (pf27 11) - bp ta z22) + 3) 130 := e44
  have hl_v32 := e44
  have hn_hl_v32 := hl_v32.num
  have e45 : FsI (tf 6).toInt (pf27 13).toInt na28 := e45
  have hfs := e45
  have e46 : R_mp_variables ta (upd pf4 11 z22) na5 ma20 wa pf27 na28 ma29 wa30 v32 0 := e46
  have lv32 := Int32.le_toInt v32
  have uv32 := Int32.toInt_lt v32
  refine px_iast S hT hw 0 13 (n := 2100) (f := (na28 17)) (x := v8) (y := v32) rfl gp_17 (vp_in_iff.mpr (by constructor <;> omega)) d_Mpg_declaration_45 (w' := wdP cs h r g tf ta pf27 (va_up na28 17 (upd (na28 17) v8.toNatClampNeg v32)) ma29 wa30 cf ca ef ea xf xa) (ps' := [wdP cs h r g tf ta pf27 (va_up na28 17 (upd (na28 17) v8.toNatClampNeg v32)) ma29 wa30 cf ca ef ea xf xa]) sp_17 rfl (fun H locs hw => ?_)
  obtain ⟨na47, hu_na47⟩ : ∃ y : Nat → Nat → Int32, y = va_up na28 17 (upd (na28 17) v8.toNatClampNeg v32) := ⟨_, rfl⟩
  have hw : pw D A s.heap _ _ [wdP cs h r g tf ta pf27 na47 ma29 wa30 cf ca ef ea xf xa] := (by rw [hu_na47]; exact hw)
  have hl_v32 := hl_v32.ag fv_ok (ag_n hu_na47 (by omega) (by omega))
  have hf_14_v8 := (fl_n hu_na47 (by decide)).trans hf_14_v8
  have hf_15_v8 := (fl_n hu_na47 (by decide)).trans hf_15_v8
  have hf_21_v8 := (fl_n hu_na47 (by decide)).trans hf_21_v8
  have hf_17_v8 : na47 17 v8.toNatClampNeg = v32 := (by rw [hu_na47, va_up_s, pk_us])
  have hfs : FsI _ _ na47 := (by rw [hu_na47]; exact FsI.un hfs (by decide))
  have hfb : FrB (pf 13).toInt na ma na47 ma29 := (by rw [hu_na47]; exact FrB.un hfb (by omega) (by omega))
  refine lv_aload_n S.x S.b d_Mpg_declaration_46 rfl (lv_at hl 1 rfl) ?_
  obtain ⟨sk48, hRsk48, st49, hSsk48⟩ := oP_litB hP (k := 101) (tx := ";") (n := 1) (List.mem_of_getElem? (i := 42) rfl)
  refine va_ldcS S.x S.b S.own hRsk48 d_Mpg_declaration_47 ?_
  first | refine th_callv (ps0 := [wdP cs h r g tf ta pf na ma wa cf ca ef ea xf xa]) (pr := []) (pcs := [wdP cs h r g tf ta pf27 na47 ma29 wa30 cf ca ef ea xf xa]) (As := [.ref sk48]) (rest := []) (c_mp_take l D cs sk48 1 (lby ";") h r g tf ta na47 ma29 wa30 cf ca ef ea xf xa pf27   (show 0 ≤ (pf27 11).toInt from (oz_5ec5cff5c7 e33 tz22 g0 e11)) (show (pf27 11).toInt < (tf 6).toInt from e34) (show (tf 6).toInt ≤ 2049 from g2) (show 1 ≤ 100 from by omega) hlf htk) S hT hw (oX_call (P := (fun A U H => (oN A U H) ∧ (oP A g U H) ∧ (StLt A sk48 1 (lby ";") U H))) (pr := []) (oG_and oG_N (oG_and oG_P oG_QB)) hw hA ⟨hN, hP, ⟨_, hSsk48⟩⟩) (px_recv hT hw 0 0 rfl rfl rfl) m12_57 m12_54 m12_56 ms_9_15 m1_21 q_Mpg_take ⟨show 7 + 1 ≤ (8 * lv + 25) from (oz_d9162dcc32), show 8 + (2 + 11) + 230 ≤ (220 * lv + 1160) from (oz_8dc84fedcb)⟩ hl.1 rfl (Nat.le_of_ble_eq_true rfl) d_Mpg_declaration_49 ⟨Nat.le_of_ble_eq_true rfl, Nat.le_of_ble_eq_true rfl⟩ hne hlk hA hAe (fun o t h => Or.inr h) ?_ (fun p53 H locs hp53 hw => ?_) | (refine th_callv (ps0 := [wdP cs h r g tf ta pf na ma wa cf ca ef ea xf xa]) (pr := []) (pcs := [wdP cs h r g tf ta pf27 na47 ma29 wa30 cf ca ef ea xf xa]) (As := [.ref sk48]) (rest := []) (c_mp_take l D cs sk48 1 (lby ";") h r g tf ta na47 ma29 wa30 cf ca ef ea xf xa pf27   (show 0 ≤ (pf27 11).toInt from by first | exact oz_5ec5cff5c7 e33 tz22 g0 e11 | omega) (show (pf27 11).toInt < (tf 6).toInt from by first | exact e34 | omega) (show (tf 6).toInt ≤ 2049 from by first | exact g2 | omega) (show 1 ≤ 100 from by omega) hlf htk) S hT hw (oX_call (P := (fun A U H => (oN A U H) ∧ (oP A g U H) ∧ (StLt A sk48 1 (lby ";") U H))) (pr := []) (oG_and oG_N (oG_and oG_P oG_QB)) hw hA ⟨hN, hP, ⟨_, hSsk48⟩⟩) (px_recv hT hw 0 0 rfl rfl rfl) m12_57 m12_54 m12_56 ms_9_15 m1_21 q_Mpg_take ⟨show 7 + 1 ≤ (8 * lv + 25) from (by first | exact oz_d9162dcc32 | omega), show 8 + (2 + 11) + 230 ≤ (220 * lv + 1160) from (by first | exact oz_8dc84fedcb | omega)⟩ hl.1 rfl (Nat.le_of_ble_eq_true rfl) d_Mpg_declaration_49 ⟨Nat.le_of_ble_eq_true rfl, Nat.le_of_ble_eq_true rfl⟩ hne hlk hA hAe (fun o t h => Or.inr h) ?_ (fun p53 H locs hp53 hw => ?_))
  · exact fun p1 H1 locs1 hp hw => by obtain ⟨pq1, pq2, pq3, pq4, rfl, hq1, hq2, hu_na, hu_ma, hu_wa, hq3⟩ := hp; exact ⟨_, ⟨pq1, pq2, pq3, pq4, rfl, hq1, hq2, (Or.inl ⟨pf4, na5, ma6, v8, e17, z19, ez19, ma20, hu_ma20, z22, ez22, Or.inr ⟨pf27, na28, ma29, wa30, v32, e46, na47, hu_na47, Or.inl ⟨pq1, hq3, rfl, hu_na, hu_ma, hu_wa, rfl, rfl⟩⟩⟩)⟩, hw⟩
  obtain ⟨pf52, rfl, e55, e56, e57, e58, e59, e60, e61, e62, e63⟩ := hp53
  have e55 : (pf52 11).toInt = (pf27 11).toInt + 1 := e55
  have e56 : (pf52 11).toInt < (tf 6).toInt := e56
  have e57 : bp ta (pf27 11) + 1 ≤ bp ta (pf52 11) := e57
  have e58 : (pf52 12).toInt = (pf27 12).toInt := e58
  have e59 : (pf52 13).toInt = (pf27 13).toInt := e59
  have e60 : (pf52 24).toInt = (pf27 24).toInt := e60
  have e61 : (pf52 25).toInt = (pf27 25).toInt := e61
  have e62 : (pf52 26).toInt = (pf27 26).toInt := e62
  have e63 : R_mp_take 1 (lby ";") ta pf27 pf52 0 := e63
  refine lv_iload_n S.x S.b d_Mpg_declaration_52 rfl (lv_at hl 0 rfl) ?_
  first | exact th_iret (v := v8) S hr rfl hlk hAe hw (⟨pf52, na47, ma29, wa30, rfl, (show (pf 11).toInt + 1 ≤ (pf52 11).toInt from (oz_e69ebdcefb e11 e55 tz22 e33)), (show (pf52 11).toInt < (tf 6).toInt from e56), (show (pf 13).toInt + 1 ≤ (pf52 13).toInt from (oz_b67d4358c9 e10 e59 e35)), (show (pf52 13).toInt - (pf 13).toInt ≤ (pf52 11).toInt - (pf 11).toInt from (oz_85dfe7ce3a e10 e11 e55 e59 tz22 e36)), (show bp ta (pf 11) + 1 ≤ bp ta (pf52 11) from (oz_b24f33b5c5 qb181 e57 hnx32.1 e37 hnx32.2)), (show (pf52 12).toInt = (pf 12).toInt from (oz_e13fc83238 e12 e58 e38)), (show (pf52 24).toInt = (pf 24).toInt from (oz_e13fc83238 e13 e60 e39)), (show (pf52 25).toInt = (pf 25).toInt from (oz_e13fc83238 e14 e61 e40)), (show (pf52 26).toInt = (pf 26).toInt from (oz_e13fc83238 e15 e62 e41)), (show FrB (pf 13).toInt na ma na47 ma29 from hfb), (show FrW (pf 26).toInt wa wa30 from hfw), (show VlS ta (tf 6).toInt na47 ma29 v8 (pf 13).toInt (pf52 13).toInt (3 * (bp ta (pf52 11) - bp ta (pf 11))) (200 - (pf 12).toInt) from (VlV.le (st_decl (hi := (pf52 13).toInt) (D := 130) ⟨by omega, hf_14_v8, hf_15_v8, ⟨by omega, by omega⟩, hf_21_v8⟩ hf_17_v8 hf_22_v8 (by omega) (by omega) (lo := v8.toInt + 1) (RlV.le hl_v32 (by omega) (by omega) (Int.le_refl _) (Int.le_refl _)) (by omega)) (by omega) (by omega) (by omega) (by omega))), (show DcN na47 v8 from hf_14_v8), (show FsI (tf 6).toInt (pf52 13).toInt na47 from (FsI.le hfs (by omega))), (show R_mp_declaration ta pf na ma wa pf52 na47 ma29 wa30 v8 0 from (Or.inl ⟨pf4, na5, ma6, v8, e17, z19, ez19, ma20, hu_ma20, z22, ez22, Or.inr ⟨pf27, na28, ma29, wa30, v32, e46, na47, hu_na47, Or.inr ⟨pf52, e63, rfl, rfl, rfl, rfl, rfl, rfl⟩⟩⟩))⟩) d_Mpg_declaration_53 | (exact th_iret (v := v8) S hr rfl hlk hAe hw (⟨pf52, na47, ma29, wa30, rfl, (show (pf 11).toInt + 1 ≤ (pf52 11).toInt from by first | exact oz_e69ebdcefb e11 e55 tz22 e33 | omega), (show (pf52 11).toInt < (tf 6).toInt from by first | exact e56 | omega), (show (pf 13).toInt + 1 ≤ (pf52 13).toInt from by first | exact oz_b67d4358c9 e10 e59 e35 | omega), (show (pf52 13).toInt - (pf 13).toInt ≤ (pf52 11).toInt - (pf 11).toInt from by first | exact oz_85dfe7ce3a e10 e11 e55 e59 tz22 e36 | omega), (show bp ta (pf 11) + 1 ≤ bp ta (pf52 11) from by first | exact oz_b24f33b5c5 qb181 e57 hnx32.1 e37 hnx32.2 | omega), (show (pf52 12).toInt = (pf 12).toInt from by first | exact oz_e13fc83238 e12 e58 e38 | omega), (show (pf52 24).toInt = (pf 24).toInt from by first | exact oz_e13fc83238 e13 e60 e39 | omega), (show (pf52 25).toInt = (pf 25).toInt from by first | exact oz_e13fc83238 e14 e61 e40 | omega), (show (pf52 26).toInt = (pf 26).toInt from by first | exact oz_e13fc83238 e15 e62 e41 | omega), (show FrB (pf 13).toInt na ma na47 ma29 from hfb), (show FrW (pf 26).toInt wa wa30 from hfw), (show VlS ta (tf 6).toInt na47 ma29 v8 (pf 13).toInt (pf52 13).toInt (3 * (bp ta (pf52 11) - bp ta (pf 11))) (200 - (pf 12).toInt) from (VlV.le (st_decl (hi := (pf52 13).toInt) (D := 130) ⟨by omega, hf_14_v8, hf_15_v8, ⟨by omega, by omega⟩, hf_21_v8⟩ hf_17_v8 hf_22_v8 (by omega) (by omega) (lo := v8.toInt + 1) (RlV.le hl_v32 (by omega) (by omega) (Int.le_refl _) (Int.le_refl _)) (by omega)) (by omega) (by omega) (by omega) (by omega))), (show DcN na47 v8 from hf_14_v8), (show FsI (tf 6).toInt (pf52 13).toInt na47 from (FsI.le hfs (by omega))), (show R_mp_declaration ta pf na ma wa pf52 na47 ma29 wa30 v8 0 from (Or.inl ⟨pf4, na5, ma6, v8, e17, z19, ez19, ma20, hu_ma20, z22, ez22, Or.inr ⟨pf27, na28, ma29, wa30, v32, e46, na47, hu_na47, Or.inr ⟨pf52, e63, rfl, rfl, rfl, rfl, rfl, rfl⟩⟩⟩))⟩) d_Mpg_declaration_53)
