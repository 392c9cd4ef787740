theorem oz_39c814ab45 {a0 : Int} (h0 : a0 = (0 : Int) + 1) : a0 = 1 := by omega
theorem oz_79f1cc74f5 {a0 a1 : Int} (h0 : a0 = a1 + 1) (h1 : a1 = (0 : Int) + 1) : a0 = 2 := by omega
theorem oz_c9d377c832 {a0 a1 a2 : Int} (h0 : a0 = a1 + 1) (h1 : a1 = a2 + 1) (h2 : a2 = (0 : Int) + 1) : a0 = 3 := by omega
theorem oz_a284d1c5e4 {a0 a1 a2 a3 : Int} (h0 : a0 = a1 + 1) (h1 : a1 = a2 + 1) (h2 : a2 = a3 + 1) (h3 : a3 = (0 : Int) + 1) : a0 = 4 := by omega
theorem oz_e4e65ac650 {a0 a1 a2 a3 a4 : Int} (h0 : a0 = a1 + 1) (h1 : a1 = a2 + 1) (h2 : a2 = a3 + 1) (h3 : a3 = a4 + 1) (h4 : a4 = (0 : Int) + 1) : a0 = 5 := by omega
theorem oz_2c15fec20a {a0 a1 a2 a3 a4 a5 : Int} (h0 : a0 = a1 + 1) (h1 : a1 = a2 + 1) (h2 : a2 = a3 + 1) (h3 : a3 = a4 + 1) (h4 : a4 = a5 + 1) (h5 : a5 = (0 : Int) + 1) : a0 = 6 := by omega
theorem oz_351b2949af {a0 a1 a2 a3 a4 a5 a6 : Int} (h0 : a0 = a1 + 1) (h1 : a1 = a2 + 1) (h2 : a2 = a3 + 1) (h3 : a3 = a4 + 1) (h4 : a4 = a5 + 1) (h5 : a5 = a6 + 1) (h6 : a6 = (0 : Int) + 1) : a0 = 7 := by omega
theorem oz_669628ecb5 {a0 a1 a2 a3 a4 a5 a6 a7 : Int} (h0 : a0 = a1 + 1) (h1 : a1 = a2 + 1) (h2 : a2 = a3 + 1) (h3 : a3 = a4 + 1) (h4 : a4 = a5 + 1) (h5 : a5 = a6 + 1) (h6 : a6 = a7 + 1) (h7 : a7 = (0 : Int) + 1) : a0 = 8 := by omega
theorem oz_f8280fa592 {a0 a1 a2 a3 a4 a5 a6 a7 a8 : Int} (h0 : a0 = a1 + 1) (h1 : a1 = a2 + 1) (h2 : a2 = a3 + 1) (h3 : a3 = a4 + 1) (h4 : a4 = a5 + 1) (h5 : a5 = a6 + 1) (h6 : a6 = a7 + 1) (h7 : a7 = a8 + 1) (h8 : a8 = (0 : Int) + 1) : a0 = 9 := by omega
theorem oz_eb9ee4bb92 {a0 a1 a2 a3 a4 a5 a6 a7 a8 a9 : Int} (h0 : a0 = a1 + 1) (h1 : a1 = a2 + 1) (h2 : a2 = a3 + 1) (h3 : a3 = a4 + 1) (h4 : a4 = a5 + 1) (h5 : a5 = a6 + 1) (h6 : a6 = a7 + 1) (h7 : a7 = a8 + 1) (h8 : a8 = a9 + 1) (h9 : a9 = (0 : Int) + 1) : a0 = 10 := by omega
theorem oz_f27056b260 {a0 a1 a2 a3 a4 a5 a6 a7 a8 a9 a10 : Int} (h0 : a0 = a1 + 1) (h1 : a1 = a2 + 1) (h2 : a2 = a3 + 1) (h3 : a3 = a4 + 1) (h4 : a4 = a5 + 1) (h5 : a5 = a6 + 1) (h6 : a6 = a7 + 1) (h7 : a7 = a8 + 1) (h8 : a8 = a9 + 1) (h9 : a9 = a10 + 1) (h10 : a10 = (0 : Int) + 1) : a0 = 11 := by omega
theorem oz_86a12bc574 {a0 a1 a2 a3 a4 a5 a6 a7 a8 a9 a10 a11 : Int} (h0 : a0 = a1 + 1) (h1 : a1 = a2 + 1) (h2 : a2 = a3 + 1) (h3 : a3 = a4 + 1) (h4 : a4 = a5 + 1) (h5 : a5 = a6 + 1) (h6 : a6 = a7 + 1) (h7 : a7 = a8 + 1) (h8 : a8 = a9 + 1) (h9 : a9 = a10 + 1) (h10 : a10 = a11 + 1) (h11 : a11 = (0 : Int) + 1) : a0 = 12 := by omega
theorem oz_e2f483d25c {a0 a1 a2 a3 a4 a5 a6 a7 a8 a9 a10 a11 a12 : Int} (h0 : ¬ (14 : Int) ≤ a0) (h1 : a0 = a1 + 1) (h2 : a1 = a2 + 1) (h3 : a2 = a3 + 1) (h4 : a3 = a4 + 1) (h5 : a4 = a5 + 1) (h6 : a5 = a6 + 1) (h7 : a6 = a7 + 1) (h8 : a7 = a8 + 1) (h9 : a8 = a9 + 1) (h10 : a9 = a10 + 1) (h11 : a10 = a11 + 1) (h12 : a11 = a12 + 1) (h13 : a12 = (0 : Int) + 1) : a0 = 13 := by omega
theorem oz_31c68ccdde {a0 : Int} (h0 : a0 = (15 : Int) + (0 : Int)) : a0 ≠ 25 := by omega
theorem oz_d7df28373c {a0 : Int} (h0 : a0 = (15 : Int) + (0 : Int)) : a0 = 15 := by omega
theorem oz_ae1c5b008f {n0 : Nat} (h0 : n0 ≤ 1) : (((((0 + 1) + 1) + 1) + 1) + n0) + 1 ≤ 6000 := by omega
theorem oz_4f6919c3d8 {n0 n1 : Nat} (h0 : (n0 : Int) ≤ 4 * ((n1 : Int) - (0 : Int))) (h1 : (n1 : Int) ≤ 2 * (0 : Int) + 10) : (((((0 + 3) + 3) + 2048) + 7) + n0) + 7 ≤ 60000 := by omega
theorem oz_03cb15c82f {n0 : Nat} (h0 : n0 ≤ 1) : ((((((0 + 1) + 1) + 1) + 1) + n0) + 1) + 0 ≤ 6000 := by omega
theorem oz_6c0e68dd55 {n0 n1 : Nat} (h0 : (n0 : Int) ≤ 4 * ((n1 : Int) - (0 : Int))) (h1 : (n1 : Int) ≤ 2 * (0 : Int) + 10) : ((((((0 + 3) + 3) + 2048) + 7) + n0) + 7) + 0 ≤ 60000 := by omega
theorem oz_1c281409f8 {a0 : Int} (h0 : a0 = (0 : Int) + 1) : 0 ≤ a0 := by omega
theorem oz_90d46c3e96 {a0 : Int} (h0 : a0 = (0 : Int) + 1) : a0 ≤ 1000000 := by omega
theorem oz_eec561c0db {a0 a1 : Int} (h0 : a0 = (15 : Int) + a1) (h1 : a1 = (0 : Int) + 1) : a0 ≠ 25 := by omega
theorem oz_ea5339a380 {n0 : Nat} (h0 : n0 ≤ 1) : ((((((0 + 1) + 1) + 1) + 1) + n0) + 1) + (1) ≤ 6000 := by omega
theorem oz_d4892904e5 {n0 n1 : Nat} (h0 : (n1 : Int) ≤ 2 * (0 : Int) + 10) (h1 : (n0 : Int) ≤ 4 * ((n1 : Int) - (0 : Int))) : ((((((0 + 3) + 3) + 2048) + 7) + n0) + 7) + (4 * n1 + 40) ≤ 60000 := by omega
theorem oz_2cde03c646 {a0 a1 : Int} (h0 : a0 = (15 : Int) + a1) (h1 : a1 = (0 : Int) + 1) : a0 = 16 := by omega
theorem oz_5aa4acd9cb {a0 a1 : Int} (h0 : a0 = (0 : Int) + a1) (h1 : a1 = 1) : a0 = 1 := by omega
theorem oz_be9c031610 {n0 n1 : Nat} (h0 : n0 ≤ 1) (h1 : n1 ≤ 1) : (((((((0 + 1) + 1) + 1) + 1) + n0) + 1) + n1) + 1 ≤ 6000 := by omega
theorem oz_67ce8d99fb {n0 n1 n2 n3 : Nat} (h0 : (n0 : Int) ≤ 4 * ((n2 : Int) - (0 : Int))) (h1 : (n1 : Int) ≤ 4 * ((n3 : Int) - (n2 : Int))) (h2 : (n2 : Int) ≤ 2 * (0 : Int) + 10) (h3 : (n3 : Int) ≤ 2 * (n2 : Int) + 10) : (((((((0 + 3) + 3) + 2048) + 7) + n0) + 7) + n1) + 7 ≤ 60000 := by omega
theorem oz_02a8150ce8 {n0 n1 : Nat} (h0 : n0 ≤ 1) (h1 : n1 ≤ 1) : ((((((((0 + 1) + 1) + 1) + 1) + n0) + 1) + n1) + 1) + 0 ≤ 6000 := by omega
theorem oz_25d65964f8 {n0 n1 n2 n3 : Nat} (h0 : (n0 : Int) ≤ 4 * ((n2 : Int) - (0 : Int))) (h1 : (n1 : Int) ≤ 4 * ((n3 : Int) - (n2 : Int))) (h2 : (n2 : Int) ≤ 2 * (0 : Int) + 10) (h3 : (n3 : Int) ≤ 2 * (n2 : Int) + 10) : ((((((((0 + 3) + 3) + 2048) + 7) + n0) + 7) + n1) + 7) + 0 ≤ 60000 := by omega
theorem oz_072d2c3f33 {a0 a1 : Int} (h0 : a0 = a1 + 1) (h1 : a1 = (0 : Int) + 1) : 0 ≤ a0 := by omega
theorem oz_b7e3294fe2 {a0 a1 : Int} (h0 : a0 = a1 + 1) (h1 : a1 = (0 : Int) + 1) : a0 ≤ 1000000 := by omega
theorem oz_20fca602ed {a0 a1 : Int} (h0 : a0 = (15 : Int) + a1) (h1 : ¬ (10 : Int) ≤ a1) : a0 ≠ 25 := by omega
theorem oz_83553f5e4d {n0 n1 : Nat} (h0 : (n0 : Int) ≤ 2 * (n1 : Int) + 10) (h1 : (n1 : Int) ≤ 2 * (0 : Int) + 10) : n0 ≤ 1000000 := by omega
theorem oz_1bc48b31f5 {n0 n1 : Nat} (h0 : n0 ≤ 1) (h1 : n1 ≤ 1) : ((((((((0 + 1) + 1) + 1) + 1) + n0) + 1) + n1) + 1) + (1) ≤ 6000 := by omega
theorem oz_5423f49ca8 {n0 n1 n2 n3 : Nat} (h0 : (n0 : Int) ≤ 4 * ((n3 : Int) - (0 : Int))) (h1 : (n2 : Int) ≤ 2 * (n3 : Int) + 10) (h2 : (n1 : Int) ≤ 4 * ((n2 : Int) - (n3 : Int))) (h3 : (n3 : Int) ≤ 2 * (0 : Int) + 10) : ((((((((0 + 3) + 3) + 2048) + 7) + n0) + 7) + n1) + 7) + (4 * n2 + 40) ≤ 60000 := by omega
theorem oz_d5b2a57352 {a0 a1 a2 : Int} (h0 : a0 = (15 : Int) + a1) (h1 : a1 = a2 + 1) (h2 : a2 = (0 : Int) + 1) : a0 = 17 := by omega
theorem oz_9ee4810c36 {a0 a1 a2 a3 : Int} (h0 : a0 = a1 + a2) (h1 : a1 = (0 : Int) + a3) (h2 : a2 = 1) (h3 : a3 = 1) : a0 = 2 := by omega
theorem oz_2131103c10 {n0 n1 n2 : Nat} (h0 : n0 ≤ 1) (h1 : n1 ≤ 1) (h2 : n2 ≤ 1) : (((((((((0 + 1) + 1) + 1) + 1) + n0) + 1) + n1) + 1) + n2) + 1 ≤ 6000 := by omega
theorem oz_4600e781d2 {n0 n1 n2 n3 n4 n5 : Nat} (h0 : (n0 : Int) ≤ 4 * ((n3 : Int) - (0 : Int))) (h1 : (n1 : Int) ≤ 4 * ((n4 : Int) - (n3 : Int))) (h2 : (n2 : Int) ≤ 4 * ((n5 : Int) - (n4 : Int))) (h3 : (n3 : Int) ≤ 2 * (0 : Int) + 10) (h4 : (n4 : Int) ≤ 2 * (n3 : Int) + 10) (h5 : (n5 : Int) ≤ 2 * (n4 : Int) + 10) : (((((((((0 + 3) + 3) + 2048) + 7) + n0) + 7) + n1) + 7) + n2) + 7 ≤ 60000 := by omega
theorem oz_3fbf593171 {n0 n1 n2 : Nat} (h0 : n0 ≤ 1) (h1 : n1 ≤ 1) (h2 : n2 ≤ 1) : ((((((((((0 + 1) + 1) + 1) + 1) + n0) + 1) + n1) + 1) + n2) + 1) + 0 ≤ 6000 := by omega
theorem oz_a0da7977a4 {n0 n1 n2 n3 n4 n5 : Nat} (h0 : (n0 : Int) ≤ 4 * ((n3 : Int) - (0 : Int))) (h1 : (n1 : Int) ≤ 4 * ((n4 : Int) - (n3 : Int))) (h2 : (n2 : Int) ≤ 4 * ((n5 : Int) - (n4 : Int))) (h3 : (n3 : Int) ≤ 2 * (0 : Int) + 10) (h4 : (n4 : Int) ≤ 2 * (n3 : Int) + 10) (h5 : (n5 : Int) ≤ 2 * (n4 : Int) + 10) : ((((((((((0 + 3) + 3) + 2048) + 7) + n0) + 7) + n1) + 7) + n2) + 7) + 0 ≤ 60000 := by omega
theorem oz_c9c4d2ac3e {a0 a1 a2 : Int} (h0 : a0 = a1 + 1) (h1 : a1 = a2 + 1) (h2 : a2 = (0 : Int) + 1) : 0 ≤ a0 := by omega
theorem oz_231bd416e9 {a0 a1 : Int} (h0 : a0 = a1 + 1) (h1 : ¬ (10 : Int) ≤ a1) : a0 ≤ 1000000 := by omega
theorem oz_92fbf7ad4a {n0 n1 n2 : Nat} (h0 : (n0 : Int) ≤ 2 * (n1 : Int) + 10) (h1 : (n1 : Int) ≤ 2 * (n2 : Int) + 10) (h2 : (n2 : Int) ≤ 2 * (0 : Int) + 10) : n0 ≤ 1000000 := by omega
theorem oz_387d0a36c8 {n0 n1 n2 : Nat} (h0 : n0 ≤ 1) (h1 : n1 ≤ 1) (h2 : n2 ≤ 1) : ((((((((((0 + 1) + 1) + 1) + 1) + n0) + 1) + n1) + 1) + n2) + 1) + (1) ≤ 6000 := by omega
theorem oz_6ec723551a {n0 n1 n2 n3 n4 n5 : Nat} (h0 : (n0 : Int) ≤ 4 * ((n4 : Int) - (0 : Int))) (h1 : (n1 : Int) ≤ 4 * ((n5 : Int) - (n4 : Int))) (h2 : (n3 : Int) ≤ 2 * (n5 : Int) + 10) (h3 : (n2 : Int) ≤ 4 * ((n3 : Int) - (n5 : Int))) (h4 : (n4 : Int) ≤ 2 * (0 : Int) + 10) (h5 : (n5 : Int) ≤ 2 * (n4 : Int) + 10) : ((((((((((0 + 3) + 3) + 2048) + 7) + n0) + 7) + n1) + 7) + n2) + 7) + (4 * n3 + 40) ≤ 60000 := by omega
theorem oz_b6c78f133a {a0 a1 a2 a3 : Int} (h0 : a0 = (15 : Int) + a1) (h1 : a1 = a2 + 1) (h2 : a2 = a3 + 1) (h3 : a3 = (0 : Int) + 1) : a0 = 18 := by omega
theorem oz_a5c84814a9 {a0 a1 a2 a3 a4 a5 : Int} (h0 : a0 = a1 + a2) (h1 : a1 = a3 + a4) (h2 : a2 = 2) (h3 : a3 = (0 : Int) + a5) (h4 : a4 = 1) (h5 : a5 = 1) : a0 = 4 := by omega
theorem oz_0267563003 {n0 n1 n2 n3 : Nat} (h0 : n0 ≤ 1) (h1 : n1 ≤ 1) (h2 : n2 ≤ 1) (h3 : n3 ≤ 1) : (((((((((((0 + 1) + 1) + 1) + 1) + n0) + 1) + n1) + 1) + n2) + 1) + n3) + 1 ≤ 6000 := by omega
theorem oz_e7819ea361 {n0 n1 n2 n3 n4 n5 n6 n7 : Nat} (h0 : (n0 : Int) ≤ 4 * ((n4 : Int) - (0 : Int))) (h1 : (n1 : Int) ≤ 4 * ((n5 : Int) - (n4 : Int))) (h2 : (n2 : Int) ≤ 4 * ((n6 : Int) - (n5 : Int))) (h3 : (n3 : Int) ≤ 4 * ((n7 : Int) - (n6 : Int))) (h4 : (n4 : Int) ≤ 2 * (0 : Int) + 10) (h5 : (n5 : Int) ≤ 2 * (n4 : Int) + 10) (h6 : (n6 : Int) ≤ 2 * (n5 : Int) + 10) (h7 : (n7 : Int) ≤ 2 * (n6 : Int) + 10) : (((((((((((0 + 3) + 3) + 2048) + 7) + n0) + 7) + n1) + 7) + n2) + 7) + n3) + 7 ≤ 60000 := by omega
theorem oz_c924954824 {n0 n1 n2 n3 : Nat} (h0 : n0 ≤ 1) (h1 : n1 ≤ 1) (h2 : n2 ≤ 1) (h3 : n3 ≤ 1) : ((((((((((((0 + 1) + 1) + 1) + 1) + n0) + 1) + n1) + 1) + n2) + 1) + n3) + 1) + 0 ≤ 6000 := by omega
theorem oz_5e29b6bcd8 {n0 n1 n2 n3 n4 n5 n6 n7 : Nat} (h0 : (n0 : Int) ≤ 4 * ((n4 : Int) - (0 : Int))) (h1 : (n1 : Int) ≤ 4 * ((n5 : Int) - (n4 : Int))) (h2 : (n2 : Int) ≤ 4 * ((n6 : Int) - (n5 : Int))) (h3 : (n3 : Int) ≤ 4 * ((n7 : Int) - (n6 : Int))) (h4 : (n4 : Int) ≤ 2 * (0 : Int) + 10) (h5 : (n5 : Int) ≤ 2 * (n4 : Int) + 10) (h6 : (n6 : Int) ≤ 2 * (n5 : Int) + 10) (h7 : (n7 : Int) ≤ 2 * (n6 : Int) + 10) : ((((((((((((0 + 3) + 3) + 2048) + 7) + n0) + 7) + n1) + 7) + n2) + 7) + n3) + 7) + 0 ≤ 60000 := by omega
theorem oz_88c78e5418 {a0 a1 a2 a3 : Int} (h0 : a0 = a1 + 1) (h1 : a1 = a2 + 1) (h2 : a2 = a3 + 1) (h3 : a3 = (0 : Int) + 1) : 0 ≤ a0 := by omega
theorem oz_a0993d86c2 {n0 n1 n2 n3 : Nat} (h0 : (n0 : Int) ≤ 2 * (n1 : Int) + 10) (h1 : (n1 : Int) ≤ 2 * (n2 : Int) + 10) (h2 : (n2 : Int) ≤ 2 * (n3 : Int) + 10) (h3 : (n3 : Int) ≤ 2 * (0 : Int) + 10) : n0 ≤ 1000000 := by omega
theorem oz_a149656aa2 {n0 n1 n2 n3 : Nat} (h0 : n0 ≤ 1) (h1 : n1 ≤ 1) (h2 : n2 ≤ 1) (h3 : n3 ≤ 1) : ((((((((((((0 + 1) + 1) + 1) + 1) + n0) + 1) + n1) + 1) + n2) + 1) + n3) + 1) + (1) ≤ 6000 := by omega
theorem oz_e072c665bb {n0 n1 n2 n3 n4 n5 n6 n7 : Nat} (h0 : (n0 : Int) ≤ 4 * ((n5 : Int) - (0 : Int))) (h1 : (n1 : Int) ≤ 4 * ((n6 : Int) - (n5 : Int))) (h2 : (n2 : Int) ≤ 4 * ((n7 : Int) - (n6 : Int))) (h3 : (n4 : Int) ≤ 2 * (n7 : Int) + 10) (h4 : (n3 : Int) ≤ 4 * ((n4 : Int) - (n7 : Int))) (h5 : (n5 : Int) ≤ 2 * (0 : Int) + 10) (h6 : (n6 : Int) ≤ 2 * (n5 : Int) + 10) (h7 : (n7 : Int) ≤ 2 * (n6 : Int) + 10) : ((((((((((((0 + 3) + 3) + 2048) + 7) + n0) + 7) + n1) + 7) + n2) + 7) + n3) + 7) + (4 * n4 + 40) ≤ 60000 := by omega
theorem oz_12487001a5 {a0 a1 a2 a3 a4 : Int} (h0 : a0 = (15 : Int) + a1) (h1 : a1 = a2 + 1) (h2 : a2 = a3 + 1) (h3 : a3 = a4 + 1) (h4 : a4 = (0 : Int) + 1) : a0 = 19 := by omega
theorem oz_aaba319e3d {a0 a1 a2 a3 a4 a5 a6 a7 : Int} (h0 : a0 = a1 + a2) (h1 : a1 = a3 + a4) (h2 : a2 = 1) (h3 : a3 = a5 + a6) (h4 : a4 = 2) (h5 : a5 = (0 : Int) + a7) (h6 : a6 = 1) (h7 : a7 = 1) : a0 = 5 := by omega
theorem oz_4c822ebf64 {n0 n1 n2 n3 n4 : Nat} (h0 : n0 ≤ 1) (h1 : n1 ≤ 1) (h2 : n2 ≤ 1) (h3 : n3 ≤ 1) (h4 : n4 ≤ 1) : (((((((((((((0 + 1) + 1) + 1) + 1) + n0) + 1) + n1) + 1) + n2) + 1) + n3) + 1) + n4) + 1 ≤ 6000 := by omega
theorem oz_67bbab6530 {n0 n1 n2 n3 n4 n5 n6 n7 n8 n9 : Nat} (h0 : (n0 : Int) ≤ 4 * ((n5 : Int) - (0 : Int))) (h1 : (n1 : Int) ≤ 4 * ((n6 : Int) - (n5 : Int))) (h2 : (n2 : Int) ≤ 4 * ((n7 : Int) - (n6 : Int))) (h3 : (n3 : Int) ≤ 4 * ((n8 : Int) - (n7 : Int))) (h4 : (n4 : Int) ≤ 4 * ((n9 : Int) - (n8 : Int))) (h5 : (n5 : Int) ≤ 2 * (0 : Int) + 10) (h6 : (n6 : Int) ≤ 2 * (n5 : Int) + 10) (h7 : (n7 : Int) ≤ 2 * (n6 : Int) + 10) (h8 : (n8 : Int) ≤ 2 * (n7 : Int) + 10) (h9 : (n9 : Int) ≤ 2 * (n8 : Int) + 10) : (((((((((((((0 + 3) + 3) + 2048) + 7) + n0) + 7) + n1) + 7) + n2) + 7) + n3) + 7) + n4) + 7 ≤ 60000 := by omega
theorem oz_f221bfca99 {n0 n1 n2 n3 n4 : Nat} (h0 : n0 ≤ 1) (h1 : n1 ≤ 1) (h2 : n2 ≤ 1) (h3 : n3 ≤ 1) (h4 : n4 ≤ 1) : ((((((((((((((0 + 1) + 1) + 1) + 1) + n0) + 1) + n1) + 1) + n2) + 1) + n3) + 1) + n4) + 1) + 0 ≤ 6000 := by omega
theorem oz_ef8e4a7804 {n0 n1 n2 n3 n4 n5 n6 n7 n8 n9 : Nat} (h0 : (n0 : Int) ≤ 4 * ((n5 : Int) - (0 : Int))) (h1 : (n1 : Int) ≤ 4 * ((n6 : Int) - (n5 : Int))) (h2 : (n2 : Int) ≤ 4 * ((n7 : Int) - (n6 : Int))) (h3 : (n3 : Int) ≤ 4 * ((n8 : Int) - (n7 : Int))) (h4 : (n4 : Int) ≤ 4 * ((n9 : Int) - (n8 : Int))) (h5 : (n5 : Int) ≤ 2 * (0 : Int) + 10) (h6 : (n6 : Int) ≤ 2 * (n5 : Int) + 10) (h7 : (n7 : Int) ≤ 2 * (n6 : Int) + 10) (h8 : (n8 : Int) ≤ 2 * (n7 : Int) + 10) (h9 : (n9 : Int) ≤ 2 * (n8 : Int) + 10) : ((((((((((((((0 + 3) + 3) + 2048) + 7) + n0) + 7) + n1) + 7) + n2) + 7) + n3) + 7) + n4) + 7) + 0 ≤ 60000 := by omega
theorem oz_44a9c4ba60 {a0 a1 a2 a3 a4 : Int} (h0 : a0 = a1 + 1) (h1 : a1 = a2 + 1) (h2 : a2 = a3 + 1) (h3 : a3 = a4 + 1) (h4 : a4 = (0 : Int) + 1) : 0 ≤ a0 := by omega
theorem oz_531eaa5c43 {n0 n1 n2 n3 n4 : Nat} (h0 : (n0 : Int) ≤ 2 * (n1 : Int) + 10) (h1 : (n1 : Int) ≤ 2 * (n2 : Int) + 10) (h2 : (n2 : Int) ≤ 2 * (n3 : Int) + 10) (h3 : (n3 : Int) ≤ 2 * (n4 : Int) + 10) (h4 : (n4 : Int) ≤ 2 * (0 : Int) + 10) : n0 ≤ 1000000 := by omega
theorem oz_739f65f4f3 {n0 n1 n2 n3 n4 : Nat} (h0 : n0 ≤ 1) (h1 : n1 ≤ 1) (h2 : n2 ≤ 1) (h3 : n3 ≤ 1) (h4 : n4 ≤ 1) : ((((((((((((((0 + 1) + 1) + 1) + 1) + n0) + 1) + n1) + 1) + n2) + 1) + n3) + 1) + n4) + 1) + (1) ≤ 6000 := by omega
theorem oz_5568cd3acd {n0 n1 n2 n3 n4 n5 n6 n7 n8 n9 : Nat} (h0 : (n0 : Int) ≤ 4 * ((n6 : Int) - (0 : Int))) (h1 : (n1 : Int) ≤ 4 * ((n7 : Int) - (n6 : Int))) (h2 : (n2 : Int) ≤ 4 * ((n8 : Int) - (n7 : Int))) (h3 : (n3 : Int) ≤ 4 * ((n9 : Int) - (n8 : Int))) (h4 : (n5 : Int) ≤ 2 * (n9 : Int) + 10) (h5 : (n4 : Int) ≤ 4 * ((n5 : Int) - (n9 : Int))) (h6 : (n6 : Int) ≤ 2 * (0 : Int) + 10) (h7 : (n7 : Int) ≤ 2 * (n6 : Int) + 10) (h8 : (n8 : Int) ≤ 2 * (n7 : Int) + 10) (h9 : (n9 : Int) ≤ 2 * (n8 : Int) + 10) : ((((((((((((((0 + 3) + 3) + 2048) + 7) + n0) + 7) + n1) + 7) + n2) + 7) + n3) + 7) + n4) + 7) + (4 * n5 + 40) ≤ 60000 := by omega
theorem oz_3152e7a842 {a0 a1 a2 a3 a4 a5 : Int} (h0 : a0 = (15 : Int) + a1) (h1 : a1 = a2 + 1) (h2 : a2 = a3 + 1) (h3 : a3 = a4 + 1) (h4 : a4 = a5 + 1) (h5 : a5 = (0 : Int) + 1) : a0 = 20 := by omega
theorem oz_da0f949723 {a0 a1 a2 a3 a4 a5 a6 a7 a8 a9 : Int} (h0 : a0 = a1 + a2) (h1 : a1 = a3 + a4) (h2 : a2 = 1) (h3 : a3 = a5 + a6) (h4 : a4 = 1) (h5 : a5 = a7 + a8) (h6 : a6 = 2) (h7 : a7 = (0 : Int) + a9) (h8 : a8 = 1) (h9 : a9 = 1) : a0 = 6 := by omega
theorem oz_a7c83764b7 {n0 n1 n2 n3 n4 n5 : Nat} (h0 : n0 ≤ 1) (h1 : n1 ≤ 1) (h2 : n2 ≤ 1) (h3 : n3 ≤ 1) (h4 : n4 ≤ 1) (h5 : n5 ≤ 1) : (((((((((((((((0 + 1) + 1) + 1) + 1) + n0) + 1) + n1) + 1) + n2) + 1) + n3) + 1) + n4) + 1) + n5) + 1 ≤ 6000 := by omega
theorem oz_bc9ed7edf1 {n0 n1 n2 n3 n4 n5 n6 n7 n8 n9 n10 n11 : Nat} (h0 : (n0 : Int) ≤ 4 * ((n6 : Int) - (0 : Int))) (h1 : (n1 : Int) ≤ 4 * ((n7 : Int) - (n6 : Int))) (h2 : (n2 : Int) ≤ 4 * ((n8 : Int) - (n7 : Int))) (h3 : (n3 : Int) ≤ 4 * ((n9 : Int) - (n8 : Int))) (h4 : (n4 : Int) ≤ 4 * ((n10 : Int) - (n9 : Int))) (h5 : (n5 : Int) ≤ 4 * ((n11 : Int) - (n10 : Int))) (h6 : (n6 : Int) ≤ 2 * (0 : Int) + 10) (h7 : (n7 : Int) ≤ 2 * (n6 : Int) + 10) (h8 : (n8 : Int) ≤ 2 * (n7 : Int) + 10) (h9 : (n9 : Int) ≤ 2 * (n8 : Int) + 10) (h10 : (n10 : Int) ≤ 2 * (n9 : Int) + 10) (h11 : (n11 : Int) ≤ 2 * (n10 : Int) + 10) : (((((((((((((((0 + 3) + 3) + 2048) + 7) + n0) + 7) + n1) + 7) + n2) + 7) + n3) + 7) + n4) + 7) + n5) + 7 ≤ 60000 := by omega
theorem oz_010317d66c {n0 n1 n2 n3 n4 n5 : Nat} (h0 : n0 ≤ 1) (h1 : n1 ≤ 1) (h2 : n2 ≤ 1) (h3 : n3 ≤ 1) (h4 : n4 ≤ 1) (h5 : n5 ≤ 1) : ((((((((((((((((0 + 1) + 1) + 1) + 1) + n0) + 1) + n1) + 1) + n2) + 1) + n3) + 1) + n4) + 1) + n5) + 1) + 0 ≤ 6000 := by omega
theorem oz_37b422e3fc {n0 n1 n2 n3 n4 n5 n6 n7 n8 n9 n10 n11 : Nat} (h0 : (n0 : Int) ≤ 4 * ((n6 : Int) - (0 : Int))) (h1 : (n1 : Int) ≤ 4 * ((n7 : Int) - (n6 : Int))) (h2 : (n2 : Int) ≤ 4 * ((n8 : Int) - (n7 : Int))) (h3 : (n3 : Int) ≤ 4 * ((n9 : Int) - (n8 : Int))) (h4 : (n4 : Int) ≤ 4 * ((n10 : Int) - (n9 : Int))) (h5 : (n5 : Int) ≤ 4 * ((n11 : Int) - (n10 : Int))) (h6 : (n6 : Int) ≤ 2 * (0 : Int) + 10) (h7 : (n7 : Int) ≤ 2 * (n6 : Int) + 10) (h8 : (n8 : Int) ≤ 2 * (n7 : Int) + 10) (h9 : (n9 : Int) ≤ 2 * (n8 : Int) + 10) (h10 : (n10 : Int) ≤ 2 * (n9 : Int) + 10) (h11 : (n11 : Int) ≤ 2 * (n10 : Int) + 10) : ((((((((((((((((0 + 3) + 3) + 2048) + 7) + n0) + 7) + n1) + 7) + n2) + 7) + n3) + 7) + n4) + 7) + n5) + 7) + 0 ≤ 60000 := by omega
theorem oz_74a017ed6e {a0 a1 a2 a3 a4 a5 : Int} (h0 : a0 = a1 + 1) (h1 : a1 = a2 + 1) (h2 : a2 = a3 + 1) (h3 : a3 = a4 + 1) (h4 : a4 = a5 + 1) (h5 : a5 = (0 : Int) + 1) : 0 ≤ a0 := by omega
theorem oz_45414977c5 {n0 n1 n2 n3 n4 n5 : Nat} (h0 : (n0 : Int) ≤ 2 * (n1 : Int) + 10) (h1 : (n1 : Int) ≤ 2 * (n2 : Int) + 10) (h2 : (n2 : Int) ≤ 2 * (n3 : Int) + 10) (h3 : (n3 : Int) ≤ 2 * (n4 : Int) + 10) (h4 : (n4 : Int) ≤ 2 * (n5 : Int) + 10) (h5 : (n5 : Int) ≤ 2 * (0 : Int) + 10) : n0 ≤ 1000000 := by omega
theorem oz_a53c55393e {n0 n1 n2 n3 n4 n5 : Nat} (h0 : n0 ≤ 1) (h1 : n1 ≤ 1) (h2 : n2 ≤ 1) (h3 : n3 ≤ 1) (h4 : n4 ≤ 1) (h5 : n5 ≤ 1) : ((((((((((((((((0 + 1) + 1) + 1) + 1) + n0) + 1) + n1) + 1) + n2) + 1) + n3) + 1) + n4) + 1) + n5) + 1) + (1) ≤ 6000 := by omega
theorem oz_fb78162fd5 {n0 n1 n2 n3 n4 n5 n6 n7 n8 n9 n10 n11 : Nat} (h0 : (n0 : Int) ≤ 4 * ((n7 : Int) - (0 : Int))) (h1 : (n1 : Int) ≤ 4 * ((n8 : Int) - (n7 : Int))) (h2 : (n2 : Int) ≤ 4 * ((n9 : Int) - (n8 : Int))) (h3 : (n3 : Int) ≤ 4 * ((n10 : Int) - (n9 : Int))) (h4 : (n4 : Int) ≤ 4 * ((n11 : Int) - (n10 : Int))) (h5 : (n6 : Int) ≤ 2 * (n11 : Int) + 10) (h6 : (n5 : Int) ≤ 4 * ((n6 : Int) - (n11 : Int))) (h7 : (n7 : Int) ≤ 2 * (0 : Int) + 10) (h8 : (n8 : Int) ≤ 2 * (n7 : Int) + 10) (h9 : (n9 : Int) ≤ 2 * (n8 : Int) + 10) (h10 : (n10 : Int) ≤ 2 * (n9 : Int) + 10) (h11 : (n11 : Int) ≤ 2 * (n10 : Int) + 10) : ((((((((((((((((0 + 3) + 3) + 2048) + 7) + n0) + 7) + n1) + 7) + n2) + 7) + n3) + 7) + n4) + 7) + n5) + 7) + (4 * n6 + 40) ≤ 60000 := by omega
theorem oz_60ecfd7d22 {a0 a1 a2 a3 a4 a5 a6 : Int} (h0 : a0 = (15 : Int) + a1) (h1 : a1 = a2 + 1) (h2 : a2 = a3 + 1) (h3 : a3 = a4 + 1) (h4 : a4 = a5 + 1) (h5 : a5 = a6 + 1) (h6 : a6 = (0 : Int) + 1) : a0 = 21 := by omega
theorem oz_11ae5290b7 {a0 a1 a2 a3 a4 a5 a6 a7 a8 a9 a10 a11 : Int} (h0 : a0 = a1 + a2) (h1 : a1 = a3 + a4) (h2 : a2 = 2) (h3 : a3 = a5 + a6) (h4 : a4 = 1) (h5 : a5 = a7 + a8) (h6 : a6 = 1) (h7 : a7 = a9 + a10) (h8 : a8 = 2) (h9 : a9 = (0 : Int) + a11) (h10 : a10 = 1) (h11 : a11 = 1) : a0 = 8 := by omega
theorem oz_cd7dabd4e2 {n0 n1 n2 n3 n4 n5 n6 : Nat} (h0 : n0 ≤ 1) (h1 : n1 ≤ 1) (h2 : n2 ≤ 1) (h3 : n3 ≤ 1) (h4 : n4 ≤ 1) (h5 : n5 ≤ 1) (h6 : n6 ≤ 1) : (((((((((((((((((0 + 1) + 1) + 1) + 1) + n0) + 1) + n1) + 1) + n2) + 1) + n3) + 1) + n4) + 1) + n5) + 1) + n6) + 1 ≤ 6000 := by omega
theorem oz_9f22de95b3 {n0 n1 n2 n3 n4 n5 n6 n7 n8 n9 n10 n11 n12 n13 : Nat} (h0 : (n0 : Int) ≤ 4 * ((n7 : Int) - (0 : Int))) (h1 : (n1 : Int) ≤ 4 * ((n8 : Int) - (n7 : Int))) (h2 : (n2 : Int) ≤ 4 * ((n9 : Int) - (n8 : Int))) (h3 : (n3 : Int) ≤ 4 * ((n10 : Int) - (n9 : Int))) (h4 : (n4 : Int) ≤ 4 * ((n11 : Int) - (n10 : Int))) (h5 : (n5 : Int) ≤ 4 * ((n12 : Int) - (n11 : Int))) (h6 : (n6 : Int) ≤ 4 * ((n13 : Int) - (n12 : Int))) (h7 : (n7 : Int) ≤ 2 * (0 : Int) + 10) (h8 : (n8 : Int) ≤ 2 * (n7 : Int) + 10) (h9 : (n9 : Int) ≤ 2 * (n8 : Int) + 10) (h10 : (n10 : Int) ≤ 2 * (n9 : Int) + 10) (h11 : (n11 : Int) ≤ 2 * (n10 : Int) + 10) (h12 : (n12 : Int) ≤ 2 * (n11 : Int) + 10) (h13 : (n13 : Int) ≤ 2 * (n12 : Int) + 10) : (((((((((((((((((0 + 3) + 3) + 2048) + 7) + n0) + 7) + n1) + 7) + n2) + 7) + n3) + 7) + n4) + 7) + n5) + 7) + n6) + 7 ≤ 60000 := by omega
theorem oz_5f91452e03 {n0 n1 n2 n3 n4 n5 n6 : Nat} (h0 : n0 ≤ 1) (h1 : n1 ≤ 1) (h2 : n2 ≤ 1) (h3 : n3 ≤ 1) (h4 : n4 ≤ 1) (h5 : n5 ≤ 1) (h6 : n6 ≤ 1) : ((((((((((((((((((0 + 1) + 1) + 1) + 1) + n0) + 1) + n1) + 1) + n2) + 1) + n3) + 1) + n4) + 1) + n5) + 1) + n6) + 1) + 0 ≤ 6000 := by omega
theorem oz_3971487c42 {n0 n1 n2 n3 n4 n5 n6 n7 n8 n9 n10 n11 n12 n13 : Nat} (h0 : (n0 : Int) ≤ 4 * ((n7 : Int) - (0 : Int))) (h1 : (n1 : Int) ≤ 4 * ((n8 : Int) - (n7 : Int))) (h2 : (n2 : Int) ≤ 4 * ((n9 : Int) - (n8 : Int))) (h3 : (n3 : Int) ≤ 4 * ((n10 : Int) - (n9 : Int))) (h4 : (n4 : Int) ≤ 4 * ((n11 : Int) - (n10 : Int))) (h5 : (n5 : Int) ≤ 4 * ((n12 : Int) - (n11 : Int))) (h6 : (n6 : Int) ≤ 4 * ((n13 : Int) - (n12 : Int))) (h7 : (n7 : Int) ≤ 2 * (0 : Int) + 10) (h8 : (n8 : Int) ≤ 2 * (n7 : Int) + 10) (h9 : (n9 : Int) ≤ 2 * (n8 : Int) + 10) (h10 : (n10 : Int) ≤ 2 * (n9 : Int) + 10) (h11 : (n11 : Int) ≤ 2 * (n10 : Int) + 10) (h12 : (n12 : Int) ≤ 2 * (n11 : Int) + 10) (h13 : (n13 : Int) ≤ 2 * (n12 : Int) + 10) : ((((((((((((((((((0 + 3) + 3) + 2048) + 7) + n0) + 7) + n1) + 7) + n2) + 7) + n3) + 7) + n4) + 7) + n5) + 7) + n6) + 7) + 0 ≤ 60000 := by omega
theorem oz_ae352f211f {a0 a1 a2 a3 a4 a5 a6 : Int} (h0 : a0 = a1 + 1) (h1 : a1 = a2 + 1) (h2 : a2 = a3 + 1) (h3 : a3 = a4 + 1) (h4 : a4 = a5 + 1) (h5 : a5 = a6 + 1) (h6 : a6 = (0 : Int) + 1) : 0 ≤ a0 := by omega
theorem oz_3ea00c64ee {n0 n1 n2 n3 n4 n5 n6 : Nat} (h0 : (n0 : Int) ≤ 2 * (n1 : Int) + 10) (h1 : (n1 : Int) ≤ 2 * (n2 : Int) + 10) (h2 : (n2 : Int) ≤ 2 * (n3 : Int) + 10) (h3 : (n3 : Int) ≤ 2 * (n4 : Int) + 10) (h4 : (n4 : Int) ≤ 2 * (n5 : Int) + 10) (h5 : (n5 : Int) ≤ 2 * (n6 : Int) + 10) (h6 : (n6 : Int) ≤ 2 * (0 : Int) + 10) : n0 ≤ 1000000 := by omega
theorem oz_4197801112 {n0 n1 n2 n3 n4 n5 n6 : Nat} (h0 : n0 ≤ 1) (h1 : n1 ≤ 1) (h2 : n2 ≤ 1) (h3 : n3 ≤ 1) (h4 : n4 ≤ 1) (h5 : n5 ≤ 1) (h6 : n6 ≤ 1) : ((((((((((((((((((0 + 1) + 1) + 1) + 1) + n0) + 1) + n1) + 1) + n2) + 1) + n3) + 1) + n4) + 1) + n5) + 1) + n6) + 1) + (1) ≤ 6000 := by omega
theorem oz_b7c4c7a3d1 {n0 n1 n2 n3 n4 n5 n6 n7 n8 n9 n10 n11 n12 n13 : Nat} (h0 : (n0 : Int) ≤ 4 * ((n8 : Int) - (0 : Int))) (h1 : (n1 : Int) ≤ 4 * ((n9 : Int) - (n8 : Int))) (h2 : (n2 : Int) ≤ 4 * ((n10 : Int) - (n9 : Int))) (h3 : (n3 : Int) ≤ 4 * ((n11 : Int) - (n10 : Int))) (h4 : (n4 : Int) ≤ 4 * ((n12 : Int) - (n11 : Int))) (h5 : (n5 : Int) ≤ 4 * ((n13 : Int) - (n12 : Int))) (h6 : (n7 : Int) ≤ 2 * (n13 : Int) + 10) (h7 : (n6 : Int) ≤ 4 * ((n7 : Int) - (n13 : Int))) (h8 : (n8 : Int) ≤ 2 * (0 : Int) + 10) (h9 : (n9 : Int) ≤ 2 * (n8 : Int) + 10) (h10 : (n10 : Int) ≤ 2 * (n9 : Int) + 10) (h11 : (n11 : Int) ≤ 2 * (n10 : Int) + 10) (h12 : (n12 : Int) ≤ 2 * (n11 : Int) + 10) (h13 : (n13 : Int) ≤ 2 * (n12 : Int) + 10) : ((((((((((((((((((0 + 3) + 3) + 2048) + 7) + n0) + 7) + n1) + 7) + n2) + 7) + n3) + 7) + n4) + 7) + n5) + 7) + n6) + 7) + (4 * n7 + 40) ≤ 60000 := by omega
theorem oz_be76f20932 {a0 a1 a2 a3 a4 a5 a6 a7 : Int} (h0 : a0 = (15 : Int) + a1) (h1 : a1 = a2 + 1) (h2 : a2 = a3 + 1) (h3 : a3 = a4 + 1) (h4 : a4 = a5 + 1) (h5 : a5 = a6 + 1) (h6 : a6 = a7 + 1) (h7 : a7 = (0 : Int) + 1) : a0 = 22 := by omega
theorem oz_c80972a4ee {a0 a1 a2 a3 a4 a5 a6 a7 a8 a9 a10 a11 a12 a13 : Int} (h0 : a0 = a1 + a2) (h1 : a1 = a3 + a4) (h2 : a2 = 1) (h3 : a3 = a5 + a6) (h4 : a4 = 2) (h5 : a5 = a7 + a8) (h6 : a6 = 1) (h7 : a7 = a9 + a10) (h8 : a8 = 1) (h9 : a9 = a11 + a12) (h10 : a10 = 2) (h11 : a11 = (0 : Int) + a13) (h12 : a12 = 1) (h13 : a13 = 1) : a0 = 9 := by omega
theorem oz_0f19472ff7 {n0 n1 n2 n3 n4 n5 n6 n7 : Nat} (h0 : n0 ≤ 1) (h1 : n1 ≤ 1) (h2 : n2 ≤ 1) (h3 : n3 ≤ 1) (h4 : n4 ≤ 1) (h5 : n5 ≤ 1) (h6 : n6 ≤ 1) (h7 : n7 ≤ 1) : (((((((((((((((((((0 + 1) + 1) + 1) + 1) + n0) + 1) + n1) + 1) + n2) + 1) + n3) + 1) + n4) + 1) + n5) + 1) + n6) + 1) + n7) + 1 ≤ 6000 := by omega
theorem oz_2384b52a16 {n0 n1 n2 n3 n4 n5 n6 n7 : Nat} (h0 : n0 ≤ 1) (h1 : n1 ≤ 1) (h2 : n2 ≤ 1) (h3 : n3 ≤ 1) (h4 : n4 ≤ 1) (h5 : n5 ≤ 1) (h6 : n6 ≤ 1) (h7 : n7 ≤ 1) : ((((((((((((((((((((0 + 1) + 1) + 1) + 1) + n0) + 1) + n1) + 1) + n2) + 1) + n3) + 1) + n4) + 1) + n5) + 1) + n6) + 1) + n7) + 1) + 0 ≤ 6000 := by omega
theorem oz_0b8b4fb05c {a0 a1 a2 a3 a4 a5 a6 a7 : Int} (h0 : a0 = a1 + 1) (h1 : a1 = a2 + 1) (h2 : a2 = a3 + 1) (h3 : a3 = a4 + 1) (h4 : a4 = a5 + 1) (h5 : a5 = a6 + 1) (h6 : a6 = a7 + 1) (h7 : a7 = (0 : Int) + 1) : 0 ≤ a0 := by omega
theorem oz_821cda5014 {n0 n1 n2 n3 n4 n5 n6 n7 : Nat} (h0 : (n0 : Int) ≤ 2 * (n1 : Int) + 10) (h1 : (n1 : Int) ≤ 2 * (n2 : Int) + 10) (h2 : (n2 : Int) ≤ 2 * (n3 : Int) + 10) (h3 : (n3 : Int) ≤ 2 * (n4 : Int) + 10) (h4 : (n4 : Int) ≤ 2 * (n5 : Int) + 10) (h5 : (n5 : Int) ≤ 2 * (n6 : Int) + 10) (h6 : (n6 : Int) ≤ 2 * (n7 : Int) + 10) (h7 : (n7 : Int) ≤ 2 * (0 : Int) + 10) : n0 ≤ 1000000 := by omega
theorem oz_579e12fb25 {n0 n1 n2 n3 n4 n5 n6 n7 : Nat} (h0 : n0 ≤ 1) (h1 : n1 ≤ 1) (h2 : n2 ≤ 1) (h3 : n3 ≤ 1) (h4 : n4 ≤ 1) (h5 : n5 ≤ 1) (h6 : n6 ≤ 1) (h7 : n7 ≤ 1) : ((((((((((((((((((((0 + 1) + 1) + 1) + 1) + n0) + 1) + n1) + 1) + n2) + 1) + n3) + 1) + n4) + 1) + n5) + 1) + n6) + 1) + n7) + 1) + (1) ≤ 6000 := by omega
theorem oz_dce51d93f3 {a0 a1 a2 a3 a4 a5 a6 a7 a8 : Int} (h0 : a0 = (15 : Int) + a1) (h1 : a1 = a2 + 1) (h2 : a2 = a3 + 1) (h3 : a3 = a4 + 1) (h4 : a4 = a5 + 1) (h5 : a5 = a6 + 1) (h6 : a6 = a7 + 1) (h7 : a7 = a8 + 1) (h8 : a8 = (0 : Int) + 1) : a0 = 23 := by omega
theorem oz_c62e74950e {n0 n1 n2 n3 n4 n5 n6 n7 n8 : Nat} (h0 : n0 ≤ 1) (h1 : n1 ≤ 1) (h2 : n2 ≤ 1) (h3 : n3 ≤ 1) (h4 : n4 ≤ 1) (h5 : n5 ≤ 1) (h6 : n6 ≤ 1) (h7 : n7 ≤ 1) (h8 : n8 ≤ 1) : (((((((((((((((((((((0 + 1) + 1) + 1) + 1) + n0) + 1) + n1) + 1) + n2) + 1) + n3) + 1) + n4) + 1) + n5) + 1) + n6) + 1) + n7) + 1) + n8) + 1 ≤ 6000 := by omega
theorem oz_f0f6884f5c {n0 n1 n2 n3 n4 n5 n6 n7 n8 : Nat} (h0 : n0 ≤ 1) (h1 : n1 ≤ 1) (h2 : n2 ≤ 1) (h3 : n3 ≤ 1) (h4 : n4 ≤ 1) (h5 : n5 ≤ 1) (h6 : n6 ≤ 1) (h7 : n7 ≤ 1) (h8 : n8 ≤ 1) : ((((((((((((((((((((((0 + 1) + 1) + 1) + 1) + n0) + 1) + n1) + 1) + n2) + 1) + n3) + 1) + n4) + 1) + n5) + 1) + n6) + 1) + n7) + 1) + n8) + 1) + 0 ≤ 6000 := by omega
theorem oz_6af167a687 {a0 a1 a2 a3 a4 a5 a6 a7 a8 : Int} (h0 : ¬ (10 : Int) ≤ a0) (h1 : a0 = a1 + 1) (h2 : a1 = a2 + 1) (h3 : a2 = a3 + 1) (h4 : a3 = a4 + 1) (h5 : a4 = a5 + 1) (h6 : a5 = a6 + 1) (h7 : a6 = a7 + 1) (h8 : a7 = a8 + 1) (h9 : a8 = (0 : Int) + 1) : a0 = 9 := by omega
theorem oz_41a8f41cc9 {a0 a1 a2 a3 a4 a5 a6 a7 a8 : Int} (h0 : a0 = a1 + 1) (h1 : a1 = a2 + 1) (h2 : a2 = a3 + 1) (h3 : a3 = a4 + 1) (h4 : a4 = a5 + 1) (h5 : a5 = a6 + 1) (h6 : a6 = a7 + 1) (h7 : a7 = a8 + 1) (h8 : a8 = (0 : Int) + 1) : 0 ≤ a0 := by omega
theorem oz_3e1ff33400 {n0 n1 n2 n3 n4 n5 n6 n7 n8 : Nat} (h0 : (n0 : Int) ≤ 2 * (n1 : Int) + 10) (h1 : (n1 : Int) ≤ 2 * (n2 : Int) + 10) (h2 : (n2 : Int) ≤ 2 * (n3 : Int) + 10) (h3 : (n3 : Int) ≤ 2 * (n4 : Int) + 10) (h4 : (n4 : Int) ≤ 2 * (n5 : Int) + 10) (h5 : (n5 : Int) ≤ 2 * (n6 : Int) + 10) (h6 : (n6 : Int) ≤ 2 * (n7 : Int) + 10) (h7 : (n7 : Int) ≤ 2 * (n8 : Int) + 10) (h8 : (n8 : Int) ≤ 2 * (0 : Int) + 10) : n0 ≤ 1000000 := by omega
theorem oz_549fd81755 {n0 n1 n2 n3 n4 n5 n6 n7 n8 : Nat} (h0 : n0 ≤ 1) (h1 : n1 ≤ 1) (h2 : n2 ≤ 1) (h3 : n3 ≤ 1) (h4 : n4 ≤ 1) (h5 : n5 ≤ 1) (h6 : n6 ≤ 1) (h7 : n7 ≤ 1) (h8 : n8 ≤ 1) : ((((((((((((((((((((((0 + 1) + 1) + 1) + 1) + n0) + 1) + n1) + 1) + n2) + 1) + n3) + 1) + n4) + 1) + n5) + 1) + n6) + 1) + n7) + 1) + n8) + 1) + (1) ≤ 6000 := by omega
theorem oz_e0b2b3010b {a0 a1 a2 a3 a4 a5 a6 a7 a8 a9 : Int} (h0 : a0 = (15 : Int) + a1) (h1 : ¬ (10 : Int) ≤ a1) (h2 : a1 = a2 + 1) (h3 : a2 = a3 + 1) (h4 : a3 = a4 + 1) (h5 : a4 = a5 + 1) (h6 : a5 = a6 + 1) (h7 : a6 = a7 + 1) (h8 : a7 = a8 + 1) (h9 : a8 = a9 + 1) (h10 : a9 = (0 : Int) + 1) : a0 = 24 := by omega
theorem oz_03585423cb {n0 n1 n2 n3 n4 n5 n6 n7 n8 n9 : Nat} (h0 : n0 ≤ 1) (h1 : n1 ≤ 1) (h2 : n2 ≤ 1) (h3 : n3 ≤ 1) (h4 : n4 ≤ 1) (h5 : n5 ≤ 1) (h6 : n6 ≤ 1) (h7 : n7 ≤ 1) (h8 : n8 ≤ 1) (h9 : n9 ≤ 1) : (((((((((((((((((((((((0 + 1) + 1) + 1) + 1) + n0) + 1) + n1) + 1) + n2) + 1) + n3) + 1) + n4) + 1) + n5) + 1) + n6) + 1) + n7) + 1) + n8) + 1) + n9) ≤ 6000 := by omega
theorem oz_197f3b832f {a0 a1 a2 a3 a4 a5 a6 a7 a8 a9 : Int} (h0 : a0 = a1 + 1) (h1 : a1 = a2 + 1) (h2 : a2 = a3 + 1) (h3 : a3 = a4 + 1) (h4 : a4 = a5 + 1) (h5 : a5 = a6 + 1) (h6 : a6 = a7 + 1) (h7 : a7 = a8 + 1) (h8 : a8 = a9 + 1) (h9 : a9 = (0 : Int) + 1) : 0 ≤ a0 := by omega
theorem oz_f1555a0940 {n0 n1 n2 n3 n4 n5 n6 n7 n8 n9 : Nat} (h0 : (n0 : Int) ≤ 2 * (n1 : Int) + 10) (h1 : (n1 : Int) ≤ 2 * (n2 : Int) + 10) (h2 : (n2 : Int) ≤ 2 * (n3 : Int) + 10) (h3 : (n3 : Int) ≤ 2 * (n4 : Int) + 10) (h4 : (n4 : Int) ≤ 2 * (n5 : Int) + 10) (h5 : (n5 : Int) ≤ 2 * (n6 : Int) + 10) (h6 : (n6 : Int) ≤ 2 * (n7 : Int) + 10) (h7 : (n7 : Int) ≤ 2 * (n8 : Int) + 10) (h8 : (n8 : Int) ≤ 2 * (n9 : Int) + 10) (h9 : (n9 : Int) ≤ 2 * (0 : Int) + 10) : n0 ≤ 1000000 := by omega
theorem oz_46a4a4b8fe {a0 a1 a2 a3 a4 a5 a6 a7 a8 a9 : Int} (h0 : a0 = a1 + 1) (h1 : a1 = a2 + 1) (h2 : a2 = a3 + 1) (h3 : a3 = a4 + 1) (h4 : a4 = a5 + 1) (h5 : a5 = a6 + 1) (h6 : a6 = a7 + 1) (h7 : a7 = a8 + 1) (h8 : a8 = a9 + 1) (h9 : a9 = (0 : Int) + 1) : 10 ≤ a0 := by omega
theorem m1_185 : Cond.methodLink "java/util/AbstractCollection" 1 ⟨"java/lang/Object", "<init>", "()V"⟩ ∈ AL := AL_1 (List.mem_of_getElem? (i := 185) rfl) rfl
theorem m1_182 : Cond.methodLink "java/util/AbstractList" 1 ⟨"java/util/AbstractCollection", "<init>", "()V"⟩ ∈ AL := AL_1 (List.mem_of_getElem? (i := 182) rfl) rfl
theorem m1_184 : Cond.code ⟨"java/util/AbstractCollection", "<init>", "()V"⟩ prog_37_method_1_code 1 (Option.none : Option Jvm.ClassFile.FieldType) ∈ AL := AL_1 (List.mem_of_getElem? (i := 184) rfl) rfl
theorem m1_8 : Cond.initialized "java/util/AbstractCollection" ∈ AL := AL_1 (List.mem_of_getElem? (i := 8) rfl) rfl
theorem m1_183 : Cond.instanceMethod ⟨"java/util/AbstractCollection", "<init>", "()V"⟩ ∈ AL := AL_1 (List.mem_of_getElem? (i := 183) rfl) rfl
theorem m1_190 : Cond.fieldLink "java/util/AbstractList" 7 "java/util/AbstractList" "modCount" "I" ∈ AL := AL_1 (List.mem_of_getElem? (i := 190) rfl) rfl
theorem m1_179 : Cond.methodLink "java/util/ArrayList" 1 ⟨"java/util/AbstractList", "<init>", "()V"⟩ ∈ AL := AL_1 (List.mem_of_getElem? (i := 179) rfl) rfl
theorem m1_181 : Cond.code ⟨"java/util/AbstractList", "<init>", "()V"⟩ prog_38_method_1_code 1 (Option.none : Option Jvm.ClassFile.FieldType) ∈ AL := AL_1 (List.mem_of_getElem? (i := 181) rfl) rfl
theorem m1_9 : Cond.initialized "java/util/AbstractList" ∈ AL := AL_1 (List.mem_of_getElem? (i := 9) rfl) rfl
theorem m1_180 : Cond.instanceMethod ⟨"java/util/AbstractList", "<init>", "()V"⟩ ∈ AL := AL_1 (List.mem_of_getElem? (i := 180) rfl) rfl
theorem m1_173 : Cond.methodLink "HomeSystem$Names" 3 ⟨"java/lang/Object", "<init>", "()V"⟩ ∈ AL := AL_1 (List.mem_of_getElem? (i := 173) rfl) rfl
theorem m1_174 : Cond.classLink "HomeSystem$Names" 9 "java/util/ArrayList" ∈ AL := AL_1 (List.mem_of_getElem? (i := 174) rfl) rfl
theorem m1_175 : Cond.instantiable "java/util/ArrayList" 3 ∈ AL := AL_1 (List.mem_of_getElem? (i := 175) rfl) rfl
theorem m1_176 : Cond.methodLink "HomeSystem$Names" 11 ⟨"java/util/ArrayList", "<init>", "()V"⟩ ∈ AL := AL_1 (List.mem_of_getElem? (i := 176) rfl) rfl
theorem m1_178 : Cond.code ⟨"java/util/ArrayList", "<init>", "()V"⟩ prog_39_method_2_code 1 (Option.none : Option Jvm.ClassFile.FieldType) ∈ AL := AL_1 (List.mem_of_getElem? (i := 178) rfl) rfl
theorem m1_177 : Cond.instanceMethod ⟨"java/util/ArrayList", "<init>", "()V"⟩ ∈ AL := AL_1 (List.mem_of_getElem? (i := 177) rfl) rfl
theorem m2_2n : Cond.fieldLinkNest "HomeSystem$Names" 37 "HomeSystem" "GIVEN_TYPES" "[I" "HomeSystem" ∈ tables_1 := by unfold tables_1; exact List.mem_append_right _ (List.mem_append_left _ (List.mem_of_getElem? (i := 2) rfl))
theorem m2_4n : Cond.fieldLinkNest "HomeSystem$Names" 46 "HomeSystem" "GIVEN_COUNTS" "[I" "HomeSystem" ∈ tables_1 := by unfold tables_1; exact List.mem_append_right _ (List.mem_append_left _ (List.mem_of_getElem? (i := 4) rfl))
/-! NAMES are made: the three rows that the class gives -/
def oGR (C n : String) (N : Nat) (bs : List Int32) (A : Nat → Prop) (U : State) (H : Heap) : Prop := ∃ t : Nat, va_Z C n "[I" (.ref t) A U H ∧ va_T .int t N (fun j => .int (bs.getD j 0)) A U H
def GWb : List Int32 := [16, 1, 1, 1, 1, 1, 1, 1, 1, 1, 17, 1, 17, 1]
def GTb : List Int32 := [1, 3, 3, 1, 1, 1, 1, 3, 3, 3]
def GCb : List Int32 := [1, 1, 2, 1, 1, 2, 1, 2, 2, 1]
def oGI (A : Nat → Prop) (U : State) (H : Heap) : Prop := oGR "HomeSystem" "GIVEN_WANTS" 14 GWb A U H ∧ oGR "HomeSystem" "GIVEN_TYPES" 10 GTb A U H ∧ oGR "HomeSystem" "GIVEN_COUNTS" 10 GCb A U H
theorem oG_R {C n : String} {N : Nat} {bs : List Int32} : oG (fun A U H => oGR C n N bs A U H) := oG_of (fun h ⟨t, x, y⟩ => ⟨t, va_Z.moved h x, va_T.moved h y⟩) (fun ⟨t, x, y⟩ h => ⟨t, va_Z.kept x h, va_T.kept y h⟩) (fun ⟨t, x, y⟩ h => ⟨t, va_Z.narrow x h, va_T.narrow y h⟩)
theorem gvw_at {bs : List Int32} {x z : Int32} {i : Nat} {v : Int} (e : z = bs.getD x.toNatClampNeg 0) (hx : x.toInt = (i : Int)) (hv : (bs.getD i 0).toInt = v) : z.toInt = v := by
  have h : x.toNatClampNeg = i := by have h9 := cl_nat (x := x) (by first | exact oz_535992ed59 hx | omega); omega
  rw [e, h, hv]
def WtK (na : Nat → Nat → Int32) (n : Nat) : Prop := ∀ j : Nat, j < n → (na 2 j).toInt = (GWb.getD j 0).toInt
theorem wtk_s {na na' : Nat → Nat → Int32} {n : Nat} {x z : Int32} (h : WtK na n) (u : na' = va_up na 2 (upd (na 2) x.toNatClampNeg z)) (hx : x.toInt = (n : Int)) (e : z = GWb.getD x.toNatClampNeg 0) : WtK na' (n + 1) := fun j hj => by
  have hn : x.toNatClampNeg = n := by have h9 := cl_nat (x := x) (by first | exact oz_535992ed59 hx | omega); omega
  subst u
  rw [va_up_s, hn]
  by_cases c : j = n
  · subst c
    have q : upd (na 2) j z j = z := if_pos rfl
    rw [q, e, hn]
  · have q : upd (na 2) n z j = na 2 j := if_neg c
    rw [q]
    exact h j (by omega)
theorem sym_last {P w : va_W} {a : Nat} {s : Nat → Int32} (h : w = [syC a s]) : SymAt (P ++ w) a s := ⟨P.length, by rw [h, List.getElem?_append_right (Nat.le_refl _), Nat.sub_self]; rfl⟩
theorem sym_app {P w : va_W} : ∀ (a : Nat) (s : Nat → Int32), SymAt P a s → SymAt (P ++ w) a s := fun a s ⟨j, h⟩ => ⟨j, by rw [List.getElem?_append_left (List.getElem?_eq_some_iff.mp h).1]; exact h⟩
theorem gv_wn : ∀ (i : Nat) (e : FnE), GV[i]? = some e → ∀ w ∈ e.2.2, WnR w := by
  intro i e he w hw
  have hm := List.mem_of_getElem? he
  unfold GV at hm
  simp only [List.mem_cons, List.not_mem_nil, or_false] at hm
  unfold WnR
  rcases hm with rfl | rfl | rfl | rfl | rfl | rfl | rfl | rfl | rfl | rfl <;> simp only [List.mem_cons, List.not_mem_nil, or_false] at hw <;> omega
theorem fe_0 {na : Nat → Nat → Int32} {P : va_W} {fg : Nat → Option Nat} : FunE na P fg 14 (GV.take 0) := fun i e h => by simp at h
theorem fe_s {na : Nat → Nat → Int32} {P P' : va_W} {fg fg' : Nat → Option Nat} {q : Nat} {s : Nat → Int32} {n : Int32} (i b : Nat) (e : FnE) (he : GV[i]? = some e) (hl : ((GWb.drop b).take e.2.2.length).map Int32.toInt = e.2.2) (hb : b + e.2.2.length ≤ 14) (hk : WtK na 14) (h : FunE na P fg 14 (GV.take i)) (hp : ∀ (a : Nat) (s : Nat → Int32), SymAt P a s → SymAt P' a s) (hq : SymAt P' q s) (ha : AddL n fg fg' q) (hn : n.toInt = (i : Int)) (h0 : s 0 = e.1) (h1 : (s 1).toInt = 2) (h6 : (s 6).toInt = e.2.1) (h4 : (s 4).toInt = (e.2.2.length : Int)) (h3 : (s 3).toInt = (b : Int)) : FunE na P' fg' 14 (GV.take (i + 1)) := fun k d hd => by
  by_cases c : k = i
  · subst c
    rw [List.getElem?_take_of_lt (by omega), he] at hd
    cases hd
    refine ⟨q, s, b, ⟨ha.2 k hn.symm, hq, h0, h1, h6, h4, h3, fun j w hw => ⟨?_, gv_wn k e he w (List.mem_of_getElem? hw)⟩⟩, hb⟩
    have hj := (List.getElem?_eq_some_iff.mp hw).1
    rw [hk (b + j) (by omega)]
    rw [← hl, List.getElem?_map, List.getElem?_take_of_lt hj, List.getElem?_drop] at hw
    cases hx : GWb[b + j]? with
    | none => rw [hx] at hw; cases hw
    | some y =>
      rw [hx] at hw
      cases hw
      rw [List.getD_eq_getElem?_getD, hx]
      rfl
  · have hki : k < i := by
      have h9 := (List.getElem?_eq_some_iff.mp hd).1
      rw [List.length_take] at h9
      omega
    rw [List.getElem?_take_of_lt (by omega)] at hd
    obtain ⟨q2, s2, b2, ⟨a1, a2, a3, a4, a5, a6, a7, a8⟩, a9⟩ := h k d (by rw [List.getElem?_take_of_lt hki]; exact hd)
    exact ⟨q2, s2, b2, ⟨(ha.1 k (by omega)).trans a1, hp _ _ a2, a3, a4, a5, a6, a7, a8⟩, a9⟩
theorem oG_I : oG (fun A U H => oGI A U H) := oG_and oG_R (oG_and oG_R oG_R)
theorem gy_lastN {P : va_W} {a : Nat} {s : Nat → Int32} {w : va_W} (h : w = [syC a s]) (h0 : 0 ≤ (s 5).toInt) (h1 : (s 5).toInt ≤ 1000000) (hn : (s 0).toInt ≠ 25) : Gy (P ++ w) a :=
  ⟨P.length, s, by rw [h, List.getElem?_append_right (Nat.le_refl _), Nat.sub_self]; rfl, h0, h1, fun e => absurd e hn⟩
theorem elf_0 {P : va_W} {g : Nat → Option Nat} : ElF P 0 g := fun j hj => absurd hj (by have : (0 : Int32).toInt = 0 := rfl; omega)
theorem elg_0 {P : va_W} {g : Nat → Option Nat} : ElG P 0 g := fun j hj => absurd hj (by have : (0 : Int32).toInt = 0 := rfl; omega)
abbrev b_AbstractCollection_init : ByteArray := prog_37_method_1_code
def y_AbstractCollection_init : MethodName := ⟨"java/util/AbstractCollection", "<init>", "()V"⟩
theorem d_AbstractCollection_init_0 : decode b_AbstractCollection_init 0 = .ok (.aload_n 0, 1) := by decide +kernel
theorem d_AbstractCollection_init_1 : decode b_AbstractCollection_init 1 = .ok (.invokespecial 1, 3) := by decide +kernel
theorem d_AbstractCollection_init_4 : decode b_AbstractCollection_init 4 = .ok (.return_, 1) := by decide +kernel
theorem q_AbstractCollection_init : px_y y_AbstractCollection_init 0 := by unfold px_y; decide +kernel
set_option maxHeartbeats 4000000 in
set_option maxRecDepth 100000 in
theorem c_abc_init (l : Launch) (D : va_G) (cs : Nat → ClassId)  (h : Nat)  : MetV l y_AbstractCollection_init b_AbstractCollection_init 1 D cs 1 12 (0) (0) [.ref h] [[(h, .inr (14, [.null, .int 0, .int 0]))]] (fun _ => True) (fun ps => ps = [[(h, .inr (14, [.null, .int 0, .int 0]))]]) := by
  refine px_enter (by decide) (Nat.le_of_ble_eq_true rfl) ?_
  intro p e s m below meth c A ls hAe S hr hlk hnm hA hT hX hw hl
  have hin : meth.name = "<init>" := hnm
  have hl : lv_has ls 1 [(0, .ref h)] := hl
  refine lv_aload_n S.x S.b d_AbstractCollection_init_0 rfl (lv_at hl 0 rfl) ?_
  refine px_oinit S m1_185 m1_46 m1_47 hl.1 d_AbstractCollection_init_1 (Nat.le_of_ble_eq_true rfl) (Nat.le_of_ble_eq_true rfl) ?_
  exact px_vret S hr hlk hAe hw (Nat.le_of_ble_eq_true rfl) (Nat.le_of_ble_eq_true rfl) (rfl) d_AbstractCollection_init_4
abbrev b_AbstractList_init : ByteArray := prog_38_method_1_code
def y_AbstractList_init : MethodName := ⟨"java/util/AbstractList", "<init>", "()V"⟩
theorem d_AbstractList_init_0 : decode b_AbstractList_init 0 = .ok (.aload_n 0, 1) := by decide +kernel
theorem d_AbstractList_init_1 : decode b_AbstractList_init 1 = .ok (.invokespecial 1, 3) := by decide +kernel
theorem d_AbstractList_init_4 : decode b_AbstractList_init 4 = .ok (.aload_n 0, 1) := by decide +kernel
theorem d_AbstractList_init_5 : decode b_AbstractList_init 5 = .ok (.iconst 0, 1) := by decide +kernel
theorem d_AbstractList_init_6 : decode b_AbstractList_init 6 = .ok (.putfield 7, 3) := by decide +kernel
theorem d_AbstractList_init_9 : decode b_AbstractList_init 9 = .ok (.return_, 1) := by decide +kernel
theorem q_AbstractList_init : px_y y_AbstractList_init 0 := by unfold px_y; decide +kernel
set_option maxHeartbeats 4000000 in
set_option maxRecDepth 100000 in
theorem c_abl_init (l : Launch) (D : va_G) (cs : Nat → ClassId)  (h : Nat)  : MetV l y_AbstractList_init b_AbstractList_init 1 D cs 2 36 (0) (0) [.ref h] [[(h, .inr (14, [.null, .int 0, .int 0]))]] (fun _ => True) (fun ps => ps = [[(h, .inr (14, [.null, .int 0, .int 0]))]]) := by
  refine px_enter (by decide) (Nat.le_of_ble_eq_true rfl) ?_
  intro p e s m below meth c A ls hAe S hr hlk hnm hA hT hX hw hl
  have hin : meth.name = "<init>" := hnm
  have hl : lv_has ls 1 [(0, .ref h)] := hl
  have cst0 : (0 : Int32).toInt = 0 := rfl
  refine lv_aload_n S.x S.b d_AbstractList_init_0 rfl (lv_at hl 0 rfl) ?_
  refine px_callv (pr := []) (px_runI (As := []) (rest := []) S (c_abc_init l D cs h _) hT (pr := []) (pcs := [[(h, .inr (14, [.null, .int 0, .int 0]))]]) hw px_X.tt m1_184 m1_182 m1_183 m1_8 rfl q_AbstractCollection_init ⟨Nat.le_of_ble_eq_true rfl, Nat.le_of_ble_eq_true rfl⟩ hl.1 rfl (Nat.le_of_ble_eq_true rfl) d_AbstractList_init_1 ⟨Nat.le_of_ble_eq_true rfl, Nat.le_of_ble_eq_true rfl⟩) hw hA (fun p1 H locs hp1 hw => ?_)
  subst hp1
  have hw : pw D A s.heap H locs [[(h, .inr (14, [.null, .int 0, .int 0]))]] := hw
  refine lv_aload_n S.x S.b d_AbstractList_init_4 rfl (lv_at hl 0 rfl) ?_
  refine lv_iconst (v := 0) S.x S.b d_AbstractList_init_5 (by decide) ?_
  refine px_put S k_Lst hT hw 0 0 2 rfl rfl (by decide) m1_190 rfl rfl rfl (Nat.le_of_ble_eq_true rfl) d_AbstractList_init_6 (w' := [(h, .inr (14, [.null, .int 0, .int 0]))]) (ps' := [[(h, .inr (14, [.null, .int 0, .int 0]))]]) rfl rfl (fun H locs hw => ?_)
  exact px_vret S hr hlk hAe hw (Nat.le_of_ble_eq_true rfl) (Nat.le_of_ble_eq_true rfl) (rfl) d_AbstractList_init_9
abbrev b_Lst_init : ByteArray := prog_39_method_2_code
def y_Lst_init : MethodName := ⟨"java/util/ArrayList", "<init>", "()V"⟩
theorem d_Lst_init_0 : decode b_Lst_init 0 = .ok (.aload_n 0, 1) := by decide +kernel
theorem d_Lst_init_1 : decode b_Lst_init 1 = .ok (.invokespecial 1, 3) := by decide +kernel
theorem d_Lst_init_4 : decode b_Lst_init 4 = .ok (.aload_n 0, 1) := by decide +kernel
theorem d_Lst_init_5 : decode b_Lst_init 5 = .ok (.getstatic 39, 3) := by decide +kernel
theorem d_Lst_init_8 : decode b_Lst_init 8 = .ok (.putfield 9, 3) := by decide +kernel
theorem d_Lst_init_11 : decode b_Lst_init 11 = .ok (.return_, 1) := by decide +kernel
theorem q_Lst_init : px_y y_Lst_init 0 := by unfold px_y; decide +kernel
set_option maxHeartbeats 4000000 in
set_option maxRecDepth 100000 in
theorem c_al_init (l : Launch) (D : va_G) (cs : Nat → ClassId) (em : Nat) (h : Nat)  : MetV l y_Lst_init b_Lst_init 1 D cs 3 60 (0) (0) [.ref h] [[(h, .inr (14, [.null, .int 0, .int 0]))]] (oX (fun A U H => (oE A em U H)) [[(h, .inr (14, [.null, .int 0, .int 0]))]]) (fun ps => ps = [[(h, .inr (14, [.ref em, .int 0, .int 0]))]]) := by
  refine px_enter (by decide) (Nat.le_of_ble_eq_true rfl) ?_
  intro p e s m below meth c A ls hAe S hr hlk hnm hA hT hX hw hl
  have hin : meth.name = "<init>" := hnm
  have hl : lv_has ls 1 [(0, .ref h)] := hl
  have hX : (fun A U H => (oE A em U H)) A s s.heap := by rw [hAe]; exact hX
  have hE := hX
  refine lv_aload_n S.x S.b d_Lst_init_0 rfl (lv_at hl 0 rfl) ?_
  refine px_callv (pr := []) (px_runI (As := []) (rest := []) S (c_abl_init l D cs h _) hT (pr := []) (pcs := [[(h, .inr (14, [.null, .int 0, .int 0]))]]) hw px_X.tt m1_181 m1_179 m1_180 m1_9 rfl q_AbstractList_init ⟨Nat.le_of_ble_eq_true rfl, Nat.le_of_ble_eq_true rfl⟩ hl.1 rfl (Nat.le_of_ble_eq_true rfl) d_Lst_init_1 ⟨Nat.le_of_ble_eq_true rfl, Nat.le_of_ble_eq_true rfl⟩) hw hA (fun p1 H locs hp1 hw => ?_)
  subst hp1
  have hw : pw D A s.heap H locs [[(h, .inr (14, [.null, .int 0, .int 0]))]] := hw
  refine lv_aload_n S.x S.b d_Lst_init_4 rfl (lv_at hl 0 rfl) ?_
  refine va_gets S.x S.b hE.1 hw.2.2 S.own (S.w m1_186) (fun _ h => h) d_Lst_init_5 ?_
  refine px_put S k_Lst hT hw 0 0 0 rfl rfl (by decide) m1_188 rfl rfl rfl (Nat.le_of_ble_eq_true rfl) d_Lst_init_8 (w' := [(h, .inr (14, [.ref em, .int 0, .int 0]))]) (ps' := [[(h, .inr (14, [.ref em, .int 0, .int 0]))]]) rfl rfl (fun H locs hw => ?_)
  exact px_vret S hr hlk hAe hw (Nat.le_of_ble_eq_true rfl) (Nat.le_of_ble_eq_true rfl) (rfl) d_Lst_init_11
abbrev b_Nam_init : ByteArray := prog_5_method_1_code
def y_Nam_init : MethodName := ⟨"HomeSystem$Names", "<init>", "()V"⟩
theorem d_Nam_init_0 : decode b_Nam_init 0 = .ok (.aload_n 0, 1) := by decide +kernel
theorem d_Nam_init_1 : decode b_Nam_init 1 = .ok (.invokespecial 3, 3) := by decide +kernel
theorem d_Nam_init_4 : decode b_Nam_init 4 = .ok (.aload_n 0, 1) := by decide +kernel
theorem d_Nam_init_5 : decode b_Nam_init 5 = .ok (.new 9, 3) := by decide +kernel
theorem d_Nam_init_8 : decode b_Nam_init 8 = .ok (.dup, 1) := by decide +kernel
theorem d_Nam_init_9 : decode b_Nam_init 9 = .ok (.invokespecial 11, 3) := by decide +kernel
theorem d_Nam_init_12 : decode b_Nam_init 12 = .ok (.putfield 12, 3) := by decide +kernel
theorem d_Nam_init_15 : decode b_Nam_init 15 = .ok (.aload_n 0, 1) := by decide +kernel
theorem d_Nam_init_16 : decode b_Nam_init 16 = .ok (.new 9, 3) := by decide +kernel
theorem d_Nam_init_19 : decode b_Nam_init 19 = .ok (.dup, 1) := by decide +kernel
theorem d_Nam_init_20 : decode b_Nam_init 20 = .ok (.invokespecial 11, 3) := by decide +kernel
theorem d_Nam_init_23 : decode b_Nam_init 23 = .ok (.putfield 18, 3) := by decide +kernel
theorem d_Nam_init_26 : decode b_Nam_init 26 = .ok (.aload_n 0, 1) := by decide +kernel
theorem d_Nam_init_27 : decode b_Nam_init 27 = .ok (.sipush 2048, 3) := by decide +kernel
theorem d_Nam_init_30 : decode b_Nam_init 30 = .ok (.newarray .int, 2) := by decide +kernel
theorem d_Nam_init_32 : decode b_Nam_init 32 = .ok (.putfield 21, 3) := by decide +kernel
theorem d_Nam_init_35 : decode b_Nam_init 35 = .ok (.iconst 0, 1) := by decide +kernel
theorem d_Nam_init_36 : decode b_Nam_init 36 = .ok (.istore_n 1, 1) := by decide +kernel
theorem d_Nam_init_37 : decode b_Nam_init 37 = .ok (.iload_n 1, 1) := by decide +kernel
theorem d_Nam_init_38 : decode b_Nam_init 38 = .ok (.getstatic 25, 3) := by decide +kernel
theorem d_Nam_init_41 : decode b_Nam_init 41 = .ok (.arraylength, 1) := by decide +kernel
theorem d_Nam_init_42 : decode b_Nam_init 42 = .ok (.if_icmp .ge 20, 3) := by decide +kernel
theorem d_Nam_init_45 : decode b_Nam_init 45 = .ok (.aload_n 0, 1) := by decide +kernel
theorem d_Nam_init_46 : decode b_Nam_init 46 = .ok (.getfield 21, 3) := by decide +kernel
theorem d_Nam_init_49 : decode b_Nam_init 49 = .ok (.iload_n 1, 1) := by decide +kernel
theorem d_Nam_init_50 : decode b_Nam_init 50 = .ok (.getstatic 25, 3) := by decide +kernel
theorem d_Nam_init_53 : decode b_Nam_init 53 = .ok (.iload_n 1, 1) := by decide +kernel
theorem d_Nam_init_54 : decode b_Nam_init 54 = .ok (.iaload, 1) := by decide +kernel
theorem d_Nam_init_55 : decode b_Nam_init 55 = .ok (.iastore, 1) := by decide +kernel
theorem d_Nam_init_56 : decode b_Nam_init 56 = .ok (.iinc 1 1, 3) := by decide +kernel
theorem d_Nam_init_59 : decode b_Nam_init 59 = .ok (.goto (-22), 3) := by decide +kernel
theorem d_Nam_init_62 : decode b_Nam_init 62 = .ok (.iconst 0, 1) := by decide +kernel
theorem d_Nam_init_63 : decode b_Nam_init 63 = .ok (.istore_n 1, 1) := by decide +kernel
theorem d_Nam_init_64 : decode b_Nam_init 64 = .ok (.iconst 0, 1) := by decide +kernel
theorem d_Nam_init_65 : decode b_Nam_init 65 = .ok (.istore_n 2, 1) := by decide +kernel
theorem d_Nam_init_66 : decode b_Nam_init 66 = .ok (.iload_n 2, 1) := by decide +kernel
theorem d_Nam_init_67 : decode b_Nam_init 67 = .ok (.bipush 10, 2) := by decide +kernel
theorem d_Nam_init_69 : decode b_Nam_init 69 = .ok (.if_icmp .ge 67, 3) := by decide +kernel
theorem d_Nam_init_72 : decode b_Nam_init 72 = .ok (.new 28, 3) := by decide +kernel
theorem d_Nam_init_75 : decode b_Nam_init 75 = .ok (.dup, 1) := by decide +kernel
theorem d_Nam_init_76 : decode b_Nam_init 76 = .ok (.bipush 15, 2) := by decide +kernel
theorem d_Nam_init_78 : decode b_Nam_init 78 = .ok (.iload_n 2, 1) := by decide +kernel
theorem d_Nam_init_79 : decode b_Nam_init 79 = .ok (.iadd, 1) := by decide +kernel
theorem d_Nam_init_80 : decode b_Nam_init 80 = .ok (.iconst 2, 1) := by decide +kernel
theorem d_Nam_init_81 : decode b_Nam_init 81 = .ok (.invokespecial 30, 3) := by decide +kernel
theorem d_Nam_init_84 : decode b_Nam_init 84 = .ok (.astore_n 3, 1) := by decide +kernel
theorem d_Nam_init_85 : decode b_Nam_init 85 = .ok (.aload_n 3, 1) := by decide +kernel
theorem d_Nam_init_86 : decode b_Nam_init 86 = .ok (.iload_n 2, 1) := by decide +kernel
theorem d_Nam_init_87 : decode b_Nam_init 87 = .ok (.putfield 33, 3) := by decide +kernel
theorem d_Nam_init_90 : decode b_Nam_init 90 = .ok (.aload_n 3, 1) := by decide +kernel
theorem d_Nam_init_91 : decode b_Nam_init 91 = .ok (.getstatic 37, 3) := by decide +kernel
theorem d_Nam_init_94 : decode b_Nam_init 94 = .ok (.iload_n 2, 1) := by decide +kernel
theorem d_Nam_init_95 : decode b_Nam_init 95 = .ok (.iaload, 1) := by decide +kernel
theorem d_Nam_init_96 : decode b_Nam_init 96 = .ok (.putfield 40, 3) := by decide +kernel
theorem d_Nam_init_99 : decode b_Nam_init 99 = .ok (.aload_n 3, 1) := by decide +kernel
theorem d_Nam_init_100 : decode b_Nam_init 100 = .ok (.iload_n 1, 1) := by decide +kernel
theorem d_Nam_init_101 : decode b_Nam_init 101 = .ok (.putfield 43, 3) := by decide +kernel
theorem d_Nam_init_104 : decode b_Nam_init 104 = .ok (.aload_n 3, 1) := by decide +kernel
theorem d_Nam_init_105 : decode b_Nam_init 105 = .ok (.getstatic 46, 3) := by decide +kernel
theorem d_Nam_init_108 : decode b_Nam_init 108 = .ok (.iload_n 2, 1) := by decide +kernel
theorem d_Nam_init_109 : decode b_Nam_init 109 = .ok (.iaload, 1) := by decide +kernel
theorem d_Nam_init_110 : decode b_Nam_init 110 = .ok (.putfield 49, 3) := by decide +kernel
theorem d_Nam_init_113 : decode b_Nam_init 113 = .ok (.iload_n 1, 1) := by decide +kernel
theorem d_Nam_init_114 : decode b_Nam_init 114 = .ok (.getstatic 46, 3) := by decide +kernel
theorem d_Nam_init_117 : decode b_Nam_init 117 = .ok (.iload_n 2, 1) := by decide +kernel
theorem d_Nam_init_118 : decode b_Nam_init 118 = .ok (.iaload, 1) := by decide +kernel
theorem d_Nam_init_119 : decode b_Nam_init 119 = .ok (.iadd, 1) := by decide +kernel
theorem d_Nam_init_120 : decode b_Nam_init 120 = .ok (.istore_n 1, 1) := by decide +kernel
theorem d_Nam_init_121 : decode b_Nam_init 121 = .ok (.aload_n 0, 1) := by decide +kernel
theorem d_Nam_init_122 : decode b_Nam_init 122 = .ok (.getfield 18, 3) := by decide +kernel
theorem d_Nam_init_125 : decode b_Nam_init 125 = .ok (.aload_n 3, 1) := by decide +kernel
theorem d_Nam_init_126 : decode b_Nam_init 126 = .ok (.invokevirtual 52, 3) := by decide +kernel
theorem d_Nam_init_129 : decode b_Nam_init 129 = .ok (.pop, 1) := by decide +kernel
theorem d_Nam_init_130 : decode b_Nam_init 130 = .ok (.iinc 2 1, 3) := by decide +kernel
theorem d_Nam_init_133 : decode b_Nam_init 133 = .ok (.goto (-67), 3) := by decide +kernel
theorem d_Nam_init_136 : decode b_Nam_init 136 = .ok (.return_, 1) := by decide +kernel
theorem q_Nam_init : px_y y_Nam_init 0 := by unfold px_y; decide +kernel
set_option maxHeartbeats 4000000 in
set_option maxRecDepth 100000 in
theorem c_nam_init (l : Launch) (D : va_G) (cs : Nat → ClassId) (em : Nat) (mi : Nat) (h : Nat)  : MgV l y_Nam_init b_Nam_init 4 D cs 10 560 (6000) (60000) [.ref h] [[(h, .inr (2, [.null, .null, .null, .int 0, .int 0]))]] (oX (fun A U H => (oE A em U H) ∧ (va_Mi "[Ljava/lang/Object;" mi U) ∧ (oGI A U H)) [[(h, .inr (2, [.null, .null, .null, .int 0, .int 0]))]]) (fun ps => ∃ (rn : Nat → Nat) (nf : Nat → Int32) (na : Nat → Nat → Int32) (lf : Nat → Int32) (fq fc : Nat) (ff : Nat → Int32) (fg : Nat → Option Nat) (P : va_W), ps.1.flatten = [wd_Nam cs h rn (fun _ => none) nf na (fun _ _ => none), wd_Lst cs (rn 0) (fun _ => 0) (fun k => if k = 0 then (some em) else none) lf (fun _ _ => 0) (fun _ _ => none), lA cs false em 0 (fun _ => none), wd_Lst cs (rn 1) (fun _ => 0) (fun k => if k = 0 then (some fq) else none) ff (fun _ _ => 0) (fun _ _ => none), [(fq, .inl (cs 12, fc, .inr (.inr (.inr (.inr fg)))))], P].flatten ∧ NmI em P false (lf 1) (ff 1) (nf 3) (nf 4) em 0 fc (fun _ => none) fg ∧ FunE na P fg 14 GV ∧ (ff 1).toInt = 10 ∧ ps.2.1 ≤ 6000 ∧ ps.2.2 ≤ 30000) := by
  refine pg_enter (by decide) (Nat.le_of_ble_eq_true rfl) ?_
  intro p e s m below meth c A ls hAe S hr hlk hnm hA hT hX hw hl
  have hin : meth.name = "<init>" := hnm
  have hl : lv_has ls 4 [(0, .ref h)] := hl
  have cst0 : (0 : Int32).toInt = 0 := rfl
  have cst2 : (2 : Int32).toInt = 2 := rfl
  have cst10 : (10 : Int32).toInt = 10 := rfl
  have cst15 : (15 : Int32).toInt = 15 := rfl
  have cst2048 : (2048 : Int32).toInt = 2048 := rfl
  have hX : (fun A U H => (oE A em U H) ∧ (va_Mi "[Ljava/lang/Object;" mi U) ∧ (oGI A U H)) A s s.heap := by rw [hAe]; exact hX
  obtain ⟨hE, hM, hGI⟩ := hX
  obtain ⟨qwG, hqwG1, hqwG2⟩ := hGI.1
  obtain ⟨qtG, hqtG1, hqtG2⟩ := hGI.2.1
  obtain ⟨qcG, hqcG1, hqcG2⟩ := hGI.2.2
  have cst0 : (0 : Int32).toInt = 0 := rfl
  refine lv_aload_n S.x S.b d_Nam_init_0 rfl (lv_at hl 0 rfl) ?_
  refine px_oinit S m1_173 m1_46 m1_47 hl.1 d_Nam_init_1 (Nat.le_of_ble_eq_true rfl) (Nat.le_of_ble_eq_true rfl) ?_
  refine lv_aload_n S.x S.b d_Nam_init_4 rfl (lv_at hl 0 rfl) ?_
  refine px_new S k_Lst hT hw hA m1_174 m1_175 m1_10 (fs := [.null, .int 0, .int 0]) (by decide +kernel) (show 0 + 1 ≤ 6000 from by omega) (show 0 + 3 ≤ 60000 from by omega) d_Nam_init_5 (fun q1 H hw => ?_)
  have hw : pw D A s.heap H _ [[(h, .inr (2, [.null, .null, .null, .int 0, .int 0]))], [(q1, .inr (14, [.null, .int 0, .int 0]))]] := hw
  refine lv_dup S.x S.b d_Nam_init_8 rfl ?_
  refine px_callv (pr := [[(h, .inr (2, [.null, .null, .null, .int 0, .int 0]))]]) (px_runI (As := []) (rest := [.ref q1, .ref h]) S (c_al_init l D cs em q1 _) hT (pr := [[(h, .inr (2, [.null, .null, .null, .int 0, .int 0]))]]) (pcs := [[(q1, .inr (14, [.null, .int 0, .int 0]))]]) hw (oX_call (P := (fun A U H => (oE A em U H))) (pr := [[(h, .inr (2, [.null, .null, .null, .int 0, .int 0]))]]) oG_E hw hA hE) m1_178 m1_176 m1_177 m1_10 rfl q_Lst_init ⟨Nat.le_of_ble_eq_true rfl, Nat.le_of_ble_eq_true rfl⟩ hl.1 rfl (Nat.le_of_ble_eq_true rfl) d_Nam_init_9 ⟨show (0 + 1) + 0 ≤ 6000 from by omega, show (0 + 3) + 0 ≤ 60000 from by omega⟩) hw hA (fun p2 H locs hp2 hw => ?_)
  subst hp2
  have hw : pw D A s.heap H locs [[(h, .inr (2, [.null, .null, .null, .int 0, .int 0]))], [(q1, .inr (14, [.ref em, .int 0, .int 0]))]] := hw
  refine px_putF S k_Nam hin hT hw 0 0 0 rfl rfl (by decide) m2_75 rfl rfl rfl rfl (Nat.le_of_ble_eq_true rfl) d_Nam_init_12 (w' := [(h, .inr (2, [.ref q1, .null, .null, .int 0, .int 0]))]) (ps' := [[(h, .inr (2, [.ref q1, .null, .null, .int 0, .int 0]))], [(q1, .inr (14, [.ref em, .int 0, .int 0]))]]) rfl rfl (fun H locs hw => ?_)
  refine lv_aload_n S.x S.b d_Nam_init_15 rfl (lv_at hl 0 rfl) ?_
  refine px_new S k_Lst hT hw hA m1_174 m1_175 m1_10 (fs := [.null, .int 0, .int 0]) (by decide +kernel) (show (0 + 1) + 1 ≤ 6000 from by omega) (show (0 + 3) + 3 ≤ 60000 from by omega) d_Nam_init_16 (fun q4 H hw => ?_)
  have hw : pw D A s.heap H _ [[(h, .inr (2, [.ref q1, .null, .null, .int 0, .int 0]))], [(q1, .inr (14, [.ref em, .int 0, .int 0]))], [(q4, .inr (14, [.null, .int 0, .int 0]))]] := hw
  refine lv_dup S.x S.b d_Nam_init_19 rfl ?_
  refine px_callv (pr := [[(h, .inr (2, [.ref q1, .null, .null, .int 0, .int 0]))], [(q1, .inr (14, [.ref em, .int 0, .int 0]))]]) (px_runI (As := []) (rest := [.ref q4, .ref h]) S (c_al_init l D cs em q4 _) hT (pr := [[(h, .inr (2, [.ref q1, .null, .null, .int 0, .int 0]))], [(q1, .inr (14, [.ref em, .int 0, .int 0]))]]) (pcs := [[(q4, .inr (14, [.null, .int 0, .int 0]))]]) hw (oX_call (P := (fun A U H => (oE A em U H))) (pr := [[(h, .inr (2, [.ref q1, .null, .null, .int 0, .int 0]))], [(q1, .inr (14, [.ref em, .int 0, .int 0]))]]) oG_E hw hA hE) m1_178 m1_176 m1_177 m1_10 rfl q_Lst_init ⟨Nat.le_of_ble_eq_true rfl, Nat.le_of_ble_eq_true rfl⟩ hl.1 rfl (Nat.le_of_ble_eq_true rfl) d_Nam_init_20 ⟨show ((0 + 1) + 1) + 0 ≤ 6000 from by omega, show ((0 + 3) + 3) + 0 ≤ 60000 from by omega⟩) hw hA (fun p5 H locs hp5 hw => ?_)
  subst hp5
  have hw : pw D A s.heap H locs [[(h, .inr (2, [.ref q1, .null, .null, .int 0, .int 0]))], [(q1, .inr (14, [.ref em, .int 0, .int 0]))], [(q4, .inr (14, [.ref em, .int 0, .int 0]))]] := hw
  refine px_putF S k_Nam hin hT hw 0 0 1 rfl rfl (by decide) m2_76 rfl rfl rfl rfl (Nat.le_of_ble_eq_true rfl) d_Nam_init_23 (w' := [(h, .inr (2, [.ref q1, .ref q4, .null, .int 0, .int 0]))]) (ps' := [[(h, .inr (2, [.ref q1, .ref q4, .null, .int 0, .int 0]))], [(q1, .inr (14, [.ref em, .int 0, .int 0]))], [(q4, .inr (14, [.ref em, .int 0, .int 0]))]]) rfl rfl (fun H locs hw => ?_)
  refine lv_aload_n S.x S.b d_Nam_init_26 rfl (lv_at hl 0 rfl) ?_
  refine lv_sipush (v := 2048) S.x S.b d_Nam_init_27 (by decide) ?_
  refine px_newa S hT hw hA (atype := .int) m1_166 0 rfl rfl (a0 := (2048, .inl (fun _ => 0))) (fun _ => rfl) (by decide) (by decide +kernel) (Nat.le_of_ble_eq_true rfl) (show ((0 + 1) + 1) + 1 ≤ 6000 from by omega) (show ((0 + 3) + 3) + 2048 ≤ 60000 from by omega) d_Nam_init_30 (fun q7 H hw => ?_)
  have hw : pw D A s.heap H _ [[(h, .inr (2, [.ref q1, .ref q4, .null, .int 0, .int 0]))], [(q1, .inr (14, [.ref em, .int 0, .int 0]))], [(q4, .inr (14, [.ref em, .int 0, .int 0]))], [(q7, .inl (cs 0, 2048, .inl (fun _ => 0)))]] := hw
  have nd_q7 := nd_1 q7
  refine px_putF S k_Nam hin hT hw 0 0 2 rfl rfl (by decide) m2_77 rfl rfl rfl rfl (Nat.le_of_ble_eq_true rfl) d_Nam_init_32 (w' := [(h, .inr (2, [.ref q1, .ref q4, .ref q7, .int 0, .int 0]))]) (ps' := [[(h, .inr (2, [.ref q1, .ref q4, .ref q7, .int 0, .int 0]))], [(q1, .inr (14, [.ref em, .int 0, .int 0]))], [(q4, .inr (14, [.ref em, .int 0, .int 0]))], [(q7, .inl (cs 0, 2048, .inl (fun _ => 0)))]]) rfl rfl (fun H locs hw => ?_)
  have hw : pw D A s.heap _ _ [[(h, .inr (2, [.ref q1, .ref q4, .ref q7, .int 0, .int 0]))], [(q7, .inl (cs 0, 2048, .inl (fun _ => 0)))], [(q1, .inr (14, [.ref em, .int 0, .int 0]))], [(q4, .inr (14, [.ref em, .int 0, .int 0]))]] := hw.sub [0, 3, 1, 2] rfl rfl
  have hw : pw D A s.heap _ _ [wd_Nam cs h (fun k => if k = 0 then q1 else if k = 1 then q4 else q7) (fun _ => none) (upd (upd (fun _ => 0) 3 0) 4 0) (fun _ _ => 0) (fun _ _ => none), wd_Lst cs q1 (fun _ => 0) (fun k => if k = 0 then (some em) else none) (upd (upd (fun _ => 0) 1 0) 2 0) (fun _ _ => 0) (fun _ _ => none), wd_Lst cs q4 (fun _ => 0) (fun k => if k = 0 then (some em) else none) (upd (upd (fun _ => 0) 1 0) 2 0) (fun _ _ => 0) (fun _ _ => none), ([] : va_W)] := hw.eq rfl
  have hwk : WtK (fun _ _ => 0) 0 := fun j hj => absurd hj (Nat.not_lt_zero _); have hEl : ElS ([] : va_W) 0 (fun _ => none) := els_0 (by omega); have hEf : ElF ([] : va_W) 0 (fun _ => none) := elf_0; have hEg : ElG ([] : va_W) 0 (fun _ => none) := elg_0
  refine lv_iconst (v := 0) S.x S.b d_Nam_init_35 (by decide) ?_
  refine lv_istore_n (lv' := [(1, .int 0), (0, .ref h)]) S.x S.b d_Nam_init_36 rfl hl (by decide) rfl (fun ls hl => ?_)
  refine lv_iload_n S.x S.b d_Nam_init_37 rfl (lv_at hl 0 rfl) ?_
  refine va_getsN S.x S.b hqwG1 hw.2.2 S.own (va_Nw.use rfl (hT.2.2 _ m1_200n rfl)) (fun _ h => h) d_Nam_init_38 ?_
  refine va_tlen S.x S.b hqwG2 hw.2.2 (v := 14) rfl d_Nam_init_41 ?_
  have cs14_7 : (14 : Int32).toInt = 14 := rfl
  refine lv_icmp_ge (tgt := 62) S.x S.b d_Nam_init_42 (by decide) (fun c9 => ?_) (fun c9 => ?_)
  · exact absurd c9 (by decide)
  ·
    refine lv_aload_n S.x S.b d_Nam_init_45 rfl (lv_at hl 1 rfl) ?_
    refine px_get S k_Nam hT hw 0 0 2 (v := .ref q7) rfl rfl rfl (by decide) m2_77 d_Nam_init_46 ?_
    refine lv_iload_n S.x S.b d_Nam_init_49 rfl (lv_at hl 0 rfl) ?_
    refine va_getsN S.x S.b hqwG1 hw.2.2 S.own (va_Nw.use rfl (hT.2.2 _ m1_200n rfl)) (fun _ h => h) d_Nam_init_50 ?_
    refine lv_iload_n S.x S.b d_Nam_init_53 rfl (lv_at hl 0 rfl) ?_
    refine va_ti S.x S.b hqwG2 hw.2.2 (i := 0) (vp_in_iff.mpr (by constructor <;> omega)) rfl d_Nam_init_54 ?_
    refine lv_topi (fun z10 ez10 => ?_)
    have lz10 := Int32.le_toInt z10
    have uz10 := Int32.toInt_lt z10
    have vz10 : z10.toInt = 16 := gvw_at (bs := GWb) (i := 0) ez10 (show (0 : Int) = 0 from by first | exact oz_7d1a308c7e | omega) rfl
    refine px_iast S hT hw 0 1 (n := 2048) (f := ((fun _ _ => 0) 2)) (x := 0) (y := z10) rfl (ga_Nam_2 _ _ _ _ _ _ _) (vp_in_iff.mpr (by constructor <;> omega)) d_Nam_init_55 (w' := wd_Nam cs h (fun k => if k = 0 then q1 else if k = 1 then q4 else q7) (fun _ => none) (upd (upd (fun _ => 0) 3 0) 4 0) (va_up (fun _ _ => 0) 2 (upd ((fun _ _ => 0) 2) (0 : Int32).toNatClampNeg z10)) (fun _ _ => none)) (ps' := [wd_Nam cs h (fun k => if k = 0 then q1 else if k = 1 then q4 else q7) (fun _ => none) (upd (upd (fun _ => 0) 3 0) 4 0) (va_up (fun _ _ => 0) 2 (upd ((fun _ _ => 0) 2) (0 : Int32).toNatClampNeg z10)) (fun _ _ => none), wd_Lst cs q1 (fun _ => 0) (fun k => if k = 0 then (some em) else none) (upd (upd (fun _ => 0) 1 0) 2 0) (fun _ _ => 0) (fun _ _ => none), wd_Lst cs q4 (fun _ => 0) (fun k => if k = 0 then (some em) else none) (upd (upd (fun _ => 0) 1 0) 2 0) (fun _ _ => 0) (fun _ _ => none), ([] : va_W)]) (sa_Nam_2 _ _ _ _ _ _ _ _) rfl (fun H locs hw => ?_)
    obtain ⟨na11, hna11⟩ : ∃ y : Nat → Nat → Int32, y = (va_up (fun _ _ => 0) 2 (upd ((fun _ _ => 0) 2) (0 : Int32).toNatClampNeg z10)) := ⟨_, rfl⟩
    have hw : pw D A s.heap _ _ [wd_Nam cs h (fun k => if k = 0 then q1 else if k = 1 then q4 else q7) (fun _ => none) (upd (upd (fun _ => 0) 3 0) 4 0) na11 (fun _ _ => none), wd_Lst cs q1 (fun _ => 0) (fun k => if k = 0 then (some em) else none) (upd (upd (fun _ => 0) 1 0) 2 0) (fun _ _ => 0) (fun _ _ => none), wd_Lst cs q4 (fun _ => 0) (fun k => if k = 0 then (some em) else none) (upd (upd (fun _ => 0) 1 0) 2 0) (fun _ _ => 0) (fun _ _ => none), ([] : va_W)] := (by rw [hna11]; exact hw)
    have hwk : WtK na11 1 := wtk_s hwk hna11 (show (0 : Int) = 0 from by first | exact oz_7d1a308c7e | omega) ez10
    clear hna11
    obtain ⟨z12, ez12⟩ : ∃ y : Int32, y = 0 + 1 := ⟨_, rfl⟩
    have tz12 : z12.toInt = ((0 : Int) + 1 + 2147483648) % 4294967296 - 2147483648 := by rw [ez12]; exact i_add 0 1
    have lz12 := Int32.le_toInt z12
    have uz12 := Int32.toInt_lt z12
    try replace tz12 : z12.toInt = (0 : Int) + 1 := by omega
    refine lv_iinc (v := z12) (lv' := [(1, .int z12), (0, .ref h)]) S.x S.b d_Nam_init_56 hl (k := 0) rfl (by rw [ez12]; rfl) (by decide) rfl (fun ls hl => ?_)
    refine lv_goto (tgt := 37) S.x S.b d_Nam_init_59 (by decide) ?_
    refine lv_iload_n S.x S.b d_Nam_init_37 rfl (lv_at hl 0 rfl) ?_
    refine va_getsN S.x S.b hqwG1 hw.2.2 S.own (va_Nw.use rfl (hT.2.2 _ m1_200n rfl)) (fun _ h => h) d_Nam_init_38 ?_
    refine va_tlen S.x S.b hqwG2 hw.2.2 (v := 14) rfl d_Nam_init_41 ?_
    have cs14_12 : (14 : Int32).toInt = 14 := rfl
    refine lv_icmp_ge (tgt := 62) S.x S.b d_Nam_init_42 (by decide) (fun c14 => ?_) (fun c14 => ?_)
    · have nc14 : (14 : Int) ≤ z12.toInt := (i_le (x := 14) (y := z12)).mp c14
      exfalso
      omega
    · have nc14 : ¬ (14 : Int) ≤ z12.toInt := mt (i_le (x := 14) (y := z12)).mpr c14
      refine lv_aload_n S.x S.b d_Nam_init_45 rfl (lv_at hl 1 rfl) ?_
      refine px_get S k_Nam hT hw 0 0 2 (v := .ref q7) rfl rfl rfl (by decide) m2_77 d_Nam_init_46 ?_
      refine lv_iload_n S.x S.b d_Nam_init_49 rfl (lv_at hl 0 rfl) ?_
      refine va_getsN S.x S.b hqwG1 hw.2.2 S.own (va_Nw.use rfl (hT.2.2 _ m1_200n rfl)) (fun _ h => h) d_Nam_init_50 ?_
      refine lv_iload_n S.x S.b d_Nam_init_53 rfl (lv_at hl 0 rfl) ?_
      refine va_ti S.x S.b hqwG2 hw.2.2 (i := z12) (vp_in_iff.mpr (by constructor <;> omega)) rfl d_Nam_init_54 ?_
      refine lv_topi (fun z16 ez16 => ?_)
      have lz16 := Int32.le_toInt z16
      have uz16 := Int32.toInt_lt z16
      have vz16 : z16.toInt = 1 := gvw_at (bs := GWb) (i := 1) ez16 (show z12.toInt = 1 from by first | exact oz_39c814ab45 tz12 | omega) rfl
      refine px_iast S hT hw 0 1 (n := 2048) (f := (na11 2)) (x := z12) (y := z16) rfl (ga_Nam_2 _ _ _ _ _ _ _) (vp_in_iff.mpr (by constructor <;> omega)) d_Nam_init_55 (w' := wd_Nam cs h (fun k => if k = 0 then q1 else if k = 1 then q4 else q7) (fun _ => none) (upd (upd (fun _ => 0) 3 0) 4 0) (va_up na11 2 (upd (na11 2) z12.toNatClampNeg z16)) (fun _ _ => none)) (ps' := [wd_Nam cs h (fun k => if k = 0 then q1 else if k = 1 then q4 else q7) (fun _ => none) (upd (upd (fun _ => 0) 3 0) 4 0) (va_up na11 2 (upd (na11 2) z12.toNatClampNeg z16)) (fun _ _ => none), wd_Lst cs q1 (fun _ => 0) (fun k => if k = 0 then (some em) else none) (upd (upd (fun _ => 0) 1 0) 2 0) (fun _ _ => 0) (fun _ _ => none), wd_Lst cs q4 (fun _ => 0) (fun k => if k = 0 then (some em) else none) (upd (upd (fun _ => 0) 1 0) 2 0) (fun _ _ => 0) (fun _ _ => none), ([] : va_W)]) (sa_Nam_2 _ _ _ _ _ _ _ _) rfl (fun H locs hw => ?_)
      obtain ⟨na17, hna17⟩ : ∃ y : Nat → Nat → Int32, y = (va_up na11 2 (upd (na11 2) z12.toNatClampNeg z16)) := ⟨_, rfl⟩
      have hw : pw D A s.heap _ _ [wd_Nam cs h (fun k => if k = 0 then q1 else if k = 1 then q4 else q7) (fun _ => none) (upd (upd (fun _ => 0) 3 0) 4 0) na17 (fun _ _ => none), wd_Lst cs q1 (fun _ => 0) (fun k => if k = 0 then (some em) else none) (upd (upd (fun _ => 0) 1 0) 2 0) (fun _ _ => 0) (fun _ _ => none), wd_Lst cs q4 (fun _ => 0) (fun k => if k = 0 then (some em) else none) (upd (upd (fun _ => 0) 1 0) 2 0) (fun _ _ => 0) (fun _ _ => none), ([] : va_W)] := (by rw [hna17]; exact hw)
      have hwk : WtK na17 2 := wtk_s hwk hna17 (show z12.toInt = 1 from by first | exact oz_39c814ab45 tz12 | omega) ez16
      clear hna17
      obtain ⟨z18, ez18⟩ : ∃ y : Int32, y = z12 + 1 := ⟨_, rfl⟩
      have tz18 : z18.toInt = (z12.toInt + 1 + 2147483648) % 4294967296 - 2147483648 := by rw [ez18]; exact i_add z12 1
      have lz18 := Int32.le_toInt z18
      have uz18 := Int32.toInt_lt z18
      try replace tz18 : z18.toInt = z12.toInt + 1 := by omega
      refine lv_iinc (v := z18) (lv' := [(1, .int z18), (0, .ref h)]) S.x S.b d_Nam_init_56 hl (k := 0) rfl (by rw [ez18]; rfl) (by decide) rfl (fun ls hl => ?_)
      refine lv_goto (tgt := 37) S.x S.b d_Nam_init_59 (by decide) ?_
      refine lv_iload_n S.x S.b d_Nam_init_37 rfl (lv_at hl 0 rfl) ?_
      refine va_getsN S.x S.b hqwG1 hw.2.2 S.own (va_Nw.use rfl (hT.2.2 _ m1_200n rfl)) (fun _ h => h) d_Nam_init_38 ?_
      refine va_tlen S.x S.b hqwG2 hw.2.2 (v := 14) rfl d_Nam_init_41 ?_
      have cs14_18 : (14 : Int32).toInt = 14 := rfl
      refine lv_icmp_ge (tgt := 62) S.x S.b d_Nam_init_42 (by decide) (fun c20 => ?_) (fun c20 => ?_)
      · have nc20 : (14 : Int) ≤ z18.toInt := (i_le (x := 14) (y := z18)).mp c20
        exfalso
        omega
      · have nc20 : ¬ (14 : Int) ≤ z18.toInt := mt (i_le (x := 14) (y := z18)).mpr c20
        refine lv_aload_n S.x S.b d_Nam_init_45 rfl (lv_at hl 1 rfl) ?_
        refine px_get S k_Nam hT hw 0 0 2 (v := .ref q7) rfl rfl rfl (by decide) m2_77 d_Nam_init_46 ?_
        refine lv_iload_n S.x S.b d_Nam_init_49 rfl (lv_at hl 0 rfl) ?_
        refine va_getsN S.x S.b hqwG1 hw.2.2 S.own (va_Nw.use rfl (hT.2.2 _ m1_200n rfl)) (fun _ h => h) d_Nam_init_50 ?_
        refine lv_iload_n S.x S.b d_Nam_init_53 rfl (lv_at hl 0 rfl) ?_
        refine va_ti S.x S.b hqwG2 hw.2.2 (i := z18) (vp_in_iff.mpr (by constructor <;> omega)) rfl d_Nam_init_54 ?_
        refine lv_topi (fun z22 ez22 => ?_)
        have lz22 := Int32.le_toInt z22
        have uz22 := Int32.toInt_lt z22
        have vz22 : z22.toInt = 1 := gvw_at (bs := GWb) (i := 2) ez22 (show z18.toInt = 2 from by first | exact oz_79f1cc74f5 tz18 tz12 | omega) rfl
        refine px_iast S hT hw 0 1 (n := 2048) (f := (na17 2)) (x := z18) (y := z22) rfl (ga_Nam_2 _ _ _ _ _ _ _) (vp_in_iff.mpr (by constructor <;> omega)) d_Nam_init_55 (w' := wd_Nam cs h (fun k => if k = 0 then q1 else if k = 1 then q4 else q7) (fun _ => none) (upd (upd (fun _ => 0) 3 0) 4 0) (va_up na17 2 (upd (na17 2) z18.toNatClampNeg z22)) (fun _ _ => none)) (ps' := [wd_Nam cs h (fun k => if k = 0 then q1 else if k = 1 then q4 else q7) (fun _ => none) (upd (upd (fun _ => 0) 3 0) 4 0) (va_up na17 2 (upd (na17 2) z18.toNatClampNeg z22)) (fun _ _ => none), wd_Lst cs q1 (fun _ => 0) (fun k => if k = 0 then (some em) else none) (upd (upd (fun _ => 0) 1 0) 2 0) (fun _ _ => 0) (fun _ _ => none), wd_Lst cs q4 (fun _ => 0) (fun k => if k = 0 then (some em) else none) (upd (upd (fun _ => 0) 1 0) 2 0) (fun _ _ => 0) (fun _ _ => none), ([] : va_W)]) (sa_Nam_2 _ _ _ _ _ _ _ _) rfl (fun H locs hw => ?_)
        obtain ⟨na23, hna23⟩ : ∃ y : Nat → Nat → Int32, y = (va_up na17 2 (upd (na17 2) z18.toNatClampNeg z22)) := ⟨_, rfl⟩
        have hw : pw D A s.heap _ _ [wd_Nam cs h (fun k => if k = 0 then q1 else if k = 1 then q4 else q7) (fun _ => none) (upd (upd (fun _ => 0) 3 0) 4 0) na23 (fun _ _ => none), wd_Lst cs q1 (fun _ => 0) (fun k => if k = 0 then (some em) else none) (upd (upd (fun _ => 0) 1 0) 2 0) (fun _ _ => 0) (fun _ _ => none), wd_Lst cs q4 (fun _ => 0) (fun k => if k = 0 then (some em) else none) (upd (upd (fun _ => 0) 1 0) 2 0) (fun _ _ => 0) (fun _ _ => none), ([] : va_W)] := (by rw [hna23]; exact hw)
        have hwk : WtK na23 3 := wtk_s hwk hna23 (show z18.toInt = 2 from by first | exact oz_79f1cc74f5 tz18 tz12 | omega) ez22
        clear hna23
        obtain ⟨z24, ez24⟩ : ∃ y : Int32, y = z18 + 1 := ⟨_, rfl⟩
        have tz24 : z24.toInt = (z18.toInt + 1 + 2147483648) % 4294967296 - 2147483648 := by rw [ez24]; exact i_add z18 1
        have lz24 := Int32.le_toInt z24
        have uz24 := Int32.toInt_lt z24
        try replace tz24 : z24.toInt = z18.toInt + 1 := by omega
        refine lv_iinc (v := z24) (lv' := [(1, .int z24), (0, .ref h)]) S.x S.b d_Nam_init_56 hl (k := 0) rfl (by rw [ez24]; rfl) (by decide) rfl (fun ls hl => ?_)
        refine lv_goto (tgt := 37) S.x S.b d_Nam_init_59 (by decide) ?_
        refine lv_iload_n S.x S.b d_Nam_init_37 rfl (lv_at hl 0 rfl) ?_
        refine va_getsN S.x S.b hqwG1 hw.2.2 S.own (va_Nw.use rfl (hT.2.2 _ m1_200n rfl)) (fun _ h => h) d_Nam_init_38 ?_
        refine va_tlen S.x S.b hqwG2 hw.2.2 (v := 14) rfl d_Nam_init_41 ?_
        have cs14_24 : (14 : Int32).toInt = 14 := rfl
        refine lv_icmp_ge (tgt := 62) S.x S.b d_Nam_init_42 (by decide) (fun c26 => ?_) (fun c26 => ?_)
        · have nc26 : (14 : Int) ≤ z24.toInt := (i_le (x := 14) (y := z24)).mp c26
          exfalso
          omega
        · have nc26 : ¬ (14 : Int) ≤ z24.toInt := mt (i_le (x := 14) (y := z24)).mpr c26
          refine lv_aload_n S.x S.b d_Nam_init_45 rfl (lv_at hl 1 rfl) ?_
          refine px_get S k_Nam hT hw 0 0 2 (v := .ref q7) rfl rfl rfl (by decide) m2_77 d_Nam_init_46 ?_
          refine lv_iload_n S.x S.b d_Nam_init_49 rfl (lv_at hl 0 rfl) ?_
          refine va_getsN S.x S.b hqwG1 hw.2.2 S.own (va_Nw.use rfl (hT.2.2 _ m1_200n rfl)) (fun _ h => h) d_Nam_init_50 ?_
          refine lv_iload_n S.x S.b d_Nam_init_53 rfl (lv_at hl 0 rfl) ?_
          refine va_ti S.x S.b hqwG2 hw.2.2 (i := z24) (vp_in_iff.mpr (by constructor <;> omega)) rfl d_Nam_init_54 ?_
          refine lv_topi (fun z28 ez28 => ?_)
          have lz28 := Int32.le_toInt z28
          have uz28 := Int32.toInt_lt z28
          have vz28 : z28.toInt = 1 := gvw_at (bs := GWb) (i := 3) ez28 (show z24.toInt = 3 from by first | exact oz_c9d377c832 tz24 tz18 tz12 | omega) rfl
          refine px_iast S hT hw 0 1 (n := 2048) (f := (na23 2)) (x := z24) (y := z28) rfl (ga_Nam_2 _ _ _ _ _ _ _) (vp_in_iff.mpr (by constructor <;> omega)) d_Nam_init_55 (w' := wd_Nam cs h (fun k => if k = 0 then q1 else if k = 1 then q4 else q7) (fun _ => none) (upd (upd (fun _ => 0) 3 0) 4 0) (va_up na23 2 (upd (na23 2) z24.toNatClampNeg z28)) (fun _ _ => none)) (ps' := [wd_Nam cs h (fun k => if k = 0 then q1 else if k = 1 then q4 else q7) (fun _ => none) (upd (upd (fun _ => 0) 3 0) 4 0) (va_up na23 2 (upd (na23 2) z24.toNatClampNeg z28)) (fun _ _ => none), wd_Lst cs q1 (fun _ => 0) (fun k => if k = 0 then (some em) else none) (upd (upd (fun _ => 0) 1 0) 2 0) (fun _ _ => 0) (fun _ _ => none), wd_Lst cs q4 (fun _ => 0) (fun k => if k = 0 then (some em) else none) (upd (upd (fun _ => 0) 1 0) 2 0) (fun _ _ => 0) (fun _ _ => none), ([] : va_W)]) (sa_Nam_2 _ _ _ _ _ _ _ _) rfl (fun H locs hw => ?_)
          obtain ⟨na29, hna29⟩ : ∃ y : Nat → Nat → Int32, y = (va_up na23 2 (upd (na23 2) z24.toNatClampNeg z28)) := ⟨_, rfl⟩
          have hw : pw D A s.heap _ _ [wd_Nam cs h (fun k => if k = 0 then q1 else if k = 1 then q4 else q7) (fun _ => none) (upd (upd (fun _ => 0) 3 0) 4 0) na29 (fun _ _ => none), wd_Lst cs q1 (fun _ => 0) (fun k => if k = 0 then (some em) else none) (upd (upd (fun _ => 0) 1 0) 2 0) (fun _ _ => 0) (fun _ _ => none), wd_Lst cs q4 (fun _ => 0) (fun k => if k = 0 then (some em) else none) (upd (upd (fun _ => 0) 1 0) 2 0) (fun _ _ => 0) (fun _ _ => none), ([] : va_W)] := (by rw [hna29]; exact hw)
          have hwk : WtK na29 4 := wtk_s hwk hna29 (show z24.toInt = 3 from by first | exact oz_c9d377c832 tz24 tz18 tz12 | omega) ez28
          clear hna29
          obtain ⟨z30, ez30⟩ : ∃ y : Int32, y = z24 + 1 := ⟨_, rfl⟩
          have tz30 : z30.toInt = (z24.toInt + 1 + 2147483648) % 4294967296 - 2147483648 := by rw [ez30]; exact i_add z24 1
          have lz30 := Int32.le_toInt z30
          have uz30 := Int32.toInt_lt z30
          try replace tz30 : z30.toInt = z24.toInt + 1 := by omega
          refine lv_iinc (v := z30) (lv' := [(1, .int z30), (0, .ref h)]) S.x S.b d_Nam_init_56 hl (k := 0) rfl (by rw [ez30]; rfl) (by decide) rfl (fun ls hl => ?_)
          refine lv_goto (tgt := 37) S.x S.b d_Nam_init_59 (by decide) ?_
          refine lv_iload_n S.x S.b d_Nam_init_37 rfl (lv_at hl 0 rfl) ?_
          refine va_getsN S.x S.b hqwG1 hw.2.2 S.own (va_Nw.use rfl (hT.2.2 _ m1_200n rfl)) (fun _ h => h) d_Nam_init_38 ?_
          refine va_tlen S.x S.b hqwG2 hw.2.2 (v := 14) rfl d_Nam_init_41 ?_
          have cs14_30 : (14 : Int32).toInt = 14 := rfl
          refine lv_icmp_ge (tgt := 62) S.x S.b d_Nam_init_42 (by decide) (fun c32 => ?_) (fun c32 => ?_)
          · have nc32 : (14 : Int) ≤ z30.toInt := (i_le (x := 14) (y := z30)).mp c32
            exfalso
            omega
          · have nc32 : ¬ (14 : Int) ≤ z30.toInt := mt (i_le (x := 14) (y := z30)).mpr c32
            refine lv_aload_n S.x S.b d_Nam_init_45 rfl (lv_at hl 1 rfl) ?_
            refine px_get S k_Nam hT hw 0 0 2 (v := .ref q7) rfl rfl rfl (by decide) m2_77 d_Nam_init_46 ?_
            refine lv_iload_n S.x S.b d_Nam_init_49 rfl (lv_at hl 0 rfl) ?_
            refine va_getsN S.x S.b hqwG1 hw.2.2 S.own (va_Nw.use rfl (hT.2.2 _ m1_200n rfl)) (fun _ h => h) d_Nam_init_50 ?_
            refine lv_iload_n S.x S.b d_Nam_init_53 rfl (lv_at hl 0 rfl) ?_
            refine va_ti S.x S.b hqwG2 hw.2.2 (i := z30) (vp_in_iff.mpr (by constructor <;> omega)) rfl d_Nam_init_54 ?_
            refine lv_topi (fun z34 ez34 => ?_)
            have lz34 := Int32.le_toInt z34
            have uz34 := Int32.toInt_lt z34
            have vz34 : z34.toInt = 1 := gvw_at (bs := GWb) (i := 4) ez34 (show z30.toInt = 4 from by first | exact oz_a284d1c5e4 tz30 tz24 tz18 tz12 | omega) rfl
            refine px_iast S hT hw 0 1 (n := 2048) (f := (na29 2)) (x := z30) (y := z34) rfl (ga_Nam_2 _ _ _ _ _ _ _) (vp_in_iff.mpr (by constructor <;> omega)) d_Nam_init_55 (w' := wd_Nam cs h (fun k => if k = 0 then q1 else if k = 1 then q4 else q7) (fun _ => none) (upd (upd (fun _ => 0) 3 0) 4 0) (va_up na29 2 (upd (na29 2) z30.toNatClampNeg z34)) (fun _ _ => none)) (ps' := [wd_Nam cs h (fun k => if k = 0 then q1 else if k = 1 then q4 else q7) (fun _ => none) (upd (upd (fun _ => 0) 3 0) 4 0) (va_up na29 2 (upd (na29 2) z30.toNatClampNeg z34)) (fun _ _ => none), wd_Lst cs q1 (fun _ => 0) (fun k => if k = 0 then (some em) else none) (upd (upd (fun _ => 0) 1 0) 2 0) (fun _ _ => 0) (fun _ _ => none), wd_Lst cs q4 (fun _ => 0) (fun k => if k = 0 then (some em) else none) (upd (upd (fun _ => 0) 1 0) 2 0) (fun _ _ => 0) (fun _ _ => none), ([] : va_W)]) (sa_Nam_2 _ _ _ _ _ _ _ _) rfl (fun H locs hw => ?_)
            obtain ⟨na35, hna35⟩ : ∃ y : Nat → Nat → Int32, y = (va_up na29 2 (upd (na29 2) z30.toNatClampNeg z34)) := ⟨_, rfl⟩
            have hw : pw D A s.heap _ _ [wd_Nam cs h (fun k => if k = 0 then q1 else if k = 1 then q4 else q7) (fun _ => none) (upd (upd (fun _ => 0) 3 0) 4 0) na35 (fun _ _ => none), wd_Lst cs q1 (fun _ => 0) (fun k => if k = 0 then (some em) else none) (upd (upd (fun _ => 0) 1 0) 2 0) (fun _ _ => 0) (fun _ _ => none), wd_Lst cs q4 (fun _ => 0) (fun k => if k = 0 then (some em) else none) (upd (upd (fun _ => 0) 1 0) 2 0) (fun _ _ => 0) (fun _ _ => none), ([] : va_W)] := (by rw [hna35]; exact hw)
            have hwk : WtK na35 5 := wtk_s hwk hna35 (show z30.toInt = 4 from by first | exact oz_a284d1c5e4 tz30 tz24 tz18 tz12 | omega) ez34
            clear hna35
            obtain ⟨z36, ez36⟩ : ∃ y : Int32, y = z30 + 1 := ⟨_, rfl⟩
            have tz36 : z36.toInt = (z30.toInt + 1 + 2147483648) % 4294967296 - 2147483648 := by rw [ez36]; exact i_add z30 1
            have lz36 := Int32.le_toInt z36
            have uz36 := Int32.toInt_lt z36
            try replace tz36 : z36.toInt = z30.toInt + 1 := by omega
            refine lv_iinc (v := z36) (lv' := [(1, .int z36), (0, .ref h)]) S.x S.b d_Nam_init_56 hl (k := 0) rfl (by rw [ez36]; rfl) (by decide) rfl (fun ls hl => ?_)
            refine lv_goto (tgt := 37) S.x S.b d_Nam_init_59 (by decide) ?_
            refine lv_iload_n S.x S.b d_Nam_init_37 rfl (lv_at hl 0 rfl) ?_
            refine va_getsN S.x S.b hqwG1 hw.2.2 S.own (va_Nw.use rfl (hT.2.2 _ m1_200n rfl)) (fun _ h => h) d_Nam_init_38 ?_
            refine va_tlen S.x S.b hqwG2 hw.2.2 (v := 14) rfl d_Nam_init_41 ?_
            have cs14_36 : (14 : Int32).toInt = 14 := rfl
            refine lv_icmp_ge (tgt := 62) S.x S.b d_Nam_init_42 (by decide) (fun c38 => ?_) (fun c38 => ?_)
            · have nc38 : (14 : Int) ≤ z36.toInt := (i_le (x := 14) (y := z36)).mp c38
              exfalso
              omega
            · have nc38 : ¬ (14 : Int) ≤ z36.toInt := mt (i_le (x := 14) (y := z36)).mpr c38
              refine lv_aload_n S.x S.b d_Nam_init_45 rfl (lv_at hl 1 rfl) ?_
              refine px_get S k_Nam hT hw 0 0 2 (v := .ref q7) rfl rfl rfl (by decide) m2_77 d_Nam_init_46 ?_
              refine lv_iload_n S.x S.b d_Nam_init_49 rfl (lv_at hl 0 rfl) ?_
              refine va_getsN S.x S.b hqwG1 hw.2.2 S.own (va_Nw.use rfl (hT.2.2 _ m1_200n rfl)) (fun _ h => h) d_Nam_init_50 ?_
              refine lv_iload_n S.x S.b d_Nam_init_53 rfl (lv_at hl 0 rfl) ?_
              refine va_ti S.x S.b hqwG2 hw.2.2 (i := z36) (vp_in_iff.mpr (by constructor <;> omega)) rfl d_Nam_init_54 ?_
              refine lv_topi (fun z40 ez40 => ?_)
              have lz40 := Int32.le_toInt z40
              have uz40 := Int32.toInt_lt z40
              have vz40 : z40.toInt = 1 := gvw_at (bs := GWb) (i := 5) ez40 (show z36.toInt = 5 from by first | exact oz_e4e65ac650 tz36 tz30 tz24 tz18 tz12 | omega) rfl
              refine px_iast S hT hw 0 1 (n := 2048) (f := (na35 2)) (x := z36) (y := z40) rfl (ga_Nam_2 _ _ _ _ _ _ _) (vp_in_iff.mpr (by constructor <;> omega)) d_Nam_init_55 (w' := wd_Nam cs h (fun k => if k = 0 then q1 else if k = 1 then q4 else q7) (fun _ => none) (upd (upd (fun _ => 0) 3 0) 4 0) (va_up na35 2 (upd (na35 2) z36.toNatClampNeg z40)) (fun _ _ => none)) (ps' := [wd_Nam cs h (fun k => if k = 0 then q1 else if k = 1 then q4 else q7) (fun _ => none) (upd (upd (fun _ => 0) 3 0) 4 0) (va_up na35 2 (upd (na35 2) z36.toNatClampNeg z40)) (fun _ _ => none), wd_Lst cs q1 (fun _ => 0) (fun k => if k = 0 then (some em) else none) (upd (upd (fun _ => 0) 1 0) 2 0) (fun _ _ => 0) (fun _ _ => none), wd_Lst cs q4 (fun _ => 0) (fun k => if k = 0 then (some em) else none) (upd (upd (fun _ => 0) 1 0) 2 0) (fun _ _ => 0) (fun _ _ => none), ([] : va_W)]) (sa_Nam_2 _ _ _ _ _ _ _ _) rfl (fun H locs hw => ?_)
              obtain ⟨na41, hna41⟩ : ∃ y : Nat → Nat → Int32, y = (va_up na35 2 (upd (na35 2) z36.toNatClampNeg z40)) := ⟨_, rfl⟩
              have hw : pw D A s.heap _ _ [wd_Nam cs h (fun k => if k = 0 then q1 else if k = 1 then q4 else q7) (fun _ => none) (upd (upd (fun _ => 0) 3 0) 4 0) na41 (fun _ _ => none), wd_Lst cs q1 (fun _ => 0) (fun k => if k = 0 then (some em) else none) (upd (upd (fun _ => 0) 1 0) 2 0) (fun _ _ => 0) (fun _ _ => none), wd_Lst cs q4 (fun _ => 0) (fun k => if k = 0 then (some em) else none) (upd (upd (fun _ => 0) 1 0) 2 0) (fun _ _ => 0) (fun _ _ => none), ([] : va_W)] := (by rw [hna41]; exact hw)
              have hwk : WtK na41 6 := wtk_s hwk hna41 (show z36.toInt = 5 from by first | exact oz_e4e65ac650 tz36 tz30 tz24 tz18 tz12 | omega) ez40
              clear hna41
              obtain ⟨z42, ez42⟩ : ∃ y : Int32, y = z36 + 1 := ⟨_, rfl⟩
              have tz42 : z42.toInt = (z36.toInt + 1 + 2147483648) % 4294967296 - 2147483648 := by rw [ez42]; exact i_add z36 1
              have lz42 := Int32.le_toInt z42
              have uz42 := Int32.toInt_lt z42
              try replace tz42 : z42.toInt = z36.toInt + 1 := by omega
              refine lv_iinc (v := z42) (lv' := [(1, .int z42), (0, .ref h)]) S.x S.b d_Nam_init_56 hl (k := 0) rfl (by rw [ez42]; rfl) (by decide) rfl (fun ls hl => ?_)
              refine lv_goto (tgt := 37) S.x S.b d_Nam_init_59 (by decide) ?_
              refine lv_iload_n S.x S.b d_Nam_init_37 rfl (lv_at hl 0 rfl) ?_
              refine va_getsN S.x S.b hqwG1 hw.2.2 S.own (va_Nw.use rfl (hT.2.2 _ m1_200n rfl)) (fun _ h => h) d_Nam_init_38 ?_
              refine va_tlen S.x S.b hqwG2 hw.2.2 (v := 14) rfl d_Nam_init_41 ?_
              have cs14_42 : (14 : Int32).toInt = 14 := rfl
              refine lv_icmp_ge (tgt := 62) S.x S.b d_Nam_init_42 (by decide) (fun c44 => ?_) (fun c44 => ?_)
              · have nc44 : (14 : Int) ≤ z42.toInt := (i_le (x := 14) (y := z42)).mp c44
                exfalso
                omega
              · have nc44 : ¬ (14 : Int) ≤ z42.toInt := mt (i_le (x := 14) (y := z42)).mpr c44
                refine lv_aload_n S.x S.b d_Nam_init_45 rfl (lv_at hl 1 rfl) ?_
                refine px_get S k_Nam hT hw 0 0 2 (v := .ref q7) rfl rfl rfl (by decide) m2_77 d_Nam_init_46 ?_
                refine lv_iload_n S.x S.b d_Nam_init_49 rfl (lv_at hl 0 rfl) ?_
                refine va_getsN S.x S.b hqwG1 hw.2.2 S.own (va_Nw.use rfl (hT.2.2 _ m1_200n rfl)) (fun _ h => h) d_Nam_init_50 ?_
                refine lv_iload_n S.x S.b d_Nam_init_53 rfl (lv_at hl 0 rfl) ?_
                refine va_ti S.x S.b hqwG2 hw.2.2 (i := z42) (vp_in_iff.mpr (by constructor <;> omega)) rfl d_Nam_init_54 ?_
                refine lv_topi (fun z46 ez46 => ?_)
                have lz46 := Int32.le_toInt z46
                have uz46 := Int32.toInt_lt z46
                have vz46 : z46.toInt = 1 := gvw_at (bs := GWb) (i := 6) ez46 (show z42.toInt = 6 from by first | exact oz_2c15fec20a tz42 tz36 tz30 tz24 tz18 tz12 | omega) rfl
                refine px_iast S hT hw 0 1 (n := 2048) (f := (na41 2)) (x := z42) (y := z46) rfl (ga_Nam_2 _ _ _ _ _ _ _) (vp_in_iff.mpr (by constructor <;> omega)) d_Nam_init_55 (w' := wd_Nam cs h (fun k => if k = 0 then q1 else if k = 1 then q4 else q7) (fun _ => none) (upd (upd (fun _ => 0) 3 0) 4 0) (va_up na41 2 (upd (na41 2) z42.toNatClampNeg z46)) (fun _ _ => none)) (ps' := [wd_Nam cs h (fun k => if k = 0 then q1 else if k = 1 then q4 else q7) (fun _ => none) (upd (upd (fun _ => 0) 3 0) 4 0) (va_up na41 2 (upd (na41 2) z42.toNatClampNeg z46)) (fun _ _ => none), wd_Lst cs q1 (fun _ => 0) (fun k => if k = 0 then (some em) else none) (upd (upd (fun _ => 0) 1 0) 2 0) (fun _ _ => 0) (fun _ _ => none), wd_Lst cs q4 (fun _ => 0) (fun k => if k = 0 then (some em) else none) (upd (upd (fun _ => 0) 1 0) 2 0) (fun _ _ => 0) (fun _ _ => none), ([] : va_W)]) (sa_Nam_2 _ _ _ _ _ _ _ _) rfl (fun H locs hw => ?_)
                obtain ⟨na47, hna47⟩ : ∃ y : Nat → Nat → Int32, y = (va_up na41 2 (upd (na41 2) z42.toNatClampNeg z46)) := ⟨_, rfl⟩
                have hw : pw D A s.heap _ _ [wd_Nam cs h (fun k => if k = 0 then q1 else if k = 1 then q4 else q7) (fun _ => none) (upd (upd (fun _ => 0) 3 0) 4 0) na47 (fun _ _ => none), wd_Lst cs q1 (fun _ => 0) (fun k => if k = 0 then (some em) else none) (upd (upd (fun _ => 0) 1 0) 2 0) (fun _ _ => 0) (fun _ _ => none), wd_Lst cs q4 (fun _ => 0) (fun k => if k = 0 then (some em) else none) (upd (upd (fun _ => 0) 1 0) 2 0) (fun _ _ => 0) (fun _ _ => none), ([] : va_W)] := (by rw [hna47]; exact hw)
                have hwk : WtK na47 7 := wtk_s hwk hna47 (show z42.toInt = 6 from by first | exact oz_2c15fec20a tz42 tz36 tz30 tz24 tz18 tz12 | omega) ez46
                clear hna47
                obtain ⟨z48, ez48⟩ : ∃ y : Int32, y = z42 + 1 := ⟨_, rfl⟩
                have tz48 : z48.toInt = (z42.toInt + 1 + 2147483648) % 4294967296 - 2147483648 := by rw [ez48]; exact i_add z42 1
                have lz48 := Int32.le_toInt z48
                have uz48 := Int32.toInt_lt z48
                try replace tz48 : z48.toInt = z42.toInt + 1 := by omega
                refine lv_iinc (v := z48) (lv' := [(1, .int z48), (0, .ref h)]) S.x S.b d_Nam_init_56 hl (k := 0) rfl (by rw [ez48]; rfl) (by decide) rfl (fun ls hl => ?_)
                refine lv_goto (tgt := 37) S.x S.b d_Nam_init_59 (by decide) ?_
                refine lv_iload_n S.x S.b d_Nam_init_37 rfl (lv_at hl 0 rfl) ?_
                refine va_getsN S.x S.b hqwG1 hw.2.2 S.own (va_Nw.use rfl (hT.2.2 _ m1_200n rfl)) (fun _ h => h) d_Nam_init_38 ?_
                refine va_tlen S.x S.b hqwG2 hw.2.2 (v := 14) rfl d_Nam_init_41 ?_
                have cs14_48 : (14 : Int32).toInt = 14 := rfl
                refine lv_icmp_ge (tgt := 62) S.x S.b d_Nam_init_42 (by decide) (fun c50 => ?_) (fun c50 => ?_)
                · have nc50 : (14 : Int) ≤ z48.toInt := (i_le (x := 14) (y := z48)).mp c50
                  exfalso
                  omega
                · have nc50 : ¬ (14 : Int) ≤ z48.toInt := mt (i_le (x := 14) (y := z48)).mpr c50
                  refine lv_aload_n S.x S.b d_Nam_init_45 rfl (lv_at hl 1 rfl) ?_
                  refine px_get S k_Nam hT hw 0 0 2 (v := .ref q7) rfl rfl rfl (by decide) m2_77 d_Nam_init_46 ?_
                  refine lv_iload_n S.x S.b d_Nam_init_49 rfl (lv_at hl 0 rfl) ?_
                  refine va_getsN S.x S.b hqwG1 hw.2.2 S.own (va_Nw.use rfl (hT.2.2 _ m1_200n rfl)) (fun _ h => h) d_Nam_init_50 ?_
                  refine lv_iload_n S.x S.b d_Nam_init_53 rfl (lv_at hl 0 rfl) ?_
                  refine va_ti S.x S.b hqwG2 hw.2.2 (i := z48) (vp_in_iff.mpr (by constructor <;> omega)) rfl d_Nam_init_54 ?_
                  refine lv_topi (fun z52 ez52 => ?_)
                  have lz52 := Int32.le_toInt z52
                  have uz52 := Int32.toInt_lt z52
                  have vz52 : z52.toInt = 1 := gvw_at (bs := GWb) (i := 7) ez52 (show z48.toInt = 7 from by first | exact oz_351b2949af tz48 tz42 tz36 tz30 tz24 tz18 tz12 | omega) rfl
                  refine px_iast S hT hw 0 1 (n := 2048) (f := (na47 2)) (x := z48) (y := z52) rfl (ga_Nam_2 _ _ _ _ _ _ _) (vp_in_iff.mpr (by constructor <;> omega)) d_Nam_init_55 (w' := wd_Nam cs h (fun k => if k = 0 then q1 else if k = 1 then q4 else q7) (fun _ => none) (upd (upd (fun _ => 0) 3 0) 4 0) (va_up na47 2 (upd (na47 2) z48.toNatClampNeg z52)) (fun _ _ => none)) (ps' := [wd_Nam cs h (fun k => if k = 0 then q1 else if k = 1 then q4 else q7) (fun _ => none) (upd (upd (fun _ => 0) 3 0) 4 0) (va_up na47 2 (upd (na47 2) z48.toNatClampNeg z52)) (fun _ _ => none), wd_Lst cs q1 (fun _ => 0) (fun k => if k = 0 then (some em) else none) (upd (upd (fun _ => 0) 1 0) 2 0) (fun _ _ => 0) (fun _ _ => none), wd_Lst cs q4 (fun _ => 0) (fun k => if k = 0 then (some em) else none) (upd (upd (fun _ => 0) 1 0) 2 0) (fun _ _ => 0) (fun _ _ => none), ([] : va_W)]) (sa_Nam_2 _ _ _ _ _ _ _ _) rfl (fun H locs hw => ?_)
                  obtain ⟨na53, hna53⟩ : ∃ y : Nat → Nat → Int32, y = (va_up na47 2 (upd (na47 2) z48.toNatClampNeg z52)) := ⟨_, rfl⟩
                  have hw : pw D A s.heap _ _ [wd_Nam cs h (fun k => if k = 0 then q1 else if k = 1 then q4 else q7) (fun _ => none) (upd (upd (fun _ => 0) 3 0) 4 0) na53 (fun _ _ => none), wd_Lst cs q1 (fun _ => 0) (fun k => if k = 0 then (some em) else none) (upd (upd (fun _ => 0) 1 0) 2 0) (fun _ _ => 0) (fun _ _ => none), wd_Lst cs q4 (fun _ => 0) (fun k => if k = 0 then (some em) else none) (upd (upd (fun _ => 0) 1 0) 2 0) (fun _ _ => 0) (fun _ _ => none), ([] : va_W)] := (by rw [hna53]; exact hw)
                  have hwk : WtK na53 8 := wtk_s hwk hna53 (show z48.toInt = 7 from by first | exact oz_351b2949af tz48 tz42 tz36 tz30 tz24 tz18 tz12 | omega) ez52
                  clear hna53
                  obtain ⟨z54, ez54⟩ : ∃ y : Int32, y = z48 + 1 := ⟨_, rfl⟩
                  have tz54 : z54.toInt = (z48.toInt + 1 + 2147483648) % 4294967296 - 2147483648 := by rw [ez54]; exact i_add z48 1
                  have lz54 := Int32.le_toInt z54
                  have uz54 := Int32.toInt_lt z54
                  try replace tz54 : z54.toInt = z48.toInt + 1 := by omega
                  refine lv_iinc (v := z54) (lv' := [(1, .int z54), (0, .ref h)]) S.x S.b d_Nam_init_56 hl (k := 0) rfl (by rw [ez54]; rfl) (by decide) rfl (fun ls hl => ?_)
                  refine lv_goto (tgt := 37) S.x S.b d_Nam_init_59 (by decide) ?_
                  refine lv_iload_n S.x S.b d_Nam_init_37 rfl (lv_at hl 0 rfl) ?_
                  refine va_getsN S.x S.b hqwG1 hw.2.2 S.own (va_Nw.use rfl (hT.2.2 _ m1_200n rfl)) (fun _ h => h) d_Nam_init_38 ?_
                  refine va_tlen S.x S.b hqwG2 hw.2.2 (v := 14) rfl d_Nam_init_41 ?_
                  have cs14_54 : (14 : Int32).toInt = 14 := rfl
                  refine lv_icmp_ge (tgt := 62) S.x S.b d_Nam_init_42 (by decide) (fun c56 => ?_) (fun c56 => ?_)
                  · have nc56 : (14 : Int) ≤ z54.toInt := (i_le (x := 14) (y := z54)).mp c56
                    exfalso
                    omega
                  · have nc56 : ¬ (14 : Int) ≤ z54.toInt := mt (i_le (x := 14) (y := z54)).mpr c56
                    refine lv_aload_n S.x S.b d_Nam_init_45 rfl (lv_at hl 1 rfl) ?_
                    refine px_get S k_Nam hT hw 0 0 2 (v := .ref q7) rfl rfl rfl (by decide) m2_77 d_Nam_init_46 ?_
                    refine lv_iload_n S.x S.b d_Nam_init_49 rfl (lv_at hl 0 rfl) ?_
                    refine va_getsN S.x S.b hqwG1 hw.2.2 S.own (va_Nw.use rfl (hT.2.2 _ m1_200n rfl)) (fun _ h => h) d_Nam_init_50 ?_
                    refine lv_iload_n S.x S.b d_Nam_init_53 rfl (lv_at hl 0 rfl) ?_
                    refine va_ti S.x S.b hqwG2 hw.2.2 (i := z54) (vp_in_iff.mpr (by constructor <;> omega)) rfl d_Nam_init_54 ?_
                    refine lv_topi (fun z58 ez58 => ?_)
                    have lz58 := Int32.le_toInt z58
                    have uz58 := Int32.toInt_lt z58
                    have vz58 : z58.toInt = 1 := gvw_at (bs := GWb) (i := 8) ez58 (show z54.toInt = 8 from by first | exact oz_669628ecb5 tz54 tz48 tz42 tz36 tz30 tz24 tz18 tz12 | omega) rfl
                    refine px_iast S hT hw 0 1 (n := 2048) (f := (na53 2)) (x := z54) (y := z58) rfl (ga_Nam_2 _ _ _ _ _ _ _) (vp_in_iff.mpr (by constructor <;> omega)) d_Nam_init_55 (w' := wd_Nam cs h (fun k => if k = 0 then q1 else if k = 1 then q4 else q7) (fun _ => none) (upd (upd (fun _ => 0) 3 0) 4 0) (va_up na53 2 (upd (na53 2) z54.toNatClampNeg z58)) (fun _ _ => none)) (ps' := [wd_Nam cs h (fun k => if k = 0 then q1 else if k = 1 then q4 else q7) (fun _ => none) (upd (upd (fun _ => 0) 3 0) 4 0) (va_up na53 2 (upd (na53 2) z54.toNatClampNeg z58)) (fun _ _ => none), wd_Lst cs q1 (fun _ => 0) (fun k => if k = 0 then (some em) else none) (upd (upd (fun _ => 0) 1 0) 2 0) (fun _ _ => 0) (fun _ _ => none), wd_Lst cs q4 (fun _ => 0) (fun k => if k = 0 then (some em) else none) (upd (upd (fun _ => 0) 1 0) 2 0) (fun _ _ => 0) (fun _ _ => none), ([] : va_W)]) (sa_Nam_2 _ _ _ _ _ _ _ _) rfl (fun H locs hw => ?_)
                    obtain ⟨na59, hna59⟩ : ∃ y : Nat → Nat → Int32, y = (va_up na53 2 (upd (na53 2) z54.toNatClampNeg z58)) := ⟨_, rfl⟩
                    have hw : pw D A s.heap _ _ [wd_Nam cs h (fun k => if k = 0 then q1 else if k = 1 then q4 else q7) (fun _ => none) (upd (upd (fun _ => 0) 3 0) 4 0) na59 (fun _ _ => none), wd_Lst cs q1 (fun _ => 0) (fun k => if k = 0 then (some em) else none) (upd (upd (fun _ => 0) 1 0) 2 0) (fun _ _ => 0) (fun _ _ => none), wd_Lst cs q4 (fun _ => 0) (fun k => if k = 0 then (some em) else none) (upd (upd (fun _ => 0) 1 0) 2 0) (fun _ _ => 0) (fun _ _ => none), ([] : va_W)] := (by rw [hna59]; exact hw)
                    have hwk : WtK na59 9 := wtk_s hwk hna59 (show z54.toInt = 8 from by first | exact oz_669628ecb5 tz54 tz48 tz42 tz36 tz30 tz24 tz18 tz12 | omega) ez58
                    clear hna59
                    obtain ⟨z60, ez60⟩ : ∃ y : Int32, y = z54 + 1 := ⟨_, rfl⟩
                    have tz60 : z60.toInt = (z54.toInt + 1 + 2147483648) % 4294967296 - 2147483648 := by rw [ez60]; exact i_add z54 1
                    have lz60 := Int32.le_toInt z60
                    have uz60 := Int32.toInt_lt z60
                    try replace tz60 : z60.toInt = z54.toInt + 1 := by omega
                    refine lv_iinc (v := z60) (lv' := [(1, .int z60), (0, .ref h)]) S.x S.b d_Nam_init_56 hl (k := 0) rfl (by rw [ez60]; rfl) (by decide) rfl (fun ls hl => ?_)
                    refine lv_goto (tgt := 37) S.x S.b d_Nam_init_59 (by decide) ?_
                    refine lv_iload_n S.x S.b d_Nam_init_37 rfl (lv_at hl 0 rfl) ?_
                    refine va_getsN S.x S.b hqwG1 hw.2.2 S.own (va_Nw.use rfl (hT.2.2 _ m1_200n rfl)) (fun _ h => h) d_Nam_init_38 ?_
                    refine va_tlen S.x S.b hqwG2 hw.2.2 (v := 14) rfl d_Nam_init_41 ?_
                    have cs14_60 : (14 : Int32).toInt = 14 := rfl
                    refine lv_icmp_ge (tgt := 62) S.x S.b d_Nam_init_42 (by decide) (fun c62 => ?_) (fun c62 => ?_)
                    · have nc62 : (14 : Int) ≤ z60.toInt := (i_le (x := 14) (y := z60)).mp c62
                      exfalso
                      omega
                    · have nc62 : ¬ (14 : Int) ≤ z60.toInt := mt (i_le (x := 14) (y := z60)).mpr c62
                      refine lv_aload_n S.x S.b d_Nam_init_45 rfl (lv_at hl 1 rfl) ?_
                      refine px_get S k_Nam hT hw 0 0 2 (v := .ref q7) rfl rfl rfl (by decide) m2_77 d_Nam_init_46 ?_
                      refine lv_iload_n S.x S.b d_Nam_init_49 rfl (lv_at hl 0 rfl) ?_
                      refine va_getsN S.x S.b hqwG1 hw.2.2 S.own (va_Nw.use rfl (hT.2.2 _ m1_200n rfl)) (fun _ h => h) d_Nam_init_50 ?_
                      refine lv_iload_n S.x S.b d_Nam_init_53 rfl (lv_at hl 0 rfl) ?_
                      refine va_ti S.x S.b hqwG2 hw.2.2 (i := z60) (vp_in_iff.mpr (by constructor <;> omega)) rfl d_Nam_init_54 ?_
                      refine lv_topi (fun z64 ez64 => ?_)
                      have lz64 := Int32.le_toInt z64
                      have uz64 := Int32.toInt_lt z64
                      have vz64 : z64.toInt = 1 := gvw_at (bs := GWb) (i := 9) ez64 (show z60.toInt = 9 from by first | exact oz_f8280fa592 tz60 tz54 tz48 tz42 tz36 tz30 tz24 tz18 tz12 | omega) rfl
                      refine px_iast S hT hw 0 1 (n := 2048) (f := (na59 2)) (x := z60) (y := z64) rfl (ga_Nam_2 _ _ _ _ _ _ _) (vp_in_iff.mpr (by constructor <;> omega)) d_Nam_init_55 (w' := wd_Nam cs h (fun k => if k = 0 then q1 else if k = 1 then q4 else q7) (fun _ => none) (upd (upd (fun _ => 0) 3 0) 4 0) (va_up na59 2 (upd (na59 2) z60.toNatClampNeg z64)) (fun _ _ => none)) (ps' := [wd_Nam cs h (fun k => if k = 0 then q1 else if k = 1 then q4 else q7) (fun _ => none) (upd (upd (fun _ => 0) 3 0) 4 0) (va_up na59 2 (upd (na59 2) z60.toNatClampNeg z64)) (fun _ _ => none), wd_Lst cs q1 (fun _ => 0) (fun k => if k = 0 then (some em) else none) (upd (upd (fun _ => 0) 1 0) 2 0) (fun _ _ => 0) (fun _ _ => none), wd_Lst cs q4 (fun _ => 0) (fun k => if k = 0 then (some em) else none) (upd (upd (fun _ => 0) 1 0) 2 0) (fun _ _ => 0) (fun _ _ => none), ([] : va_W)]) (sa_Nam_2 _ _ _ _ _ _ _ _) rfl (fun H locs hw => ?_)
                      obtain ⟨na65, hna65⟩ : ∃ y : Nat → Nat → Int32, y = (va_up na59 2 (upd (na59 2) z60.toNatClampNeg z64)) := ⟨_, rfl⟩
                      have hw : pw D A s.heap _ _ [wd_Nam cs h (fun k => if k = 0 then q1 else if k = 1 then q4 else q7) (fun _ => none) (upd (upd (fun _ => 0) 3 0) 4 0) na65 (fun _ _ => none), wd_Lst cs q1 (fun _ => 0) (fun k => if k = 0 then (some em) else none) (upd (upd (fun _ => 0) 1 0) 2 0) (fun _ _ => 0) (fun _ _ => none), wd_Lst cs q4 (fun _ => 0) (fun k => if k = 0 then (some em) else none) (upd (upd (fun _ => 0) 1 0) 2 0) (fun _ _ => 0) (fun _ _ => none), ([] : va_W)] := (by rw [hna65]; exact hw)
                      have hwk : WtK na65 10 := wtk_s hwk hna65 (show z60.toInt = 9 from by first | exact oz_f8280fa592 tz60 tz54 tz48 tz42 tz36 tz30 tz24 tz18 tz12 | omega) ez64
                      clear hna65
                      obtain ⟨z66, ez66⟩ : ∃ y : Int32, y = z60 + 1 := ⟨_, rfl⟩
                      have tz66 : z66.toInt = (z60.toInt + 1 + 2147483648) % 4294967296 - 2147483648 := by rw [ez66]; exact i_add z60 1
                      have lz66 := Int32.le_toInt z66
                      have uz66 := Int32.toInt_lt z66
                      try replace tz66 : z66.toInt = z60.toInt + 1 := by omega
                      refine lv_iinc (v := z66) (lv' := [(1, .int z66), (0, .ref h)]) S.x S.b d_Nam_init_56 hl (k := 0) rfl (by rw [ez66]; rfl) (by decide) rfl (fun ls hl => ?_)
                      refine lv_goto (tgt := 37) S.x S.b d_Nam_init_59 (by decide) ?_
                      refine lv_iload_n S.x S.b d_Nam_init_37 rfl (lv_at hl 0 rfl) ?_
                      refine va_getsN S.x S.b hqwG1 hw.2.2 S.own (va_Nw.use rfl (hT.2.2 _ m1_200n rfl)) (fun _ h => h) d_Nam_init_38 ?_
                      refine va_tlen S.x S.b hqwG2 hw.2.2 (v := 14) rfl d_Nam_init_41 ?_
                      have cs14_66 : (14 : Int32).toInt = 14 := rfl
                      refine lv_icmp_ge (tgt := 62) S.x S.b d_Nam_init_42 (by decide) (fun c68 => ?_) (fun c68 => ?_)
                      · have nc68 : (14 : Int) ≤ z66.toInt := (i_le (x := 14) (y := z66)).mp c68
                        exfalso
                        omega
                      · have nc68 : ¬ (14 : Int) ≤ z66.toInt := mt (i_le (x := 14) (y := z66)).mpr c68
                        refine lv_aload_n S.x S.b d_Nam_init_45 rfl (lv_at hl 1 rfl) ?_
                        refine px_get S k_Nam hT hw 0 0 2 (v := .ref q7) rfl rfl rfl (by decide) m2_77 d_Nam_init_46 ?_
                        refine lv_iload_n S.x S.b d_Nam_init_49 rfl (lv_at hl 0 rfl) ?_
                        refine va_getsN S.x S.b hqwG1 hw.2.2 S.own (va_Nw.use rfl (hT.2.2 _ m1_200n rfl)) (fun _ h => h) d_Nam_init_50 ?_
                        refine lv_iload_n S.x S.b d_Nam_init_53 rfl (lv_at hl 0 rfl) ?_
                        refine va_ti S.x S.b hqwG2 hw.2.2 (i := z66) (vp_in_iff.mpr (by constructor <;> omega)) rfl d_Nam_init_54 ?_
                        refine lv_topi (fun z70 ez70 => ?_)
                        have lz70 := Int32.le_toInt z70
                        have uz70 := Int32.toInt_lt z70
                        have vz70 : z70.toInt = 17 := gvw_at (bs := GWb) (i := 10) ez70 (show z66.toInt = 10 from by first | exact oz_eb9ee4bb92 tz66 tz60 tz54 tz48 tz42 tz36 tz30 tz24 tz18 tz12 | omega) rfl
                        refine px_iast S hT hw 0 1 (n := 2048) (f := (na65 2)) (x := z66) (y := z70) rfl (ga_Nam_2 _ _ _ _ _ _ _) (vp_in_iff.mpr (by constructor <;> omega)) d_Nam_init_55 (w' := wd_Nam cs h (fun k => if k = 0 then q1 else if k = 1 then q4 else q7) (fun _ => none) (upd (upd (fun _ => 0) 3 0) 4 0) (va_up na65 2 (upd (na65 2) z66.toNatClampNeg z70)) (fun _ _ => none)) (ps' := [wd_Nam cs h (fun k => if k = 0 then q1 else if k = 1 then q4 else q7) (fun _ => none) (upd (upd (fun _ => 0) 3 0) 4 0) (va_up na65 2 (upd (na65 2) z66.toNatClampNeg z70)) (fun _ _ => none), wd_Lst cs q1 (fun _ => 0) (fun k => if k = 0 then (some em) else none) (upd (upd (fun _ => 0) 1 0) 2 0) (fun _ _ => 0) (fun _ _ => none), wd_Lst cs q4 (fun _ => 0) (fun k => if k = 0 then (some em) else none) (upd (upd (fun _ => 0) 1 0) 2 0) (fun _ _ => 0) (fun _ _ => none), ([] : va_W)]) (sa_Nam_2 _ _ _ _ _ _ _ _) rfl (fun H locs hw => ?_)
                        obtain ⟨na71, hna71⟩ : ∃ y : Nat → Nat → Int32, y = (va_up na65 2 (upd (na65 2) z66.toNatClampNeg z70)) := ⟨_, rfl⟩
                        have hw : pw D A s.heap _ _ [wd_Nam cs h (fun k => if k = 0 then q1 else if k = 1 then q4 else q7) (fun _ => none) (upd (upd (fun _ => 0) 3 0) 4 0) na71 (fun _ _ => none), wd_Lst cs q1 (fun _ => 0) (fun k => if k = 0 then (some em) else none) (upd (upd (fun _ => 0) 1 0) 2 0) (fun _ _ => 0) (fun _ _ => none), wd_Lst cs q4 (fun _ => 0) (fun k => if k = 0 then (some em) else none) (upd (upd (fun _ => 0) 1 0) 2 0) (fun _ _ => 0) (fun _ _ => none), ([] : va_W)] := (by rw [hna71]; exact hw)
                        have hwk : WtK na71 11 := wtk_s hwk hna71 (show z66.toInt = 10 from by first | exact oz_eb9ee4bb92 tz66 tz60 tz54 tz48 tz42 tz36 tz30 tz24 tz18 tz12 | omega) ez70
                        clear hna71
                        obtain ⟨z72, ez72⟩ : ∃ y : Int32, y = z66 + 1 := ⟨_, rfl⟩
                        have tz72 : z72.toInt = (z66.toInt + 1 + 2147483648) % 4294967296 - 2147483648 := by rw [ez72]; exact i_add z66 1
                        have lz72 := Int32.le_toInt z72
                        have uz72 := Int32.toInt_lt z72
                        try replace tz72 : z72.toInt = z66.toInt + 1 := by omega
                        refine lv_iinc (v := z72) (lv' := [(1, .int z72), (0, .ref h)]) S.x S.b d_Nam_init_56 hl (k := 0) rfl (by rw [ez72]; rfl) (by decide) rfl (fun ls hl => ?_)
                        refine lv_goto (tgt := 37) S.x S.b d_Nam_init_59 (by decide) ?_
                        refine lv_iload_n S.x S.b d_Nam_init_37 rfl (lv_at hl 0 rfl) ?_
                        refine va_getsN S.x S.b hqwG1 hw.2.2 S.own (va_Nw.use rfl (hT.2.2 _ m1_200n rfl)) (fun _ h => h) d_Nam_init_38 ?_
                        refine va_tlen S.x S.b hqwG2 hw.2.2 (v := 14) rfl d_Nam_init_41 ?_
                        have cs14_72 : (14 : Int32).toInt = 14 := rfl
                        refine lv_icmp_ge (tgt := 62) S.x S.b d_Nam_init_42 (by decide) (fun c74 => ?_) (fun c74 => ?_)
                        · have nc74 : (14 : Int) ≤ z72.toInt := (i_le (x := 14) (y := z72)).mp c74
                          exfalso
                          omega
                        · have nc74 : ¬ (14 : Int) ≤ z72.toInt := mt (i_le (x := 14) (y := z72)).mpr c74
                          refine lv_aload_n S.x S.b d_Nam_init_45 rfl (lv_at hl 1 rfl) ?_
                          refine px_get S k_Nam hT hw 0 0 2 (v := .ref q7) rfl rfl rfl (by decide) m2_77 d_Nam_init_46 ?_
                          refine lv_iload_n S.x S.b d_Nam_init_49 rfl (lv_at hl 0 rfl) ?_
                          refine va_getsN S.x S.b hqwG1 hw.2.2 S.own (va_Nw.use rfl (hT.2.2 _ m1_200n rfl)) (fun _ h => h) d_Nam_init_50 ?_
                          refine lv_iload_n S.x S.b d_Nam_init_53 rfl (lv_at hl 0 rfl) ?_
                          refine va_ti S.x S.b hqwG2 hw.2.2 (i := z72) (vp_in_iff.mpr (by constructor <;> omega)) rfl d_Nam_init_54 ?_
                          refine lv_topi (fun z76 ez76 => ?_)
                          have lz76 := Int32.le_toInt z76
                          have uz76 := Int32.toInt_lt z76
                          have vz76 : z76.toInt = 1 := gvw_at (bs := GWb) (i := 11) ez76 (show z72.toInt = 11 from by first | exact oz_f27056b260 tz72 tz66 tz60 tz54 tz48 tz42 tz36 tz30 tz24 tz18 tz12 | omega) rfl
                          refine px_iast S hT hw 0 1 (n := 2048) (f := (na71 2)) (x := z72) (y := z76) rfl (ga_Nam_2 _ _ _ _ _ _ _) (vp_in_iff.mpr (by constructor <;> omega)) d_Nam_init_55 (w' := wd_Nam cs h (fun k => if k = 0 then q1 else if k = 1 then q4 else q7) (fun _ => none) (upd (upd (fun _ => 0) 3 0) 4 0) (va_up na71 2 (upd (na71 2) z72.toNatClampNeg z76)) (fun _ _ => none)) (ps' := [wd_Nam cs h (fun k => if k = 0 then q1 else if k = 1 then q4 else q7) (fun _ => none) (upd (upd (fun _ => 0) 3 0) 4 0) (va_up na71 2 (upd (na71 2) z72.toNatClampNeg z76)) (fun _ _ => none), wd_Lst cs q1 (fun _ => 0) (fun k => if k = 0 then (some em) else none) (upd (upd (fun _ => 0) 1 0) 2 0) (fun _ _ => 0) (fun _ _ => none), wd_Lst cs q4 (fun _ => 0) (fun k => if k = 0 then (some em) else none) (upd (upd (fun _ => 0) 1 0) 2 0) (fun _ _ => 0) (fun _ _ => none), ([] : va_W)]) (sa_Nam_2 _ _ _ _ _ _ _ _) rfl (fun H locs hw => ?_)
                          obtain ⟨na77, hna77⟩ : ∃ y : Nat → Nat → Int32, y = (va_up na71 2 (upd (na71 2) z72.toNatClampNeg z76)) := ⟨_, rfl⟩
                          have hw : pw D A s.heap _ _ [wd_Nam cs h (fun k => if k = 0 then q1 else if k = 1 then q4 else q7) (fun _ => none) (upd (upd (fun _ => 0) 3 0) 4 0) na77 (fun _ _ => none), wd_Lst cs q1 (fun _ => 0) (fun k => if k = 0 then (some em) else none) (upd (upd (fun _ => 0) 1 0) 2 0) (fun _ _ => 0) (fun _ _ => none), wd_Lst cs q4 (fun _ => 0) (fun k => if k = 0 then (some em) else none) (upd (upd (fun _ => 0) 1 0) 2 0) (fun _ _ => 0) (fun _ _ => none), ([] : va_W)] := (by rw [hna77]; exact hw)
                          have hwk : WtK na77 12 := wtk_s hwk hna77 (show z72.toInt = 11 from by first | exact oz_f27056b260 tz72 tz66 tz60 tz54 tz48 tz42 tz36 tz30 tz24 tz18 tz12 | omega) ez76
                          clear hna77
                          obtain ⟨z78, ez78⟩ : ∃ y : Int32, y = z72 + 1 := ⟨_, rfl⟩
                          have tz78 : z78.toInt = (z72.toInt + 1 + 2147483648) % 4294967296 - 2147483648 := by rw [ez78]; exact i_add z72 1
                          have lz78 := Int32.le_toInt z78
                          have uz78 := Int32.toInt_lt z78
                          try replace tz78 : z78.toInt = z72.toInt + 1 := by omega
                          refine lv_iinc (v := z78) (lv' := [(1, .int z78), (0, .ref h)]) S.x S.b d_Nam_init_56 hl (k := 0) rfl (by rw [ez78]; rfl) (by decide) rfl (fun ls hl => ?_)
                          refine lv_goto (tgt := 37) S.x S.b d_Nam_init_59 (by decide) ?_
                          refine lv_iload_n S.x S.b d_Nam_init_37 rfl (lv_at hl 0 rfl) ?_
                          refine va_getsN S.x S.b hqwG1 hw.2.2 S.own (va_Nw.use rfl (hT.2.2 _ m1_200n rfl)) (fun _ h => h) d_Nam_init_38 ?_
                          refine va_tlen S.x S.b hqwG2 hw.2.2 (v := 14) rfl d_Nam_init_41 ?_
                          have cs14_78 : (14 : Int32).toInt = 14 := rfl
                          refine lv_icmp_ge (tgt := 62) S.x S.b d_Nam_init_42 (by decide) (fun c80 => ?_) (fun c80 => ?_)
                          · have nc80 : (14 : Int) ≤ z78.toInt := (i_le (x := 14) (y := z78)).mp c80
                            exfalso
                            omega
                          · have nc80 : ¬ (14 : Int) ≤ z78.toInt := mt (i_le (x := 14) (y := z78)).mpr c80
                            refine lv_aload_n S.x S.b d_Nam_init_45 rfl (lv_at hl 1 rfl) ?_
                            refine px_get S k_Nam hT hw 0 0 2 (v := .ref q7) rfl rfl rfl (by decide) m2_77 d_Nam_init_46 ?_
                            refine lv_iload_n S.x S.b d_Nam_init_49 rfl (lv_at hl 0 rfl) ?_
                            refine va_getsN S.x S.b hqwG1 hw.2.2 S.own (va_Nw.use rfl (hT.2.2 _ m1_200n rfl)) (fun _ h => h) d_Nam_init_50 ?_
                            refine lv_iload_n S.x S.b d_Nam_init_53 rfl (lv_at hl 0 rfl) ?_
                            refine va_ti S.x S.b hqwG2 hw.2.2 (i := z78) (vp_in_iff.mpr (by constructor <;> omega)) rfl d_Nam_init_54 ?_
                            refine lv_topi (fun z82 ez82 => ?_)
                            have lz82 := Int32.le_toInt z82
                            have uz82 := Int32.toInt_lt z82
                            have vz82 : z82.toInt = 17 := gvw_at (bs := GWb) (i := 12) ez82 (show z78.toInt = 12 from by first | exact oz_86a12bc574 tz78 tz72 tz66 tz60 tz54 tz48 tz42 tz36 tz30 tz24 tz18 tz12 | omega) rfl
                            refine px_iast S hT hw 0 1 (n := 2048) (f := (na77 2)) (x := z78) (y := z82) rfl (ga_Nam_2 _ _ _ _ _ _ _) (vp_in_iff.mpr (by constructor <;> omega)) d_Nam_init_55 (w' := wd_Nam cs h (fun k => if k = 0 then q1 else if k = 1 then q4 else q7) (fun _ => none) (upd (upd (fun _ => 0) 3 0) 4 0) (va_up na77 2 (upd (na77 2) z78.toNatClampNeg z82)) (fun _ _ => none)) (ps' := [wd_Nam cs h (fun k => if k = 0 then q1 else if k = 1 then q4 else q7) (fun _ => none) (upd (upd (fun _ => 0) 3 0) 4 0) (va_up na77 2 (upd (na77 2) z78.toNatClampNeg z82)) (fun _ _ => none), wd_Lst cs q1 (fun _ => 0) (fun k => if k = 0 then (some em) else none) (upd (upd (fun _ => 0) 1 0) 2 0) (fun _ _ => 0) (fun _ _ => none), wd_Lst cs q4 (fun _ => 0) (fun k => if k = 0 then (some em) else none) (upd (upd (fun _ => 0) 1 0) 2 0) (fun _ _ => 0) (fun _ _ => none), ([] : va_W)]) (sa_Nam_2 _ _ _ _ _ _ _ _) rfl (fun H locs hw => ?_)
                            obtain ⟨na83, hna83⟩ : ∃ y : Nat → Nat → Int32, y = (va_up na77 2 (upd (na77 2) z78.toNatClampNeg z82)) := ⟨_, rfl⟩
                            have hw : pw D A s.heap _ _ [wd_Nam cs h (fun k => if k = 0 then q1 else if k = 1 then q4 else q7) (fun _ => none) (upd (upd (fun _ => 0) 3 0) 4 0) na83 (fun _ _ => none), wd_Lst cs q1 (fun _ => 0) (fun k => if k = 0 then (some em) else none) (upd (upd (fun _ => 0) 1 0) 2 0) (fun _ _ => 0) (fun _ _ => none), wd_Lst cs q4 (fun _ => 0) (fun k => if k = 0 then (some em) else none) (upd (upd (fun _ => 0) 1 0) 2 0) (fun _ _ => 0) (fun _ _ => none), ([] : va_W)] := (by rw [hna83]; exact hw)
                            have hwk : WtK na83 13 := wtk_s hwk hna83 (show z78.toInt = 12 from by first | exact oz_86a12bc574 tz78 tz72 tz66 tz60 tz54 tz48 tz42 tz36 tz30 tz24 tz18 tz12 | omega) ez82
                            clear hna83
                            obtain ⟨z84, ez84⟩ : ∃ y : Int32, y = z78 + 1 := ⟨_, rfl⟩
                            have tz84 : z84.toInt = (z78.toInt + 1 + 2147483648) % 4294967296 - 2147483648 := by rw [ez84]; exact i_add z78 1
                            have lz84 := Int32.le_toInt z84
                            have uz84 := Int32.toInt_lt z84
                            try replace tz84 : z84.toInt = z78.toInt + 1 := by omega
                            refine lv_iinc (v := z84) (lv' := [(1, .int z84), (0, .ref h)]) S.x S.b d_Nam_init_56 hl (k := 0) rfl (by rw [ez84]; rfl) (by decide) rfl (fun ls hl => ?_)
                            refine lv_goto (tgt := 37) S.x S.b d_Nam_init_59 (by decide) ?_
                            refine lv_iload_n S.x S.b d_Nam_init_37 rfl (lv_at hl 0 rfl) ?_
                            refine va_getsN S.x S.b hqwG1 hw.2.2 S.own (va_Nw.use rfl (hT.2.2 _ m1_200n rfl)) (fun _ h => h) d_Nam_init_38 ?_
                            refine va_tlen S.x S.b hqwG2 hw.2.2 (v := 14) rfl d_Nam_init_41 ?_
                            have cs14_84 : (14 : Int32).toInt = 14 := rfl
                            refine lv_icmp_ge (tgt := 62) S.x S.b d_Nam_init_42 (by decide) (fun c86 => ?_) (fun c86 => ?_)
                            · have nc86 : (14 : Int) ≤ z84.toInt := (i_le (x := 14) (y := z84)).mp c86
                              exfalso
                              omega
                            · have nc86 : ¬ (14 : Int) ≤ z84.toInt := mt (i_le (x := 14) (y := z84)).mpr c86
                              refine lv_aload_n S.x S.b d_Nam_init_45 rfl (lv_at hl 1 rfl) ?_
                              refine px_get S k_Nam hT hw 0 0 2 (v := .ref q7) rfl rfl rfl (by decide) m2_77 d_Nam_init_46 ?_
                              refine lv_iload_n S.x S.b d_Nam_init_49 rfl (lv_at hl 0 rfl) ?_
                              refine va_getsN S.x S.b hqwG1 hw.2.2 S.own (va_Nw.use rfl (hT.2.2 _ m1_200n rfl)) (fun _ h => h) d_Nam_init_50 ?_
                              refine lv_iload_n S.x S.b d_Nam_init_53 rfl (lv_at hl 0 rfl) ?_
                              refine va_ti S.x S.b hqwG2 hw.2.2 (i := z84) (vp_in_iff.mpr (by constructor <;> omega)) rfl d_Nam_init_54 ?_
                              refine lv_topi (fun z88 ez88 => ?_)
                              have lz88 := Int32.le_toInt z88
                              have uz88 := Int32.toInt_lt z88
                              have vz88 : z88.toInt = 1 := gvw_at (bs := GWb) (i := 13) ez88 (show z84.toInt = 13 from by first | exact oz_e2f483d25c nc86 tz84 tz78 tz72 tz66 tz60 tz54 tz48 tz42 tz36 tz30 tz24 tz18 tz12 | omega) rfl
                              refine px_iast S hT hw 0 1 (n := 2048) (f := (na83 2)) (x := z84) (y := z88) rfl (ga_Nam_2 _ _ _ _ _ _ _) (vp_in_iff.mpr (by constructor <;> omega)) d_Nam_init_55 (w' := wd_Nam cs h (fun k => if k = 0 then q1 else if k = 1 then q4 else q7) (fun _ => none) (upd (upd (fun _ => 0) 3 0) 4 0) (va_up na83 2 (upd (na83 2) z84.toNatClampNeg z88)) (fun _ _ => none)) (ps' := [wd_Nam cs h (fun k => if k = 0 then q1 else if k = 1 then q4 else q7) (fun _ => none) (upd (upd (fun _ => 0) 3 0) 4 0) (va_up na83 2 (upd (na83 2) z84.toNatClampNeg z88)) (fun _ _ => none), wd_Lst cs q1 (fun _ => 0) (fun k => if k = 0 then (some em) else none) (upd (upd (fun _ => 0) 1 0) 2 0) (fun _ _ => 0) (fun _ _ => none), wd_Lst cs q4 (fun _ => 0) (fun k => if k = 0 then (some em) else none) (upd (upd (fun _ => 0) 1 0) 2 0) (fun _ _ => 0) (fun _ _ => none), ([] : va_W)]) (sa_Nam_2 _ _ _ _ _ _ _ _) rfl (fun H locs hw => ?_)
                              obtain ⟨na89, hna89⟩ : ∃ y : Nat → Nat → Int32, y = (va_up na83 2 (upd (na83 2) z84.toNatClampNeg z88)) := ⟨_, rfl⟩
                              have hw : pw D A s.heap _ _ [wd_Nam cs h (fun k => if k = 0 then q1 else if k = 1 then q4 else q7) (fun _ => none) (upd (upd (fun _ => 0) 3 0) 4 0) na89 (fun _ _ => none), wd_Lst cs q1 (fun _ => 0) (fun k => if k = 0 then (some em) else none) (upd (upd (fun _ => 0) 1 0) 2 0) (fun _ _ => 0) (fun _ _ => none), wd_Lst cs q4 (fun _ => 0) (fun k => if k = 0 then (some em) else none) (upd (upd (fun _ => 0) 1 0) 2 0) (fun _ _ => 0) (fun _ _ => none), ([] : va_W)] := (by rw [hna89]; exact hw)
                              have hwk : WtK na89 14 := wtk_s hwk hna89 (show z84.toInt = 13 from by first | exact oz_e2f483d25c nc86 tz84 tz78 tz72 tz66 tz60 tz54 tz48 tz42 tz36 tz30 tz24 tz18 tz12 | omega) ez88
                              clear hna89
                              obtain ⟨z90, ez90⟩ : ∃ y : Int32, y = z84 + 1 := ⟨_, rfl⟩
                              have tz90 : z90.toInt = (z84.toInt + 1 + 2147483648) % 4294967296 - 2147483648 := by rw [ez90]; exact i_add z84 1
                              have lz90 := Int32.le_toInt z90
                              have uz90 := Int32.toInt_lt z90
                              try replace tz90 : z90.toInt = z84.toInt + 1 := by omega
                              refine lv_iinc (v := z90) (lv' := [(1, .int z90), (0, .ref h)]) S.x S.b d_Nam_init_56 hl (k := 0) rfl (by rw [ez90]; rfl) (by decide) rfl (fun ls hl => ?_)
                              refine lv_goto (tgt := 37) S.x S.b d_Nam_init_59 (by decide) ?_
                              refine lv_iload_n S.x S.b d_Nam_init_37 rfl (lv_at hl 0 rfl) ?_
                              refine va_getsN S.x S.b hqwG1 hw.2.2 S.own (va_Nw.use rfl (hT.2.2 _ m1_200n rfl)) (fun _ h => h) d_Nam_init_38 ?_
                              refine va_tlen S.x S.b hqwG2 hw.2.2 (v := 14) rfl d_Nam_init_41 ?_
                              have cs14_90 : (14 : Int32).toInt = 14 := rfl
                              refine lv_icmp_ge (tgt := 62) S.x S.b d_Nam_init_42 (by decide) (fun c92 => ?_) (fun c92 => ?_)
                              · have nc92 : (14 : Int) ≤ z90.toInt := (i_le (x := 14) (y := z90)).mp c92
                                refine lv_iconst (v := 0) S.x S.b d_Nam_init_62 (by decide) ?_
                                refine lv_istore_n (lv' := [(1, .int 0), (0, .ref h)]) S.x S.b d_Nam_init_63 rfl hl (by decide) rfl (fun ls hl => ?_)
                                refine lv_iconst (v := 0) S.x S.b d_Nam_init_64 (by decide) ?_
                                refine lv_istore_n (lv' := [(2, .int 0), (1, .int 0), (0, .ref h)]) S.x S.b d_Nam_init_65 rfl hl (by decide) rfl (fun ls hl => ?_)
                                refine lv_iload_n S.x S.b d_Nam_init_66 rfl (lv_at hl 0 rfl) ?_
                                refine lv_bipush (v := 10) S.x S.b d_Nam_init_67 (by decide) ?_
                                refine lv_icmp_ge (tgt := 136) S.x S.b d_Nam_init_69 (by decide) (fun c94 => ?_) (fun c94 => ?_)
                                · exact absurd c94 (by decide)
                                ·
                                  refine px_new S k_Sym hT hw hA m1_202 m1_203 m1_11 (fs := [.int 0, .int 0, .int 0, .int 0, .int 0, .int 0, .int 0]) (by decide +kernel) (show (((0 + 1) + 1) + 1) + 1 ≤ 6000 from by omega) (show (((0 + 3) + 3) + 2048) + 7 ≤ 60000 from by omega) d_Nam_init_72 (fun q95 H hw => ?_)
                                  have hw : pw D A s.heap H _ [wd_Nam cs h (fun k => if k = 0 then q1 else if k = 1 then q4 else q7) (fun _ => none) (upd (upd (fun _ => 0) 3 0) 4 0) na89 (fun _ _ => none), wd_Lst cs q1 (fun _ => 0) (fun k => if k = 0 then (some em) else none) (upd (upd (fun _ => 0) 1 0) 2 0) (fun _ _ => 0) (fun _ _ => none), wd_Lst cs q4 (fun _ => 0) (fun k => if k = 0 then (some em) else none) (upd (upd (fun _ => 0) 1 0) 2 0) (fun _ _ => 0) (fun _ _ => none), ([] : va_W), [(q95, .inr (3, [.int 0, .int 0, .int 0, .int 0, .int 0, .int 0, .int 0]))]] := hw
                                  refine lv_dup S.x S.b d_Nam_init_75 rfl ?_
                                  refine lv_bipush (v := 15) S.x S.b d_Nam_init_76 (by decide) ?_
                                  refine lv_iload_n S.x S.b d_Nam_init_78 rfl (lv_at hl 0 rfl) ?_
                                  refine lv_iadd S.x S.b d_Nam_init_79 ?_
                                  refine lv_topi (fun z96 ez96 => ?_)
                                  have tz96 : z96.toInt = ((15 : Int) + (0 : Int) + 2147483648) % 4294967296 - 2147483648 := by rw [ez96]; exact i_add 15 0
                                  have lz96 := Int32.le_toInt z96
                                  have uz96 := Int32.toInt_lt z96
                                  try replace tz96 : z96.toInt = (15 : Int) + (0 : Int) := by omega
                                  refine lv_iconst (v := 2) S.x S.b d_Nam_init_80 (by decide) ?_
                                  refine px_callv (pr := [wd_Nam cs h (fun k => if k = 0 then q1 else if k = 1 then q4 else q7) (fun _ => none) (upd (upd (fun _ => 0) 3 0) 4 0) na89 (fun _ _ => none), wd_Lst cs q1 (fun _ => 0) (fun k => if k = 0 then (some em) else none) (upd (upd (fun _ => 0) 1 0) 2 0) (fun _ _ => 0) (fun _ _ => none), wd_Lst cs q4 (fun _ => 0) (fun k => if k = 0 then (some em) else none) (upd (upd (fun _ => 0) 1 0) 2 0) (fun _ _ => 0) (fun _ _ => none), ([] : va_W)]) (px_runI (As := [.int z96, .int 2]) (rest := [.ref q95]) S (c_Sym_init l D cs q95 z96 2 _) hT (pr := [wd_Nam cs h (fun k => if k = 0 then q1 else if k = 1 then q4 else q7) (fun _ => none) (upd (upd (fun _ => 0) 3 0) 4 0) na89 (fun _ _ => none), wd_Lst cs q1 (fun _ => 0) (fun k => if k = 0 then (some em) else none) (upd (upd (fun _ => 0) 1 0) 2 0) (fun _ _ => 0) (fun _ _ => none), wd_Lst cs q4 (fun _ => 0) (fun k => if k = 0 then (some em) else none) (upd (upd (fun _ => 0) 1 0) 2 0) (fun _ _ => 0) (fun _ _ => none), ([] : va_W)]) (pcs := [[(q95, .inr (3, [.int 0, .int 0, .int 0, .int 0, .int 0, .int 0, .int 0]))]]) hw px_X.tt m1_206 m1_204 m1_205 m1_11 rfl q_Sym_init ⟨Nat.le_of_ble_eq_true rfl, Nat.le_of_ble_eq_true rfl⟩ hl.1 rfl (Nat.le_of_ble_eq_true rfl) d_Nam_init_81 ⟨show ((((0 + 1) + 1) + 1) + 1) + 0 ≤ 6000 from by omega, show ((((0 + 3) + 3) + 2048) + 7) + 0 ≤ 60000 from by omega⟩) hw hA (fun p97 H locs hp97 hw => ?_)
                                  subst hp97
                                  have hw : pw D A s.heap H locs [wd_Nam cs h (fun k => if k = 0 then q1 else if k = 1 then q4 else q7) (fun _ => none) (upd (upd (fun _ => 0) 3 0) 4 0) na89 (fun _ _ => none), wd_Lst cs q1 (fun _ => 0) (fun k => if k = 0 then (some em) else none) (upd (upd (fun _ => 0) 1 0) 2 0) (fun _ _ => 0) (fun _ _ => none), wd_Lst cs q4 (fun _ => 0) (fun k => if k = 0 then (some em) else none) (upd (upd (fun _ => 0) 1 0) 2 0) (fun _ _ => 0) (fun _ _ => none), ([] : va_W), wd_Sym cs q95 (fun _ => 0) (fun _ => none) (upd (upd (upd (upd (upd (upd (upd (fun _ => 0) 0 z96) 1 2) 2 0) 3 0) 4 0) 5 0) 6 0) (fun _ _ => 0) (fun _ _ => none)] := hw
                                  refine lv_astore_n (lv' := [(3, .ref q95), (2, .int 0), (1, .int 0), (0, .ref h)]) S.x S.b d_Nam_init_84 rfl hl (by decide) rfl (fun ls hl => ?_)
                                  refine lv_aload_n S.x S.b d_Nam_init_85 rfl (lv_at hl 0 rfl) ?_
                                  refine lv_iload_n S.x S.b d_Nam_init_86 rfl (lv_at hl 1 rfl) ?_
                                  refine px_put S k_Sym hT hw 4 0 5 rfl rfl (by decide) m1_221 rfl rfl rfl (Nat.le_of_ble_eq_true rfl) d_Nam_init_87 (w' := wd_Sym cs q95 (fun _ => 0) (fun _ => none) (upd (upd (upd (upd (upd (upd (upd (fun _ => 0) 0 z96) 1 2) 2 0) 3 0) 4 0) 5 0) 6 0) (fun _ _ => 0) (fun _ _ => none)) (ps' := [wd_Nam cs h (fun k => if k = 0 then q1 else if k = 1 then q4 else q7) (fun _ => none) (upd (upd (fun _ => 0) 3 0) 4 0) na89 (fun _ _ => none), wd_Lst cs q1 (fun _ => 0) (fun k => if k = 0 then (some em) else none) (upd (upd (fun _ => 0) 1 0) 2 0) (fun _ _ => 0) (fun _ _ => none), wd_Lst cs q4 (fun _ => 0) (fun k => if k = 0 then (some em) else none) (upd (upd (fun _ => 0) 1 0) 2 0) (fun _ _ => 0) (fun _ _ => none), ([] : va_W), wd_Sym cs q95 (fun _ => 0) (fun _ => none) (upd (upd (upd (upd (upd (upd (upd (fun _ => 0) 0 z96) 1 2) 2 0) 3 0) 4 0) 5 0) 6 0) (fun _ _ => 0) (fun _ _ => none)]) rfl rfl (fun H locs hw => ?_)
                                  refine lv_aload_n S.x S.b d_Nam_init_90 rfl (lv_at hl 0 rfl) ?_
                                  refine va_getsN S.x S.b hqtG1 hw.2.2 S.own (va_Nw.use rfl (hT.2.2 _ m2_2n rfl)) (fun _ h => h) d_Nam_init_91 ?_
                                  refine lv_iload_n S.x S.b d_Nam_init_94 rfl (lv_at hl 1 rfl) ?_
                                  refine va_ti S.x S.b hqtG2 hw.2.2 (i := 0) (vp_in_iff.mpr (by constructor <;> omega)) rfl d_Nam_init_95 ?_
                                  refine lv_topi (fun z99 ez99 => ?_)
                                  have lz99 := Int32.le_toInt z99
                                  have uz99 := Int32.toInt_lt z99
                                  have vz99 : z99.toInt = 1 := gvw_at (bs := GTb) (i := 0) ez99 (show (0 : Int) = 0 from by first | exact oz_7d1a308c7e | omega) rfl
                                  refine px_put S k_Sym hT hw 4 0 6 rfl rfl (by decide) m1_224 rfl rfl rfl (Nat.le_of_ble_eq_true rfl) d_Nam_init_96 (w' := wd_Sym cs q95 (fun _ => 0) (fun _ => none) (upd (upd (upd (upd (upd (upd (upd (fun _ => 0) 0 z96) 1 2) 2 0) 3 0) 4 0) 5 0) 6 z99) (fun _ _ => 0) (fun _ _ => none)) (ps' := [wd_Nam cs h (fun k => if k = 0 then q1 else if k = 1 then q4 else q7) (fun _ => none) (upd (upd (fun _ => 0) 3 0) 4 0) na89 (fun _ _ => none), wd_Lst cs q1 (fun _ => 0) (fun k => if k = 0 then (some em) else none) (upd (upd (fun _ => 0) 1 0) 2 0) (fun _ _ => 0) (fun _ _ => none), wd_Lst cs q4 (fun _ => 0) (fun k => if k = 0 then (some em) else none) (upd (upd (fun _ => 0) 1 0) 2 0) (fun _ _ => 0) (fun _ _ => none), ([] : va_W), wd_Sym cs q95 (fun _ => 0) (fun _ => none) (upd (upd (upd (upd (upd (upd (upd (fun _ => 0) 0 z96) 1 2) 2 0) 3 0) 4 0) 5 0) 6 z99) (fun _ _ => 0) (fun _ _ => none)]) rfl rfl (fun H locs hw => ?_)
                                  refine lv_aload_n S.x S.b d_Nam_init_99 rfl (lv_at hl 0 rfl) ?_
                                  refine lv_iload_n S.x S.b d_Nam_init_100 rfl (lv_at hl 2 rfl) ?_
                                  refine px_put S k_Sym hT hw 4 0 3 rfl rfl (by decide) m1_215 rfl rfl rfl (Nat.le_of_ble_eq_true rfl) d_Nam_init_101 (w' := wd_Sym cs q95 (fun _ => 0) (fun _ => none) (upd (upd (upd (upd (upd (upd (upd (fun _ => 0) 0 z96) 1 2) 2 0) 3 0) 4 0) 5 0) 6 z99) (fun _ _ => 0) (fun _ _ => none)) (ps' := [wd_Nam cs h (fun k => if k = 0 then q1 else if k = 1 then q4 else q7) (fun _ => none) (upd (upd (fun _ => 0) 3 0) 4 0) na89 (fun _ _ => none), wd_Lst cs q1 (fun _ => 0) (fun k => if k = 0 then (some em) else none) (upd (upd (fun _ => 0) 1 0) 2 0) (fun _ _ => 0) (fun _ _ => none), wd_Lst cs q4 (fun _ => 0) (fun k => if k = 0 then (some em) else none) (upd (upd (fun _ => 0) 1 0) 2 0) (fun _ _ => 0) (fun _ _ => none), ([] : va_W), wd_Sym cs q95 (fun _ => 0) (fun _ => none) (upd (upd (upd (upd (upd (upd (upd (fun _ => 0) 0 z96) 1 2) 2 0) 3 0) 4 0) 5 0) 6 z99) (fun _ _ => 0) (fun _ _ => none)]) rfl rfl (fun H locs hw => ?_)
                                  refine lv_aload_n S.x S.b d_Nam_init_104 rfl (lv_at hl 0 rfl) ?_
                                  refine va_getsN S.x S.b hqcG1 hw.2.2 S.own (va_Nw.use rfl (hT.2.2 _ m2_4n rfl)) (fun _ h => h) d_Nam_init_105 ?_
                                  refine lv_iload_n S.x S.b d_Nam_init_108 rfl (lv_at hl 1 rfl) ?_
                                  refine va_ti S.x S.b hqcG2 hw.2.2 (i := 0) (vp_in_iff.mpr (by constructor <;> omega)) rfl d_Nam_init_109 ?_
                                  refine lv_topi (fun z100 ez100 => ?_)
                                  have lz100 := Int32.le_toInt z100
                                  have uz100 := Int32.toInt_lt z100
                                  have vz100 : z100.toInt = 1 := gvw_at (bs := GCb) (i := 0) ez100 (show (0 : Int) = 0 from by first | exact oz_7d1a308c7e | omega) rfl
                                  refine px_put S k_Sym hT hw 4 0 4 rfl rfl (by decide) m1_218 rfl rfl rfl (Nat.le_of_ble_eq_true rfl) d_Nam_init_110 (w' := wd_Sym cs q95 (fun _ => 0) (fun _ => none) (upd (upd (upd (upd (upd (upd (upd (fun _ => 0) 0 z96) 1 2) 2 0) 3 0) 4 z100) 5 0) 6 z99) (fun _ _ => 0) (fun _ _ => none)) (ps' := [wd_Nam cs h (fun k => if k = 0 then q1 else if k = 1 then q4 else q7) (fun _ => none) (upd (upd (fun _ => 0) 3 0) 4 0) na89 (fun _ _ => none), wd_Lst cs q1 (fun _ => 0) (fun k => if k = 0 then (some em) else none) (upd (upd (fun _ => 0) 1 0) 2 0) (fun _ _ => 0) (fun _ _ => none), wd_Lst cs q4 (fun _ => 0) (fun k => if k = 0 then (some em) else none) (upd (upd (fun _ => 0) 1 0) 2 0) (fun _ _ => 0) (fun _ _ => none), ([] : va_W), wd_Sym cs q95 (fun _ => 0) (fun _ => none) (upd (upd (upd (upd (upd (upd (upd (fun _ => 0) 0 z96) 1 2) 2 0) 3 0) 4 z100) 5 0) 6 z99) (fun _ _ => 0) (fun _ _ => none)]) rfl rfl (fun H locs hw => ?_)
                                  refine lv_iload_n S.x S.b d_Nam_init_113 rfl (lv_at hl 2 rfl) ?_
                                  refine va_getsN S.x S.b hqcG1 hw.2.2 S.own (va_Nw.use rfl (hT.2.2 _ m2_4n rfl)) (fun _ h => h) d_Nam_init_114 ?_
                                  refine lv_iload_n S.x S.b d_Nam_init_117 rfl (lv_at hl 1 rfl) ?_
                                  refine va_ti S.x S.b hqcG2 hw.2.2 (i := 0) (vp_in_iff.mpr (by constructor <;> omega)) rfl d_Nam_init_118 ?_
                                  refine lv_topi (fun z101 ez101 => ?_)
                                  have lz101 := Int32.le_toInt z101
                                  have uz101 := Int32.toInt_lt z101
                                  have vz101 : z101.toInt = 1 := gvw_at (bs := GCb) (i := 0) ez101 (show (0 : Int) = 0 from by first | exact oz_7d1a308c7e | omega) rfl
                                  refine lv_iadd S.x S.b d_Nam_init_119 ?_
                                  refine lv_topi (fun z102 ez102 => ?_)
                                  have tz102 : z102.toInt = ((0 : Int) + z101.toInt + 2147483648) % 4294967296 - 2147483648 := by rw [ez102]; exact i_add 0 z101
                                  have lz102 := Int32.le_toInt z102
                                  have uz102 := Int32.toInt_lt z102
                                  try replace tz102 : z102.toInt = (0 : Int) + z101.toInt := by omega
                                  refine lv_istore_n (lv' := [(1, .int z102), (3, .ref q95), (2, .int 0), (0, .ref h)]) S.x S.b d_Nam_init_120 rfl hl (by decide) rfl (fun ls hl => ?_)
                                  have hw : pw D A s.heap _ _ ([wd_Nam cs h (fun k => if k = 0 then q1 else if k = 1 then q4 else q7) (fun _ => none) (upd (upd (fun _ => 0) 3 0) 4 0) na89 (fun _ _ => none), wd_Lst cs q1 (fun _ => 0) (fun k => if k = 0 then (some em) else none) (upd (upd (fun _ => 0) 1 0) 2 0) (fun _ _ => 0) (fun _ _ => none), wd_Lst cs q4 (fun _ => 0) (fun k => if k = 0 then (some em) else none) (upd (upd (fun _ => 0) 1 0) 2 0) (fun _ _ => 0) (fun _ _ => none)] ++ [([] : va_W), wd_Sym cs q95 (fun _ => 0) (fun _ => none) (upd (upd (upd (upd (upd (upd (upd (fun _ => 0) 0 z96) 1 2) 2 0) 3 0) 4 z100) 5 0) 6 z99) (fun _ _ => 0) (fun _ _ => none)]) := hw.sub [0, 1, 2, 3, 4] rfl rfl
                                  have hw := pw_join hw
                                  have hpnP103 : Pg ([] : va_W) (([] : va_W) ++ wd_Sym cs q95 (fun _ => 0) (fun _ => none) (upd (upd (upd (upd (upd (upd (upd (fun _ => 0) 0 z96) 1 2) 2 0) 3 0) 4 z100) 5 0) 6 z99) (fun _ _ => 0) (fun _ _ => none)) := pg_app
                                  have hsnP103 : Sy (([] : va_W) ++ wd_Sym cs q95 (fun _ => 0) (fun _ => none) (upd (upd (upd (upd (upd (upd (upd (fun _ => 0) 0 z96) 1 2) 2 0) 3 0) 4 z100) 5 0) 6 z99) (fun _ _ => 0) (fun _ _ => none)) (some q95) := sy_last (s := (upd (upd (upd (upd (upd (upd (upd (fun _ => 0) 0 z96) 1 2) 2 0) 3 0) 4 z100) 5 0) 6 z99)) rfl
                                  have hfnP103 : Fy (([] : va_W) ++ wd_Sym cs q95 (fun _ => 0) (fun _ => none) (upd (upd (upd (upd (upd (upd (upd (fun _ => 0) 0 z96) 1 2) 2 0) 3 0) 4 z100) 5 0) 6 z99) (fun _ _ => 0) (fun _ _ => none)) (some q95) := fy_last (s := (upd (upd (upd (upd (upd (upd (upd (fun _ => 0) 0 z96) 1 2) 2 0) 3 0) 4 z100) 5 0) 6 z99)) rfl (show 0 ≤ (0 : Int) from by first | exact oz_5a341f00aa | omega) (show (0 : Int) ≤ 1000000 from by first | exact oz_302d31b646 | omega)
                                  have hgnP103 : Gy (([] : va_W) ++ wd_Sym cs q95 (fun _ => 0) (fun _ => none) (upd (upd (upd (upd (upd (upd (upd (fun _ => 0) 0 z96) 1 2) 2 0) 3 0) 4 z100) 5 0) 6 z99) (fun _ _ => 0) (fun _ _ => none)) q95 := gy_lastN (s := (upd (upd (upd (upd (upd (upd (upd (fun _ => 0) 0 z96) 1 2) 2 0) 3 0) 4 z100) 5 0) 6 z99)) rfl (show 0 ≤ (0 : Int) from by first | exact oz_5a341f00aa | omega) (show (0 : Int) ≤ 1000000 from by first | exact oz_302d31b646 | omega) (show z96.toInt ≠ 25 from by first | exact oz_31c68ccdde tz96 | omega)
                                  have hsyP103 : SymAt (([] : va_W) ++ wd_Sym cs q95 (fun _ => 0) (fun _ => none) (upd (upd (upd (upd (upd (upd (upd (fun _ => 0) 0 z96) 1 2) 2 0) 3 0) 4 z100) 5 0) 6 z99) (fun _ _ => 0) (fun _ _ => none)) q95 (upd (upd (upd (upd (upd (upd (upd (fun _ => 0) 0 z96) 1 2) 2 0) 3 0) 4 z100) 5 0) 6 z99) := sym_last rfl
                                  have hpxP103 : ∀ (a : Nat) (s : Nat → Int32), SymAt ([] : va_W) a s → SymAt (([] : va_W) ++ wd_Sym cs q95 (fun _ => 0) (fun _ => none) (upd (upd (upd (upd (upd (upd (upd (fun _ => 0) 0 z96) 1 2) 2 0) 3 0) 4 z100) 5 0) 6 z99) (fun _ _ => 0) (fun _ _ => none)) a s := sym_app
                                  generalize (([] : va_W) ++ wd_Sym cs q95 (fun _ => 0) (fun _ => none) (upd (upd (upd (upd (upd (upd (upd (fun _ => 0) 0 z96) 1 2) 2 0) 3 0) 4 z100) 5 0) 6 z99) (fun _ _ => 0) (fun _ _ => none)) = P103 at hw hpnP103 hsnP103 hfnP103 hgnP103 hsyP103 hpxP103
                                  have hEl := hpnP103.els hEl; have hEf := hpnP103.elf hEf; have hEg := hpnP103.elg hEg
                                  have hw : pw D A s.heap _ _ [wd_Nam cs h (fun k => if k = 0 then q1 else if k = 1 then q4 else q7) (fun _ => none) (upd (upd (fun _ => 0) 3 0) 4 0) na89 (fun _ _ => none), wd_Lst cs q1 (fun _ => 0) (fun k => if k = 0 then (some em) else none) (upd (upd (fun _ => 0) 1 0) 2 0) (fun _ _ => 0) (fun _ _ => none), wd_Lst cs q4 (fun _ => 0) (fun k => if k = 0 then (some em) else none) (upd (upd (fun _ => 0) 1 0) 2 0) (fun _ _ => 0) (fun _ _ => none), P103] := hw
                                  refine lv_aload_n S.x S.b d_Nam_init_121 rfl (lv_at hl 3 rfl) ?_
                                  refine px_get S k_Nam hT hw 0 0 1 (v := .ref q4) rfl rfl rfl (by decide) m2_76 d_Nam_init_122 ?_
                                  refine lv_aload_n S.x S.b d_Nam_init_125 rfl (lv_at hl 1 rfl) ?_
                                  refine pg_calli (pr := [wd_Nam cs h (fun k => if k = 0 then q1 else if k = 1 then q4 else q7) (fun _ => none) (upd (upd (fun _ => 0) 3 0) 4 0) na89 (fun _ _ => none), wd_Lst cs q1 (fun _ => 0) (fun k => if k = 0 then (some em) else none) (upd (upd (fun _ => 0) 1 0) 2 0) (fun _ _ => 0) (fun _ _ => none)]) (px_runV (As := [.ref q95]) (rest := []) S (c_al_add_F l D cs em mi q4 em (upd (upd (fun _ => 0) 1 0) 2 0) P103  q95 (show (0 : Int) = 0 from by first | exact oz_7d1a308c7e | omega) rfl (by first | assumption | exact sy_none | exact fy_none | exact Fy.sy (by assumption) | exact sy_some (by assumption)) _ _) hT (pr := [wd_Nam cs h (fun k => if k = 0 then q1 else if k = 1 then q4 else q7) (fun _ => none) (upd (upd (fun _ => 0) 3 0) 4 0) na89 (fun _ _ => none), wd_Lst cs q1 (fun _ => 0) (fun k => if k = 0 then (some em) else none) (upd (upd (fun _ => 0) 1 0) 2 0) (fun _ _ => 0) (fun _ _ => none)]) (pcs := [wd_Lst cs q4 (fun _ => 0) (fun k => if k = 0 then (some em) else none) (upd (upd (fun _ => 0) 1 0) 2 0) (fun _ _ => 0) (fun _ _ => none), P103]) hw (px_X.tot (oX_call (P := (fun A U H => (oE A em U H) ∧ (va_Mi "[Ljava/lang/Object;" mi U))) (pr := [wd_Nam cs h (fun k => if k = 0 then q1 else if k = 1 then q4 else q7) (fun _ => none) (upd (upd (fun _ => 0) 3 0) 4 0) na89 (fun _ _ => none), wd_Lst cs q1 (fun _ => 0) (fun k => if k = 0 then (some em) else none) (upd (upd (fun _ => 0) 1 0) 2 0) (fun _ _ => 0) (fun _ _ => none)]) (oG_and oG_E oG_M) hw hA ⟨hE, hM⟩)) (px_recv hT hw 2 0 rfl rfl rfl) m2_9 m2_6 m2_7 m2_8 m1_10 q_Lst_add2 ⟨Nat.le_of_ble_eq_true rfl, Nat.le_of_ble_eq_true rfl⟩ hl.1 rfl (Nat.le_of_ble_eq_true rfl) d_Nam_init_126 ⟨show ((((0 + 1) + 1) + 1) + 1) + (1) ≤ 6000 from by omega, show ((((0 + 3) + 3) + 2048) + 7) + (40) ≤ 60000 from by omega⟩) hw hA (fun v109 p108 k110 n111 H locs hp108 hw => ?_)
                                  dsimp only at hp108
                                  obtain ⟨lq104, lc105, lf106, lg107, rfl, e112, e113, e114, e115, e116, e117, e118, e119, e120, e121⟩ := hp108
                                  have e112 : (lf106 1).toInt = (0 : Int) + 1 := e112
                                  have e113 : (lf106 1).toInt ≤ (lc105 : Int) := e113
                                  have e114 : AddL (0 : Int32) (fun _ => none) lg107 q95 := e114
                                  have e115 : (0 : Int) ≤ (lc105 : Int) := e115
                                  have e116 : (lc105 : Int) ≤ 2 * (0 : Int) + 10 := e116
                                  have e117 : 10 ≤ lc105 := e117
                                  have e118 : Lcap 0 (0 : Int32) lc105 := e118
                                  have e119 : k110 ≤ 1 := e119
                                  have e120 : (k110 : Int) ≤ (lc105 : Int) - (0 : Int) := e120
                                  have e121 : (n111 : Int) ≤ 4 * ((lc105 : Int) - (0 : Int)) := e121
                                  have hw : pw D A s.heap H locs [wd_Nam cs h (fun k => if k = 0 then q1 else if k = 1 then q4 else q7) (fun _ => none) (upd (upd (fun _ => 0) 3 0) 4 0) na89 (fun _ _ => none), wd_Lst cs q1 (fun _ => 0) (fun k => if k = 0 then (some em) else none) (upd (upd (fun _ => 0) 1 0) 2 0) (fun _ _ => 0) (fun _ _ => none), wd_Lst cs q4 (fun _ => 0) (fun k => if k = 0 then (some lq104) else none) lf106 (fun _ _ => 0) (fun _ _ => none), [(lq104, .inl (cs 12, lc105, .inr (.inr (.inr (.inr lg107)))))], P103] := hw
                                  have lv109 := Int32.le_toInt v109
                                  have uv109 := Int32.toInt_lt v109
                                  have hfe : FunE na89 P103 lg107 14 (GV.take 1) := fe_s (n := (0 : Int32)) (s := (upd (upd (upd (upd (upd (upd (upd (fun _ => 0) 0 z96) 1 2) 2 0) 3 0) 4 z100) 5 0) 6 z99)) (fg := (fun _ => none)) 0 0 (15, 1, [16]) rfl (by decide) (by decide) hwk fe_0 hpxP103 hsyP103 (by assumption) (show (0 : Int) = 0 from by first | exact oz_7d1a308c7e | omega) (show z96 = (15 : Int32) from Int32.toInt_inj.mp (show z96.toInt = 15 from by first | exact oz_d7df28373c tz96 | omega)) rfl (show z99.toInt = 1 from by first | exact vz99 | omega) (show z100.toInt = 1 from by first | exact vz100 | omega) (show (0 : Int) = 0 from by first | exact oz_7d1a308c7e | omega)
                                  have hlcb121 := Lcap.le (B := 5000) (by assumption) (by omega) (by omega); have helf := AddL.elf (n' := (lf106 1)) (by assumption) hEf (by assumption) (by omega); have helg := AddL.elg (n' := (lf106 1)) (by assumption) hEg (by assumption) (by omega); have hEf := helf; have hEg := helg; clear helf helg
                                  refine lv_pop S.x S.b d_Nam_init_129 rfl ?_
                                  obtain ⟨z122, ez122⟩ : ∃ y : Int32, y = 0 + 1 := ⟨_, rfl⟩
                                  have tz122 : z122.toInt = ((0 : Int) + 1 + 2147483648) % 4294967296 - 2147483648 := by rw [ez122]; exact i_add 0 1
                                  have lz122 := Int32.le_toInt z122
                                  have uz122 := Int32.toInt_lt z122
                                  try replace tz122 : z122.toInt = (0 : Int) + 1 := by omega
                                  refine lv_iinc (v := z122) (lv' := [(2, .int z122), (1, .int z102), (3, .ref q95), (0, .ref h)]) S.x S.b d_Nam_init_130 hl (k := 2) rfl (by rw [ez122]; rfl) (by decide) rfl (fun ls hl => ?_)
                                  refine lv_goto (tgt := 66) S.x S.b d_Nam_init_133 (by decide) ?_
                                  refine lv_iload_n S.x S.b d_Nam_init_66 rfl (lv_at hl 0 rfl) ?_
                                  refine lv_bipush (v := 10) S.x S.b d_Nam_init_67 (by decide) ?_
                                  refine lv_icmp_ge (tgt := 136) S.x S.b d_Nam_init_69 (by decide) (fun c123 => ?_) (fun c123 => ?_)
                                  · have nc123 : (10 : Int) ≤ z122.toInt := (i_le (x := 10) (y := z122)).mp c123
                                    exfalso
                                    omega
                                  · have nc123 : ¬ (10 : Int) ≤ z122.toInt := mt (i_le (x := 10) (y := z122)).mpr c123
                                    refine px_new S k_Sym hT hw hA m1_202 m1_203 m1_11 (fs := [.int 0, .int 0, .int 0, .int 0, .int 0, .int 0, .int 0]) (by decide +kernel) (show (((((0 + 1) + 1) + 1) + 1) + k110) + 1 ≤ 6000 from by first | exact oz_ae1c5b008f e119 | omega) (show (((((0 + 3) + 3) + 2048) + 7) + n111) + 7 ≤ 60000 from by first | exact oz_4f6919c3d8 e121 e116 | omega) d_Nam_init_72 (fun q125 H hw => ?_)
                                    have hw : pw D A s.heap H _ [wd_Nam cs h (fun k => if k = 0 then q1 else if k = 1 then q4 else q7) (fun _ => none) (upd (upd (fun _ => 0) 3 0) 4 0) na89 (fun _ _ => none), wd_Lst cs q1 (fun _ => 0) (fun k => if k = 0 then (some em) else none) (upd (upd (fun _ => 0) 1 0) 2 0) (fun _ _ => 0) (fun _ _ => none), wd_Lst cs q4 (fun _ => 0) (fun k => if k = 0 then (some lq104) else none) lf106 (fun _ _ => 0) (fun _ _ => none), [(lq104, .inl (cs 12, lc105, .inr (.inr (.inr (.inr lg107)))))], P103, [(q125, .inr (3, [.int 0, .int 0, .int 0, .int 0, .int 0, .int 0, .int 0]))]] := hw
                                    refine lv_dup S.x S.b d_Nam_init_75 rfl ?_
                                    refine lv_bipush (v := 15) S.x S.b d_Nam_init_76 (by decide) ?_
                                    refine lv_iload_n S.x S.b d_Nam_init_78 rfl (lv_at hl 0 rfl) ?_
                                    refine lv_iadd S.x S.b d_Nam_init_79 ?_
                                    refine lv_topi (fun z126 ez126 => ?_)
                                    have tz126 : z126.toInt = ((15 : Int) + z122.toInt + 2147483648) % 4294967296 - 2147483648 := by rw [ez126]; exact i_add 15 z122
                                    have lz126 := Int32.le_toInt z126
                                    have uz126 := Int32.toInt_lt z126
                                    try replace tz126 : z126.toInt = (15 : Int) + z122.toInt := by omega
                                    refine lv_iconst (v := 2) S.x S.b d_Nam_init_80 (by decide) ?_
                                    refine px_callv (pr := [wd_Nam cs h (fun k => if k = 0 then q1 else if k = 1 then q4 else q7) (fun _ => none) (upd (upd (fun _ => 0) 3 0) 4 0) na89 (fun _ _ => none), wd_Lst cs q1 (fun _ => 0) (fun k => if k = 0 then (some em) else none) (upd (upd (fun _ => 0) 1 0) 2 0) (fun _ _ => 0) (fun _ _ => none), wd_Lst cs q4 (fun _ => 0) (fun k => if k = 0 then (some lq104) else none) lf106 (fun _ _ => 0) (fun _ _ => none), [(lq104, .inl (cs 12, lc105, .inr (.inr (.inr (.inr lg107)))))], P103]) (px_runI (As := [.int z126, .int 2]) (rest := [.ref q125]) S (c_Sym_init l D cs q125 z126 2 _) hT (pr := [wd_Nam cs h (fun k => if k = 0 then q1 else if k = 1 then q4 else q7) (fun _ => none) (upd (upd (fun _ => 0) 3 0) 4 0) na89 (fun _ _ => none), wd_Lst cs q1 (fun _ => 0) (fun k => if k = 0 then (some em) else none) (upd (upd (fun _ => 0) 1 0) 2 0) (fun _ _ => 0) (fun _ _ => none), wd_Lst cs q4 (fun _ => 0) (fun k => if k = 0 then (some lq104) else none) lf106 (fun _ _ => 0) (fun _ _ => none), [(lq104, .inl (cs 12, lc105, .inr (.inr (.inr (.inr lg107)))))], P103]) (pcs := [[(q125, .inr (3, [.int 0, .int 0, .int 0, .int 0, .int 0, .int 0, .int 0]))]]) hw px_X.tt m1_206 m1_204 m1_205 m1_11 rfl q_Sym_init ⟨Nat.le_of_ble_eq_true rfl, Nat.le_of_ble_eq_true rfl⟩ hl.1 rfl (Nat.le_of_ble_eq_true rfl) d_Nam_init_81 ⟨show ((((((0 + 1) + 1) + 1) + 1) + k110) + 1) + 0 ≤ 6000 from (by first | exact oz_03cb15c82f e119 | omega), show ((((((0 + 3) + 3) + 2048) + 7) + n111) + 7) + 0 ≤ 60000 from (by first | exact oz_6c0e68dd55 e121 e116 | omega)⟩) hw hA (fun p127 H locs hp127 hw => ?_)
                                    subst hp127
                                    have hw : pw D A s.heap H locs [wd_Nam cs h (fun k => if k = 0 then q1 else if k = 1 then q4 else q7) (fun _ => none) (upd (upd (fun _ => 0) 3 0) 4 0) na89 (fun _ _ => none), wd_Lst cs q1 (fun _ => 0) (fun k => if k = 0 then (some em) else none) (upd (upd (fun _ => 0) 1 0) 2 0) (fun _ _ => 0) (fun _ _ => none), wd_Lst cs q4 (fun _ => 0) (fun k => if k = 0 then (some lq104) else none) lf106 (fun _ _ => 0) (fun _ _ => none), [(lq104, .inl (cs 12, lc105, .inr (.inr (.inr (.inr lg107)))))], P103, wd_Sym cs q125 (fun _ => 0) (fun _ => none) (upd (upd (upd (upd (upd (upd (upd (fun _ => 0) 0 z126) 1 2) 2 0) 3 0) 4 0) 5 0) 6 0) (fun _ _ => 0) (fun _ _ => none)] := hw
                                    refine lv_astore_n (lv' := [(3, .ref q125), (2, .int z122), (1, .int z102), (0, .ref h)]) S.x S.b d_Nam_init_84 rfl hl (by decide) rfl (fun ls hl => ?_)
                                    refine lv_aload_n S.x S.b d_Nam_init_85 rfl (lv_at hl 0 rfl) ?_
                                    refine lv_iload_n S.x S.b d_Nam_init_86 rfl (lv_at hl 1 rfl) ?_
                                    refine px_put S k_Sym hT hw 5 0 5 rfl rfl (by decide) m1_221 rfl rfl rfl (Nat.le_of_ble_eq_true rfl) d_Nam_init_87 (w' := wd_Sym cs q125 (fun _ => 0) (fun _ => none) (upd (upd (upd (upd (upd (upd (upd (fun _ => 0) 0 z126) 1 2) 2 0) 3 0) 4 0) 5 z122) 6 0) (fun _ _ => 0) (fun _ _ => none)) (ps' := [wd_Nam cs h (fun k => if k = 0 then q1 else if k = 1 then q4 else q7) (fun _ => none) (upd (upd (fun _ => 0) 3 0) 4 0) na89 (fun _ _ => none), wd_Lst cs q1 (fun _ => 0) (fun k => if k = 0 then (some em) else none) (upd (upd (fun _ => 0) 1 0) 2 0) (fun _ _ => 0) (fun _ _ => none), wd_Lst cs q4 (fun _ => 0) (fun k => if k = 0 then (some lq104) else none) lf106 (fun _ _ => 0) (fun _ _ => none), [(lq104, .inl (cs 12, lc105, .inr (.inr (.inr (.inr lg107)))))], P103, wd_Sym cs q125 (fun _ => 0) (fun _ => none) (upd (upd (upd (upd (upd (upd (upd (fun _ => 0) 0 z126) 1 2) 2 0) 3 0) 4 0) 5 z122) 6 0) (fun _ _ => 0) (fun _ _ => none)]) rfl rfl (fun H locs hw => ?_)
                                    refine lv_aload_n S.x S.b d_Nam_init_90 rfl (lv_at hl 0 rfl) ?_
                                    refine va_getsN S.x S.b hqtG1 hw.2.2 S.own (va_Nw.use rfl (hT.2.2 _ m2_2n rfl)) (fun _ h => h) d_Nam_init_91 ?_
                                    refine lv_iload_n S.x S.b d_Nam_init_94 rfl (lv_at hl 1 rfl) ?_
                                    refine va_ti S.x S.b hqtG2 hw.2.2 (i := z122) (vp_in_iff.mpr (by constructor <;> omega)) rfl d_Nam_init_95 ?_
                                    refine lv_topi (fun z129 ez129 => ?_)
                                    have lz129 := Int32.le_toInt z129
                                    have uz129 := Int32.toInt_lt z129
                                    have vz129 : z129.toInt = 3 := gvw_at (bs := GTb) (i := 1) ez129 (show z122.toInt = 1 from by first | exact oz_39c814ab45 tz122 | omega) rfl
                                    refine px_put S k_Sym hT hw 5 0 6 rfl rfl (by decide) m1_224 rfl rfl rfl (Nat.le_of_ble_eq_true rfl) d_Nam_init_96 (w' := wd_Sym cs q125 (fun _ => 0) (fun _ => none) (upd (upd (upd (upd (upd (upd (upd (fun _ => 0) 0 z126) 1 2) 2 0) 3 0) 4 0) 5 z122) 6 z129) (fun _ _ => 0) (fun _ _ => none)) (ps' := [wd_Nam cs h (fun k => if k = 0 then q1 else if k = 1 then q4 else q7) (fun _ => none) (upd (upd (fun _ => 0) 3 0) 4 0) na89 (fun _ _ => none), wd_Lst cs q1 (fun _ => 0) (fun k => if k = 0 then (some em) else none) (upd (upd (fun _ => 0) 1 0) 2 0) (fun _ _ => 0) (fun _ _ => none), wd_Lst cs q4 (fun _ => 0) (fun k => if k = 0 then (some lq104) else none) lf106 (fun _ _ => 0) (fun _ _ => none), [(lq104, .inl (cs 12, lc105, .inr (.inr (.inr (.inr lg107)))))], P103, wd_Sym cs q125 (fun _ => 0) (fun _ => none) (upd (upd (upd (upd (upd (upd (upd (fun _ => 0) 0 z126) 1 2) 2 0) 3 0) 4 0) 5 z122) 6 z129) (fun _ _ => 0) (fun _ _ => none)]) rfl rfl (fun H locs hw => ?_)
                                    refine lv_aload_n S.x S.b d_Nam_init_99 rfl (lv_at hl 0 rfl) ?_
                                    refine lv_iload_n S.x S.b d_Nam_init_100 rfl (lv_at hl 2 rfl) ?_
                                    refine px_put S k_Sym hT hw 5 0 3 rfl rfl (by decide) m1_215 rfl rfl rfl (Nat.le_of_ble_eq_true rfl) d_Nam_init_101 (w' := wd_Sym cs q125 (fun _ => 0) (fun _ => none) (upd (upd (upd (upd (upd (upd (upd (fun _ => 0) 0 z126) 1 2) 2 0) 3 z102) 4 0) 5 z122) 6 z129) (fun _ _ => 0) (fun _ _ => none)) (ps' := [wd_Nam cs h (fun k => if k = 0 then q1 else if k = 1 then q4 else q7) (fun _ => none) (upd (upd (fun _ => 0) 3 0) 4 0) na89 (fun _ _ => none), wd_Lst cs q1 (fun _ => 0) (fun k => if k = 0 then (some em) else none) (upd (upd (fun _ => 0) 1 0) 2 0) (fun _ _ => 0) (fun _ _ => none), wd_Lst cs q4 (fun _ => 0) (fun k => if k = 0 then (some lq104) else none) lf106 (fun _ _ => 0) (fun _ _ => none), [(lq104, .inl (cs 12, lc105, .inr (.inr (.inr (.inr lg107)))))], P103, wd_Sym cs q125 (fun _ => 0) (fun _ => none) (upd (upd (upd (upd (upd (upd (upd (fun _ => 0) 0 z126) 1 2) 2 0) 3 z102) 4 0) 5 z122) 6 z129) (fun _ _ => 0) (fun _ _ => none)]) rfl rfl (fun H locs hw => ?_)
                                    refine lv_aload_n S.x S.b d_Nam_init_104 rfl (lv_at hl 0 rfl) ?_
                                    refine va_getsN S.x S.b hqcG1 hw.2.2 S.own (va_Nw.use rfl (hT.2.2 _ m2_4n rfl)) (fun _ h => h) d_Nam_init_105 ?_
                                    refine lv_iload_n S.x S.b d_Nam_init_108 rfl (lv_at hl 1 rfl) ?_
                                    refine va_ti S.x S.b hqcG2 hw.2.2 (i := z122) (vp_in_iff.mpr (by constructor <;> omega)) rfl d_Nam_init_109 ?_
                                    refine lv_topi (fun z130 ez130 => ?_)
                                    have lz130 := Int32.le_toInt z130
                                    have uz130 := Int32.toInt_lt z130
                                    have vz130 : z130.toInt = 1 := gvw_at (bs := GCb) (i := 1) ez130 (show z122.toInt = 1 from by first | exact oz_39c814ab45 tz122 | omega) rfl
                                    refine px_put S k_Sym hT hw 5 0 4 rfl rfl (by decide) m1_218 rfl rfl rfl (Nat.le_of_ble_eq_true rfl) d_Nam_init_110 (w' := wd_Sym cs q125 (fun _ => 0) (fun _ => none) (upd (upd (upd (upd (upd (upd (upd (fun _ => 0) 0 z126) 1 2) 2 0) 3 z102) 4 z130) 5 z122) 6 z129) (fun _ _ => 0) (fun _ _ => none)) (ps' := [wd_Nam cs h (fun k => if k = 0 then q1 else if k = 1 then q4 else q7) (fun _ => none) (upd (upd (fun _ => 0) 3 0) 4 0) na89 (fun _ _ => none), wd_Lst cs q1 (fun _ => 0) (fun k => if k = 0 then (some em) else none) (upd (upd (fun _ => 0) 1 0) 2 0) (fun _ _ => 0) (fun _ _ => none), wd_Lst cs q4 (fun _ => 0) (fun k => if k = 0 then (some lq104) else none) lf106 (fun _ _ => 0) (fun _ _ => none), [(lq104, .inl (cs 12, lc105, .inr (.inr (.inr (.inr lg107)))))], P103, wd_Sym cs q125 (fun _ => 0) (fun _ => none) (upd (upd (upd (upd (upd (upd (upd (fun _ => 0) 0 z126) 1 2) 2 0) 3 z102) 4 z130) 5 z122) 6 z129) (fun _ _ => 0) (fun _ _ => none)]) rfl rfl (fun H locs hw => ?_)
                                    refine lv_iload_n S.x S.b d_Nam_init_113 rfl (lv_at hl 2 rfl) ?_
                                    refine va_getsN S.x S.b hqcG1 hw.2.2 S.own (va_Nw.use rfl (hT.2.2 _ m2_4n rfl)) (fun _ h => h) d_Nam_init_114 ?_
                                    refine lv_iload_n S.x S.b d_Nam_init_117 rfl (lv_at hl 1 rfl) ?_
                                    refine va_ti S.x S.b hqcG2 hw.2.2 (i := z122) (vp_in_iff.mpr (by constructor <;> omega)) rfl d_Nam_init_118 ?_
                                    refine lv_topi (fun z131 ez131 => ?_)
                                    have lz131 := Int32.le_toInt z131
                                    have uz131 := Int32.toInt_lt z131
                                    have vz131 : z131.toInt = 1 := gvw_at (bs := GCb) (i := 1) ez131 (show z122.toInt = 1 from by first | exact oz_39c814ab45 tz122 | omega) rfl
                                    refine lv_iadd S.x S.b d_Nam_init_119 ?_
                                    refine lv_topi (fun z132 ez132 => ?_)
                                    have tz132 : z132.toInt = (z102.toInt + z131.toInt + 2147483648) % 4294967296 - 2147483648 := by rw [ez132]; exact i_add z102 z131
                                    have lz132 := Int32.le_toInt z132
                                    have uz132 := Int32.toInt_lt z132
                                    try replace tz132 : z132.toInt = z102.toInt + z131.toInt := by omega
                                    refine lv_istore_n (lv' := [(1, .int z132), (3, .ref q125), (2, .int z122), (0, .ref h)]) S.x S.b d_Nam_init_120 rfl hl (by decide) rfl (fun ls hl => ?_)
                                    have hw : pw D A s.heap _ _ ([wd_Nam cs h (fun k => if k = 0 then q1 else if k = 1 then q4 else q7) (fun _ => none) (upd (upd (fun _ => 0) 3 0) 4 0) na89 (fun _ _ => none), wd_Lst cs q1 (fun _ => 0) (fun k => if k = 0 then (some em) else none) (upd (upd (fun _ => 0) 1 0) 2 0) (fun _ _ => 0) (fun _ _ => none), wd_Lst cs q4 (fun _ => 0) (fun k => if k = 0 then (some lq104) else none) lf106 (fun _ _ => 0) (fun _ _ => none), [(lq104, .inl (cs 12, lc105, .inr (.inr (.inr (.inr lg107)))))]] ++ [P103, wd_Sym cs q125 (fun _ => 0) (fun _ => none) (upd (upd (upd (upd (upd (upd (upd (fun _ => 0) 0 z126) 1 2) 2 0) 3 z102) 4 z130) 5 z122) 6 z129) (fun _ _ => 0) (fun _ _ => none)]) := hw.sub [0, 1, 2, 3, 4, 5] rfl rfl
                                    have hw := pw_join hw
                                    have hpnP133 : Pg P103 (P103 ++ wd_Sym cs q125 (fun _ => 0) (fun _ => none) (upd (upd (upd (upd (upd (upd (upd (fun _ => 0) 0 z126) 1 2) 2 0) 3 z102) 4 z130) 5 z122) 6 z129) (fun _ _ => 0) (fun _ _ => none)) := pg_app
                                    have hsnP133 : Sy (P103 ++ wd_Sym cs q125 (fun _ => 0) (fun _ => none) (upd (upd (upd (upd (upd (upd (upd (fun _ => 0) 0 z126) 1 2) 2 0) 3 z102) 4 z130) 5 z122) 6 z129) (fun _ _ => 0) (fun _ _ => none)) (some q125) := sy_last (s := (upd (upd (upd (upd (upd (upd (upd (fun _ => 0) 0 z126) 1 2) 2 0) 3 z102) 4 z130) 5 z122) 6 z129)) rfl
                                    have hfnP133 : Fy (P103 ++ wd_Sym cs q125 (fun _ => 0) (fun _ => none) (upd (upd (upd (upd (upd (upd (upd (fun _ => 0) 0 z126) 1 2) 2 0) 3 z102) 4 z130) 5 z122) 6 z129) (fun _ _ => 0) (fun _ _ => none)) (some q125) := fy_last (s := (upd (upd (upd (upd (upd (upd (upd (fun _ => 0) 0 z126) 1 2) 2 0) 3 z102) 4 z130) 5 z122) 6 z129)) rfl (show 0 ≤ z122.toInt from by first | exact oz_1c281409f8 tz122 | omega) (show z122.toInt ≤ 1000000 from by first | exact oz_90d46c3e96 tz122 | omega)
                                    have hgnP133 : Gy (P103 ++ wd_Sym cs q125 (fun _ => 0) (fun _ => none) (upd (upd (upd (upd (upd (upd (upd (fun _ => 0) 0 z126) 1 2) 2 0) 3 z102) 4 z130) 5 z122) 6 z129) (fun _ _ => 0) (fun _ _ => none)) q125 := gy_lastN (s := (upd (upd (upd (upd (upd (upd (upd (fun _ => 0) 0 z126) 1 2) 2 0) 3 z102) 4 z130) 5 z122) 6 z129)) rfl (show 0 ≤ z122.toInt from by first | exact oz_1c281409f8 tz122 | omega) (show z122.toInt ≤ 1000000 from by first | exact oz_90d46c3e96 tz122 | omega) (show z126.toInt ≠ 25 from by first | exact oz_eec561c0db tz126 tz122 | omega)
                                    have hsyP133 : SymAt (P103 ++ wd_Sym cs q125 (fun _ => 0) (fun _ => none) (upd (upd (upd (upd (upd (upd (upd (fun _ => 0) 0 z126) 1 2) 2 0) 3 z102) 4 z130) 5 z122) 6 z129) (fun _ _ => 0) (fun _ _ => none)) q125 (upd (upd (upd (upd (upd (upd (upd (fun _ => 0) 0 z126) 1 2) 2 0) 3 z102) 4 z130) 5 z122) 6 z129) := sym_last rfl
                                    have hpxP133 : ∀ (a : Nat) (s : Nat → Int32), SymAt P103 a s → SymAt (P103 ++ wd_Sym cs q125 (fun _ => 0) (fun _ => none) (upd (upd (upd (upd (upd (upd (upd (fun _ => 0) 0 z126) 1 2) 2 0) 3 z102) 4 z130) 5 z122) 6 z129) (fun _ _ => 0) (fun _ _ => none)) a s := sym_app
                                    generalize (P103 ++ wd_Sym cs q125 (fun _ => 0) (fun _ => none) (upd (upd (upd (upd (upd (upd (upd (fun _ => 0) 0 z126) 1 2) 2 0) 3 z102) 4 z130) 5 z122) 6 z129) (fun _ _ => 0) (fun _ _ => none)) = P133 at hw hpnP133 hsnP133 hfnP133 hgnP133 hsyP133 hpxP133
                                    have hEl := hpnP133.els hEl; have hEf := hpnP133.elf hEf; have hEg := hpnP133.elg hEg
                                    have hw : pw D A s.heap _ _ [wd_Nam cs h (fun k => if k = 0 then q1 else if k = 1 then q4 else q7) (fun _ => none) (upd (upd (fun _ => 0) 3 0) 4 0) na89 (fun _ _ => none), wd_Lst cs q1 (fun _ => 0) (fun k => if k = 0 then (some em) else none) (upd (upd (fun _ => 0) 1 0) 2 0) (fun _ _ => 0) (fun _ _ => none), wd_Lst cs q4 (fun _ => 0) (fun k => if k = 0 then (some lq104) else none) lf106 (fun _ _ => 0) (fun _ _ => none), [(lq104, .inl (cs 12, lc105, .inr (.inr (.inr (.inr lg107)))))], P133] := hw
                                    refine lv_aload_n S.x S.b d_Nam_init_121 rfl (lv_at hl 3 rfl) ?_
                                    refine px_get S k_Nam hT hw 0 0 1 (v := .ref q4) rfl rfl rfl (by decide) m2_76 d_Nam_init_122 ?_
                                    refine lv_aload_n S.x S.b d_Nam_init_125 rfl (lv_at hl 1 rfl) ?_
                                    refine pg_calli (pr := [wd_Nam cs h (fun k => if k = 0 then q1 else if k = 1 then q4 else q7) (fun _ => none) (upd (upd (fun _ => 0) 3 0) 4 0) na89 (fun _ _ => none), wd_Lst cs q1 (fun _ => 0) (fun k => if k = 0 then (some em) else none) (upd (upd (fun _ => 0) 1 0) 2 0) (fun _ _ => 0) (fun _ _ => none)]) (px_runV (As := [.ref q125]) (rest := []) S (c_al_add_T l D cs mi q4 lq104 lc105 lf106 lg107 P133  q125 (show lc105 ≤ 1000000 from by first | exact oz_fbfa855060 e116 | omega) (show 10 ≤ lc105 from by first | exact e117 | omega) (show 0 ≤ (lf106 1).toInt from by first | exact oz_1c281409f8 e112 | omega) (show (lf106 1).toInt ≤ (lc105 : Int) from by first | exact e113 | omega) (by first | assumption | exact ElF.els (by assumption)) (by first | assumption | exact sy_none | exact fy_none | exact Fy.sy (by assumption) | exact sy_some (by assumption)) _ _) hT (pr := [wd_Nam cs h (fun k => if k = 0 then q1 else if k = 1 then q4 else q7) (fun _ => none) (upd (upd (fun _ => 0) 3 0) 4 0) na89 (fun _ _ => none), wd_Lst cs q1 (fun _ => 0) (fun k => if k = 0 then (some em) else none) (upd (upd (fun _ => 0) 1 0) 2 0) (fun _ _ => 0) (fun _ _ => none)]) (pcs := [wd_Lst cs q4 (fun _ => 0) (fun k => if k = 0 then (some lq104) else none) lf106 (fun _ _ => 0) (fun _ _ => none), [(lq104, .inl (cs 12, lc105, .inr (.inr (.inr (.inr lg107)))))], P133]) hw (px_X.tot (oX_call (P := (fun A U H => (va_Mi "[Ljava/lang/Object;" mi U))) (pr := [wd_Nam cs h (fun k => if k = 0 then q1 else if k = 1 then q4 else q7) (fun _ => none) (upd (upd (fun _ => 0) 3 0) 4 0) na89 (fun _ _ => none), wd_Lst cs q1 (fun _ => 0) (fun k => if k = 0 then (some em) else none) (upd (upd (fun _ => 0) 1 0) 2 0) (fun _ _ => 0) (fun _ _ => none)]) oG_M hw hA hM)) (px_recv hT hw 2 0 rfl rfl rfl) m2_9 m2_6 m2_7 m2_8 m1_10 q_Lst_add2 ⟨Nat.le_of_ble_eq_true rfl, Nat.le_of_ble_eq_true rfl⟩ hl.1 rfl (Nat.le_of_ble_eq_true rfl) d_Nam_init_126 ⟨show ((((((0 + 1) + 1) + 1) + 1) + k110) + 1) + (1) ≤ 6000 from (by first | exact oz_ea5339a380 e119 | omega), show ((((((0 + 3) + 3) + 2048) + 7) + n111) + 7) + (4 * lc105 + 40) ≤ 60000 from (by first | exact oz_d4892904e5 e116 e121 | omega)⟩) hw hA (fun v139 p138 k140 n141 H locs hp138 hw => ?_)
                                    dsimp only at hp138
                                    obtain ⟨lq134, lc135, lf136, lg137, rfl, e142, e143, e144, e145, e146, e147, e148, e149, e150, e151⟩ := hp138
                                    have e142 : (lf136 1).toInt = (lf106 1).toInt + 1 := e142
                                    have e143 : (lf136 1).toInt ≤ (lc135 : Int) := e143
                                    have e144 : AddL (lf106 1) lg107 lg137 q125 := e144
                                    have e145 : (lc105 : Int) ≤ (lc135 : Int) := e145
                                    have e146 : (lc135 : Int) ≤ 2 * (lc105 : Int) + 10 := e146
                                    have e147 : 10 ≤ lc135 := e147
                                    have e148 : Lcap lc105 (lf106 1) lc135 := e148
                                    have e149 : k140 ≤ 1 := e149
                                    have e150 : (k140 : Int) ≤ (lc135 : Int) - (lc105 : Int) := e150
                                    have e151 : (n141 : Int) ≤ 4 * ((lc135 : Int) - (lc105 : Int)) := e151
                                    have hw : pw D A s.heap H locs [wd_Nam cs h (fun k => if k = 0 then q1 else if k = 1 then q4 else q7) (fun _ => none) (upd (upd (fun _ => 0) 3 0) 4 0) na89 (fun _ _ => none), wd_Lst cs q1 (fun _ => 0) (fun k => if k = 0 then (some em) else none) (upd (upd (fun _ => 0) 1 0) 2 0) (fun _ _ => 0) (fun _ _ => none), wd_Lst cs q4 (fun _ => 0) (fun k => if k = 0 then (some lq134) else none) lf136 (fun _ _ => 0) (fun _ _ => none), [(lq134, .inl (cs 12, lc135, .inr (.inr (.inr (.inr lg137)))))], P133] := hw
                                    have lv139 := Int32.le_toInt v139
                                    have uv139 := Int32.toInt_lt v139
                                    have hfe : FunE na89 P133 lg137 14 (GV.take 2) := fe_s (n := (lf106 1)) (s := (upd (upd (upd (upd (upd (upd (upd (fun _ => 0) 0 z126) 1 2) 2 0) 3 z102) 4 z130) 5 z122) 6 z129)) (fg := lg107) 1 1 (16, 3, [1]) rfl (by decide) (by decide) hwk hfe hpxP133 hsyP133 (by assumption) (show (lf106 1).toInt = 1 from by first | exact oz_39c814ab45 e112 | omega) (show z126 = (16 : Int32) from Int32.toInt_inj.mp (show z126.toInt = 16 from by first | exact oz_2cde03c646 tz126 tz122 | omega)) rfl (show z129.toInt = 3 from by first | exact vz129 | omega) (show z130.toInt = 1 from by first | exact vz130 | omega) (show z102.toInt = 1 from by first | exact oz_5aa4acd9cb tz102 vz101 | omega)
                                    have hlcb151 := Lcap.le (B := 5000) (by assumption) (by omega) (by omega); have helf := AddL.elf (n' := (lf136 1)) (by assumption) hEf (by assumption) (by omega); have helg := AddL.elg (n' := (lf136 1)) (by assumption) hEg (by assumption) (by omega); have hEf := helf; have hEg := helg; clear helf helg
                                    refine lv_pop S.x S.b d_Nam_init_129 rfl ?_
                                    obtain ⟨z152, ez152⟩ : ∃ y : Int32, y = z122 + 1 := ⟨_, rfl⟩
                                    have tz152 : z152.toInt = (z122.toInt + 1 + 2147483648) % 4294967296 - 2147483648 := by rw [ez152]; exact i_add z122 1
                                    have lz152 := Int32.le_toInt z152
                                    have uz152 := Int32.toInt_lt z152
                                    try replace tz152 : z152.toInt = z122.toInt + 1 := by omega
                                    refine lv_iinc (v := z152) (lv' := [(2, .int z152), (1, .int z132), (3, .ref q125), (0, .ref h)]) S.x S.b d_Nam_init_130 hl (k := 2) rfl (by rw [ez152]; rfl) (by decide) rfl (fun ls hl => ?_)
                                    refine lv_goto (tgt := 66) S.x S.b d_Nam_init_133 (by decide) ?_
                                    refine lv_iload_n S.x S.b d_Nam_init_66 rfl (lv_at hl 0 rfl) ?_
                                    refine lv_bipush (v := 10) S.x S.b d_Nam_init_67 (by decide) ?_
                                    refine lv_icmp_ge (tgt := 136) S.x S.b d_Nam_init_69 (by decide) (fun c153 => ?_) (fun c153 => ?_)
                                    · have nc153 : (10 : Int) ≤ z152.toInt := (i_le (x := 10) (y := z152)).mp c153
                                      exfalso
                                      omega
                                    · have nc153 : ¬ (10 : Int) ≤ z152.toInt := mt (i_le (x := 10) (y := z152)).mpr c153
                                      refine px_new S k_Sym hT hw hA m1_202 m1_203 m1_11 (fs := [.int 0, .int 0, .int 0, .int 0, .int 0, .int 0, .int 0]) (by decide +kernel) (show (((((((0 + 1) + 1) + 1) + 1) + k110) + 1) + k140) + 1 ≤ 6000 from by first | exact oz_be9c031610 e119 e149 | omega) (show (((((((0 + 3) + 3) + 2048) + 7) + n111) + 7) + n141) + 7 ≤ 60000 from by first | exact oz_67ce8d99fb e121 e151 e116 e146 | omega) d_Nam_init_72 (fun q155 H hw => ?_)
                                      have hw : pw D A s.heap H _ [wd_Nam cs h (fun k => if k = 0 then q1 else if k = 1 then q4 else q7) (fun _ => none) (upd (upd (fun _ => 0) 3 0) 4 0) na89 (fun _ _ => none), wd_Lst cs q1 (fun _ => 0) (fun k => if k = 0 then (some em) else none) (upd (upd (fun _ => 0) 1 0) 2 0) (fun _ _ => 0) (fun _ _ => none), wd_Lst cs q4 (fun _ => 0) (fun k => if k = 0 then (some lq134) else none) lf136 (fun _ _ => 0) (fun _ _ => none), [(lq134, .inl (cs 12, lc135, .inr (.inr (.inr (.inr lg137)))))], P133, [(q155, .inr (3, [.int 0, .int 0, .int 0, .int 0, .int 0, .int 0, .int 0]))]] := hw
                                      refine lv_dup S.x S.b d_Nam_init_75 rfl ?_
                                      refine lv_bipush (v := 15) S.x S.b d_Nam_init_76 (by decide) ?_
                                      refine lv_iload_n S.x S.b d_Nam_init_78 rfl (lv_at hl 0 rfl) ?_
                                      refine lv_iadd S.x S.b d_Nam_init_79 ?_
                                      refine lv_topi (fun z156 ez156 => ?_)
                                      have tz156 : z156.toInt = ((15 : Int) + z152.toInt + 2147483648) % 4294967296 - 2147483648 := by rw [ez156]; exact i_add 15 z152
                                      have lz156 := Int32.le_toInt z156
                                      have uz156 := Int32.toInt_lt z156
                                      try replace tz156 : z156.toInt = (15 : Int) + z152.toInt := by omega
                                      refine lv_iconst (v := 2) S.x S.b d_Nam_init_80 (by decide) ?_
                                      refine px_callv (pr := [wd_Nam cs h (fun k => if k = 0 then q1 else if k = 1 then q4 else q7) (fun _ => none) (upd (upd (fun _ => 0) 3 0) 4 0) na89 (fun _ _ => none), wd_Lst cs q1 (fun _ => 0) (fun k => if k = 0 then (some em) else none) (upd (upd (fun _ => 0) 1 0) 2 0) (fun _ _ => 0) (fun _ _ => none), wd_Lst cs q4 (fun _ => 0) (fun k => if k = 0 then (some lq134) else none) lf136 (fun _ _ => 0) (fun _ _ => none), [(lq134, .inl (cs 12, lc135, .inr (.inr (.inr (.inr lg137)))))], P133]) (px_runI (As := [.int z156, .int 2]) (rest := [.ref q155]) S (c_Sym_init l D cs q155 z156 2 _) hT (pr := [wd_Nam cs h (fun k => if k = 0 then q1 else if k = 1 then q4 else q7) (fun _ => none) (upd (upd (fun _ => 0) 3 0) 4 0) na89 (fun _ _ => none), wd_Lst cs q1 (fun _ => 0) (fun k => if k = 0 then (some em) else none) (upd (upd (fun _ => 0) 1 0) 2 0) (fun _ _ => 0) (fun _ _ => none), wd_Lst cs q4 (fun _ => 0) (fun k => if k = 0 then (some lq134) else none) lf136 (fun _ _ => 0) (fun _ _ => none), [(lq134, .inl (cs 12, lc135, .inr (.inr (.inr (.inr lg137)))))], P133]) (pcs := [[(q155, .inr (3, [.int 0, .int 0, .int 0, .int 0, .int 0, .int 0, .int 0]))]]) hw px_X.tt m1_206 m1_204 m1_205 m1_11 rfl q_Sym_init ⟨Nat.le_of_ble_eq_true rfl, Nat.le_of_ble_eq_true rfl⟩ hl.1 rfl (Nat.le_of_ble_eq_true rfl) d_Nam_init_81 ⟨show ((((((((0 + 1) + 1) + 1) + 1) + k110) + 1) + k140) + 1) + 0 ≤ 6000 from (by first | exact oz_02a8150ce8 e119 e149 | omega), show ((((((((0 + 3) + 3) + 2048) + 7) + n111) + 7) + n141) + 7) + 0 ≤ 60000 from (by first | exact oz_25d65964f8 e121 e151 e116 e146 | omega)⟩) hw hA (fun p157 H locs hp157 hw => ?_)
                                      subst hp157
                                      have hw : pw D A s.heap H locs [wd_Nam cs h (fun k => if k = 0 then q1 else if k = 1 then q4 else q7) (fun _ => none) (upd (upd (fun _ => 0) 3 0) 4 0) na89 (fun _ _ => none), wd_Lst cs q1 (fun _ => 0) (fun k => if k = 0 then (some em) else none) (upd (upd (fun _ => 0) 1 0) 2 0) (fun _ _ => 0) (fun _ _ => none), wd_Lst cs q4 (fun _ => 0) (fun k => if k = 0 then (some lq134) else none) lf136 (fun _ _ => 0) (fun _ _ => none), [(lq134, .inl (cs 12, lc135, .inr (.inr (.inr (.inr lg137)))))], P133, wd_Sym cs q155 (fun _ => 0) (fun _ => none) (upd (upd (upd (upd (upd (upd (upd (fun _ => 0) 0 z156) 1 2) 2 0) 3 0) 4 0) 5 0) 6 0) (fun _ _ => 0) (fun _ _ => none)] := hw
                                      refine lv_astore_n (lv' := [(3, .ref q155), (2, .int z152), (1, .int z132), (0, .ref h)]) S.x S.b d_Nam_init_84 rfl hl (by decide) rfl (fun ls hl => ?_)
                                      refine lv_aload_n S.x S.b d_Nam_init_85 rfl (lv_at hl 0 rfl) ?_
                                      refine lv_iload_n S.x S.b d_Nam_init_86 rfl (lv_at hl 1 rfl) ?_
                                      refine px_put S k_Sym hT hw 5 0 5 rfl rfl (by decide) m1_221 rfl rfl rfl (Nat.le_of_ble_eq_true rfl) d_Nam_init_87 (w' := wd_Sym cs q155 (fun _ => 0) (fun _ => none) (upd (upd (upd (upd (upd (upd (upd (fun _ => 0) 0 z156) 1 2) 2 0) 3 0) 4 0) 5 z152) 6 0) (fun _ _ => 0) (fun _ _ => none)) (ps' := [wd_Nam cs h (fun k => if k = 0 then q1 else if k = 1 then q4 else q7) (fun _ => none) (upd (upd (fun _ => 0) 3 0) 4 0) na89 (fun _ _ => none), wd_Lst cs q1 (fun _ => 0) (fun k => if k = 0 then (some em) else none) (upd (upd (fun _ => 0) 1 0) 2 0) (fun _ _ => 0) (fun _ _ => none), wd_Lst cs q4 (fun _ => 0) (fun k => if k = 0 then (some lq134) else none) lf136 (fun _ _ => 0) (fun _ _ => none), [(lq134, .inl (cs 12, lc135, .inr (.inr (.inr (.inr lg137)))))], P133, wd_Sym cs q155 (fun _ => 0) (fun _ => none) (upd (upd (upd (upd (upd (upd (upd (fun _ => 0) 0 z156) 1 2) 2 0) 3 0) 4 0) 5 z152) 6 0) (fun _ _ => 0) (fun _ _ => none)]) rfl rfl (fun H locs hw => ?_)
                                      refine lv_aload_n S.x S.b d_Nam_init_90 rfl (lv_at hl 0 rfl) ?_
                                      refine va_getsN S.x S.b hqtG1 hw.2.2 S.own (va_Nw.use rfl (hT.2.2 _ m2_2n rfl)) (fun _ h => h) d_Nam_init_91 ?_
                                      refine lv_iload_n S.x S.b d_Nam_init_94 rfl (lv_at hl 1 rfl) ?_
                                      refine va_ti S.x S.b hqtG2 hw.2.2 (i := z152) (vp_in_iff.mpr (by constructor <;> omega)) rfl d_Nam_init_95 ?_
                                      refine lv_topi (fun z159 ez159 => ?_)
                                      have lz159 := Int32.le_toInt z159
                                      have uz159 := Int32.toInt_lt z159
                                      have vz159 : z159.toInt = 3 := gvw_at (bs := GTb) (i := 2) ez159 (show z152.toInt = 2 from by first | exact oz_79f1cc74f5 tz152 tz122 | omega) rfl
                                      refine px_put S k_Sym hT hw 5 0 6 rfl rfl (by decide) m1_224 rfl rfl rfl (Nat.le_of_ble_eq_true rfl) d_Nam_init_96 (w' := wd_Sym cs q155 (fun _ => 0) (fun _ => none) (upd (upd (upd (upd (upd (upd (upd (fun _ => 0) 0 z156) 1 2) 2 0) 3 0) 4 0) 5 z152) 6 z159) (fun _ _ => 0) (fun _ _ => none)) (ps' := [wd_Nam cs h (fun k => if k = 0 then q1 else if k = 1 then q4 else q7) (fun _ => none) (upd (upd (fun _ => 0) 3 0) 4 0) na89 (fun _ _ => none), wd_Lst cs q1 (fun _ => 0) (fun k => if k = 0 then (some em) else none) (upd (upd (fun _ => 0) 1 0) 2 0) (fun _ _ => 0) (fun _ _ => none), wd_Lst cs q4 (fun _ => 0) (fun k => if k = 0 then (some lq134) else none) lf136 (fun _ _ => 0) (fun _ _ => none), [(lq134, .inl (cs 12, lc135, .inr (.inr (.inr (.inr lg137)))))], P133, wd_Sym cs q155 (fun _ => 0) (fun _ => none) (upd (upd (upd (upd (upd (upd (upd (fun _ => 0) 0 z156) 1 2) 2 0) 3 0) 4 0) 5 z152) 6 z159) (fun _ _ => 0) (fun _ _ => none)]) rfl rfl (fun H locs hw => ?_)
                                      refine lv_aload_n S.x S.b d_Nam_init_99 rfl (lv_at hl 0 rfl) ?_
                                      refine lv_iload_n S.x S.b d_Nam_init_100 rfl (lv_at hl 2 rfl) ?_
                                      refine px_put S k_Sym hT hw 5 0 3 rfl rfl (by decide) m1_215 rfl rfl rfl (Nat.le_of_ble_eq_true rfl) d_Nam_init_101 (w' := wd_Sym cs q155 (fun _ => 0) (fun _ => none) (upd (upd (upd (upd (upd (upd (upd (fun _ => 0) 0 z156) 1 2) 2 0) 3 z132) 4 0) 5 z152) 6 z159) (fun _ _ => 0) (fun _ _ => none)) (ps' := [wd_Nam cs h (fun k => if k = 0 then q1 else if k = 1 then q4 else q7) (fun _ => none) (upd (upd (fun _ => 0) 3 0) 4 0) na89 (fun _ _ => none), wd_Lst cs q1 (fun _ => 0) (fun k => if k = 0 then (some em) else none) (upd (upd (fun _ => 0) 1 0) 2 0) (fun _ _ => 0) (fun _ _ => none), wd_Lst cs q4 (fun _ => 0) (fun k => if k = 0 then (some lq134) else none) lf136 (fun _ _ => 0) (fun _ _ => none), [(lq134, .inl (cs 12, lc135, .inr (.inr (.inr (.inr lg137)))))], P133, wd_Sym cs q155 (fun _ => 0) (fun _ => none) (upd (upd (upd (upd (upd (upd (upd (fun _ => 0) 0 z156) 1 2) 2 0) 3 z132) 4 0) 5 z152) 6 z159) (fun _ _ => 0) (fun _ _ => none)]) rfl rfl (fun H locs hw => ?_)
                                      refine lv_aload_n S.x S.b d_Nam_init_104 rfl (lv_at hl 0 rfl) ?_
                                      refine va_getsN S.x S.b hqcG1 hw.2.2 S.own (va_Nw.use rfl (hT.2.2 _ m2_4n rfl)) (fun _ h => h) d_Nam_init_105 ?_
                                      refine lv_iload_n S.x S.b d_Nam_init_108 rfl (lv_at hl 1 rfl) ?_
                                      refine va_ti S.x S.b hqcG2 hw.2.2 (i := z152) (vp_in_iff.mpr (by constructor <;> omega)) rfl d_Nam_init_109 ?_
                                      refine lv_topi (fun z160 ez160 => ?_)
                                      have lz160 := Int32.le_toInt z160
                                      have uz160 := Int32.toInt_lt z160
                                      have vz160 : z160.toInt = 2 := gvw_at (bs := GCb) (i := 2) ez160 (show z152.toInt = 2 from by first | exact oz_79f1cc74f5 tz152 tz122 | omega) rfl
                                      refine px_put S k_Sym hT hw 5 0 4 rfl rfl (by decide) m1_218 rfl rfl rfl (Nat.le_of_ble_eq_true rfl) d_Nam_init_110 (w' := wd_Sym cs q155 (fun _ => 0) (fun _ => none) (upd (upd (upd (upd (upd (upd (upd (fun _ => 0) 0 z156) 1 2) 2 0) 3 z132) 4 z160) 5 z152) 6 z159) (fun _ _ => 0) (fun _ _ => none)) (ps' := [wd_Nam cs h (fun k => if k = 0 then q1 else if k = 1 then q4 else q7) (fun _ => none) (upd (upd (fun _ => 0) 3 0) 4 0) na89 (fun _ _ => none), wd_Lst cs q1 (fun _ => 0) (fun k => if k = 0 then (some em) else none) (upd (upd (fun _ => 0) 1 0) 2 0) (fun _ _ => 0) (fun _ _ => none), wd_Lst cs q4 (fun _ => 0) (fun k => if k = 0 then (some lq134) else none) lf136 (fun _ _ => 0) (fun _ _ => none), [(lq134, .inl (cs 12, lc135, .inr (.inr (.inr (.inr lg137)))))], P133, wd_Sym cs q155 (fun _ => 0) (fun _ => none) (upd (upd (upd (upd (upd (upd (upd (fun _ => 0) 0 z156) 1 2) 2 0) 3 z132) 4 z160) 5 z152) 6 z159) (fun _ _ => 0) (fun _ _ => none)]) rfl rfl (fun H locs hw => ?_)
                                      refine lv_iload_n S.x S.b d_Nam_init_113 rfl (lv_at hl 2 rfl) ?_
                                      refine va_getsN S.x S.b hqcG1 hw.2.2 S.own (va_Nw.use rfl (hT.2.2 _ m2_4n rfl)) (fun _ h => h) d_Nam_init_114 ?_
                                      refine lv_iload_n S.x S.b d_Nam_init_117 rfl (lv_at hl 1 rfl) ?_
                                      refine va_ti S.x S.b hqcG2 hw.2.2 (i := z152) (vp_in_iff.mpr (by constructor <;> omega)) rfl d_Nam_init_118 ?_
                                      refine lv_topi (fun z161 ez161 => ?_)
                                      have lz161 := Int32.le_toInt z161
                                      have uz161 := Int32.toInt_lt z161
                                      have vz161 : z161.toInt = 2 := gvw_at (bs := GCb) (i := 2) ez161 (show z152.toInt = 2 from by first | exact oz_79f1cc74f5 tz152 tz122 | omega) rfl
                                      refine lv_iadd S.x S.b d_Nam_init_119 ?_
                                      refine lv_topi (fun z162 ez162 => ?_)
                                      have tz162 : z162.toInt = (z132.toInt + z161.toInt + 2147483648) % 4294967296 - 2147483648 := by rw [ez162]; exact i_add z132 z161
                                      have lz162 := Int32.le_toInt z162
                                      have uz162 := Int32.toInt_lt z162
                                      try replace tz162 : z162.toInt = z132.toInt + z161.toInt := by omega
                                      refine lv_istore_n (lv' := [(1, .int z162), (3, .ref q155), (2, .int z152), (0, .ref h)]) S.x S.b d_Nam_init_120 rfl hl (by decide) rfl (fun ls hl => ?_)
                                      have hw : pw D A s.heap _ _ ([wd_Nam cs h (fun k => if k = 0 then q1 else if k = 1 then q4 else q7) (fun _ => none) (upd (upd (fun _ => 0) 3 0) 4 0) na89 (fun _ _ => none), wd_Lst cs q1 (fun _ => 0) (fun k => if k = 0 then (some em) else none) (upd (upd (fun _ => 0) 1 0) 2 0) (fun _ _ => 0) (fun _ _ => none), wd_Lst cs q4 (fun _ => 0) (fun k => if k = 0 then (some lq134) else none) lf136 (fun _ _ => 0) (fun _ _ => none), [(lq134, .inl (cs 12, lc135, .inr (.inr (.inr (.inr lg137)))))]] ++ [P133, wd_Sym cs q155 (fun _ => 0) (fun _ => none) (upd (upd (upd (upd (upd (upd (upd (fun _ => 0) 0 z156) 1 2) 2 0) 3 z132) 4 z160) 5 z152) 6 z159) (fun _ _ => 0) (fun _ _ => none)]) := hw.sub [0, 1, 2, 3, 4, 5] rfl rfl
                                      have hw := pw_join hw
                                      have hpnP163 : Pg P133 (P133 ++ wd_Sym cs q155 (fun _ => 0) (fun _ => none) (upd (upd (upd (upd (upd (upd (upd (fun _ => 0) 0 z156) 1 2) 2 0) 3 z132) 4 z160) 5 z152) 6 z159) (fun _ _ => 0) (fun _ _ => none)) := pg_app
                                      have hsnP163 : Sy (P133 ++ wd_Sym cs q155 (fun _ => 0) (fun _ => none) (upd (upd (upd (upd (upd (upd (upd (fun _ => 0) 0 z156) 1 2) 2 0) 3 z132) 4 z160) 5 z152) 6 z159) (fun _ _ => 0) (fun _ _ => none)) (some q155) := sy_last (s := (upd (upd (upd (upd (upd (upd (upd (fun _ => 0) 0 z156) 1 2) 2 0) 3 z132) 4 z160) 5 z152) 6 z159)) rfl
                                      have hfnP163 : Fy (P133 ++ wd_Sym cs q155 (fun _ => 0) (fun _ => none) (upd (upd (upd (upd (upd (upd (upd (fun _ => 0) 0 z156) 1 2) 2 0) 3 z132) 4 z160) 5 z152) 6 z159) (fun _ _ => 0) (fun _ _ => none)) (some q155) := fy_last (s := (upd (upd (upd (upd (upd (upd (upd (fun _ => 0) 0 z156) 1 2) 2 0) 3 z132) 4 z160) 5 z152) 6 z159)) rfl (show 0 ≤ z152.toInt from by first | exact oz_072d2c3f33 tz152 tz122 | omega) (show z152.toInt ≤ 1000000 from by first | exact oz_b7e3294fe2 tz152 tz122 | omega)
                                      have hgnP163 : Gy (P133 ++ wd_Sym cs q155 (fun _ => 0) (fun _ => none) (upd (upd (upd (upd (upd (upd (upd (fun _ => 0) 0 z156) 1 2) 2 0) 3 z132) 4 z160) 5 z152) 6 z159) (fun _ _ => 0) (fun _ _ => none)) q155 := gy_lastN (s := (upd (upd (upd (upd (upd (upd (upd (fun _ => 0) 0 z156) 1 2) 2 0) 3 z132) 4 z160) 5 z152) 6 z159)) rfl (show 0 ≤ z152.toInt from by first | exact oz_072d2c3f33 tz152 tz122 | omega) (show z152.toInt ≤ 1000000 from by first | exact oz_b7e3294fe2 tz152 tz122 | omega) (show z156.toInt ≠ 25 from by first | exact oz_20fca602ed tz156 nc153 | omega)
                                      have hsyP163 : SymAt (P133 ++ wd_Sym cs q155 (fun _ => 0) (fun _ => none) (upd (upd (upd (upd (upd (upd (upd (fun _ => 0) 0 z156) 1 2) 2 0) 3 z132) 4 z160) 5 z152) 6 z159) (fun _ _ => 0) (fun _ _ => none)) q155 (upd (upd (upd (upd (upd (upd (upd (fun _ => 0) 0 z156) 1 2) 2 0) 3 z132) 4 z160) 5 z152) 6 z159) := sym_last rfl
                                      have hpxP163 : ∀ (a : Nat) (s : Nat → Int32), SymAt P133 a s → SymAt (P133 ++ wd_Sym cs q155 (fun _ => 0) (fun _ => none) (upd (upd (upd (upd (upd (upd (upd (fun _ => 0) 0 z156) 1 2) 2 0) 3 z132) 4 z160) 5 z152) 6 z159) (fun _ _ => 0) (fun _ _ => none)) a s := sym_app
                                      generalize (P133 ++ wd_Sym cs q155 (fun _ => 0) (fun _ => none) (upd (upd (upd (upd (upd (upd (upd (fun _ => 0) 0 z156) 1 2) 2 0) 3 z132) 4 z160) 5 z152) 6 z159) (fun _ _ => 0) (fun _ _ => none)) = P163 at hw hpnP163 hsnP163 hfnP163 hgnP163 hsyP163 hpxP163
                                      have hEl := hpnP163.els hEl; have hEf := hpnP163.elf hEf; have hEg := hpnP163.elg hEg
                                      have hw : pw D A s.heap _ _ [wd_Nam cs h (fun k => if k = 0 then q1 else if k = 1 then q4 else q7) (fun _ => none) (upd (upd (fun _ => 0) 3 0) 4 0) na89 (fun _ _ => none), wd_Lst cs q1 (fun _ => 0) (fun k => if k = 0 then (some em) else none) (upd (upd (fun _ => 0) 1 0) 2 0) (fun _ _ => 0) (fun _ _ => none), wd_Lst cs q4 (fun _ => 0) (fun k => if k = 0 then (some lq134) else none) lf136 (fun _ _ => 0) (fun _ _ => none), [(lq134, .inl (cs 12, lc135, .inr (.inr (.inr (.inr lg137)))))], P163] := hw
                                      refine lv_aload_n S.x S.b d_Nam_init_121 rfl (lv_at hl 3 rfl) ?_
                                      refine px_get S k_Nam hT hw 0 0 1 (v := .ref q4) rfl rfl rfl (by decide) m2_76 d_Nam_init_122 ?_
                                      refine lv_aload_n S.x S.b d_Nam_init_125 rfl (lv_at hl 1 rfl) ?_
                                      refine pg_calli (pr := [wd_Nam cs h (fun k => if k = 0 then q1 else if k = 1 then q4 else q7) (fun _ => none) (upd (upd (fun _ => 0) 3 0) 4 0) na89 (fun _ _ => none), wd_Lst cs q1 (fun _ => 0) (fun k => if k = 0 then (some em) else none) (upd (upd (fun _ => 0) 1 0) 2 0) (fun _ _ => 0) (fun _ _ => none)]) (px_runV (As := [.ref q155]) (rest := []) S (c_al_add_T l D cs mi q4 lq134 lc135 lf136 lg137 P163  q155 (show lc135 ≤ 1000000 from by first | exact oz_83553f5e4d e146 e116 | omega) (show 10 ≤ lc135 from by first | exact e147 | omega) (show 0 ≤ (lf136 1).toInt from by first | exact oz_072d2c3f33 e142 e112 | omega) (show (lf136 1).toInt ≤ (lc135 : Int) from by first | exact e143 | omega) (by first | assumption | exact ElF.els (by assumption)) (by first | assumption | exact sy_none | exact fy_none | exact Fy.sy (by assumption) | exact sy_some (by assumption)) _ _) hT (pr := [wd_Nam cs h (fun k => if k = 0 then q1 else if k = 1 then q4 else q7) (fun _ => none) (upd (upd (fun _ => 0) 3 0) 4 0) na89 (fun _ _ => none), wd_Lst cs q1 (fun _ => 0) (fun k => if k = 0 then (some em) else none) (upd (upd (fun _ => 0) 1 0) 2 0) (fun _ _ => 0) (fun _ _ => none)]) (pcs := [wd_Lst cs q4 (fun _ => 0) (fun k => if k = 0 then (some lq134) else none) lf136 (fun _ _ => 0) (fun _ _ => none), [(lq134, .inl (cs 12, lc135, .inr (.inr (.inr (.inr lg137)))))], P163]) hw (px_X.tot (oX_call (P := (fun A U H => (va_Mi "[Ljava/lang/Object;" mi U))) (pr := [wd_Nam cs h (fun k => if k = 0 then q1 else if k = 1 then q4 else q7) (fun _ => none) (upd (upd (fun _ => 0) 3 0) 4 0) na89 (fun _ _ => none), wd_Lst cs q1 (fun _ => 0) (fun k => if k = 0 then (some em) else none) (upd (upd (fun _ => 0) 1 0) 2 0) (fun _ _ => 0) (fun _ _ => none)]) oG_M hw hA hM)) (px_recv hT hw 2 0 rfl rfl rfl) m2_9 m2_6 m2_7 m2_8 m1_10 q_Lst_add2 ⟨Nat.le_of_ble_eq_true rfl, Nat.le_of_ble_eq_true rfl⟩ hl.1 rfl (Nat.le_of_ble_eq_true rfl) d_Nam_init_126 ⟨show ((((((((0 + 1) + 1) + 1) + 1) + k110) + 1) + k140) + 1) + (1) ≤ 6000 from (by first | exact oz_1bc48b31f5 e119 e149 | omega), show ((((((((0 + 3) + 3) + 2048) + 7) + n111) + 7) + n141) + 7) + (4 * lc135 + 40) ≤ 60000 from (by first | exact oz_5423f49ca8 e121 e146 e151 e116 | omega)⟩) hw hA (fun v169 p168 k170 n171 H locs hp168 hw => ?_)
                                      dsimp only at hp168
                                      obtain ⟨lq164, lc165, lf166, lg167, rfl, e172, e173, e174, e175, e176, e177, e178, e179, e180, e181⟩ := hp168
                                      have e172 : (lf166 1).toInt = (lf136 1).toInt + 1 := e172
                                      have e173 : (lf166 1).toInt ≤ (lc165 : Int) := e173
                                      have e174 : AddL (lf136 1) lg137 lg167 q155 := e174
                                      have e175 : (lc135 : Int) ≤ (lc165 : Int) := e175
                                      have e176 : (lc165 : Int) ≤ 2 * (lc135 : Int) + 10 := e176
                                      have e177 : 10 ≤ lc165 := e177
                                      have e178 : Lcap lc135 (lf136 1) lc165 := e178
                                      have e179 : k170 ≤ 1 := e179
                                      have e180 : (k170 : Int) ≤ (lc165 : Int) - (lc135 : Int) := e180
                                      have e181 : (n171 : Int) ≤ 4 * ((lc165 : Int) - (lc135 : Int)) := e181
                                      have hw : pw D A s.heap H locs [wd_Nam cs h (fun k => if k = 0 then q1 else if k = 1 then q4 else q7) (fun _ => none) (upd (upd (fun _ => 0) 3 0) 4 0) na89 (fun _ _ => none), wd_Lst cs q1 (fun _ => 0) (fun k => if k = 0 then (some em) else none) (upd (upd (fun _ => 0) 1 0) 2 0) (fun _ _ => 0) (fun _ _ => none), wd_Lst cs q4 (fun _ => 0) (fun k => if k = 0 then (some lq164) else none) lf166 (fun _ _ => 0) (fun _ _ => none), [(lq164, .inl (cs 12, lc165, .inr (.inr (.inr (.inr lg167)))))], P163] := hw
                                      have lv169 := Int32.le_toInt v169
                                      have uv169 := Int32.toInt_lt v169
                                      have hfe : FunE na89 P163 lg167 14 (GV.take 3) := fe_s (n := (lf136 1)) (s := (upd (upd (upd (upd (upd (upd (upd (fun _ => 0) 0 z156) 1 2) 2 0) 3 z132) 4 z160) 5 z152) 6 z159)) (fg := lg137) 2 2 (17, 3, [1, 1]) rfl (by decide) (by decide) hwk hfe hpxP163 hsyP163 (by assumption) (show (lf136 1).toInt = 2 from by first | exact oz_79f1cc74f5 e142 e112 | omega) (show z156 = (17 : Int32) from Int32.toInt_inj.mp (show z156.toInt = 17 from by first | exact oz_d5b2a57352 tz156 tz152 tz122 | omega)) rfl (show z159.toInt = 3 from by first | exact vz159 | omega) (show z160.toInt = 2 from by first | exact vz160 | omega) (show z132.toInt = 2 from by first | exact oz_9ee4810c36 tz132 tz102 vz131 vz101 | omega)
                                      have hlcb181 := Lcap.le (B := 5000) (by assumption) (by omega) (by omega); have helf := AddL.elf (n' := (lf166 1)) (by assumption) hEf (by assumption) (by omega); have helg := AddL.elg (n' := (lf166 1)) (by assumption) hEg (by assumption) (by omega); have hEf := helf; have hEg := helg; clear helf helg
                                      refine lv_pop S.x S.b d_Nam_init_129 rfl ?_
                                      obtain ⟨z182, ez182⟩ : ∃ y : Int32, y = z152 + 1 := ⟨_, rfl⟩
                                      have tz182 : z182.toInt = (z152.toInt + 1 + 2147483648) % 4294967296 - 2147483648 := by rw [ez182]; exact i_add z152 1
                                      have lz182 := Int32.le_toInt z182
                                      have uz182 := Int32.toInt_lt z182
                                      try replace tz182 : z182.toInt = z152.toInt + 1 := by omega
                                      refine lv_iinc (v := z182) (lv' := [(2, .int z182), (1, .int z162), (3, .ref q155), (0, .ref h)]) S.x S.b d_Nam_init_130 hl (k := 2) rfl (by rw [ez182]; rfl) (by decide) rfl (fun ls hl => ?_)
                                      refine lv_goto (tgt := 66) S.x S.b d_Nam_init_133 (by decide) ?_
                                      refine lv_iload_n S.x S.b d_Nam_init_66 rfl (lv_at hl 0 rfl) ?_
                                      refine lv_bipush (v := 10) S.x S.b d_Nam_init_67 (by decide) ?_
                                      refine lv_icmp_ge (tgt := 136) S.x S.b d_Nam_init_69 (by decide) (fun c183 => ?_) (fun c183 => ?_)
                                      · have nc183 : (10 : Int) ≤ z182.toInt := (i_le (x := 10) (y := z182)).mp c183
                                        exfalso
                                        omega
                                      · have nc183 : ¬ (10 : Int) ≤ z182.toInt := mt (i_le (x := 10) (y := z182)).mpr c183
                                        refine px_new S k_Sym hT hw hA m1_202 m1_203 m1_11 (fs := [.int 0, .int 0, .int 0, .int 0, .int 0, .int 0, .int 0]) (by decide +kernel) (show (((((((((0 + 1) + 1) + 1) + 1) + k110) + 1) + k140) + 1) + k170) + 1 ≤ 6000 from by first | exact oz_2131103c10 e119 e149 e179 | omega) (show (((((((((0 + 3) + 3) + 2048) + 7) + n111) + 7) + n141) + 7) + n171) + 7 ≤ 60000 from by first | exact oz_4600e781d2 e121 e151 e181 e116 e146 e176 | omega) d_Nam_init_72 (fun q185 H hw => ?_)
                                        have hw : pw D A s.heap H _ [wd_Nam cs h (fun k => if k = 0 then q1 else if k = 1 then q4 else q7) (fun _ => none) (upd (upd (fun _ => 0) 3 0) 4 0) na89 (fun _ _ => none), wd_Lst cs q1 (fun _ => 0) (fun k => if k = 0 then (some em) else none) (upd (upd (fun _ => 0) 1 0) 2 0) (fun _ _ => 0) (fun _ _ => none), wd_Lst cs q4 (fun _ => 0) (fun k => if k = 0 then (some lq164) else none) lf166 (fun _ _ => 0) (fun _ _ => none), [(lq164, .inl (cs 12, lc165, .inr (.inr (.inr (.inr lg167)))))], P163, [(q185, .inr (3, [.int 0, .int 0, .int 0, .int 0, .int 0, .int 0, .int 0]))]] := hw
                                        refine lv_dup S.x S.b d_Nam_init_75 rfl ?_
                                        refine lv_bipush (v := 15) S.x S.b d_Nam_init_76 (by decide) ?_
                                        refine lv_iload_n S.x S.b d_Nam_init_78 rfl (lv_at hl 0 rfl) ?_
                                        refine lv_iadd S.x S.b d_Nam_init_79 ?_
                                        refine lv_topi (fun z186 ez186 => ?_)
                                        have tz186 : z186.toInt = ((15 : Int) + z182.toInt + 2147483648) % 4294967296 - 2147483648 := by rw [ez186]; exact i_add 15 z182
                                        have lz186 := Int32.le_toInt z186
                                        have uz186 := Int32.toInt_lt z186
                                        try replace tz186 : z186.toInt = (15 : Int) + z182.toInt := by omega
                                        refine lv_iconst (v := 2) S.x S.b d_Nam_init_80 (by decide) ?_
                                        refine px_callv (pr := [wd_Nam cs h (fun k => if k = 0 then q1 else if k = 1 then q4 else q7) (fun _ => none) (upd (upd (fun _ => 0) 3 0) 4 0) na89 (fun _ _ => none), wd_Lst cs q1 (fun _ => 0) (fun k => if k = 0 then (some em) else none) (upd (upd (fun _ => 0) 1 0) 2 0) (fun _ _ => 0) (fun _ _ => none), wd_Lst cs q4 (fun _ => 0) (fun k => if k = 0 then (some lq164) else none) lf166 (fun _ _ => 0) (fun _ _ => none), [(lq164, .inl (cs 12, lc165, .inr (.inr (.inr (.inr lg167)))))], P163]) (px_runI (As := [.int z186, .int 2]) (rest := [.ref q185]) S (c_Sym_init l D cs q185 z186 2 _) hT (pr := [wd_Nam cs h (fun k => if k = 0 then q1 else if k = 1 then q4 else q7) (fun _ => none) (upd (upd (fun _ => 0) 3 0) 4 0) na89 (fun _ _ => none), wd_Lst cs q1 (fun _ => 0) (fun k => if k = 0 then (some em) else none) (upd (upd (fun _ => 0) 1 0) 2 0) (fun _ _ => 0) (fun _ _ => none), wd_Lst cs q4 (fun _ => 0) (fun k => if k = 0 then (some lq164) else none) lf166 (fun _ _ => 0) (fun _ _ => none), [(lq164, .inl (cs 12, lc165, .inr (.inr (.inr (.inr lg167)))))], P163]) (pcs := [[(q185, .inr (3, [.int 0, .int 0, .int 0, .int 0, .int 0, .int 0, .int 0]))]]) hw px_X.tt m1_206 m1_204 m1_205 m1_11 rfl q_Sym_init ⟨Nat.le_of_ble_eq_true rfl, Nat.le_of_ble_eq_true rfl⟩ hl.1 rfl (Nat.le_of_ble_eq_true rfl) d_Nam_init_81 ⟨show ((((((((((0 + 1) + 1) + 1) + 1) + k110) + 1) + k140) + 1) + k170) + 1) + 0 ≤ 6000 from (by first | exact oz_3fbf593171 e119 e149 e179 | omega), show ((((((((((0 + 3) + 3) + 2048) + 7) + n111) + 7) + n141) + 7) + n171) + 7) + 0 ≤ 60000 from (by first | exact oz_a0da7977a4 e121 e151 e181 e116 e146 e176 | omega)⟩) hw hA (fun p187 H locs hp187 hw => ?_)
                                        subst hp187
                                        have hw : pw D A s.heap H locs [wd_Nam cs h (fun k => if k = 0 then q1 else if k = 1 then q4 else q7) (fun _ => none) (upd (upd (fun _ => 0) 3 0) 4 0) na89 (fun _ _ => none), wd_Lst cs q1 (fun _ => 0) (fun k => if k = 0 then (some em) else none) (upd (upd (fun _ => 0) 1 0) 2 0) (fun _ _ => 0) (fun _ _ => none), wd_Lst cs q4 (fun _ => 0) (fun k => if k = 0 then (some lq164) else none) lf166 (fun _ _ => 0) (fun _ _ => none), [(lq164, .inl (cs 12, lc165, .inr (.inr (.inr (.inr lg167)))))], P163, wd_Sym cs q185 (fun _ => 0) (fun _ => none) (upd (upd (upd (upd (upd (upd (upd (fun _ => 0) 0 z186) 1 2) 2 0) 3 0) 4 0) 5 0) 6 0) (fun _ _ => 0) (fun _ _ => none)] := hw
                                        refine lv_astore_n (lv' := [(3, .ref q185), (2, .int z182), (1, .int z162), (0, .ref h)]) S.x S.b d_Nam_init_84 rfl hl (by decide) rfl (fun ls hl => ?_)
                                        refine lv_aload_n S.x S.b d_Nam_init_85 rfl (lv_at hl 0 rfl) ?_
                                        refine lv_iload_n S.x S.b d_Nam_init_86 rfl (lv_at hl 1 rfl) ?_
                                        refine px_put S k_Sym hT hw 5 0 5 rfl rfl (by decide) m1_221 rfl rfl rfl (Nat.le_of_ble_eq_true rfl) d_Nam_init_87 (w' := wd_Sym cs q185 (fun _ => 0) (fun _ => none) (upd (upd (upd (upd (upd (upd (upd (fun _ => 0) 0 z186) 1 2) 2 0) 3 0) 4 0) 5 z182) 6 0) (fun _ _ => 0) (fun _ _ => none)) (ps' := [wd_Nam cs h (fun k => if k = 0 then q1 else if k = 1 then q4 else q7) (fun _ => none) (upd (upd (fun _ => 0) 3 0) 4 0) na89 (fun _ _ => none), wd_Lst cs q1 (fun _ => 0) (fun k => if k = 0 then (some em) else none) (upd (upd (fun _ => 0) 1 0) 2 0) (fun _ _ => 0) (fun _ _ => none), wd_Lst cs q4 (fun _ => 0) (fun k => if k = 0 then (some lq164) else none) lf166 (fun _ _ => 0) (fun _ _ => none), [(lq164, .inl (cs 12, lc165, .inr (.inr (.inr (.inr lg167)))))], P163, wd_Sym cs q185 (fun _ => 0) (fun _ => none) (upd (upd (upd (upd (upd (upd (upd (fun _ => 0) 0 z186) 1 2) 2 0) 3 0) 4 0) 5 z182) 6 0) (fun _ _ => 0) (fun _ _ => none)]) rfl rfl (fun H locs hw => ?_)
                                        refine lv_aload_n S.x S.b d_Nam_init_90 rfl (lv_at hl 0 rfl) ?_
                                        refine va_getsN S.x S.b hqtG1 hw.2.2 S.own (va_Nw.use rfl (hT.2.2 _ m2_2n rfl)) (fun _ h => h) d_Nam_init_91 ?_
                                        refine lv_iload_n S.x S.b d_Nam_init_94 rfl (lv_at hl 1 rfl) ?_
                                        refine va_ti S.x S.b hqtG2 hw.2.2 (i := z182) (vp_in_iff.mpr (by constructor <;> omega)) rfl d_Nam_init_95 ?_
                                        refine lv_topi (fun z189 ez189 => ?_)
                                        have lz189 := Int32.le_toInt z189
                                        have uz189 := Int32.toInt_lt z189
                                        have vz189 : z189.toInt = 1 := gvw_at (bs := GTb) (i := 3) ez189 (show z182.toInt = 3 from by first | exact oz_c9d377c832 tz182 tz152 tz122 | omega) rfl
                                        refine px_put S k_Sym hT hw 5 0 6 rfl rfl (by decide) m1_224 rfl rfl rfl (Nat.le_of_ble_eq_true rfl) d_Nam_init_96 (w' := wd_Sym cs q185 (fun _ => 0) (fun _ => none) (upd (upd (upd (upd (upd (upd (upd (fun _ => 0) 0 z186) 1 2) 2 0) 3 0) 4 0) 5 z182) 6 z189) (fun _ _ => 0) (fun _ _ => none)) (ps' := [wd_Nam cs h (fun k => if k = 0 then q1 else if k = 1 then q4 else q7) (fun _ => none) (upd (upd (fun _ => 0) 3 0) 4 0) na89 (fun _ _ => none), wd_Lst cs q1 (fun _ => 0) (fun k => if k = 0 then (some em) else none) (upd (upd (fun _ => 0) 1 0) 2 0) (fun _ _ => 0) (fun _ _ => none), wd_Lst cs q4 (fun _ => 0) (fun k => if k = 0 then (some lq164) else none) lf166 (fun _ _ => 0) (fun _ _ => none), [(lq164, .inl (cs 12, lc165, .inr (.inr (.inr (.inr lg167)))))], P163, wd_Sym cs q185 (fun _ => 0) (fun _ => none) (upd (upd (upd (upd (upd (upd (upd (fun _ => 0) 0 z186) 1 2) 2 0) 3 0) 4 0) 5 z182) 6 z189) (fun _ _ => 0) (fun _ _ => none)]) rfl rfl (fun H locs hw => ?_)
                                        refine lv_aload_n S.x S.b d_Nam_init_99 rfl (lv_at hl 0 rfl) ?_
                                        refine lv_iload_n S.x S.b d_Nam_init_100 rfl (lv_at hl 2 rfl) ?_
                                        refine px_put S k_Sym hT hw 5 0 3 rfl rfl (by decide) m1_215 rfl rfl rfl (Nat.le_of_ble_eq_true rfl) d_Nam_init_101 (w' := wd_Sym cs q185 (fun _ => 0) (fun _ => none) (upd (upd (upd (upd (upd (upd (upd (fun _ => 0) 0 z186) 1 2) 2 0) 3 z162) 4 0) 5 z182) 6 z189) (fun _ _ => 0) (fun _ _ => none)) (ps' := [wd_Nam cs h (fun k => if k = 0 then q1 else if k = 1 then q4 else q7) (fun _ => none) (upd (upd (fun _ => 0) 3 0) 4 0) na89 (fun _ _ => none), wd_Lst cs q1 (fun _ => 0) (fun k => if k = 0 then (some em) else none) (upd (upd (fun _ => 0) 1 0) 2 0) (fun _ _ => 0) (fun _ _ => none), wd_Lst cs q4 (fun _ => 0) (fun k => if k = 0 then (some lq164) else none) lf166 (fun _ _ => 0) (fun _ _ => none), [(lq164, .inl (cs 12, lc165, .inr (.inr (.inr (.inr lg167)))))], P163, wd_Sym cs q185 (fun _ => 0) (fun _ => none) (upd (upd (upd (upd (upd (upd (upd (fun _ => 0) 0 z186) 1 2) 2 0) 3 z162) 4 0) 5 z182) 6 z189) (fun _ _ => 0) (fun _ _ => none)]) rfl rfl (fun H locs hw => ?_)
                                        refine lv_aload_n S.x S.b d_Nam_init_104 rfl (lv_at hl 0 rfl) ?_
                                        refine va_getsN S.x S.b hqcG1 hw.2.2 S.own (va_Nw.use rfl (hT.2.2 _ m2_4n rfl)) (fun _ h => h) d_Nam_init_105 ?_
                                        refine lv_iload_n S.x S.b d_Nam_init_108 rfl (lv_at hl 1 rfl) ?_
                                        refine va_ti S.x S.b hqcG2 hw.2.2 (i := z182) (vp_in_iff.mpr (by constructor <;> omega)) rfl d_Nam_init_109 ?_
                                        refine lv_topi (fun z190 ez190 => ?_)
                                        have lz190 := Int32.le_toInt z190
                                        have uz190 := Int32.toInt_lt z190
                                        have vz190 : z190.toInt = 1 := gvw_at (bs := GCb) (i := 3) ez190 (show z182.toInt = 3 from by first | exact oz_c9d377c832 tz182 tz152 tz122 | omega) rfl
                                        refine px_put S k_Sym hT hw 5 0 4 rfl rfl (by decide) m1_218 rfl rfl rfl (Nat.le_of_ble_eq_true rfl) d_Nam_init_110 (w' := wd_Sym cs q185 (fun _ => 0) (fun _ => none) (upd (upd (upd (upd (upd (upd (upd (fun _ => 0) 0 z186) 1 2) 2 0) 3 z162) 4 z190) 5 z182) 6 z189) (fun _ _ => 0) (fun _ _ => none)) (ps' := [wd_Nam cs h (fun k => if k = 0 then q1 else if k = 1 then q4 else q7) (fun _ => none) (upd (upd (fun _ => 0) 3 0) 4 0) na89 (fun _ _ => none), wd_Lst cs q1 (fun _ => 0) (fun k => if k = 0 then (some em) else none) (upd (upd (fun _ => 0) 1 0) 2 0) (fun _ _ => 0) (fun _ _ => none), wd_Lst cs q4 (fun _ => 0) (fun k => if k = 0 then (some lq164) else none) lf166 (fun _ _ => 0) (fun _ _ => none), [(lq164, .inl (cs 12, lc165, .inr (.inr (.inr (.inr lg167)))))], P163, wd_Sym cs q185 (fun _ => 0) (fun _ => none) (upd (upd (upd (upd (upd (upd (upd (fun _ => 0) 0 z186) 1 2) 2 0) 3 z162) 4 z190) 5 z182) 6 z189) (fun _ _ => 0) (fun _ _ => none)]) rfl rfl (fun H locs hw => ?_)
                                        refine lv_iload_n S.x S.b d_Nam_init_113 rfl (lv_at hl 2 rfl) ?_
                                        refine va_getsN S.x S.b hqcG1 hw.2.2 S.own (va_Nw.use rfl (hT.2.2 _ m2_4n rfl)) (fun _ h => h) d_Nam_init_114 ?_
                                        refine lv_iload_n S.x S.b d_Nam_init_117 rfl (lv_at hl 1 rfl) ?_
                                        refine va_ti S.x S.b hqcG2 hw.2.2 (i := z182) (vp_in_iff.mpr (by constructor <;> omega)) rfl d_Nam_init_118 ?_
                                        refine lv_topi (fun z191 ez191 => ?_)
                                        have lz191 := Int32.le_toInt z191
                                        have uz191 := Int32.toInt_lt z191
                                        have vz191 : z191.toInt = 1 := gvw_at (bs := GCb) (i := 3) ez191 (show z182.toInt = 3 from by first | exact oz_c9d377c832 tz182 tz152 tz122 | omega) rfl
                                        refine lv_iadd S.x S.b d_Nam_init_119 ?_
                                        refine lv_topi (fun z192 ez192 => ?_)
                                        have tz192 : z192.toInt = (z162.toInt + z191.toInt + 2147483648) % 4294967296 - 2147483648 := by rw [ez192]; exact i_add z162 z191
                                        have lz192 := Int32.le_toInt z192
                                        have uz192 := Int32.toInt_lt z192
                                        try replace tz192 : z192.toInt = z162.toInt + z191.toInt := by omega
                                        refine lv_istore_n (lv' := [(1, .int z192), (3, .ref q185), (2, .int z182), (0, .ref h)]) S.x S.b d_Nam_init_120 rfl hl (by decide) rfl (fun ls hl => ?_)
                                        have hw : pw D A s.heap _ _ ([wd_Nam cs h (fun k => if k = 0 then q1 else if k = 1 then q4 else q7) (fun _ => none) (upd (upd (fun _ => 0) 3 0) 4 0) na89 (fun _ _ => none), wd_Lst cs q1 (fun _ => 0) (fun k => if k = 0 then (some em) else none) (upd (upd (fun _ => 0) 1 0) 2 0) (fun _ _ => 0) (fun _ _ => none), wd_Lst cs q4 (fun _ => 0) (fun k => if k = 0 then (some lq164) else none) lf166 (fun _ _ => 0) (fun _ _ => none), [(lq164, .inl (cs 12, lc165, .inr (.inr (.inr (.inr lg167)))))]] ++ [P163, wd_Sym cs q185 (fun _ => 0) (fun _ => none) (upd (upd (upd (upd (upd (upd (upd (fun _ => 0) 0 z186) 1 2) 2 0) 3 z162) 4 z190) 5 z182) 6 z189) (fun _ _ => 0) (fun _ _ => none)]) := hw.sub [0, 1, 2, 3, 4, 5] rfl rfl
                                        have hw := pw_join hw
                                        have hpnP193 : Pg P163 (P163 ++ wd_Sym cs q185 (fun _ => 0) (fun _ => none) (upd (upd (upd (upd (upd (upd (upd (fun _ => 0) 0 z186) 1 2) 2 0) 3 z162) 4 z190) 5 z182) 6 z189) (fun _ _ => 0) (fun _ _ => none)) := pg_app
                                        have hsnP193 : Sy (P163 ++ wd_Sym cs q185 (fun _ => 0) (fun _ => none) (upd (upd (upd (upd (upd (upd (upd (fun _ => 0) 0 z186) 1 2) 2 0) 3 z162) 4 z190) 5 z182) 6 z189) (fun _ _ => 0) (fun _ _ => none)) (some q185) := sy_last (s := (upd (upd (upd (upd (upd (upd (upd (fun _ => 0) 0 z186) 1 2) 2 0) 3 z162) 4 z190) 5 z182) 6 z189)) rfl
                                        have hfnP193 : Fy (P163 ++ wd_Sym cs q185 (fun _ => 0) (fun _ => none) (upd (upd (upd (upd (upd (upd (upd (fun _ => 0) 0 z186) 1 2) 2 0) 3 z162) 4 z190) 5 z182) 6 z189) (fun _ _ => 0) (fun _ _ => none)) (some q185) := fy_last (s := (upd (upd (upd (upd (upd (upd (upd (fun _ => 0) 0 z186) 1 2) 2 0) 3 z162) 4 z190) 5 z182) 6 z189)) rfl (show 0 ≤ z182.toInt from by first | exact oz_c9c4d2ac3e tz182 tz152 tz122 | omega) (show z182.toInt ≤ 1000000 from by first | exact oz_231bd416e9 tz182 nc153 | omega)
                                        have hgnP193 : Gy (P163 ++ wd_Sym cs q185 (fun _ => 0) (fun _ => none) (upd (upd (upd (upd (upd (upd (upd (fun _ => 0) 0 z186) 1 2) 2 0) 3 z162) 4 z190) 5 z182) 6 z189) (fun _ _ => 0) (fun _ _ => none)) q185 := gy_lastN (s := (upd (upd (upd (upd (upd (upd (upd (fun _ => 0) 0 z186) 1 2) 2 0) 3 z162) 4 z190) 5 z182) 6 z189)) rfl (show 0 ≤ z182.toInt from by first | exact oz_c9c4d2ac3e tz182 tz152 tz122 | omega) (show z182.toInt ≤ 1000000 from by first | exact oz_231bd416e9 tz182 nc153 | omega) (show z186.toInt ≠ 25 from by first | exact oz_20fca602ed tz186 nc183 | omega)
                                        have hsyP193 : SymAt (P163 ++ wd_Sym cs q185 (fun _ => 0) (fun _ => none) (upd (upd (upd (upd (upd (upd (upd (fun _ => 0) 0 z186) 1 2) 2 0) 3 z162) 4 z190) 5 z182) 6 z189) (fun _ _ => 0) (fun _ _ => none)) q185 (upd (upd (upd (upd (upd (upd (upd (fun _ => 0) 0 z186) 1 2) 2 0) 3 z162) 4 z190) 5 z182) 6 z189) := sym_last rfl
                                        have hpxP193 : ∀ (a : Nat) (s : Nat → Int32), SymAt P163 a s → SymAt (P163 ++ wd_Sym cs q185 (fun _ => 0) (fun _ => none) (upd (upd (upd (upd (upd (upd (upd (fun _ => 0) 0 z186) 1 2) 2 0) 3 z162) 4 z190) 5 z182) 6 z189) (fun _ _ => 0) (fun _ _ => none)) a s := sym_app
                                        generalize (P163 ++ wd_Sym cs q185 (fun _ => 0) (fun _ => none) (upd (upd (upd (upd (upd (upd (upd (fun _ => 0) 0 z186) 1 2) 2 0) 3 z162) 4 z190) 5 z182) 6 z189) (fun _ _ => 0) (fun _ _ => none)) = P193 at hw hpnP193 hsnP193 hfnP193 hgnP193 hsyP193 hpxP193
                                        have hEl := hpnP193.els hEl; have hEf := hpnP193.elf hEf; have hEg := hpnP193.elg hEg
                                        have hw : pw D A s.heap _ _ [wd_Nam cs h (fun k => if k = 0 then q1 else if k = 1 then q4 else q7) (fun _ => none) (upd (upd (fun _ => 0) 3 0) 4 0) na89 (fun _ _ => none), wd_Lst cs q1 (fun _ => 0) (fun k => if k = 0 then (some em) else none) (upd (upd (fun _ => 0) 1 0) 2 0) (fun _ _ => 0) (fun _ _ => none), wd_Lst cs q4 (fun _ => 0) (fun k => if k = 0 then (some lq164) else none) lf166 (fun _ _ => 0) (fun _ _ => none), [(lq164, .inl (cs 12, lc165, .inr (.inr (.inr (.inr lg167)))))], P193] := hw
                                        refine lv_aload_n S.x S.b d_Nam_init_121 rfl (lv_at hl 3 rfl) ?_
                                        refine px_get S k_Nam hT hw 0 0 1 (v := .ref q4) rfl rfl rfl (by decide) m2_76 d_Nam_init_122 ?_
                                        refine lv_aload_n S.x S.b d_Nam_init_125 rfl (lv_at hl 1 rfl) ?_
                                        refine pg_calli (pr := [wd_Nam cs h (fun k => if k = 0 then q1 else if k = 1 then q4 else q7) (fun _ => none) (upd (upd (fun _ => 0) 3 0) 4 0) na89 (fun _ _ => none), wd_Lst cs q1 (fun _ => 0) (fun k => if k = 0 then (some em) else none) (upd (upd (fun _ => 0) 1 0) 2 0) (fun _ _ => 0) (fun _ _ => none)]) (px_runV (As := [.ref q185]) (rest := []) S (c_al_add_T l D cs mi q4 lq164 lc165 lf166 lg167 P193  q185 (show lc165 ≤ 1000000 from by first | exact oz_92fbf7ad4a e176 e146 e116 | omega) (show 10 ≤ lc165 from by first | exact e177 | omega) (show 0 ≤ (lf166 1).toInt from by first | exact oz_c9c4d2ac3e e172 e142 e112 | omega) (show (lf166 1).toInt ≤ (lc165 : Int) from by first | exact e173 | omega) (by first | assumption | exact ElF.els (by assumption)) (by first | assumption | exact sy_none | exact fy_none | exact Fy.sy (by assumption) | exact sy_some (by assumption)) _ _) hT (pr := [wd_Nam cs h (fun k => if k = 0 then q1 else if k = 1 then q4 else q7) (fun _ => none) (upd (upd (fun _ => 0) 3 0) 4 0) na89 (fun _ _ => none), wd_Lst cs q1 (fun _ => 0) (fun k => if k = 0 then (some em) else none) (upd (upd (fun _ => 0) 1 0) 2 0) (fun _ _ => 0) (fun _ _ => none)]) (pcs := [wd_Lst cs q4 (fun _ => 0) (fun k => if k = 0 then (some lq164) else none) lf166 (fun _ _ => 0) (fun _ _ => none), [(lq164, .inl (cs 12, lc165, .inr (.inr (.inr (.inr lg167)))))], P193]) hw (px_X.tot (oX_call (P := (fun A U H => (va_Mi "[Ljava/lang/Object;" mi U))) (pr := [wd_Nam cs h (fun k => if k = 0 then q1 else if k = 1 then q4 else q7) (fun _ => none) (upd (upd (fun _ => 0) 3 0) 4 0) na89 (fun _ _ => none), wd_Lst cs q1 (fun _ => 0) (fun k => if k = 0 then (some em) else none) (upd (upd (fun _ => 0) 1 0) 2 0) (fun _ _ => 0) (fun _ _ => none)]) oG_M hw hA hM)) (px_recv hT hw 2 0 rfl rfl rfl) m2_9 m2_6 m2_7 m2_8 m1_10 q_Lst_add2 ⟨Nat.le_of_ble_eq_true rfl, Nat.le_of_ble_eq_true rfl⟩ hl.1 rfl (Nat.le_of_ble_eq_true rfl) d_Nam_init_126 ⟨show ((((((((((0 + 1) + 1) + 1) + 1) + k110) + 1) + k140) + 1) + k170) + 1) + (1) ≤ 6000 from (by first | exact oz_387d0a36c8 e119 e149 e179 | omega), show ((((((((((0 + 3) + 3) + 2048) + 7) + n111) + 7) + n141) + 7) + n171) + 7) + (4 * lc165 + 40) ≤ 60000 from (by first | exact oz_6ec723551a e121 e151 e176 e181 e116 e146 | omega)⟩) hw hA (fun v199 p198 k200 n201 H locs hp198 hw => ?_)
                                        dsimp only at hp198
                                        obtain ⟨lq194, lc195, lf196, lg197, rfl, e202, e203, e204, e205, e206, e207, e208, e209, e210, e211⟩ := hp198
                                        have e202 : (lf196 1).toInt = (lf166 1).toInt + 1 := e202
                                        have e203 : (lf196 1).toInt ≤ (lc195 : Int) := e203
                                        have e204 : AddL (lf166 1) lg167 lg197 q185 := e204
                                        have e205 : (lc165 : Int) ≤ (lc195 : Int) := e205
                                        have e206 : (lc195 : Int) ≤ 2 * (lc165 : Int) + 10 := e206
                                        have e207 : 10 ≤ lc195 := e207
                                        have e208 : Lcap lc165 (lf166 1) lc195 := e208
                                        have e209 : k200 ≤ 1 := e209
                                        have e210 : (k200 : Int) ≤ (lc195 : Int) - (lc165 : Int) := e210
                                        have e211 : (n201 : Int) ≤ 4 * ((lc195 : Int) - (lc165 : Int)) := e211
                                        have hw : pw D A s.heap H locs [wd_Nam cs h (fun k => if k = 0 then q1 else if k = 1 then q4 else q7) (fun _ => none) (upd (upd (fun _ => 0) 3 0) 4 0) na89 (fun _ _ => none), wd_Lst cs q1 (fun _ => 0) (fun k => if k = 0 then (some em) else none) (upd (upd (fun _ => 0) 1 0) 2 0) (fun _ _ => 0) (fun _ _ => none), wd_Lst cs q4 (fun _ => 0) (fun k => if k = 0 then (some lq194) else none) lf196 (fun _ _ => 0) (fun _ _ => none), [(lq194, .inl (cs 12, lc195, .inr (.inr (.inr (.inr lg197)))))], P193] := hw
                                        have lv199 := Int32.le_toInt v199
                                        have uv199 := Int32.toInt_lt v199
                                        have hfe : FunE na89 P193 lg197 14 (GV.take 4) := fe_s (n := (lf166 1)) (s := (upd (upd (upd (upd (upd (upd (upd (fun _ => 0) 0 z186) 1 2) 2 0) 3 z162) 4 z190) 5 z182) 6 z189)) (fg := lg167) 3 4 (18, 1, [1]) rfl (by decide) (by decide) hwk hfe hpxP193 hsyP193 (by assumption) (show (lf166 1).toInt = 3 from by first | exact oz_c9d377c832 e172 e142 e112 | omega) (show z186 = (18 : Int32) from Int32.toInt_inj.mp (show z186.toInt = 18 from by first | exact oz_b6c78f133a tz186 tz182 tz152 tz122 | omega)) rfl (show z189.toInt = 1 from by first | exact vz189 | omega) (show z190.toInt = 1 from by first | exact vz190 | omega) (show z162.toInt = 4 from by first | exact oz_a5c84814a9 tz162 tz132 vz161 tz102 vz131 vz101 | omega)
                                        have hlcb211 := Lcap.le (B := 5000) (by assumption) (by omega) (by omega); have helf := AddL.elf (n' := (lf196 1)) (by assumption) hEf (by assumption) (by omega); have helg := AddL.elg (n' := (lf196 1)) (by assumption) hEg (by assumption) (by omega); have hEf := helf; have hEg := helg; clear helf helg
                                        refine lv_pop S.x S.b d_Nam_init_129 rfl ?_
                                        obtain ⟨z212, ez212⟩ : ∃ y : Int32, y = z182 + 1 := ⟨_, rfl⟩
                                        have tz212 : z212.toInt = (z182.toInt + 1 + 2147483648) % 4294967296 - 2147483648 := by rw [ez212]; exact i_add z182 1
                                        have lz212 := Int32.le_toInt z212
                                        have uz212 := Int32.toInt_lt z212
                                        try replace tz212 : z212.toInt = z182.toInt + 1 := by omega
                                        refine lv_iinc (v := z212) (lv' := [(2, .int z212), (1, .int z192), (3, .ref q185), (0, .ref h)]) S.x S.b d_Nam_init_130 hl (k := 2) rfl (by rw [ez212]; rfl) (by decide) rfl (fun ls hl => ?_)
                                        refine lv_goto (tgt := 66) S.x S.b d_Nam_init_133 (by decide) ?_
                                        refine lv_iload_n S.x S.b d_Nam_init_66 rfl (lv_at hl 0 rfl) ?_
                                        refine lv_bipush (v := 10) S.x S.b d_Nam_init_67 (by decide) ?_
                                        refine lv_icmp_ge (tgt := 136) S.x S.b d_Nam_init_69 (by decide) (fun c213 => ?_) (fun c213 => ?_)
                                        · have nc213 : (10 : Int) ≤ z212.toInt := (i_le (x := 10) (y := z212)).mp c213
                                          exfalso
                                          omega
                                        · have nc213 : ¬ (10 : Int) ≤ z212.toInt := mt (i_le (x := 10) (y := z212)).mpr c213
                                          refine px_new S k_Sym hT hw hA m1_202 m1_203 m1_11 (fs := [.int 0, .int 0, .int 0, .int 0, .int 0, .int 0, .int 0]) (by decide +kernel) (show (((((((((((0 + 1) + 1) + 1) + 1) + k110) + 1) + k140) + 1) + k170) + 1) + k200) + 1 ≤ 6000 from by first | exact oz_0267563003 e119 e149 e179 e209 | omega) (show (((((((((((0 + 3) + 3) + 2048) + 7) + n111) + 7) + n141) + 7) + n171) + 7) + n201) + 7 ≤ 60000 from by first | exact oz_e7819ea361 e121 e151 e181 e211 e116 e146 e176 e206 | omega) d_Nam_init_72 (fun q215 H hw => ?_)
                                          have hw : pw D A s.heap H _ [wd_Nam cs h (fun k => if k = 0 then q1 else if k = 1 then q4 else q7) (fun _ => none) (upd (upd (fun _ => 0) 3 0) 4 0) na89 (fun _ _ => none), wd_Lst cs q1 (fun _ => 0) (fun k => if k = 0 then (some em) else none) (upd (upd (fun _ => 0) 1 0) 2 0) (fun _ _ => 0) (fun _ _ => none), wd_Lst cs q4 (fun _ => 0) (fun k => if k = 0 then (some lq194) else none) lf196 (fun _ _ => 0) (fun _ _ => none), [(lq194, .inl (cs 12, lc195, .inr (.inr (.inr (.inr lg197)))))], P193, [(q215, .inr (3, [.int 0, .int 0, .int 0, .int 0, .int 0, .int 0, .int 0]))]] := hw
                                          refine lv_dup S.x S.b d_Nam_init_75 rfl ?_
                                          refine lv_bipush (v := 15) S.x S.b d_Nam_init_76 (by decide) ?_
                                          refine lv_iload_n S.x S.b d_Nam_init_78 rfl (lv_at hl 0 rfl) ?_
                                          refine lv_iadd S.x S.b d_Nam_init_79 ?_
                                          refine lv_topi (fun z216 ez216 => ?_)
                                          have tz216 : z216.toInt = ((15 : Int) + z212.toInt + 2147483648) % 4294967296 - 2147483648 := by rw [ez216]; exact i_add 15 z212
                                          have lz216 := Int32.le_toInt z216
                                          have uz216 := Int32.toInt_lt z216
                                          try replace tz216 : z216.toInt = (15 : Int) + z212.toInt := by omega
                                          refine lv_iconst (v := 2) S.x S.b d_Nam_init_80 (by decide) ?_
                                          refine px_callv (pr := [wd_Nam cs h (fun k => if k = 0 then q1 else if k = 1 then q4 else q7) (fun _ => none) (upd (upd (fun _ => 0) 3 0) 4 0) na89 (fun _ _ => none), wd_Lst cs q1 (fun _ => 0) (fun k => if k = 0 then (some em) else none) (upd (upd (fun _ => 0) 1 0) 2 0) (fun _ _ => 0) (fun _ _ => none), wd_Lst cs q4 (fun _ => 0) (fun k => if k = 0 then (some lq194) else none) lf196 (fun _ _ => 0) (fun _ _ => none), [(lq194, .inl (cs 12, lc195, .inr (.inr (.inr (.inr lg197)))))], P193]) (px_runI (As := [.int z216, .int 2]) (rest := [.ref q215]) S (c_Sym_init l D cs q215 z216 2 _) hT (pr := [wd_Nam cs h (fun k => if k = 0 then q1 else if k = 1 then q4 else q7) (fun _ => none) (upd (upd (fun _ => 0) 3 0) 4 0) na89 (fun _ _ => none), wd_Lst cs q1 (fun _ => 0) (fun k => if k = 0 then (some em) else none) (upd (upd (fun _ => 0) 1 0) 2 0) (fun _ _ => 0) (fun _ _ => none), wd_Lst cs q4 (fun _ => 0) (fun k => if k = 0 then (some lq194) else none) lf196 (fun _ _ => 0) (fun _ _ => none), [(lq194, .inl (cs 12, lc195, .inr (.inr (.inr (.inr lg197)))))], P193]) (pcs := [[(q215, .inr (3, [.int 0, .int 0, .int 0, .int 0, .int 0, .int 0, .int 0]))]]) hw px_X.tt m1_206 m1_204 m1_205 m1_11 rfl q_Sym_init ⟨Nat.le_of_ble_eq_true rfl, Nat.le_of_ble_eq_true rfl⟩ hl.1 rfl (Nat.le_of_ble_eq_true rfl) d_Nam_init_81 ⟨show ((((((((((((0 + 1) + 1) + 1) + 1) + k110) + 1) + k140) + 1) + k170) + 1) + k200) + 1) + 0 ≤ 6000 from (by first | exact oz_c924954824 e119 e149 e179 e209 | omega), show ((((((((((((0 + 3) + 3) + 2048) + 7) + n111) + 7) + n141) + 7) + n171) + 7) + n201) + 7) + 0 ≤ 60000 from (by first | exact oz_5e29b6bcd8 e121 e151 e181 e211 e116 e146 e176 e206 | omega)⟩) hw hA (fun p217 H locs hp217 hw => ?_)
                                          subst hp217
                                          have hw : pw D A s.heap H locs [wd_Nam cs h (fun k => if k = 0 then q1 else if k = 1 then q4 else q7) (fun _ => none) (upd (upd (fun _ => 0) 3 0) 4 0) na89 (fun _ _ => none), wd_Lst cs q1 (fun _ => 0) (fun k => if k = 0 then (some em) else none) (upd (upd (fun _ => 0) 1 0) 2 0) (fun _ _ => 0) (fun _ _ => none), wd_Lst cs q4 (fun _ => 0) (fun k => if k = 0 then (some lq194) else none) lf196 (fun _ _ => 0) (fun _ _ => none), [(lq194, .inl (cs 12, lc195, .inr (.inr (.inr (.inr lg197)))))], P193, wd_Sym cs q215 (fun _ => 0) (fun _ => none) (upd (upd (upd (upd (upd (upd (upd (fun _ => 0) 0 z216) 1 2) 2 0) 3 0) 4 0) 5 0) 6 0) (fun _ _ => 0) (fun _ _ => none)] := hw
                                          refine lv_astore_n (lv' := [(3, .ref q215), (2, .int z212), (1, .int z192), (0, .ref h)]) S.x S.b d_Nam_init_84 rfl hl (by decide) rfl (fun ls hl => ?_)
                                          refine lv_aload_n S.x S.b d_Nam_init_85 rfl (lv_at hl 0 rfl) ?_
                                          refine lv_iload_n S.x S.b d_Nam_init_86 rfl (lv_at hl 1 rfl) ?_
                                          refine px_put S k_Sym hT hw 5 0 5 rfl rfl (by decide) m1_221 rfl rfl rfl (Nat.le_of_ble_eq_true rfl) d_Nam_init_87 (w' := wd_Sym cs q215 (fun _ => 0) (fun _ => none) (upd (upd (upd (upd (upd (upd (upd (fun _ => 0) 0 z216) 1 2) 2 0) 3 0) 4 0) 5 z212) 6 0) (fun _ _ => 0) (fun _ _ => none)) (ps' := [wd_Nam cs h (fun k => if k = 0 then q1 else if k = 1 then q4 else q7) (fun _ => none) (upd (upd (fun _ => 0) 3 0) 4 0) na89 (fun _ _ => none), wd_Lst cs q1 (fun _ => 0) (fun k => if k = 0 then (some em) else none) (upd (upd (fun _ => 0) 1 0) 2 0) (fun _ _ => 0) (fun _ _ => none), wd_Lst cs q4 (fun _ => 0) (fun k => if k = 0 then (some lq194) else none) lf196 (fun _ _ => 0) (fun _ _ => none), [(lq194, .inl (cs 12, lc195, .inr (.inr (.inr (.inr lg197)))))], P193, wd_Sym cs q215 (fun _ => 0) (fun _ => none) (upd (upd (upd (upd (upd (upd (upd (fun _ => 0) 0 z216) 1 2) 2 0) 3 0) 4 0) 5 z212) 6 0) (fun _ _ => 0) (fun _ _ => none)]) rfl rfl (fun H locs hw => ?_)
                                          refine lv_aload_n S.x S.b d_Nam_init_90 rfl (lv_at hl 0 rfl) ?_
                                          refine va_getsN S.x S.b hqtG1 hw.2.2 S.own (va_Nw.use rfl (hT.2.2 _ m2_2n rfl)) (fun _ h => h) d_Nam_init_91 ?_
                                          refine lv_iload_n S.x S.b d_Nam_init_94 rfl (lv_at hl 1 rfl) ?_
                                          refine va_ti S.x S.b hqtG2 hw.2.2 (i := z212) (vp_in_iff.mpr (by constructor <;> omega)) rfl d_Nam_init_95 ?_
                                          refine lv_topi (fun z219 ez219 => ?_)
                                          have lz219 := Int32.le_toInt z219
                                          have uz219 := Int32.toInt_lt z219
                                          have vz219 : z219.toInt = 1 := gvw_at (bs := GTb) (i := 4) ez219 (show z212.toInt = 4 from by first | exact oz_a284d1c5e4 tz212 tz182 tz152 tz122 | omega) rfl
                                          refine px_put S k_Sym hT hw 5 0 6 rfl rfl (by decide) m1_224 rfl rfl rfl (Nat.le_of_ble_eq_true rfl) d_Nam_init_96 (w' := wd_Sym cs q215 (fun _ => 0) (fun _ => none) (upd (upd (upd (upd (upd (upd (upd (fun _ => 0) 0 z216) 1 2) 2 0) 3 0) 4 0) 5 z212) 6 z219) (fun _ _ => 0) (fun _ _ => none)) (ps' := [wd_Nam cs h (fun k => if k = 0 then q1 else if k = 1 then q4 else q7) (fun _ => none) (upd (upd (fun _ => 0) 3 0) 4 0) na89 (fun _ _ => none), wd_Lst cs q1 (fun _ => 0) (fun k => if k = 0 then (some em) else none) (upd (upd (fun _ => 0) 1 0) 2 0) (fun _ _ => 0) (fun _ _ => none), wd_Lst cs q4 (fun _ => 0) (fun k => if k = 0 then (some lq194) else none) lf196 (fun _ _ => 0) (fun _ _ => none), [(lq194, .inl (cs 12, lc195, .inr (.inr (.inr (.inr lg197)))))], P193, wd_Sym cs q215 (fun _ => 0) (fun _ => none) (upd (upd (upd (upd (upd (upd (upd (fun _ => 0) 0 z216) 1 2) 2 0) 3 0) 4 0) 5 z212) 6 z219) (fun _ _ => 0) (fun _ _ => none)]) rfl rfl (fun H locs hw => ?_)
                                          refine lv_aload_n S.x S.b d_Nam_init_99 rfl (lv_at hl 0 rfl) ?_
                                          refine lv_iload_n S.x S.b d_Nam_init_100 rfl (lv_at hl 2 rfl) ?_
                                          refine px_put S k_Sym hT hw 5 0 3 rfl rfl (by decide) m1_215 rfl rfl rfl (Nat.le_of_ble_eq_true rfl) d_Nam_init_101 (w' := wd_Sym cs q215 (fun _ => 0) (fun _ => none) (upd (upd (upd (upd (upd (upd (upd (fun _ => 0) 0 z216) 1 2) 2 0) 3 z192) 4 0) 5 z212) 6 z219) (fun _ _ => 0) (fun _ _ => none)) (ps' := [wd_Nam cs h (fun k => if k = 0 then q1 else if k = 1 then q4 else q7) (fun _ => none) (upd (upd (fun _ => 0) 3 0) 4 0) na89 (fun _ _ => none), wd_Lst cs q1 (fun _ => 0) (fun k => if k = 0 then (some em) else none) (upd (upd (fun _ => 0) 1 0) 2 0) (fun _ _ => 0) (fun _ _ => none), wd_Lst cs q4 (fun _ => 0) (fun k => if k = 0 then (some lq194) else none) lf196 (fun _ _ => 0) (fun _ _ => none), [(lq194, .inl (cs 12, lc195, .inr (.inr (.inr (.inr lg197)))))], P193, wd_Sym cs q215 (fun _ => 0) (fun _ => none) (upd (upd (upd (upd (upd (upd (upd (fun _ => 0) 0 z216) 1 2) 2 0) 3 z192) 4 0) 5 z212) 6 z219) (fun _ _ => 0) (fun _ _ => none)]) rfl rfl (fun H locs hw => ?_)
                                          refine lv_aload_n S.x S.b d_Nam_init_104 rfl (lv_at hl 0 rfl) ?_
                                          refine va_getsN S.x S.b hqcG1 hw.2.2 S.own (va_Nw.use rfl (hT.2.2 _ m2_4n rfl)) (fun _ h => h) d_Nam_init_105 ?_
                                          refine lv_iload_n S.x S.b d_Nam_init_108 rfl (lv_at hl 1 rfl) ?_
                                          refine va_ti S.x S.b hqcG2 hw.2.2 (i := z212) (vp_in_iff.mpr (by constructor <;> omega)) rfl d_Nam_init_109 ?_
                                          refine lv_topi (fun z220 ez220 => ?_)
                                          have lz220 := Int32.le_toInt z220
                                          have uz220 := Int32.toInt_lt z220
                                          have vz220 : z220.toInt = 1 := gvw_at (bs := GCb) (i := 4) ez220 (show z212.toInt = 4 from by first | exact oz_a284d1c5e4 tz212 tz182 tz152 tz122 | omega) rfl
                                          refine px_put S k_Sym hT hw 5 0 4 rfl rfl (by decide) m1_218 rfl rfl rfl (Nat.le_of_ble_eq_true rfl) d_Nam_init_110 (w' := wd_Sym cs q215 (fun _ => 0) (fun _ => none) (upd (upd (upd (upd (upd (upd (upd (fun _ => 0) 0 z216) 1 2) 2 0) 3 z192) 4 z220) 5 z212) 6 z219) (fun _ _ => 0) (fun _ _ => none)) (ps' := [wd_Nam cs h (fun k => if k = 0 then q1 else if k = 1 then q4 else q7) (fun _ => none) (upd (upd (fun _ => 0) 3 0) 4 0) na89 (fun _ _ => none), wd_Lst cs q1 (fun _ => 0) (fun k => if k = 0 then (some em) else none) (upd (upd (fun _ => 0) 1 0) 2 0) (fun _ _ => 0) (fun _ _ => none), wd_Lst cs q4 (fun _ => 0) (fun k => if k = 0 then (some lq194) else none) lf196 (fun _ _ => 0) (fun _ _ => none), [(lq194, .inl (cs 12, lc195, .inr (.inr (.inr (.inr lg197)))))], P193, wd_Sym cs q215 (fun _ => 0) (fun _ => none) (upd (upd (upd (upd (upd (upd (upd (fun _ => 0) 0 z216) 1 2) 2 0) 3 z192) 4 z220) 5 z212) 6 z219) (fun _ _ => 0) (fun _ _ => none)]) rfl rfl (fun H locs hw => ?_)
                                          refine lv_iload_n S.x S.b d_Nam_init_113 rfl (lv_at hl 2 rfl) ?_
                                          refine va_getsN S.x S.b hqcG1 hw.2.2 S.own (va_Nw.use rfl (hT.2.2 _ m2_4n rfl)) (fun _ h => h) d_Nam_init_114 ?_
                                          refine lv_iload_n S.x S.b d_Nam_init_117 rfl (lv_at hl 1 rfl) ?_
                                          refine va_ti S.x S.b hqcG2 hw.2.2 (i := z212) (vp_in_iff.mpr (by constructor <;> omega)) rfl d_Nam_init_118 ?_
                                          refine lv_topi (fun z221 ez221 => ?_)
                                          have lz221 := Int32.le_toInt z221
                                          have uz221 := Int32.toInt_lt z221
                                          have vz221 : z221.toInt = 1 := gvw_at (bs := GCb) (i := 4) ez221 (show z212.toInt = 4 from by first | exact oz_a284d1c5e4 tz212 tz182 tz152 tz122 | omega) rfl
                                          refine lv_iadd S.x S.b d_Nam_init_119 ?_
                                          refine lv_topi (fun z222 ez222 => ?_)
                                          have tz222 : z222.toInt = (z192.toInt + z221.toInt + 2147483648) % 4294967296 - 2147483648 := by rw [ez222]; exact i_add z192 z221
                                          have lz222 := Int32.le_toInt z222
                                          have uz222 := Int32.toInt_lt z222
                                          try replace tz222 : z222.toInt = z192.toInt + z221.toInt := by omega
                                          refine lv_istore_n (lv' := [(1, .int z222), (3, .ref q215), (2, .int z212), (0, .ref h)]) S.x S.b d_Nam_init_120 rfl hl (by decide) rfl (fun ls hl => ?_)
                                          have hw : pw D A s.heap _ _ ([wd_Nam cs h (fun k => if k = 0 then q1 else if k = 1 then q4 else q7) (fun _ => none) (upd (upd (fun _ => 0) 3 0) 4 0) na89 (fun _ _ => none), wd_Lst cs q1 (fun _ => 0) (fun k => if k = 0 then (some em) else none) (upd (upd (fun _ => 0) 1 0) 2 0) (fun _ _ => 0) (fun _ _ => none), wd_Lst cs q4 (fun _ => 0) (fun k => if k = 0 then (some lq194) else none) lf196 (fun _ _ => 0) (fun _ _ => none), [(lq194, .inl (cs 12, lc195, .inr (.inr (.inr (.inr lg197)))))]] ++ [P193, wd_Sym cs q215 (fun _ => 0) (fun _ => none) (upd (upd (upd (upd (upd (upd (upd (fun _ => 0) 0 z216) 1 2) 2 0) 3 z192) 4 z220) 5 z212) 6 z219) (fun _ _ => 0) (fun _ _ => none)]) := hw.sub [0, 1, 2, 3, 4, 5] rfl rfl
                                          have hw := pw_join hw
                                          have hpnP223 : Pg P193 (P193 ++ wd_Sym cs q215 (fun _ => 0) (fun _ => none) (upd (upd (upd (upd (upd (upd (upd (fun _ => 0) 0 z216) 1 2) 2 0) 3 z192) 4 z220) 5 z212) 6 z219) (fun _ _ => 0) (fun _ _ => none)) := pg_app
                                          have hsnP223 : Sy (P193 ++ wd_Sym cs q215 (fun _ => 0) (fun _ => none) (upd (upd (upd (upd (upd (upd (upd (fun _ => 0) 0 z216) 1 2) 2 0) 3 z192) 4 z220) 5 z212) 6 z219) (fun _ _ => 0) (fun _ _ => none)) (some q215) := sy_last (s := (upd (upd (upd (upd (upd (upd (upd (fun _ => 0) 0 z216) 1 2) 2 0) 3 z192) 4 z220) 5 z212) 6 z219)) rfl
                                          have hfnP223 : Fy (P193 ++ wd_Sym cs q215 (fun _ => 0) (fun _ => none) (upd (upd (upd (upd (upd (upd (upd (fun _ => 0) 0 z216) 1 2) 2 0) 3 z192) 4 z220) 5 z212) 6 z219) (fun _ _ => 0) (fun _ _ => none)) (some q215) := fy_last (s := (upd (upd (upd (upd (upd (upd (upd (fun _ => 0) 0 z216) 1 2) 2 0) 3 z192) 4 z220) 5 z212) 6 z219)) rfl (show 0 ≤ z212.toInt from by first | exact oz_88c78e5418 tz212 tz182 tz152 tz122 | omega) (show z212.toInt ≤ 1000000 from by first | exact oz_231bd416e9 tz212 nc183 | omega)
                                          have hgnP223 : Gy (P193 ++ wd_Sym cs q215 (fun _ => 0) (fun _ => none) (upd (upd (upd (upd (upd (upd (upd (fun _ => 0) 0 z216) 1 2) 2 0) 3 z192) 4 z220) 5 z212) 6 z219) (fun _ _ => 0) (fun _ _ => none)) q215 := gy_lastN (s := (upd (upd (upd (upd (upd (upd (upd (fun _ => 0) 0 z216) 1 2) 2 0) 3 z192) 4 z220) 5 z212) 6 z219)) rfl (show 0 ≤ z212.toInt from by first | exact oz_88c78e5418 tz212 tz182 tz152 tz122 | omega) (show z212.toInt ≤ 1000000 from by first | exact oz_231bd416e9 tz212 nc183 | omega) (show z216.toInt ≠ 25 from by first | exact oz_20fca602ed tz216 nc213 | omega)
                                          have hsyP223 : SymAt (P193 ++ wd_Sym cs q215 (fun _ => 0) (fun _ => none) (upd (upd (upd (upd (upd (upd (upd (fun _ => 0) 0 z216) 1 2) 2 0) 3 z192) 4 z220) 5 z212) 6 z219) (fun _ _ => 0) (fun _ _ => none)) q215 (upd (upd (upd (upd (upd (upd (upd (fun _ => 0) 0 z216) 1 2) 2 0) 3 z192) 4 z220) 5 z212) 6 z219) := sym_last rfl
                                          have hpxP223 : ∀ (a : Nat) (s : Nat → Int32), SymAt P193 a s → SymAt (P193 ++ wd_Sym cs q215 (fun _ => 0) (fun _ => none) (upd (upd (upd (upd (upd (upd (upd (fun _ => 0) 0 z216) 1 2) 2 0) 3 z192) 4 z220) 5 z212) 6 z219) (fun _ _ => 0) (fun _ _ => none)) a s := sym_app
                                          generalize (P193 ++ wd_Sym cs q215 (fun _ => 0) (fun _ => none) (upd (upd (upd (upd (upd (upd (upd (fun _ => 0) 0 z216) 1 2) 2 0) 3 z192) 4 z220) 5 z212) 6 z219) (fun _ _ => 0) (fun _ _ => none)) = P223 at hw hpnP223 hsnP223 hfnP223 hgnP223 hsyP223 hpxP223
                                          have hEl := hpnP223.els hEl; have hEf := hpnP223.elf hEf; have hEg := hpnP223.elg hEg
                                          have hw : pw D A s.heap _ _ [wd_Nam cs h (fun k => if k = 0 then q1 else if k = 1 then q4 else q7) (fun _ => none) (upd (upd (fun _ => 0) 3 0) 4 0) na89 (fun _ _ => none), wd_Lst cs q1 (fun _ => 0) (fun k => if k = 0 then (some em) else none) (upd (upd (fun _ => 0) 1 0) 2 0) (fun _ _ => 0) (fun _ _ => none), wd_Lst cs q4 (fun _ => 0) (fun k => if k = 0 then (some lq194) else none) lf196 (fun _ _ => 0) (fun _ _ => none), [(lq194, .inl (cs 12, lc195, .inr (.inr (.inr (.inr lg197)))))], P223] := hw
                                          refine lv_aload_n S.x S.b d_Nam_init_121 rfl (lv_at hl 3 rfl) ?_
                                          refine px_get S k_Nam hT hw 0 0 1 (v := .ref q4) rfl rfl rfl (by decide) m2_76 d_Nam_init_122 ?_
                                          refine lv_aload_n S.x S.b d_Nam_init_125 rfl (lv_at hl 1 rfl) ?_
                                          refine pg_calli (pr := [wd_Nam cs h (fun k => if k = 0 then q1 else if k = 1 then q4 else q7) (fun _ => none) (upd (upd (fun _ => 0) 3 0) 4 0) na89 (fun _ _ => none), wd_Lst cs q1 (fun _ => 0) (fun k => if k = 0 then (some em) else none) (upd (upd (fun _ => 0) 1 0) 2 0) (fun _ _ => 0) (fun _ _ => none)]) (px_runV (As := [.ref q215]) (rest := []) S (c_al_add_T l D cs mi q4 lq194 lc195 lf196 lg197 P223  q215 (show lc195 ≤ 1000000 from by first | exact oz_a0993d86c2 e206 e176 e146 e116 | omega) (show 10 ≤ lc195 from by first | exact e207 | omega) (show 0 ≤ (lf196 1).toInt from by first | exact oz_88c78e5418 e202 e172 e142 e112 | omega) (show (lf196 1).toInt ≤ (lc195 : Int) from by first | exact e203 | omega) (by first | assumption | exact ElF.els (by assumption)) (by first | assumption | exact sy_none | exact fy_none | exact Fy.sy (by assumption) | exact sy_some (by assumption)) _ _) hT (pr := [wd_Nam cs h (fun k => if k = 0 then q1 else if k = 1 then q4 else q7) (fun _ => none) (upd (upd (fun _ => 0) 3 0) 4 0) na89 (fun _ _ => none), wd_Lst cs q1 (fun _ => 0) (fun k => if k = 0 then (some em) else none) (upd (upd (fun _ => 0) 1 0) 2 0) (fun _ _ => 0) (fun _ _ => none)]) (pcs := [wd_Lst cs q4 (fun _ => 0) (fun k => if k = 0 then (some lq194) else none) lf196 (fun _ _ => 0) (fun _ _ => none), [(lq194, .inl (cs 12, lc195, .inr (.inr (.inr (.inr lg197)))))], P223]) hw (px_X.tot (oX_call (P := (fun A U H => (va_Mi "[Ljava/lang/Object;" mi U))) (pr := [wd_Nam cs h (fun k => if k = 0 then q1 else if k = 1 then q4 else q7) (fun _ => none) (upd (upd (fun _ => 0) 3 0) 4 0) na89 (fun _ _ => none), wd_Lst cs q1 (fun _ => 0) (fun k => if k = 0 then (some em) else none) (upd (upd (fun _ => 0) 1 0) 2 0) (fun _ _ => 0) (fun _ _ => none)]) oG_M hw hA hM)) (px_recv hT hw 2 0 rfl rfl rfl) m2_9 m2_6 m2_7 m2_8 m1_10 q_Lst_add2 ⟨Nat.le_of_ble_eq_true rfl, Nat.le_of_ble_eq_true rfl⟩ hl.1 rfl (Nat.le_of_ble_eq_true rfl) d_Nam_init_126 ⟨show ((((((((((((0 + 1) + 1) + 1) + 1) + k110) + 1) + k140) + 1) + k170) + 1) + k200) + 1) + (1) ≤ 6000 from (by first | exact oz_a149656aa2 e119 e149 e179 e209 | omega), show ((((((((((((0 + 3) + 3) + 2048) + 7) + n111) + 7) + n141) + 7) + n171) + 7) + n201) + 7) + (4 * lc195 + 40) ≤ 60000 from (by first | exact oz_e072c665bb e121 e151 e181 e206 e211 e116 e146 e176 | omega)⟩) hw hA (fun v229 p228 k230 n231 H locs hp228 hw => ?_)
                                          dsimp only at hp228
                                          obtain ⟨lq224, lc225, lf226, lg227, rfl, e232, e233, e234, e235, e236, e237, e238, e239, e240, e241⟩ := hp228
                                          have e232 : (lf226 1).toInt = (lf196 1).toInt + 1 := e232
                                          have e233 : (lf226 1).toInt ≤ (lc225 : Int) := e233
                                          have e234 : AddL (lf196 1) lg197 lg227 q215 := e234
                                          have e235 : (lc195 : Int) ≤ (lc225 : Int) := e235
                                          have e236 : (lc225 : Int) ≤ 2 * (lc195 : Int) + 10 := e236
                                          have e237 : 10 ≤ lc225 := e237
                                          have e238 : Lcap lc195 (lf196 1) lc225 := e238
                                          have e239 : k230 ≤ 1 := e239
                                          have e240 : (k230 : Int) ≤ (lc225 : Int) - (lc195 : Int) := e240
                                          have e241 : (n231 : Int) ≤ 4 * ((lc225 : Int) - (lc195 : Int)) := e241
                                          have hw : pw D A s.heap H locs [wd_Nam cs h (fun k => if k = 0 then q1 else if k = 1 then q4 else q7) (fun _ => none) (upd (upd (fun _ => 0) 3 0) 4 0) na89 (fun _ _ => none), wd_Lst cs q1 (fun _ => 0) (fun k => if k = 0 then (some em) else none) (upd (upd (fun _ => 0) 1 0) 2 0) (fun _ _ => 0) (fun _ _ => none), wd_Lst cs q4 (fun _ => 0) (fun k => if k = 0 then (some lq224) else none) lf226 (fun _ _ => 0) (fun _ _ => none), [(lq224, .inl (cs 12, lc225, .inr (.inr (.inr (.inr lg227)))))], P223] := hw
                                          have lv229 := Int32.le_toInt v229
                                          have uv229 := Int32.toInt_lt v229
                                          have hfe : FunE na89 P223 lg227 14 (GV.take 5) := fe_s (n := (lf196 1)) (s := (upd (upd (upd (upd (upd (upd (upd (fun _ => 0) 0 z216) 1 2) 2 0) 3 z192) 4 z220) 5 z212) 6 z219)) (fg := lg197) 4 5 (19, 1, [1]) rfl (by decide) (by decide) hwk hfe hpxP223 hsyP223 (by assumption) (show (lf196 1).toInt = 4 from by first | exact oz_a284d1c5e4 e202 e172 e142 e112 | omega) (show z216 = (19 : Int32) from Int32.toInt_inj.mp (show z216.toInt = 19 from by first | exact oz_12487001a5 tz216 tz212 tz182 tz152 tz122 | omega)) rfl (show z219.toInt = 1 from by first | exact vz219 | omega) (show z220.toInt = 1 from by first | exact vz220 | omega) (show z192.toInt = 5 from by first | exact oz_aaba319e3d tz192 tz162 vz191 tz132 vz161 tz102 vz131 vz101 | omega)
                                          have hlcb241 := Lcap.le (B := 5000) (by assumption) (by omega) (by omega); have helf := AddL.elf (n' := (lf226 1)) (by assumption) hEf (by assumption) (by omega); have helg := AddL.elg (n' := (lf226 1)) (by assumption) hEg (by assumption) (by omega); have hEf := helf; have hEg := helg; clear helf helg
                                          refine lv_pop S.x S.b d_Nam_init_129 rfl ?_
                                          obtain ⟨z242, ez242⟩ : ∃ y : Int32, y = z212 + 1 := ⟨_, rfl⟩
                                          have tz242 : z242.toInt = (z212.toInt + 1 + 2147483648) % 4294967296 - 2147483648 := by rw [ez242]; exact i_add z212 1
                                          have lz242 := Int32.le_toInt z242
                                          have uz242 := Int32.toInt_lt z242
                                          try replace tz242 : z242.toInt = z212.toInt + 1 := by omega
                                          refine lv_iinc (v := z242) (lv' := [(2, .int z242), (1, .int z222), (3, .ref q215), (0, .ref h)]) S.x S.b d_Nam_init_130 hl (k := 2) rfl (by rw [ez242]; rfl) (by decide) rfl (fun ls hl => ?_)
                                          refine lv_goto (tgt := 66) S.x S.b d_Nam_init_133 (by decide) ?_
                                          refine lv_iload_n S.x S.b d_Nam_init_66 rfl (lv_at hl 0 rfl) ?_
                                          refine lv_bipush (v := 10) S.x S.b d_Nam_init_67 (by decide) ?_
                                          refine lv_icmp_ge (tgt := 136) S.x S.b d_Nam_init_69 (by decide) (fun c243 => ?_) (fun c243 => ?_)
                                          · have nc243 : (10 : Int) ≤ z242.toInt := (i_le (x := 10) (y := z242)).mp c243
                                            exfalso
                                            omega
                                          · have nc243 : ¬ (10 : Int) ≤ z242.toInt := mt (i_le (x := 10) (y := z242)).mpr c243
                                            refine px_new S k_Sym hT hw hA m1_202 m1_203 m1_11 (fs := [.int 0, .int 0, .int 0, .int 0, .int 0, .int 0, .int 0]) (by decide +kernel) (show (((((((((((((0 + 1) + 1) + 1) + 1) + k110) + 1) + k140) + 1) + k170) + 1) + k200) + 1) + k230) + 1 ≤ 6000 from by first | exact oz_4c822ebf64 e119 e149 e179 e209 e239 | omega) (show (((((((((((((0 + 3) + 3) + 2048) + 7) + n111) + 7) + n141) + 7) + n171) + 7) + n201) + 7) + n231) + 7 ≤ 60000 from by first | exact oz_67bbab6530 e121 e151 e181 e211 e241 e116 e146 e176 e206 e236 | omega) d_Nam_init_72 (fun q245 H hw => ?_)
                                            have hw : pw D A s.heap H _ [wd_Nam cs h (fun k => if k = 0 then q1 else if k = 1 then q4 else q7) (fun _ => none) (upd (upd (fun _ => 0) 3 0) 4 0) na89 (fun _ _ => none), wd_Lst cs q1 (fun _ => 0) (fun k => if k = 0 then (some em) else none) (upd (upd (fun _ => 0) 1 0) 2 0) (fun _ _ => 0) (fun _ _ => none), wd_Lst cs q4 (fun _ => 0) (fun k => if k = 0 then (some lq224) else none) lf226 (fun _ _ => 0) (fun _ _ => none), [(lq224, .inl (cs 12, lc225, .inr (.inr (.inr (.inr lg227)))))], P223, [(q245, .inr (3, [.int 0, .int 0, .int 0, .int 0, .int 0, .int 0, .int 0]))]] := hw
                                            refine lv_dup S.x S.b d_Nam_init_75 rfl ?_
                                            refine lv_bipush (v := 15) S.x S.b d_Nam_init_76 (by decide) ?_
                                            refine lv_iload_n S.x S.b d_Nam_init_78 rfl (lv_at hl 0 rfl) ?_
                                            refine lv_iadd S.x S.b d_Nam_init_79 ?_
                                            refine lv_topi (fun z246 ez246 => ?_)
                                            have tz246 : z246.toInt = ((15 : Int) + z242.toInt + 2147483648) % 4294967296 - 2147483648 := by rw [ez246]; exact i_add 15 z242
                                            have lz246 := Int32.le_toInt z246
                                            have uz246 := Int32.toInt_lt z246
                                            try replace tz246 : z246.toInt = (15 : Int) + z242.toInt := by omega
                                            refine lv_iconst (v := 2) S.x S.b d_Nam_init_80 (by decide) ?_
                                            refine px_callv (pr := [wd_Nam cs h (fun k => if k = 0 then q1 else if k = 1 then q4 else q7) (fun _ => none) (upd (upd (fun _ => 0) 3 0) 4 0) na89 (fun _ _ => none), wd_Lst cs q1 (fun _ => 0) (fun k => if k = 0 then (some em) else none) (upd (upd (fun _ => 0) 1 0) 2 0) (fun _ _ => 0) (fun _ _ => none), wd_Lst cs q4 (fun _ => 0) (fun k => if k = 0 then (some lq224) else none) lf226 (fun _ _ => 0) (fun _ _ => none), [(lq224, .inl (cs 12, lc225, .inr (.inr (.inr (.inr lg227)))))], P223]) (px_runI (As := [.int z246, .int 2]) (rest := [.ref q245]) S (c_Sym_init l D cs q245 z246 2 _) hT (pr := [wd_Nam cs h (fun k => if k = 0 then q1 else if k = 1 then q4 else q7) (fun _ => none) (upd (upd (fun _ => 0) 3 0) 4 0) na89 (fun _ _ => none), wd_Lst cs q1 (fun _ => 0) (fun k => if k = 0 then (some em) else none) (upd (upd (fun _ => 0) 1 0) 2 0) (fun _ _ => 0) (fun _ _ => none), wd_Lst cs q4 (fun _ => 0) (fun k => if k = 0 then (some lq224) else none) lf226 (fun _ _ => 0) (fun _ _ => none), [(lq224, .inl (cs 12, lc225, .inr (.inr (.inr (.inr lg227)))))], P223]) (pcs := [[(q245, .inr (3, [.int 0, .int 0, .int 0, .int 0, .int 0, .int 0, .int 0]))]]) hw px_X.tt m1_206 m1_204 m1_205 m1_11 rfl q_Sym_init ⟨Nat.le_of_ble_eq_true rfl, Nat.le_of_ble_eq_true rfl⟩ hl.1 rfl (Nat.le_of_ble_eq_true rfl) d_Nam_init_81 ⟨show ((((((((((((((0 + 1) + 1) + 1) + 1) + k110) + 1) + k140) + 1) + k170) + 1) + k200) + 1) + k230) + 1) + 0 ≤ 6000 from (by first | exact oz_f221bfca99 e119 e149 e179 e209 e239 | omega), show ((((((((((((((0 + 3) + 3) + 2048) + 7) + n111) + 7) + n141) + 7) + n171) + 7) + n201) + 7) + n231) + 7) + 0 ≤ 60000 from (by first | exact oz_ef8e4a7804 e121 e151 e181 e211 e241 e116 e146 e176 e206 e236 | omega)⟩) hw hA (fun p247 H locs hp247 hw => ?_)
                                            subst hp247
                                            have hw : pw D A s.heap H locs [wd_Nam cs h (fun k => if k = 0 then q1 else if k = 1 then q4 else q7) (fun _ => none) (upd (upd (fun _ => 0) 3 0) 4 0) na89 (fun _ _ => none), wd_Lst cs q1 (fun _ => 0) (fun k => if k = 0 then (some em) else none) (upd (upd (fun _ => 0) 1 0) 2 0) (fun _ _ => 0) (fun _ _ => none), wd_Lst cs q4 (fun _ => 0) (fun k => if k = 0 then (some lq224) else none) lf226 (fun _ _ => 0) (fun _ _ => none), [(lq224, .inl (cs 12, lc225, .inr (.inr (.inr (.inr lg227)))))], P223, wd_Sym cs q245 (fun _ => 0) (fun _ => none) (upd (upd (upd (upd (upd (upd (upd (fun _ => 0) 0 z246) 1 2) 2 0) 3 0) 4 0) 5 0) 6 0) (fun _ _ => 0) (fun _ _ => none)] := hw
                                            refine lv_astore_n (lv' := [(3, .ref q245), (2, .int z242), (1, .int z222), (0, .ref h)]) S.x S.b d_Nam_init_84 rfl hl (by decide) rfl (fun ls hl => ?_)
                                            refine lv_aload_n S.x S.b d_Nam_init_85 rfl (lv_at hl 0 rfl) ?_
                                            refine lv_iload_n S.x S.b d_Nam_init_86 rfl (lv_at hl 1 rfl) ?_
                                            refine px_put S k_Sym hT hw 5 0 5 rfl rfl (by decide) m1_221 rfl rfl rfl (Nat.le_of_ble_eq_true rfl) d_Nam_init_87 (w' := wd_Sym cs q245 (fun _ => 0) (fun _ => none) (upd (upd (upd (upd (upd (upd (upd (fun _ => 0) 0 z246) 1 2) 2 0) 3 0) 4 0) 5 z242) 6 0) (fun _ _ => 0) (fun _ _ => none)) (ps' := [wd_Nam cs h (fun k => if k = 0 then q1 else if k = 1 then q4 else q7) (fun _ => none) (upd (upd (fun _ => 0) 3 0) 4 0) na89 (fun _ _ => none), wd_Lst cs q1 (fun _ => 0) (fun k => if k = 0 then (some em) else none) (upd (upd (fun _ => 0) 1 0) 2 0) (fun _ _ => 0) (fun _ _ => none), wd_Lst cs q4 (fun _ => 0) (fun k => if k = 0 then (some lq224) else none) lf226 (fun _ _ => 0) (fun _ _ => none), [(lq224, .inl (cs 12, lc225, .inr (.inr (.inr (.inr lg227)))))], P223, wd_Sym cs q245 (fun _ => 0) (fun _ => none) (upd (upd (upd (upd (upd (upd (upd (fun _ => 0) 0 z246) 1 2) 2 0) 3 0) 4 0) 5 z242) 6 0) (fun _ _ => 0) (fun _ _ => none)]) rfl rfl (fun H locs hw => ?_)
                                            refine lv_aload_n S.x S.b d_Nam_init_90 rfl (lv_at hl 0 rfl) ?_
                                            refine va_getsN S.x S.b hqtG1 hw.2.2 S.own (va_Nw.use rfl (hT.2.2 _ m2_2n rfl)) (fun _ h => h) d_Nam_init_91 ?_
                                            refine lv_iload_n S.x S.b d_Nam_init_94 rfl (lv_at hl 1 rfl) ?_
                                            refine va_ti S.x S.b hqtG2 hw.2.2 (i := z242) (vp_in_iff.mpr (by constructor <;> omega)) rfl d_Nam_init_95 ?_
                                            refine lv_topi (fun z249 ez249 => ?_)
                                            have lz249 := Int32.le_toInt z249
                                            have uz249 := Int32.toInt_lt z249
                                            have vz249 : z249.toInt = 1 := gvw_at (bs := GTb) (i := 5) ez249 (show z242.toInt = 5 from by first | exact oz_e4e65ac650 tz242 tz212 tz182 tz152 tz122 | omega) rfl
                                            refine px_put S k_Sym hT hw 5 0 6 rfl rfl (by decide) m1_224 rfl rfl rfl (Nat.le_of_ble_eq_true rfl) d_Nam_init_96 (w' := wd_Sym cs q245 (fun _ => 0) (fun _ => none) (upd (upd (upd (upd (upd (upd (upd (fun _ => 0) 0 z246) 1 2) 2 0) 3 0) 4 0) 5 z242) 6 z249) (fun _ _ => 0) (fun _ _ => none)) (ps' := [wd_Nam cs h (fun k => if k = 0 then q1 else if k = 1 then q4 else q7) (fun _ => none) (upd (upd (fun _ => 0) 3 0) 4 0) na89 (fun _ _ => none), wd_Lst cs q1 (fun _ => 0) (fun k => if k = 0 then (some em) else none) (upd (upd (fun _ => 0) 1 0) 2 0) (fun _ _ => 0) (fun _ _ => none), wd_Lst cs q4 (fun _ => 0) (fun k => if k = 0 then (some lq224) else none) lf226 (fun _ _ => 0) (fun _ _ => none), [(lq224, .inl (cs 12, lc225, .inr (.inr (.inr (.inr lg227)))))], P223, wd_Sym cs q245 (fun _ => 0) (fun _ => none) (upd (upd (upd (upd (upd (upd (upd (fun _ => 0) 0 z246) 1 2) 2 0) 3 0) 4 0) 5 z242) 6 z249) (fun _ _ => 0) (fun _ _ => none)]) rfl rfl (fun H locs hw => ?_)
                                            refine lv_aload_n S.x S.b d_Nam_init_99 rfl (lv_at hl 0 rfl) ?_
                                            refine lv_iload_n S.x S.b d_Nam_init_100 rfl (lv_at hl 2 rfl) ?_
                                            refine px_put S k_Sym hT hw 5 0 3 rfl rfl (by decide) m1_215 rfl rfl rfl (Nat.le_of_ble_eq_true rfl) d_Nam_init_101 (w' := wd_Sym cs q245 (fun _ => 0) (fun _ => none) (upd (upd (upd (upd (upd (upd (upd (fun _ => 0) 0 z246) 1 2) 2 0) 3 z222) 4 0) 5 z242) 6 z249) (fun _ _ => 0) (fun _ _ => none)) (ps' := [wd_Nam cs h (fun k => if k = 0 then q1 else if k = 1 then q4 else q7) (fun _ => none) (upd (upd (fun _ => 0) 3 0) 4 0) na89 (fun _ _ => none), wd_Lst cs q1 (fun _ => 0) (fun k => if k = 0 then (some em) else none) (upd (upd (fun _ => 0) 1 0) 2 0) (fun _ _ => 0) (fun _ _ => none), wd_Lst cs q4 (fun _ => 0) (fun k => if k = 0 then (some lq224) else none) lf226 (fun _ _ => 0) (fun _ _ => none), [(lq224, .inl (cs 12, lc225, .inr (.inr (.inr (.inr lg227)))))], P223, wd_Sym cs q245 (fun _ => 0) (fun _ => none) (upd (upd (upd (upd (upd (upd (upd (fun _ => 0) 0 z246) 1 2) 2 0) 3 z222) 4 0) 5 z242) 6 z249) (fun _ _ => 0) (fun _ _ => none)]) rfl rfl (fun H locs hw => ?_)
                                            refine lv_aload_n S.x S.b d_Nam_init_104 rfl (lv_at hl 0 rfl) ?_
                                            refine va_getsN S.x S.b hqcG1 hw.2.2 S.own (va_Nw.use rfl (hT.2.2 _ m2_4n rfl)) (fun _ h => h) d_Nam_init_105 ?_
                                            refine lv_iload_n S.x S.b d_Nam_init_108 rfl (lv_at hl 1 rfl) ?_
                                            refine va_ti S.x S.b hqcG2 hw.2.2 (i := z242) (vp_in_iff.mpr (by constructor <;> omega)) rfl d_Nam_init_109 ?_
                                            refine lv_topi (fun z250 ez250 => ?_)
                                            have lz250 := Int32.le_toInt z250
                                            have uz250 := Int32.toInt_lt z250
                                            have vz250 : z250.toInt = 2 := gvw_at (bs := GCb) (i := 5) ez250 (show z242.toInt = 5 from by first | exact oz_e4e65ac650 tz242 tz212 tz182 tz152 tz122 | omega) rfl
                                            refine px_put S k_Sym hT hw 5 0 4 rfl rfl (by decide) m1_218 rfl rfl rfl (Nat.le_of_ble_eq_true rfl) d_Nam_init_110 (w' := wd_Sym cs q245 (fun _ => 0) (fun _ => none) (upd (upd (upd (upd (upd (upd (upd (fun _ => 0) 0 z246) 1 2) 2 0) 3 z222) 4 z250) 5 z242) 6 z249) (fun _ _ => 0) (fun _ _ => none)) (ps' := [wd_Nam cs h (fun k => if k = 0 then q1 else if k = 1 then q4 else q7) (fun _ => none) (upd (upd (fun _ => 0) 3 0) 4 0) na89 (fun _ _ => none), wd_Lst cs q1 (fun _ => 0) (fun k => if k = 0 then (some em) else none) (upd (upd (fun _ => 0) 1 0) 2 0) (fun _ _ => 0) (fun _ _ => none), wd_Lst cs q4 (fun _ => 0) (fun k => if k = 0 then (some lq224) else none) lf226 (fun _ _ => 0) (fun _ _ => none), [(lq224, .inl (cs 12, lc225, .inr (.inr (.inr (.inr lg227)))))], P223, wd_Sym cs q245 (fun _ => 0) (fun _ => none) (upd (upd (upd (upd (upd (upd (upd (fun _ => 0) 0 z246) 1 2) 2 0) 3 z222) 4 z250) 5 z242) 6 z249) (fun _ _ => 0) (fun _ _ => none)]) rfl rfl (fun H locs hw => ?_)
                                            refine lv_iload_n S.x S.b d_Nam_init_113 rfl (lv_at hl 2 rfl) ?_
                                            refine va_getsN S.x S.b hqcG1 hw.2.2 S.own (va_Nw.use rfl (hT.2.2 _ m2_4n rfl)) (fun _ h => h) d_Nam_init_114 ?_
                                            refine lv_iload_n S.x S.b d_Nam_init_117 rfl (lv_at hl 1 rfl) ?_
                                            refine va_ti S.x S.b hqcG2 hw.2.2 (i := z242) (vp_in_iff.mpr (by constructor <;> omega)) rfl d_Nam_init_118 ?_
                                            refine lv_topi (fun z251 ez251 => ?_)
                                            have lz251 := Int32.le_toInt z251
                                            have uz251 := Int32.toInt_lt z251
                                            have vz251 : z251.toInt = 2 := gvw_at (bs := GCb) (i := 5) ez251 (show z242.toInt = 5 from by first | exact oz_e4e65ac650 tz242 tz212 tz182 tz152 tz122 | omega) rfl
                                            refine lv_iadd S.x S.b d_Nam_init_119 ?_
                                            refine lv_topi (fun z252 ez252 => ?_)
                                            have tz252 : z252.toInt = (z222.toInt + z251.toInt + 2147483648) % 4294967296 - 2147483648 := by rw [ez252]; exact i_add z222 z251
                                            have lz252 := Int32.le_toInt z252
                                            have uz252 := Int32.toInt_lt z252
                                            try replace tz252 : z252.toInt = z222.toInt + z251.toInt := by omega
                                            refine lv_istore_n (lv' := [(1, .int z252), (3, .ref q245), (2, .int z242), (0, .ref h)]) S.x S.b d_Nam_init_120 rfl hl (by decide) rfl (fun ls hl => ?_)
                                            have hw : pw D A s.heap _ _ ([wd_Nam cs h (fun k => if k = 0 then q1 else if k = 1 then q4 else q7) (fun _ => none) (upd (upd (fun _ => 0) 3 0) 4 0) na89 (fun _ _ => none), wd_Lst cs q1 (fun _ => 0) (fun k => if k = 0 then (some em) else none) (upd (upd (fun _ => 0) 1 0) 2 0) (fun _ _ => 0) (fun _ _ => none), wd_Lst cs q4 (fun _ => 0) (fun k => if k = 0 then (some lq224) else none) lf226 (fun _ _ => 0) (fun _ _ => none), [(lq224, .inl (cs 12, lc225, .inr (.inr (.inr (.inr lg227)))))]] ++ [P223, wd_Sym cs q245 (fun _ => 0) (fun _ => none) (upd (upd (upd (upd (upd (upd (upd (fun _ => 0) 0 z246) 1 2) 2 0) 3 z222) 4 z250) 5 z242) 6 z249) (fun _ _ => 0) (fun _ _ => none)]) := hw.sub [0, 1, 2, 3, 4, 5] rfl rfl
                                            have hw := pw_join hw
                                            have hpnP253 : Pg P223 (P223 ++ wd_Sym cs q245 (fun _ => 0) (fun _ => none) (upd (upd (upd (upd (upd (upd (upd (fun _ => 0) 0 z246) 1 2) 2 0) 3 z222) 4 z250) 5 z242) 6 z249) (fun _ _ => 0) (fun _ _ => none)) := pg_app
                                            have hsnP253 : Sy (P223 ++ wd_Sym cs q245 (fun _ => 0) (fun _ => none) (upd (upd (upd (upd (upd (upd (upd (fun _ => 0) 0 z246) 1 2) 2 0) 3 z222) 4 z250) 5 z242) 6 z249) (fun _ _ => 0) (fun _ _ => none)) (some q245) := sy_last (s := (upd (upd (upd (upd (upd (upd (upd (fun _ => 0) 0 z246) 1 2) 2 0) 3 z222) 4 z250) 5 z242) 6 z249)) rfl
                                            have hfnP253 : Fy (P223 ++ wd_Sym cs q245 (fun _ => 0) (fun _ => none) (upd (upd (upd (upd (upd (upd (upd (fun _ => 0) 0 z246) 1 2) 2 0) 3 z222) 4 z250) 5 z242) 6 z249) (fun _ _ => 0) (fun _ _ => none)) (some q245) := fy_last (s := (upd (upd (upd (upd (upd (upd (upd (fun _ => 0) 0 z246) 1 2) 2 0) 3 z222) 4 z250) 5 z242) 6 z249)) rfl (show 0 ≤ z242.toInt from by first | exact oz_44a9c4ba60 tz242 tz212 tz182 tz152 tz122 | omega) (show z242.toInt ≤ 1000000 from by first | exact oz_231bd416e9 tz242 nc213 | omega)
                                            have hgnP253 : Gy (P223 ++ wd_Sym cs q245 (fun _ => 0) (fun _ => none) (upd (upd (upd (upd (upd (upd (upd (fun _ => 0) 0 z246) 1 2) 2 0) 3 z222) 4 z250) 5 z242) 6 z249) (fun _ _ => 0) (fun _ _ => none)) q245 := gy_lastN (s := (upd (upd (upd (upd (upd (upd (upd (fun _ => 0) 0 z246) 1 2) 2 0) 3 z222) 4 z250) 5 z242) 6 z249)) rfl (show 0 ≤ z242.toInt from by first | exact oz_44a9c4ba60 tz242 tz212 tz182 tz152 tz122 | omega) (show z242.toInt ≤ 1000000 from by first | exact oz_231bd416e9 tz242 nc213 | omega) (show z246.toInt ≠ 25 from by first | exact oz_20fca602ed tz246 nc243 | omega)
                                            have hsyP253 : SymAt (P223 ++ wd_Sym cs q245 (fun _ => 0) (fun _ => none) (upd (upd (upd (upd (upd (upd (upd (fun _ => 0) 0 z246) 1 2) 2 0) 3 z222) 4 z250) 5 z242) 6 z249) (fun _ _ => 0) (fun _ _ => none)) q245 (upd (upd (upd (upd (upd (upd (upd (fun _ => 0) 0 z246) 1 2) 2 0) 3 z222) 4 z250) 5 z242) 6 z249) := sym_last rfl
                                            have hpxP253 : ∀ (a : Nat) (s : Nat → Int32), SymAt P223 a s → SymAt (P223 ++ wd_Sym cs q245 (fun _ => 0) (fun _ => none) (upd (upd (upd (upd (upd (upd (upd (fun _ => 0) 0 z246) 1 2) 2 0) 3 z222) 4 z250) 5 z242) 6 z249) (fun _ _ => 0) (fun _ _ => none)) a s := sym_app
                                            generalize (P223 ++ wd_Sym cs q245 (fun _ => 0) (fun _ => none) (upd (upd (upd (upd (upd (upd (upd (fun _ => 0) 0 z246) 1 2) 2 0) 3 z222) 4 z250) 5 z242) 6 z249) (fun _ _ => 0) (fun _ _ => none)) = P253 at hw hpnP253 hsnP253 hfnP253 hgnP253 hsyP253 hpxP253
                                            have hEl := hpnP253.els hEl; have hEf := hpnP253.elf hEf; have hEg := hpnP253.elg hEg
                                            have hw : pw D A s.heap _ _ [wd_Nam cs h (fun k => if k = 0 then q1 else if k = 1 then q4 else q7) (fun _ => none) (upd (upd (fun _ => 0) 3 0) 4 0) na89 (fun _ _ => none), wd_Lst cs q1 (fun _ => 0) (fun k => if k = 0 then (some em) else none) (upd (upd (fun _ => 0) 1 0) 2 0) (fun _ _ => 0) (fun _ _ => none), wd_Lst cs q4 (fun _ => 0) (fun k => if k = 0 then (some lq224) else none) lf226 (fun _ _ => 0) (fun _ _ => none), [(lq224, .inl (cs 12, lc225, .inr (.inr (.inr (.inr lg227)))))], P253] := hw
                                            refine lv_aload_n S.x S.b d_Nam_init_121 rfl (lv_at hl 3 rfl) ?_
                                            refine px_get S k_Nam hT hw 0 0 1 (v := .ref q4) rfl rfl rfl (by decide) m2_76 d_Nam_init_122 ?_
                                            refine lv_aload_n S.x S.b d_Nam_init_125 rfl (lv_at hl 1 rfl) ?_
                                            refine pg_calli (pr := [wd_Nam cs h (fun k => if k = 0 then q1 else if k = 1 then q4 else q7) (fun _ => none) (upd (upd (fun _ => 0) 3 0) 4 0) na89 (fun _ _ => none), wd_Lst cs q1 (fun _ => 0) (fun k => if k = 0 then (some em) else none) (upd (upd (fun _ => 0) 1 0) 2 0) (fun _ _ => 0) (fun _ _ => none)]) (px_runV (As := [.ref q245]) (rest := []) S (c_al_add_T l D cs mi q4 lq224 lc225 lf226 lg227 P253  q245 (show lc225 ≤ 1000000 from by first | exact oz_531eaa5c43 e236 e206 e176 e146 e116 | omega) (show 10 ≤ lc225 from by first | exact e237 | omega) (show 0 ≤ (lf226 1).toInt from by first | exact oz_44a9c4ba60 e232 e202 e172 e142 e112 | omega) (show (lf226 1).toInt ≤ (lc225 : Int) from by first | exact e233 | omega) (by first | assumption | exact ElF.els (by assumption)) (by first | assumption | exact sy_none | exact fy_none | exact Fy.sy (by assumption) | exact sy_some (by assumption)) _ _) hT (pr := [wd_Nam cs h (fun k => if k = 0 then q1 else if k = 1 then q4 else q7) (fun _ => none) (upd (upd (fun _ => 0) 3 0) 4 0) na89 (fun _ _ => none), wd_Lst cs q1 (fun _ => 0) (fun k => if k = 0 then (some em) else none) (upd (upd (fun _ => 0) 1 0) 2 0) (fun _ _ => 0) (fun _ _ => none)]) (pcs := [wd_Lst cs q4 (fun _ => 0) (fun k => if k = 0 then (some lq224) else none) lf226 (fun _ _ => 0) (fun _ _ => none), [(lq224, .inl (cs 12, lc225, .inr (.inr (.inr (.inr lg227)))))], P253]) hw (px_X.tot (oX_call (P := (fun A U H => (va_Mi "[Ljava/lang/Object;" mi U))) (pr := [wd_Nam cs h (fun k => if k = 0 then q1 else if k = 1 then q4 else q7) (fun _ => none) (upd (upd (fun _ => 0) 3 0) 4 0) na89 (fun _ _ => none), wd_Lst cs q1 (fun _ => 0) (fun k => if k = 0 then (some em) else none) (upd (upd (fun _ => 0) 1 0) 2 0) (fun _ _ => 0) (fun _ _ => none)]) oG_M hw hA hM)) (px_recv hT hw 2 0 rfl rfl rfl) m2_9 m2_6 m2_7 m2_8 m1_10 q_Lst_add2 ⟨Nat.le_of_ble_eq_true rfl, Nat.le_of_ble_eq_true rfl⟩ hl.1 rfl (Nat.le_of_ble_eq_true rfl) d_Nam_init_126 ⟨show ((((((((((((((0 + 1) + 1) + 1) + 1) + k110) + 1) + k140) + 1) + k170) + 1) + k200) + 1) + k230) + 1) + (1) ≤ 6000 from (by first | exact oz_739f65f4f3 e119 e149 e179 e209 e239 | omega), show ((((((((((((((0 + 3) + 3) + 2048) + 7) + n111) + 7) + n141) + 7) + n171) + 7) + n201) + 7) + n231) + 7) + (4 * lc225 + 40) ≤ 60000 from (by first | exact oz_5568cd3acd e121 e151 e181 e211 e236 e241 e116 e146 e176 e206 | omega)⟩) hw hA (fun v259 p258 k260 n261 H locs hp258 hw => ?_)
                                            dsimp only at hp258
                                            obtain ⟨lq254, lc255, lf256, lg257, rfl, e262, e263, e264, e265, e266, e267, e268, e269, e270, e271⟩ := hp258
                                            have e262 : (lf256 1).toInt = (lf226 1).toInt + 1 := e262
                                            have e263 : (lf256 1).toInt ≤ (lc255 : Int) := e263
                                            have e264 : AddL (lf226 1) lg227 lg257 q245 := e264
                                            have e265 : (lc225 : Int) ≤ (lc255 : Int) := e265
                                            have e266 : (lc255 : Int) ≤ 2 * (lc225 : Int) + 10 := e266
                                            have e267 : 10 ≤ lc255 := e267
                                            have e268 : Lcap lc225 (lf226 1) lc255 := e268
                                            have e269 : k260 ≤ 1 := e269
                                            have e270 : (k260 : Int) ≤ (lc255 : Int) - (lc225 : Int) := e270
                                            have e271 : (n261 : Int) ≤ 4 * ((lc255 : Int) - (lc225 : Int)) := e271
                                            have hw : pw D A s.heap H locs [wd_Nam cs h (fun k => if k = 0 then q1 else if k = 1 then q4 else q7) (fun _ => none) (upd (upd (fun _ => 0) 3 0) 4 0) na89 (fun _ _ => none), wd_Lst cs q1 (fun _ => 0) (fun k => if k = 0 then (some em) else none) (upd (upd (fun _ => 0) 1 0) 2 0) (fun _ _ => 0) (fun _ _ => none), wd_Lst cs q4 (fun _ => 0) (fun k => if k = 0 then (some lq254) else none) lf256 (fun _ _ => 0) (fun _ _ => none), [(lq254, .inl (cs 12, lc255, .inr (.inr (.inr (.inr lg257)))))], P253] := hw
                                            have lv259 := Int32.le_toInt v259
                                            have uv259 := Int32.toInt_lt v259
                                            have hfe : FunE na89 P253 lg257 14 (GV.take 6) := fe_s (n := (lf226 1)) (s := (upd (upd (upd (upd (upd (upd (upd (fun _ => 0) 0 z246) 1 2) 2 0) 3 z222) 4 z250) 5 z242) 6 z249)) (fg := lg227) 5 6 (20, 1, [1, 1]) rfl (by decide) (by decide) hwk hfe hpxP253 hsyP253 (by assumption) (show (lf226 1).toInt = 5 from by first | exact oz_e4e65ac650 e232 e202 e172 e142 e112 | omega) (show z246 = (20 : Int32) from Int32.toInt_inj.mp (show z246.toInt = 20 from by first | exact oz_3152e7a842 tz246 tz242 tz212 tz182 tz152 tz122 | omega)) rfl (show z249.toInt = 1 from by first | exact vz249 | omega) (show z250.toInt = 2 from by first | exact vz250 | omega) (show z222.toInt = 6 from by first | exact oz_da0f949723 tz222 tz192 vz221 tz162 vz191 tz132 vz161 tz102 vz131 vz101 | omega)
                                            have hlcb271 := Lcap.le (B := 5000) (by assumption) (by omega) (by omega); have helf := AddL.elf (n' := (lf256 1)) (by assumption) hEf (by assumption) (by omega); have helg := AddL.elg (n' := (lf256 1)) (by assumption) hEg (by assumption) (by omega); have hEf := helf; have hEg := helg; clear helf helg
                                            refine lv_pop S.x S.b d_Nam_init_129 rfl ?_
                                            obtain ⟨z272, ez272⟩ : ∃ y : Int32, y = z242 + 1 := ⟨_, rfl⟩
                                            have tz272 : z272.toInt = (z242.toInt + 1 + 2147483648) % 4294967296 - 2147483648 := by rw [ez272]; exact i_add z242 1
                                            have lz272 := Int32.le_toInt z272
                                            have uz272 := Int32.toInt_lt z272
                                            try replace tz272 : z272.toInt = z242.toInt + 1 := by omega
                                            refine lv_iinc (v := z272) (lv' := [(2, .int z272), (1, .int z252), (3, .ref q245), (0, .ref h)]) S.x S.b d_Nam_init_130 hl (k := 2) rfl (by rw [ez272]; rfl) (by decide) rfl (fun ls hl => ?_)
                                            refine lv_goto (tgt := 66) S.x S.b d_Nam_init_133 (by decide) ?_
                                            refine lv_iload_n S.x S.b d_Nam_init_66 rfl (lv_at hl 0 rfl) ?_
                                            refine lv_bipush (v := 10) S.x S.b d_Nam_init_67 (by decide) ?_
                                            refine lv_icmp_ge (tgt := 136) S.x S.b d_Nam_init_69 (by decide) (fun c273 => ?_) (fun c273 => ?_)
                                            · have nc273 : (10 : Int) ≤ z272.toInt := (i_le (x := 10) (y := z272)).mp c273
                                              exfalso
                                              omega
                                            · have nc273 : ¬ (10 : Int) ≤ z272.toInt := mt (i_le (x := 10) (y := z272)).mpr c273
                                              refine px_new S k_Sym hT hw hA m1_202 m1_203 m1_11 (fs := [.int 0, .int 0, .int 0, .int 0, .int 0, .int 0, .int 0]) (by decide +kernel) (show (((((((((((((((0 + 1) + 1) + 1) + 1) + k110) + 1) + k140) + 1) + k170) + 1) + k200) + 1) + k230) + 1) + k260) + 1 ≤ 6000 from by first | exact oz_a7c83764b7 e119 e149 e179 e209 e239 e269 | omega) (show (((((((((((((((0 + 3) + 3) + 2048) + 7) + n111) + 7) + n141) + 7) + n171) + 7) + n201) + 7) + n231) + 7) + n261) + 7 ≤ 60000 from by first | exact oz_bc9ed7edf1 e121 e151 e181 e211 e241 e271 e116 e146 e176 e206 e236 e266 | omega) d_Nam_init_72 (fun q275 H hw => ?_)
                                              have hw : pw D A s.heap H _ [wd_Nam cs h (fun k => if k = 0 then q1 else if k = 1 then q4 else q7) (fun _ => none) (upd (upd (fun _ => 0) 3 0) 4 0) na89 (fun _ _ => none), wd_Lst cs q1 (fun _ => 0) (fun k => if k = 0 then (some em) else none) (upd (upd (fun _ => 0) 1 0) 2 0) (fun _ _ => 0) (fun _ _ => none), wd_Lst cs q4 (fun _ => 0) (fun k => if k = 0 then (some lq254) else none) lf256 (fun _ _ => 0) (fun _ _ => none), [(lq254, .inl (cs 12, lc255, .inr (.inr (.inr (.inr lg257)))))], P253, [(q275, .inr (3, [.int 0, .int 0, .int 0, .int 0, .int 0, .int 0, .int 0]))]] := hw
                                              refine lv_dup S.x S.b d_Nam_init_75 rfl ?_
                                              refine lv_bipush (v := 15) S.x S.b d_Nam_init_76 (by decide) ?_
                                              refine lv_iload_n S.x S.b d_Nam_init_78 rfl (lv_at hl 0 rfl) ?_
                                              refine lv_iadd S.x S.b d_Nam_init_79 ?_
                                              refine lv_topi (fun z276 ez276 => ?_)
                                              have tz276 : z276.toInt = ((15 : Int) + z272.toInt + 2147483648) % 4294967296 - 2147483648 := by rw [ez276]; exact i_add 15 z272
                                              have lz276 := Int32.le_toInt z276
                                              have uz276 := Int32.toInt_lt z276
                                              try replace tz276 : z276.toInt = (15 : Int) + z272.toInt := by omega
                                              refine lv_iconst (v := 2) S.x S.b d_Nam_init_80 (by decide) ?_
                                              refine px_callv (pr := [wd_Nam cs h (fun k => if k = 0 then q1 else if k = 1 then q4 else q7) (fun _ => none) (upd (upd (fun _ => 0) 3 0) 4 0) na89 (fun _ _ => none), wd_Lst cs q1 (fun _ => 0) (fun k => if k = 0 then (some em) else none) (upd (upd (fun _ => 0) 1 0) 2 0) (fun _ _ => 0) (fun _ _ => none), wd_Lst cs q4 (fun _ => 0) (fun k => if k = 0 then (some lq254) else none) lf256 (fun _ _ => 0) (fun _ _ => none), [(lq254, .inl (cs 12, lc255, .inr (.inr (.inr (.inr lg257)))))], P253]) (px_runI (As := [.int z276, .int 2]) (rest := [.ref q275]) S (c_Sym_init l D cs q275 z276 2 _) hT (pr := [wd_Nam cs h (fun k => if k = 0 then q1 else if k = 1 then q4 else q7) (fun _ => none) (upd (upd (fun _ => 0) 3 0) 4 0) na89 (fun _ _ => none), wd_Lst cs q1 (fun _ => 0) (fun k => if k = 0 then (some em) else none) (upd (upd (fun _ => 0) 1 0) 2 0) (fun _ _ => 0) (fun _ _ => none), wd_Lst cs q4 (fun _ => 0) (fun k => if k = 0 then (some lq254) else none) lf256 (fun _ _ => 0) (fun _ _ => none), [(lq254, .inl (cs 12, lc255, .inr (.inr (.inr (.inr lg257)))))], P253]) (pcs := [[(q275, .inr (3, [.int 0, .int 0, .int 0, .int 0, .int 0, .int 0, .int 0]))]]) hw px_X.tt m1_206 m1_204 m1_205 m1_11 rfl q_Sym_init ⟨Nat.le_of_ble_eq_true rfl, Nat.le_of_ble_eq_true rfl⟩ hl.1 rfl (Nat.le_of_ble_eq_true rfl) d_Nam_init_81 ⟨show ((((((((((((((((0 + 1) + 1) + 1) + 1) + k110) + 1) + k140) + 1) + k170) + 1) + k200) + 1) + k230) + 1) + k260) + 1) + 0 ≤ 6000 from (by first | exact oz_010317d66c e119 e149 e179 e209 e239 e269 | omega), show ((((((((((((((((0 + 3) + 3) + 2048) + 7) + n111) + 7) + n141) + 7) + n171) + 7) + n201) + 7) + n231) + 7) + n261) + 7) + 0 ≤ 60000 from (by first | exact oz_37b422e3fc e121 e151 e181 e211 e241 e271 e116 e146 e176 e206 e236 e266 | omega)⟩) hw hA (fun p277 H locs hp277 hw => ?_)
                                              subst hp277
                                              have hw : pw D A s.heap H locs [wd_Nam cs h (fun k => if k = 0 then q1 else if k = 1 then q4 else q7) (fun _ => none) (upd (upd (fun _ => 0) 3 0) 4 0) na89 (fun _ _ => none), wd_Lst cs q1 (fun _ => 0) (fun k => if k = 0 then (some em) else none) (upd (upd (fun _ => 0) 1 0) 2 0) (fun _ _ => 0) (fun _ _ => none), wd_Lst cs q4 (fun _ => 0) (fun k => if k = 0 then (some lq254) else none) lf256 (fun _ _ => 0) (fun _ _ => none), [(lq254, .inl (cs 12, lc255, .inr (.inr (.inr (.inr lg257)))))], P253, wd_Sym cs q275 (fun _ => 0) (fun _ => none) (upd (upd (upd (upd (upd (upd (upd (fun _ => 0) 0 z276) 1 2) 2 0) 3 0) 4 0) 5 0) 6 0) (fun _ _ => 0) (fun _ _ => none)] := hw
                                              refine lv_astore_n (lv' := [(3, .ref q275), (2, .int z272), (1, .int z252), (0, .ref h)]) S.x S.b d_Nam_init_84 rfl hl (by decide) rfl (fun ls hl => ?_)
                                              refine lv_aload_n S.x S.b d_Nam_init_85 rfl (lv_at hl 0 rfl) ?_
                                              refine lv_iload_n S.x S.b d_Nam_init_86 rfl (lv_at hl 1 rfl) ?_
                                              refine px_put S k_Sym hT hw 5 0 5 rfl rfl (by decide) m1_221 rfl rfl rfl (Nat.le_of_ble_eq_true rfl) d_Nam_init_87 (w' := wd_Sym cs q275 (fun _ => 0) (fun _ => none) (upd (upd (upd (upd (upd (upd (upd (fun _ => 0) 0 z276) 1 2) 2 0) 3 0) 4 0) 5 z272) 6 0) (fun _ _ => 0) (fun _ _ => none)) (ps' := [wd_Nam cs h (fun k => if k = 0 then q1 else if k = 1 then q4 else q7) (fun _ => none) (upd (upd (fun _ => 0) 3 0) 4 0) na89 (fun _ _ => none), wd_Lst cs q1 (fun _ => 0) (fun k => if k = 0 then (some em) else none) (upd (upd (fun _ => 0) 1 0) 2 0) (fun _ _ => 0) (fun _ _ => none), wd_Lst cs q4 (fun _ => 0) (fun k => if k = 0 then (some lq254) else none) lf256 (fun _ _ => 0) (fun _ _ => none), [(lq254, .inl (cs 12, lc255, .inr (.inr (.inr (.inr lg257)))))], P253, wd_Sym cs q275 (fun _ => 0) (fun _ => none) (upd (upd (upd (upd (upd (upd (upd (fun _ => 0) 0 z276) 1 2) 2 0) 3 0) 4 0) 5 z272) 6 0) (fun _ _ => 0) (fun _ _ => none)]) rfl rfl (fun H locs hw => ?_)
                                              refine lv_aload_n S.x S.b d_Nam_init_90 rfl (lv_at hl 0 rfl) ?_
                                              refine va_getsN S.x S.b hqtG1 hw.2.2 S.own (va_Nw.use rfl (hT.2.2 _ m2_2n rfl)) (fun _ h => h) d_Nam_init_91 ?_
                                              refine lv_iload_n S.x S.b d_Nam_init_94 rfl (lv_at hl 1 rfl) ?_
                                              refine va_ti S.x S.b hqtG2 hw.2.2 (i := z272) (vp_in_iff.mpr (by constructor <;> omega)) rfl d_Nam_init_95 ?_
                                              refine lv_topi (fun z279 ez279 => ?_)
                                              have lz279 := Int32.le_toInt z279
                                              have uz279 := Int32.toInt_lt z279
                                              have vz279 : z279.toInt = 1 := gvw_at (bs := GTb) (i := 6) ez279 (show z272.toInt = 6 from by first | exact oz_2c15fec20a tz272 tz242 tz212 tz182 tz152 tz122 | omega) rfl
                                              refine px_put S k_Sym hT hw 5 0 6 rfl rfl (by decide) m1_224 rfl rfl rfl (Nat.le_of_ble_eq_true rfl) d_Nam_init_96 (w' := wd_Sym cs q275 (fun _ => 0) (fun _ => none) (upd (upd (upd (upd (upd (upd (upd (fun _ => 0) 0 z276) 1 2) 2 0) 3 0) 4 0) 5 z272) 6 z279) (fun _ _ => 0) (fun _ _ => none)) (ps' := [wd_Nam cs h (fun k => if k = 0 then q1 else if k = 1 then q4 else q7) (fun _ => none) (upd (upd (fun _ => 0) 3 0) 4 0) na89 (fun _ _ => none), wd_Lst cs q1 (fun _ => 0) (fun k => if k = 0 then (some em) else none) (upd (upd (fun _ => 0) 1 0) 2 0) (fun _ _ => 0) (fun _ _ => none), wd_Lst cs q4 (fun _ => 0) (fun k => if k = 0 then (some lq254) else none) lf256 (fun _ _ => 0) (fun _ _ => none), [(lq254, .inl (cs 12, lc255, .inr (.inr (.inr (.inr lg257)))))], P253, wd_Sym cs q275 (fun _ => 0) (fun _ => none) (upd (upd (upd (upd (upd (upd (upd (fun _ => 0) 0 z276) 1 2) 2 0) 3 0) 4 0) 5 z272) 6 z279) (fun _ _ => 0) (fun _ _ => none)]) rfl rfl (fun H locs hw => ?_)
                                              refine lv_aload_n S.x S.b d_Nam_init_99 rfl (lv_at hl 0 rfl) ?_
                                              refine lv_iload_n S.x S.b d_Nam_init_100 rfl (lv_at hl 2 rfl) ?_
                                              refine px_put S k_Sym hT hw 5 0 3 rfl rfl (by decide) m1_215 rfl rfl rfl (Nat.le_of_ble_eq_true rfl) d_Nam_init_101 (w' := wd_Sym cs q275 (fun _ => 0) (fun _ => none) (upd (upd (upd (upd (upd (upd (upd (fun _ => 0) 0 z276) 1 2) 2 0) 3 z252) 4 0) 5 z272) 6 z279) (fun _ _ => 0) (fun _ _ => none)) (ps' := [wd_Nam cs h (fun k => if k = 0 then q1 else if k = 1 then q4 else q7) (fun _ => none) (upd (upd (fun _ => 0) 3 0) 4 0) na89 (fun _ _ => none), wd_Lst cs q1 (fun _ => 0) (fun k => if k = 0 then (some em) else none) (upd (upd (fun _ => 0) 1 0) 2 0) (fun _ _ => 0) (fun _ _ => none), wd_Lst cs q4 (fun _ => 0) (fun k => if k = 0 then (some lq254) else none) lf256 (fun _ _ => 0) (fun _ _ => none), [(lq254, .inl (cs 12, lc255, .inr (.inr (.inr (.inr lg257)))))], P253, wd_Sym cs q275 (fun _ => 0) (fun _ => none) (upd (upd (upd (upd (upd (upd (upd (fun _ => 0) 0 z276) 1 2) 2 0) 3 z252) 4 0) 5 z272) 6 z279) (fun _ _ => 0) (fun _ _ => none)]) rfl rfl (fun H locs hw => ?_)
                                              refine lv_aload_n S.x S.b d_Nam_init_104 rfl (lv_at hl 0 rfl) ?_
                                              refine va_getsN S.x S.b hqcG1 hw.2.2 S.own (va_Nw.use rfl (hT.2.2 _ m2_4n rfl)) (fun _ h => h) d_Nam_init_105 ?_
                                              refine lv_iload_n S.x S.b d_Nam_init_108 rfl (lv_at hl 1 rfl) ?_
                                              refine va_ti S.x S.b hqcG2 hw.2.2 (i := z272) (vp_in_iff.mpr (by constructor <;> omega)) rfl d_Nam_init_109 ?_
                                              refine lv_topi (fun z280 ez280 => ?_)
                                              have lz280 := Int32.le_toInt z280
                                              have uz280 := Int32.toInt_lt z280
                                              have vz280 : z280.toInt = 1 := gvw_at (bs := GCb) (i := 6) ez280 (show z272.toInt = 6 from by first | exact oz_2c15fec20a tz272 tz242 tz212 tz182 tz152 tz122 | omega) rfl
                                              refine px_put S k_Sym hT hw 5 0 4 rfl rfl (by decide) m1_218 rfl rfl rfl (Nat.le_of_ble_eq_true rfl) d_Nam_init_110 (w' := wd_Sym cs q275 (fun _ => 0) (fun _ => none) (upd (upd (upd (upd (upd (upd (upd (fun _ => 0) 0 z276) 1 2) 2 0) 3 z252) 4 z280) 5 z272) 6 z279) (fun _ _ => 0) (fun _ _ => none)) (ps' := [wd_Nam cs h (fun k => if k = 0 then q1 else if k = 1 then q4 else q7) (fun _ => none) (upd (upd (fun _ => 0) 3 0) 4 0) na89 (fun _ _ => none), wd_Lst cs q1 (fun _ => 0) (fun k => if k = 0 then (some em) else none) (upd (upd (fun _ => 0) 1 0) 2 0) (fun _ _ => 0) (fun _ _ => none), wd_Lst cs q4 (fun _ => 0) (fun k => if k = 0 then (some lq254) else none) lf256 (fun _ _ => 0) (fun _ _ => none), [(lq254, .inl (cs 12, lc255, .inr (.inr (.inr (.inr lg257)))))], P253, wd_Sym cs q275 (fun _ => 0) (fun _ => none) (upd (upd (upd (upd (upd (upd (upd (fun _ => 0) 0 z276) 1 2) 2 0) 3 z252) 4 z280) 5 z272) 6 z279) (fun _ _ => 0) (fun _ _ => none)]) rfl rfl (fun H locs hw => ?_)
                                              refine lv_iload_n S.x S.b d_Nam_init_113 rfl (lv_at hl 2 rfl) ?_
                                              refine va_getsN S.x S.b hqcG1 hw.2.2 S.own (va_Nw.use rfl (hT.2.2 _ m2_4n rfl)) (fun _ h => h) d_Nam_init_114 ?_
                                              refine lv_iload_n S.x S.b d_Nam_init_117 rfl (lv_at hl 1 rfl) ?_
                                              refine va_ti S.x S.b hqcG2 hw.2.2 (i := z272) (vp_in_iff.mpr (by constructor <;> omega)) rfl d_Nam_init_118 ?_
                                              refine lv_topi (fun z281 ez281 => ?_)
                                              have lz281 := Int32.le_toInt z281
                                              have uz281 := Int32.toInt_lt z281
                                              have vz281 : z281.toInt = 1 := gvw_at (bs := GCb) (i := 6) ez281 (show z272.toInt = 6 from by first | exact oz_2c15fec20a tz272 tz242 tz212 tz182 tz152 tz122 | omega) rfl
                                              refine lv_iadd S.x S.b d_Nam_init_119 ?_
                                              refine lv_topi (fun z282 ez282 => ?_)
                                              have tz282 : z282.toInt = (z252.toInt + z281.toInt + 2147483648) % 4294967296 - 2147483648 := by rw [ez282]; exact i_add z252 z281
                                              have lz282 := Int32.le_toInt z282
                                              have uz282 := Int32.toInt_lt z282
                                              try replace tz282 : z282.toInt = z252.toInt + z281.toInt := by omega
                                              refine lv_istore_n (lv' := [(1, .int z282), (3, .ref q275), (2, .int z272), (0, .ref h)]) S.x S.b d_Nam_init_120 rfl hl (by decide) rfl (fun ls hl => ?_)
                                              have hw : pw D A s.heap _ _ ([wd_Nam cs h (fun k => if k = 0 then q1 else if k = 1 then q4 else q7) (fun _ => none) (upd (upd (fun _ => 0) 3 0) 4 0) na89 (fun _ _ => none), wd_Lst cs q1 (fun _ => 0) (fun k => if k = 0 then (some em) else none) (upd (upd (fun _ => 0) 1 0) 2 0) (fun _ _ => 0) (fun _ _ => none), wd_Lst cs q4 (fun _ => 0) (fun k => if k = 0 then (some lq254) else none) lf256 (fun _ _ => 0) (fun _ _ => none), [(lq254, .inl (cs 12, lc255, .inr (.inr (.inr (.inr lg257)))))]] ++ [P253, wd_Sym cs q275 (fun _ => 0) (fun _ => none) (upd (upd (upd (upd (upd (upd (upd (fun _ => 0) 0 z276) 1 2) 2 0) 3 z252) 4 z280) 5 z272) 6 z279) (fun _ _ => 0) (fun _ _ => none)]) := hw.sub [0, 1, 2, 3, 4, 5] rfl rfl
                                              have hw := pw_join hw
                                              have hpnP283 : Pg P253 (P253 ++ wd_Sym cs q275 (fun _ => 0) (fun _ => none) (upd (upd (upd (upd (upd (upd (upd (fun _ => 0) 0 z276) 1 2) 2 0) 3 z252) 4 z280) 5 z272) 6 z279) (fun _ _ => 0) (fun _ _ => none)) := pg_app
                                              have hsnP283 : Sy (P253 ++ wd_Sym cs q275 (fun _ => 0) (fun _ => none) (upd (upd (upd (upd (upd (upd (upd (fun _ => 0) 0 z276) 1 2) 2 0) 3 z252) 4 z280) 5 z272) 6 z279) (fun _ _ => 0) (fun _ _ => none)) (some q275) := sy_last (s := (upd (upd (upd (upd (upd (upd (upd (fun _ => 0) 0 z276) 1 2) 2 0) 3 z252) 4 z280) 5 z272) 6 z279)) rfl
                                              have hfnP283 : Fy (P253 ++ wd_Sym cs q275 (fun _ => 0) (fun _ => none) (upd (upd (upd (upd (upd (upd (upd (fun _ => 0) 0 z276) 1 2) 2 0) 3 z252) 4 z280) 5 z272) 6 z279) (fun _ _ => 0) (fun _ _ => none)) (some q275) := fy_last (s := (upd (upd (upd (upd (upd (upd (upd (fun _ => 0) 0 z276) 1 2) 2 0) 3 z252) 4 z280) 5 z272) 6 z279)) rfl (show 0 ≤ z272.toInt from by first | exact oz_74a017ed6e tz272 tz242 tz212 tz182 tz152 tz122 | omega) (show z272.toInt ≤ 1000000 from by first | exact oz_231bd416e9 tz272 nc243 | omega)
                                              have hgnP283 : Gy (P253 ++ wd_Sym cs q275 (fun _ => 0) (fun _ => none) (upd (upd (upd (upd (upd (upd (upd (fun _ => 0) 0 z276) 1 2) 2 0) 3 z252) 4 z280) 5 z272) 6 z279) (fun _ _ => 0) (fun _ _ => none)) q275 := gy_lastN (s := (upd (upd (upd (upd (upd (upd (upd (fun _ => 0) 0 z276) 1 2) 2 0) 3 z252) 4 z280) 5 z272) 6 z279)) rfl (show 0 ≤ z272.toInt from by first | exact oz_74a017ed6e tz272 tz242 tz212 tz182 tz152 tz122 | omega) (show z272.toInt ≤ 1000000 from by first | exact oz_231bd416e9 tz272 nc243 | omega) (show z276.toInt ≠ 25 from by first | exact oz_20fca602ed tz276 nc273 | omega)
                                              have hsyP283 : SymAt (P253 ++ wd_Sym cs q275 (fun _ => 0) (fun _ => none) (upd (upd (upd (upd (upd (upd (upd (fun _ => 0) 0 z276) 1 2) 2 0) 3 z252) 4 z280) 5 z272) 6 z279) (fun _ _ => 0) (fun _ _ => none)) q275 (upd (upd (upd (upd (upd (upd (upd (fun _ => 0) 0 z276) 1 2) 2 0) 3 z252) 4 z280) 5 z272) 6 z279) := sym_last rfl
                                              have hpxP283 : ∀ (a : Nat) (s : Nat → Int32), SymAt P253 a s → SymAt (P253 ++ wd_Sym cs q275 (fun _ => 0) (fun _ => none) (upd (upd (upd (upd (upd (upd (upd (fun _ => 0) 0 z276) 1 2) 2 0) 3 z252) 4 z280) 5 z272) 6 z279) (fun _ _ => 0) (fun _ _ => none)) a s := sym_app
                                              generalize (P253 ++ wd_Sym cs q275 (fun _ => 0) (fun _ => none) (upd (upd (upd (upd (upd (upd (upd (fun _ => 0) 0 z276) 1 2) 2 0) 3 z252) 4 z280) 5 z272) 6 z279) (fun _ _ => 0) (fun _ _ => none)) = P283 at hw hpnP283 hsnP283 hfnP283 hgnP283 hsyP283 hpxP283
                                              have hEl := hpnP283.els hEl; have hEf := hpnP283.elf hEf; have hEg := hpnP283.elg hEg
                                              have hw : pw D A s.heap _ _ [wd_Nam cs h (fun k => if k = 0 then q1 else if k = 1 then q4 else q7) (fun _ => none) (upd (upd (fun _ => 0) 3 0) 4 0) na89 (fun _ _ => none), wd_Lst cs q1 (fun _ => 0) (fun k => if k = 0 then (some em) else none) (upd (upd (fun _ => 0) 1 0) 2 0) (fun _ _ => 0) (fun _ _ => none), wd_Lst cs q4 (fun _ => 0) (fun k => if k = 0 then (some lq254) else none) lf256 (fun _ _ => 0) (fun _ _ => none), [(lq254, .inl (cs 12, lc255, .inr (.inr (.inr (.inr lg257)))))], P283] := hw
                                              refine lv_aload_n S.x S.b d_Nam_init_121 rfl (lv_at hl 3 rfl) ?_
                                              refine px_get S k_Nam hT hw 0 0 1 (v := .ref q4) rfl rfl rfl (by decide) m2_76 d_Nam_init_122 ?_
                                              refine lv_aload_n S.x S.b d_Nam_init_125 rfl (lv_at hl 1 rfl) ?_
                                              refine pg_calli (pr := [wd_Nam cs h (fun k => if k = 0 then q1 else if k = 1 then q4 else q7) (fun _ => none) (upd (upd (fun _ => 0) 3 0) 4 0) na89 (fun _ _ => none), wd_Lst cs q1 (fun _ => 0) (fun k => if k = 0 then (some em) else none) (upd (upd (fun _ => 0) 1 0) 2 0) (fun _ _ => 0) (fun _ _ => none)]) (px_runV (As := [.ref q275]) (rest := []) S (c_al_add_T l D cs mi q4 lq254 lc255 lf256 lg257 P283  q275 (show lc255 ≤ 1000000 from by first | exact oz_45414977c5 e266 e236 e206 e176 e146 e116 | omega) (show 10 ≤ lc255 from by first | exact e267 | omega) (show 0 ≤ (lf256 1).toInt from by first | exact oz_74a017ed6e e262 e232 e202 e172 e142 e112 | omega) (show (lf256 1).toInt ≤ (lc255 : Int) from by first | exact e263 | omega) (by first | assumption | exact ElF.els (by assumption)) (by first | assumption | exact sy_none | exact fy_none | exact Fy.sy (by assumption) | exact sy_some (by assumption)) _ _) hT (pr := [wd_Nam cs h (fun k => if k = 0 then q1 else if k = 1 then q4 else q7) (fun _ => none) (upd (upd (fun _ => 0) 3 0) 4 0) na89 (fun _ _ => none), wd_Lst cs q1 (fun _ => 0) (fun k => if k = 0 then (some em) else none) (upd (upd (fun _ => 0) 1 0) 2 0) (fun _ _ => 0) (fun _ _ => none)]) (pcs := [wd_Lst cs q4 (fun _ => 0) (fun k => if k = 0 then (some lq254) else none) lf256 (fun _ _ => 0) (fun _ _ => none), [(lq254, .inl (cs 12, lc255, .inr (.inr (.inr (.inr lg257)))))], P283]) hw (px_X.tot (oX_call (P := (fun A U H => (va_Mi "[Ljava/lang/Object;" mi U))) (pr := [wd_Nam cs h (fun k => if k = 0 then q1 else if k = 1 then q4 else q7) (fun _ => none) (upd (upd (fun _ => 0) 3 0) 4 0) na89 (fun _ _ => none), wd_Lst cs q1 (fun _ => 0) (fun k => if k = 0 then (some em) else none) (upd (upd (fun _ => 0) 1 0) 2 0) (fun _ _ => 0) (fun _ _ => none)]) oG_M hw hA hM)) (px_recv hT hw 2 0 rfl rfl rfl) m2_9 m2_6 m2_7 m2_8 m1_10 q_Lst_add2 ⟨Nat.le_of_ble_eq_true rfl, Nat.le_of_ble_eq_true rfl⟩ hl.1 rfl (Nat.le_of_ble_eq_true rfl) d_Nam_init_126 ⟨show ((((((((((((((((0 + 1) + 1) + 1) + 1) + k110) + 1) + k140) + 1) + k170) + 1) + k200) + 1) + k230) + 1) + k260) + 1) + (1) ≤ 6000 from (by first | exact oz_a53c55393e e119 e149 e179 e209 e239 e269 | omega), show ((((((((((((((((0 + 3) + 3) + 2048) + 7) + n111) + 7) + n141) + 7) + n171) + 7) + n201) + 7) + n231) + 7) + n261) + 7) + (4 * lc255 + 40) ≤ 60000 from (by first | exact oz_fb78162fd5 e121 e151 e181 e211 e241 e266 e271 e116 e146 e176 e206 e236 | omega)⟩) hw hA (fun v289 p288 k290 n291 H locs hp288 hw => ?_)
                                              dsimp only at hp288
                                              obtain ⟨lq284, lc285, lf286, lg287, rfl, e292, e293, e294, e295, e296, e297, e298, e299, e300, e301⟩ := hp288
                                              have e292 : (lf286 1).toInt = (lf256 1).toInt + 1 := e292
                                              have e293 : (lf286 1).toInt ≤ (lc285 : Int) := e293
                                              have e294 : AddL (lf256 1) lg257 lg287 q275 := e294
                                              have e295 : (lc255 : Int) ≤ (lc285 : Int) := e295
                                              have e296 : (lc285 : Int) ≤ 2 * (lc255 : Int) + 10 := e296
                                              have e297 : 10 ≤ lc285 := e297
                                              have e298 : Lcap lc255 (lf256 1) lc285 := e298
                                              have e299 : k290 ≤ 1 := e299
                                              have e300 : (k290 : Int) ≤ (lc285 : Int) - (lc255 : Int) := e300
                                              have e301 : (n291 : Int) ≤ 4 * ((lc285 : Int) - (lc255 : Int)) := e301
                                              have hw : pw D A s.heap H locs [wd_Nam cs h (fun k => if k = 0 then q1 else if k = 1 then q4 else q7) (fun _ => none) (upd (upd (fun _ => 0) 3 0) 4 0) na89 (fun _ _ => none), wd_Lst cs q1 (fun _ => 0) (fun k => if k = 0 then (some em) else none) (upd (upd (fun _ => 0) 1 0) 2 0) (fun _ _ => 0) (fun _ _ => none), wd_Lst cs q4 (fun _ => 0) (fun k => if k = 0 then (some lq284) else none) lf286 (fun _ _ => 0) (fun _ _ => none), [(lq284, .inl (cs 12, lc285, .inr (.inr (.inr (.inr lg287)))))], P283] := hw
                                              have lv289 := Int32.le_toInt v289
                                              have uv289 := Int32.toInt_lt v289
                                              have hfe : FunE na89 P283 lg287 14 (GV.take 7) := fe_s (n := (lf256 1)) (s := (upd (upd (upd (upd (upd (upd (upd (fun _ => 0) 0 z276) 1 2) 2 0) 3 z252) 4 z280) 5 z272) 6 z279)) (fg := lg257) 6 8 (21, 1, [1]) rfl (by decide) (by decide) hwk hfe hpxP283 hsyP283 (by assumption) (show (lf256 1).toInt = 6 from by first | exact oz_2c15fec20a e262 e232 e202 e172 e142 e112 | omega) (show z276 = (21 : Int32) from Int32.toInt_inj.mp (show z276.toInt = 21 from by first | exact oz_60ecfd7d22 tz276 tz272 tz242 tz212 tz182 tz152 tz122 | omega)) rfl (show z279.toInt = 1 from by first | exact vz279 | omega) (show z280.toInt = 1 from by first | exact vz280 | omega) (show z252.toInt = 8 from by first | exact oz_11ae5290b7 tz252 tz222 vz251 tz192 vz221 tz162 vz191 tz132 vz161 tz102 vz131 vz101 | omega)
                                              have hlcb301 := Lcap.le (B := 5000) (by assumption) (by omega) (by omega); have helf := AddL.elf (n' := (lf286 1)) (by assumption) hEf (by assumption) (by omega); have helg := AddL.elg (n' := (lf286 1)) (by assumption) hEg (by assumption) (by omega); have hEf := helf; have hEg := helg; clear helf helg
                                              refine lv_pop S.x S.b d_Nam_init_129 rfl ?_
                                              obtain ⟨z302, ez302⟩ : ∃ y : Int32, y = z272 + 1 := ⟨_, rfl⟩
                                              have tz302 : z302.toInt = (z272.toInt + 1 + 2147483648) % 4294967296 - 2147483648 := by rw [ez302]; exact i_add z272 1
                                              have lz302 := Int32.le_toInt z302
                                              have uz302 := Int32.toInt_lt z302
                                              try replace tz302 : z302.toInt = z272.toInt + 1 := by omega
                                              refine lv_iinc (v := z302) (lv' := [(2, .int z302), (1, .int z282), (3, .ref q275), (0, .ref h)]) S.x S.b d_Nam_init_130 hl (k := 2) rfl (by rw [ez302]; rfl) (by decide) rfl (fun ls hl => ?_)
                                              refine lv_goto (tgt := 66) S.x S.b d_Nam_init_133 (by decide) ?_
                                              refine lv_iload_n S.x S.b d_Nam_init_66 rfl (lv_at hl 0 rfl) ?_
                                              refine lv_bipush (v := 10) S.x S.b d_Nam_init_67 (by decide) ?_
                                              refine lv_icmp_ge (tgt := 136) S.x S.b d_Nam_init_69 (by decide) (fun c303 => ?_) (fun c303 => ?_)
                                              · have nc303 : (10 : Int) ≤ z302.toInt := (i_le (x := 10) (y := z302)).mp c303
                                                exfalso
                                                omega
                                              · have nc303 : ¬ (10 : Int) ≤ z302.toInt := mt (i_le (x := 10) (y := z302)).mpr c303
                                                refine px_new S k_Sym hT hw hA m1_202 m1_203 m1_11 (fs := [.int 0, .int 0, .int 0, .int 0, .int 0, .int 0, .int 0]) (by decide +kernel) (show (((((((((((((((((0 + 1) + 1) + 1) + 1) + k110) + 1) + k140) + 1) + k170) + 1) + k200) + 1) + k230) + 1) + k260) + 1) + k290) + 1 ≤ 6000 from by first | exact oz_cd7dabd4e2 e119 e149 e179 e209 e239 e269 e299 | omega) (show (((((((((((((((((0 + 3) + 3) + 2048) + 7) + n111) + 7) + n141) + 7) + n171) + 7) + n201) + 7) + n231) + 7) + n261) + 7) + n291) + 7 ≤ 60000 from by first | exact oz_9f22de95b3 e121 e151 e181 e211 e241 e271 e301 e116 e146 e176 e206 e236 e266 e296 | omega) d_Nam_init_72 (fun q305 H hw => ?_)
                                                have hw : pw D A s.heap H _ [wd_Nam cs h (fun k => if k = 0 then q1 else if k = 1 then q4 else q7) (fun _ => none) (upd (upd (fun _ => 0) 3 0) 4 0) na89 (fun _ _ => none), wd_Lst cs q1 (fun _ => 0) (fun k => if k = 0 then (some em) else none) (upd (upd (fun _ => 0) 1 0) 2 0) (fun _ _ => 0) (fun _ _ => none), wd_Lst cs q4 (fun _ => 0) (fun k => if k = 0 then (some lq284) else none) lf286 (fun _ _ => 0) (fun _ _ => none), [(lq284, .inl (cs 12, lc285, .inr (.inr (.inr (.inr lg287)))))], P283, [(q305, .inr (3, [.int 0, .int 0, .int 0, .int 0, .int 0, .int 0, .int 0]))]] := hw
                                                refine lv_dup S.x S.b d_Nam_init_75 rfl ?_
                                                refine lv_bipush (v := 15) S.x S.b d_Nam_init_76 (by decide) ?_
                                                refine lv_iload_n S.x S.b d_Nam_init_78 rfl (lv_at hl 0 rfl) ?_
                                                refine lv_iadd S.x S.b d_Nam_init_79 ?_
                                                refine lv_topi (fun z306 ez306 => ?_)
                                                have tz306 : z306.toInt = ((15 : Int) + z302.toInt + 2147483648) % 4294967296 - 2147483648 := by rw [ez306]; exact i_add 15 z302
                                                have lz306 := Int32.le_toInt z306
                                                have uz306 := Int32.toInt_lt z306
                                                try replace tz306 : z306.toInt = (15 : Int) + z302.toInt := by omega
                                                refine lv_iconst (v := 2) S.x S.b d_Nam_init_80 (by decide) ?_
                                                refine px_callv (pr := [wd_Nam cs h (fun k => if k = 0 then q1 else if k = 1 then q4 else q7) (fun _ => none) (upd (upd (fun _ => 0) 3 0) 4 0) na89 (fun _ _ => none), wd_Lst cs q1 (fun _ => 0) (fun k => if k = 0 then (some em) else none) (upd (upd (fun _ => 0) 1 0) 2 0) (fun _ _ => 0) (fun _ _ => none), wd_Lst cs q4 (fun _ => 0) (fun k => if k = 0 then (some lq284) else none) lf286 (fun _ _ => 0) (fun _ _ => none), [(lq284, .inl (cs 12, lc285, .inr (.inr (.inr (.inr lg287)))))], P283]) (px_runI (As := [.int z306, .int 2]) (rest := [.ref q305]) S (c_Sym_init l D cs q305 z306 2 _) hT (pr := [wd_Nam cs h (fun k => if k = 0 then q1 else if k = 1 then q4 else q7) (fun _ => none) (upd (upd (fun _ => 0) 3 0) 4 0) na89 (fun _ _ => none), wd_Lst cs q1 (fun _ => 0) (fun k => if k = 0 then (some em) else none) (upd (upd (fun _ => 0) 1 0) 2 0) (fun _ _ => 0) (fun _ _ => none), wd_Lst cs q4 (fun _ => 0) (fun k => if k = 0 then (some lq284) else none) lf286 (fun _ _ => 0) (fun _ _ => none), [(lq284, .inl (cs 12, lc285, .inr (.inr (.inr (.inr lg287)))))], P283]) (pcs := [[(q305, .inr (3, [.int 0, .int 0, .int 0, .int 0, .int 0, .int 0, .int 0]))]]) hw px_X.tt m1_206 m1_204 m1_205 m1_11 rfl q_Sym_init ⟨Nat.le_of_ble_eq_true rfl, Nat.le_of_ble_eq_true rfl⟩ hl.1 rfl (Nat.le_of_ble_eq_true rfl) d_Nam_init_81 ⟨show ((((((((((((((((((0 + 1) + 1) + 1) + 1) + k110) + 1) + k140) + 1) + k170) + 1) + k200) + 1) + k230) + 1) + k260) + 1) + k290) + 1) + 0 ≤ 6000 from (by first | exact oz_5f91452e03 e119 e149 e179 e209 e239 e269 e299 | omega), show ((((((((((((((((((0 + 3) + 3) + 2048) + 7) + n111) + 7) + n141) + 7) + n171) + 7) + n201) + 7) + n231) + 7) + n261) + 7) + n291) + 7) + 0 ≤ 60000 from (by first | exact oz_3971487c42 e121 e151 e181 e211 e241 e271 e301 e116 e146 e176 e206 e236 e266 e296 | omega)⟩) hw hA (fun p307 H locs hp307 hw => ?_)
                                                subst hp307
                                                have hw : pw D A s.heap H locs [wd_Nam cs h (fun k => if k = 0 then q1 else if k = 1 then q4 else q7) (fun _ => none) (upd (upd (fun _ => 0) 3 0) 4 0) na89 (fun _ _ => none), wd_Lst cs q1 (fun _ => 0) (fun k => if k = 0 then (some em) else none) (upd (upd (fun _ => 0) 1 0) 2 0) (fun _ _ => 0) (fun _ _ => none), wd_Lst cs q4 (fun _ => 0) (fun k => if k = 0 then (some lq284) else none) lf286 (fun _ _ => 0) (fun _ _ => none), [(lq284, .inl (cs 12, lc285, .inr (.inr (.inr (.inr lg287)))))], P283, wd_Sym cs q305 (fun _ => 0) (fun _ => none) (upd (upd (upd (upd (upd (upd (upd (fun _ => 0) 0 z306) 1 2) 2 0) 3 0) 4 0) 5 0) 6 0) (fun _ _ => 0) (fun _ _ => none)] := hw
                                                refine lv_astore_n (lv' := [(3, .ref q305), (2, .int z302), (1, .int z282), (0, .ref h)]) S.x S.b d_Nam_init_84 rfl hl (by decide) rfl (fun ls hl => ?_)
                                                refine lv_aload_n S.x S.b d_Nam_init_85 rfl (lv_at hl 0 rfl) ?_
                                                refine lv_iload_n S.x S.b d_Nam_init_86 rfl (lv_at hl 1 rfl) ?_
                                                refine px_put S k_Sym hT hw 5 0 5 rfl rfl (by decide) m1_221 rfl rfl rfl (Nat.le_of_ble_eq_true rfl) d_Nam_init_87 (w' := wd_Sym cs q305 (fun _ => 0) (fun _ => none) (upd (upd (upd (upd (upd (upd (upd (fun _ => 0) 0 z306) 1 2) 2 0) 3 0) 4 0) 5 z302) 6 0) (fun _ _ => 0) (fun _ _ => none)) (ps' := [wd_Nam cs h (fun k => if k = 0 then q1 else if k = 1 then q4 else q7) (fun _ => none) (upd (upd (fun _ => 0) 3 0) 4 0) na89 (fun _ _ => none), wd_Lst cs q1 (fun _ => 0) (fun k => if k = 0 then (some em) else none) (upd (upd (fun _ => 0) 1 0) 2 0) (fun _ _ => 0) (fun _ _ => none), wd_Lst cs q4 (fun _ => 0) (fun k => if k = 0 then (some lq284) else none) lf286 (fun _ _ => 0) (fun _ _ => none), [(lq284, .inl (cs 12, lc285, .inr (.inr (.inr (.inr lg287)))))], P283, wd_Sym cs q305 (fun _ => 0) (fun _ => none) (upd (upd (upd (upd (upd (upd (upd (fun _ => 0) 0 z306) 1 2) 2 0) 3 0) 4 0) 5 z302) 6 0) (fun _ _ => 0) (fun _ _ => none)]) rfl rfl (fun H locs hw => ?_)
                                                refine lv_aload_n S.x S.b d_Nam_init_90 rfl (lv_at hl 0 rfl) ?_
                                                refine va_getsN S.x S.b hqtG1 hw.2.2 S.own (va_Nw.use rfl (hT.2.2 _ m2_2n rfl)) (fun _ h => h) d_Nam_init_91 ?_
                                                refine lv_iload_n S.x S.b d_Nam_init_94 rfl (lv_at hl 1 rfl) ?_
                                                refine va_ti S.x S.b hqtG2 hw.2.2 (i := z302) (vp_in_iff.mpr (by constructor <;> omega)) rfl d_Nam_init_95 ?_
                                                refine lv_topi (fun z309 ez309 => ?_)
                                                have lz309 := Int32.le_toInt z309
                                                have uz309 := Int32.toInt_lt z309
                                                have vz309 : z309.toInt = 3 := gvw_at (bs := GTb) (i := 7) ez309 (show z302.toInt = 7 from by first | exact oz_351b2949af tz302 tz272 tz242 tz212 tz182 tz152 tz122 | omega) rfl
                                                refine px_put S k_Sym hT hw 5 0 6 rfl rfl (by decide) m1_224 rfl rfl rfl (Nat.le_of_ble_eq_true rfl) d_Nam_init_96 (w' := wd_Sym cs q305 (fun _ => 0) (fun _ => none) (upd (upd (upd (upd (upd (upd (upd (fun _ => 0) 0 z306) 1 2) 2 0) 3 0) 4 0) 5 z302) 6 z309) (fun _ _ => 0) (fun _ _ => none)) (ps' := [wd_Nam cs h (fun k => if k = 0 then q1 else if k = 1 then q4 else q7) (fun _ => none) (upd (upd (fun _ => 0) 3 0) 4 0) na89 (fun _ _ => none), wd_Lst cs q1 (fun _ => 0) (fun k => if k = 0 then (some em) else none) (upd (upd (fun _ => 0) 1 0) 2 0) (fun _ _ => 0) (fun _ _ => none), wd_Lst cs q4 (fun _ => 0) (fun k => if k = 0 then (some lq284) else none) lf286 (fun _ _ => 0) (fun _ _ => none), [(lq284, .inl (cs 12, lc285, .inr (.inr (.inr (.inr lg287)))))], P283, wd_Sym cs q305 (fun _ => 0) (fun _ => none) (upd (upd (upd (upd (upd (upd (upd (fun _ => 0) 0 z306) 1 2) 2 0) 3 0) 4 0) 5 z302) 6 z309) (fun _ _ => 0) (fun _ _ => none)]) rfl rfl (fun H locs hw => ?_)
                                                refine lv_aload_n S.x S.b d_Nam_init_99 rfl (lv_at hl 0 rfl) ?_
                                                refine lv_iload_n S.x S.b d_Nam_init_100 rfl (lv_at hl 2 rfl) ?_
                                                refine px_put S k_Sym hT hw 5 0 3 rfl rfl (by decide) m1_215 rfl rfl rfl (Nat.le_of_ble_eq_true rfl) d_Nam_init_101 (w' := wd_Sym cs q305 (fun _ => 0) (fun _ => none) (upd (upd (upd (upd (upd (upd (upd (fun _ => 0) 0 z306) 1 2) 2 0) 3 z282) 4 0) 5 z302) 6 z309) (fun _ _ => 0) (fun _ _ => none)) (ps' := [wd_Nam cs h (fun k => if k = 0 then q1 else if k = 1 then q4 else q7) (fun _ => none) (upd (upd (fun _ => 0) 3 0) 4 0) na89 (fun _ _ => none), wd_Lst cs q1 (fun _ => 0) (fun k => if k = 0 then (some em) else none) (upd (upd (fun _ => 0) 1 0) 2 0) (fun _ _ => 0) (fun _ _ => none), wd_Lst cs q4 (fun _ => 0) (fun k => if k = 0 then (some lq284) else none) lf286 (fun _ _ => 0) (fun _ _ => none), [(lq284, .inl (cs 12, lc285, .inr (.inr (.inr (.inr lg287)))))], P283, wd_Sym cs q305 (fun _ => 0) (fun _ => none) (upd (upd (upd (upd (upd (upd (upd (fun _ => 0) 0 z306) 1 2) 2 0) 3 z282) 4 0) 5 z302) 6 z309) (fun _ _ => 0) (fun _ _ => none)]) rfl rfl (fun H locs hw => ?_)
                                                refine lv_aload_n S.x S.b d_Nam_init_104 rfl (lv_at hl 0 rfl) ?_
                                                refine va_getsN S.x S.b hqcG1 hw.2.2 S.own (va_Nw.use rfl (hT.2.2 _ m2_4n rfl)) (fun _ h => h) d_Nam_init_105 ?_
                                                refine lv_iload_n S.x S.b d_Nam_init_108 rfl (lv_at hl 1 rfl) ?_
                                                refine va_ti S.x S.b hqcG2 hw.2.2 (i := z302) (vp_in_iff.mpr (by constructor <;> omega)) rfl d_Nam_init_109 ?_
                                                refine lv_topi (fun z310 ez310 => ?_)
                                                have lz310 := Int32.le_toInt z310
                                                have uz310 := Int32.toInt_lt z310
                                                have vz310 : z310.toInt = 2 := gvw_at (bs := GCb) (i := 7) ez310 (show z302.toInt = 7 from by first | exact oz_351b2949af tz302 tz272 tz242 tz212 tz182 tz152 tz122 | omega) rfl
                                                refine px_put S k_Sym hT hw 5 0 4 rfl rfl (by decide) m1_218 rfl rfl rfl (Nat.le_of_ble_eq_true rfl) d_Nam_init_110 (w' := wd_Sym cs q305 (fun _ => 0) (fun _ => none) (upd (upd (upd (upd (upd (upd (upd (fun _ => 0) 0 z306) 1 2) 2 0) 3 z282) 4 z310) 5 z302) 6 z309) (fun _ _ => 0) (fun _ _ => none)) (ps' := [wd_Nam cs h (fun k => if k = 0 then q1 else if k = 1 then q4 else q7) (fun _ => none) (upd (upd (fun _ => 0) 3 0) 4 0) na89 (fun _ _ => none), wd_Lst cs q1 (fun _ => 0) (fun k => if k = 0 then (some em) else none) (upd (upd (fun _ => 0) 1 0) 2 0) (fun _ _ => 0) (fun _ _ => none), wd_Lst cs q4 (fun _ => 0) (fun k => if k = 0 then (some lq284) else none) lf286 (fun _ _ => 0) (fun _ _ => none), [(lq284, .inl (cs 12, lc285, .inr (.inr (.inr (.inr lg287)))))], P283, wd_Sym cs q305 (fun _ => 0) (fun _ => none) (upd (upd (upd (upd (upd (upd (upd (fun _ => 0) 0 z306) 1 2) 2 0) 3 z282) 4 z310) 5 z302) 6 z309) (fun _ _ => 0) (fun _ _ => none)]) rfl rfl (fun H locs hw => ?_)
                                                refine lv_iload_n S.x S.b d_Nam_init_113 rfl (lv_at hl 2 rfl) ?_
                                                refine va_getsN S.x S.b hqcG1 hw.2.2 S.own (va_Nw.use rfl (hT.2.2 _ m2_4n rfl)) (fun _ h => h) d_Nam_init_114 ?_
                                                refine lv_iload_n S.x S.b d_Nam_init_117 rfl (lv_at hl 1 rfl) ?_
                                                refine va_ti S.x S.b hqcG2 hw.2.2 (i := z302) (vp_in_iff.mpr (by constructor <;> omega)) rfl d_Nam_init_118 ?_
                                                refine lv_topi (fun z311 ez311 => ?_)
                                                have lz311 := Int32.le_toInt z311
                                                have uz311 := Int32.toInt_lt z311
                                                have vz311 : z311.toInt = 2 := gvw_at (bs := GCb) (i := 7) ez311 (show z302.toInt = 7 from by first | exact oz_351b2949af tz302 tz272 tz242 tz212 tz182 tz152 tz122 | omega) rfl
                                                refine lv_iadd S.x S.b d_Nam_init_119 ?_
                                                refine lv_topi (fun z312 ez312 => ?_)
                                                have tz312 : z312.toInt = (z282.toInt + z311.toInt + 2147483648) % 4294967296 - 2147483648 := by rw [ez312]; exact i_add z282 z311
                                                have lz312 := Int32.le_toInt z312
                                                have uz312 := Int32.toInt_lt z312
                                                try replace tz312 : z312.toInt = z282.toInt + z311.toInt := by omega
                                                refine lv_istore_n (lv' := [(1, .int z312), (3, .ref q305), (2, .int z302), (0, .ref h)]) S.x S.b d_Nam_init_120 rfl hl (by decide) rfl (fun ls hl => ?_)
                                                have hw : pw D A s.heap _ _ ([wd_Nam cs h (fun k => if k = 0 then q1 else if k = 1 then q4 else q7) (fun _ => none) (upd (upd (fun _ => 0) 3 0) 4 0) na89 (fun _ _ => none), wd_Lst cs q1 (fun _ => 0) (fun k => if k = 0 then (some em) else none) (upd (upd (fun _ => 0) 1 0) 2 0) (fun _ _ => 0) (fun _ _ => none), wd_Lst cs q4 (fun _ => 0) (fun k => if k = 0 then (some lq284) else none) lf286 (fun _ _ => 0) (fun _ _ => none), [(lq284, .inl (cs 12, lc285, .inr (.inr (.inr (.inr lg287)))))]] ++ [P283, wd_Sym cs q305 (fun _ => 0) (fun _ => none) (upd (upd (upd (upd (upd (upd (upd (fun _ => 0) 0 z306) 1 2) 2 0) 3 z282) 4 z310) 5 z302) 6 z309) (fun _ _ => 0) (fun _ _ => none)]) := hw.sub [0, 1, 2, 3, 4, 5] rfl rfl
                                                have hw := pw_join hw
                                                have hpnP313 : Pg P283 (P283 ++ wd_Sym cs q305 (fun _ => 0) (fun _ => none) (upd (upd (upd (upd (upd (upd (upd (fun _ => 0) 0 z306) 1 2) 2 0) 3 z282) 4 z310) 5 z302) 6 z309) (fun _ _ => 0) (fun _ _ => none)) := pg_app
                                                have hsnP313 : Sy (P283 ++ wd_Sym cs q305 (fun _ => 0) (fun _ => none) (upd (upd (upd (upd (upd (upd (upd (fun _ => 0) 0 z306) 1 2) 2 0) 3 z282) 4 z310) 5 z302) 6 z309) (fun _ _ => 0) (fun _ _ => none)) (some q305) := sy_last (s := (upd (upd (upd (upd (upd (upd (upd (fun _ => 0) 0 z306) 1 2) 2 0) 3 z282) 4 z310) 5 z302) 6 z309)) rfl
                                                have hfnP313 : Fy (P283 ++ wd_Sym cs q305 (fun _ => 0) (fun _ => none) (upd (upd (upd (upd (upd (upd (upd (fun _ => 0) 0 z306) 1 2) 2 0) 3 z282) 4 z310) 5 z302) 6 z309) (fun _ _ => 0) (fun _ _ => none)) (some q305) := fy_last (s := (upd (upd (upd (upd (upd (upd (upd (fun _ => 0) 0 z306) 1 2) 2 0) 3 z282) 4 z310) 5 z302) 6 z309)) rfl (show 0 ≤ z302.toInt from by first | exact oz_ae352f211f tz302 tz272 tz242 tz212 tz182 tz152 tz122 | omega) (show z302.toInt ≤ 1000000 from by first | exact oz_231bd416e9 tz302 nc273 | omega)
                                                have hgnP313 : Gy (P283 ++ wd_Sym cs q305 (fun _ => 0) (fun _ => none) (upd (upd (upd (upd (upd (upd (upd (fun _ => 0) 0 z306) 1 2) 2 0) 3 z282) 4 z310) 5 z302) 6 z309) (fun _ _ => 0) (fun _ _ => none)) q305 := gy_lastN (s := (upd (upd (upd (upd (upd (upd (upd (fun _ => 0) 0 z306) 1 2) 2 0) 3 z282) 4 z310) 5 z302) 6 z309)) rfl (show 0 ≤ z302.toInt from by first | exact oz_ae352f211f tz302 tz272 tz242 tz212 tz182 tz152 tz122 | omega) (show z302.toInt ≤ 1000000 from by first | exact oz_231bd416e9 tz302 nc273 | omega) (show z306.toInt ≠ 25 from by first | exact oz_20fca602ed tz306 nc303 | omega)
                                                have hsyP313 : SymAt (P283 ++ wd_Sym cs q305 (fun _ => 0) (fun _ => none) (upd (upd (upd (upd (upd (upd (upd (fun _ => 0) 0 z306) 1 2) 2 0) 3 z282) 4 z310) 5 z302) 6 z309) (fun _ _ => 0) (fun _ _ => none)) q305 (upd (upd (upd (upd (upd (upd (upd (fun _ => 0) 0 z306) 1 2) 2 0) 3 z282) 4 z310) 5 z302) 6 z309) := sym_last rfl
                                                have hpxP313 : ∀ (a : Nat) (s : Nat → Int32), SymAt P283 a s → SymAt (P283 ++ wd_Sym cs q305 (fun _ => 0) (fun _ => none) (upd (upd (upd (upd (upd (upd (upd (fun _ => 0) 0 z306) 1 2) 2 0) 3 z282) 4 z310) 5 z302) 6 z309) (fun _ _ => 0) (fun _ _ => none)) a s := sym_app
                                                generalize (P283 ++ wd_Sym cs q305 (fun _ => 0) (fun _ => none) (upd (upd (upd (upd (upd (upd (upd (fun _ => 0) 0 z306) 1 2) 2 0) 3 z282) 4 z310) 5 z302) 6 z309) (fun _ _ => 0) (fun _ _ => none)) = P313 at hw hpnP313 hsnP313 hfnP313 hgnP313 hsyP313 hpxP313
                                                have hEl := hpnP313.els hEl; have hEf := hpnP313.elf hEf; have hEg := hpnP313.elg hEg
                                                have hw : pw D A s.heap _ _ [wd_Nam cs h (fun k => if k = 0 then q1 else if k = 1 then q4 else q7) (fun _ => none) (upd (upd (fun _ => 0) 3 0) 4 0) na89 (fun _ _ => none), wd_Lst cs q1 (fun _ => 0) (fun k => if k = 0 then (some em) else none) (upd (upd (fun _ => 0) 1 0) 2 0) (fun _ _ => 0) (fun _ _ => none), wd_Lst cs q4 (fun _ => 0) (fun k => if k = 0 then (some lq284) else none) lf286 (fun _ _ => 0) (fun _ _ => none), [(lq284, .inl (cs 12, lc285, .inr (.inr (.inr (.inr lg287)))))], P313] := hw
                                                refine lv_aload_n S.x S.b d_Nam_init_121 rfl (lv_at hl 3 rfl) ?_
                                                refine px_get S k_Nam hT hw 0 0 1 (v := .ref q4) rfl rfl rfl (by decide) m2_76 d_Nam_init_122 ?_
                                                refine lv_aload_n S.x S.b d_Nam_init_125 rfl (lv_at hl 1 rfl) ?_
                                                refine pg_calli (pr := [wd_Nam cs h (fun k => if k = 0 then q1 else if k = 1 then q4 else q7) (fun _ => none) (upd (upd (fun _ => 0) 3 0) 4 0) na89 (fun _ _ => none), wd_Lst cs q1 (fun _ => 0) (fun k => if k = 0 then (some em) else none) (upd (upd (fun _ => 0) 1 0) 2 0) (fun _ _ => 0) (fun _ _ => none)]) (px_runV (As := [.ref q305]) (rest := []) S (c_al_add_T l D cs mi q4 lq284 lc285 lf286 lg287 P313  q305 (show lc285 ≤ 1000000 from by first | exact oz_3ea00c64ee e296 e266 e236 e206 e176 e146 e116 | omega) (show 10 ≤ lc285 from by first | exact e297 | omega) (show 0 ≤ (lf286 1).toInt from by first | exact oz_ae352f211f e292 e262 e232 e202 e172 e142 e112 | omega) (show (lf286 1).toInt ≤ (lc285 : Int) from by first | exact e293 | omega) (by first | assumption | exact ElF.els (by assumption)) (by first | assumption | exact sy_none | exact fy_none | exact Fy.sy (by assumption) | exact sy_some (by assumption)) _ _) hT (pr := [wd_Nam cs h (fun k => if k = 0 then q1 else if k = 1 then q4 else q7) (fun _ => none) (upd (upd (fun _ => 0) 3 0) 4 0) na89 (fun _ _ => none), wd_Lst cs q1 (fun _ => 0) (fun k => if k = 0 then (some em) else none) (upd (upd (fun _ => 0) 1 0) 2 0) (fun _ _ => 0) (fun _ _ => none)]) (pcs := [wd_Lst cs q4 (fun _ => 0) (fun k => if k = 0 then (some lq284) else none) lf286 (fun _ _ => 0) (fun _ _ => none), [(lq284, .inl (cs 12, lc285, .inr (.inr (.inr (.inr lg287)))))], P313]) hw (px_X.tot (oX_call (P := (fun A U H => (va_Mi "[Ljava/lang/Object;" mi U))) (pr := [wd_Nam cs h (fun k => if k = 0 then q1 else if k = 1 then q4 else q7) (fun _ => none) (upd (upd (fun _ => 0) 3 0) 4 0) na89 (fun _ _ => none), wd_Lst cs q1 (fun _ => 0) (fun k => if k = 0 then (some em) else none) (upd (upd (fun _ => 0) 1 0) 2 0) (fun _ _ => 0) (fun _ _ => none)]) oG_M hw hA hM)) (px_recv hT hw 2 0 rfl rfl rfl) m2_9 m2_6 m2_7 m2_8 m1_10 q_Lst_add2 ⟨Nat.le_of_ble_eq_true rfl, Nat.le_of_ble_eq_true rfl⟩ hl.1 rfl (Nat.le_of_ble_eq_true rfl) d_Nam_init_126 ⟨show ((((((((((((((((((0 + 1) + 1) + 1) + 1) + k110) + 1) + k140) + 1) + k170) + 1) + k200) + 1) + k230) + 1) + k260) + 1) + k290) + 1) + (1) ≤ 6000 from (by first | exact oz_4197801112 e119 e149 e179 e209 e239 e269 e299 | omega), show ((((((((((((((((((0 + 3) + 3) + 2048) + 7) + n111) + 7) + n141) + 7) + n171) + 7) + n201) + 7) + n231) + 7) + n261) + 7) + n291) + 7) + (4 * lc285 + 40) ≤ 60000 from (by first | exact oz_b7c4c7a3d1 e121 e151 e181 e211 e241 e271 e296 e301 e116 e146 e176 e206 e236 e266 | omega)⟩) hw hA (fun v319 p318 k320 n321 H locs hp318 hw => ?_)
                                                dsimp only at hp318
                                                obtain ⟨lq314, lc315, lf316, lg317, rfl, e322, e323, e324, e325, e326, e327, e328, e329, e330, e331⟩ := hp318
                                                have e322 : (lf316 1).toInt = (lf286 1).toInt + 1 := e322
                                                have e323 : (lf316 1).toInt ≤ (lc315 : Int) := e323
                                                have e324 : AddL (lf286 1) lg287 lg317 q305 := e324
                                                have e325 : (lc285 : Int) ≤ (lc315 : Int) := e325
                                                have e326 : (lc315 : Int) ≤ 2 * (lc285 : Int) + 10 := e326
                                                have e327 : 10 ≤ lc315 := e327
                                                have e328 : Lcap lc285 (lf286 1) lc315 := e328
                                                have e329 : k320 ≤ 1 := e329
                                                have e330 : (k320 : Int) ≤ (lc315 : Int) - (lc285 : Int) := e330
                                                have e331 : (n321 : Int) ≤ 4 * ((lc315 : Int) - (lc285 : Int)) := e331
                                                have hw : pw D A s.heap H locs [wd_Nam cs h (fun k => if k = 0 then q1 else if k = 1 then q4 else q7) (fun _ => none) (upd (upd (fun _ => 0) 3 0) 4 0) na89 (fun _ _ => none), wd_Lst cs q1 (fun _ => 0) (fun k => if k = 0 then (some em) else none) (upd (upd (fun _ => 0) 1 0) 2 0) (fun _ _ => 0) (fun _ _ => none), wd_Lst cs q4 (fun _ => 0) (fun k => if k = 0 then (some lq314) else none) lf316 (fun _ _ => 0) (fun _ _ => none), [(lq314, .inl (cs 12, lc315, .inr (.inr (.inr (.inr lg317)))))], P313] := hw
                                                have lv319 := Int32.le_toInt v319
                                                have uv319 := Int32.toInt_lt v319
                                                have hfe : FunE na89 P313 lg317 14 (GV.take 8) := fe_s (n := (lf286 1)) (s := (upd (upd (upd (upd (upd (upd (upd (fun _ => 0) 0 z306) 1 2) 2 0) 3 z282) 4 z310) 5 z302) 6 z309)) (fg := lg287) 7 9 (22, 3, [1, 17]) rfl (by decide) (by decide) hwk hfe hpxP313 hsyP313 (by assumption) (show (lf286 1).toInt = 7 from by first | exact oz_351b2949af e292 e262 e232 e202 e172 e142 e112 | omega) (show z306 = (22 : Int32) from Int32.toInt_inj.mp (show z306.toInt = 22 from by first | exact oz_be76f20932 tz306 tz302 tz272 tz242 tz212 tz182 tz152 tz122 | omega)) rfl (show z309.toInt = 3 from by first | exact vz309 | omega) (show z310.toInt = 2 from by first | exact vz310 | omega) (show z282.toInt = 9 from by first | exact oz_c80972a4ee tz282 tz252 vz281 tz222 vz251 tz192 vz221 tz162 vz191 tz132 vz161 tz102 vz131 vz101 | omega)
                                                have hlcb331 := Lcap.le (B := 5000) (by assumption) (by omega) (by omega); have helf := AddL.elf (n' := (lf316 1)) (by assumption) hEf (by assumption) (by omega); have helg := AddL.elg (n' := (lf316 1)) (by assumption) hEg (by assumption) (by omega); have hEf := helf; have hEg := helg; clear helf helg
                                                refine lv_pop S.x S.b d_Nam_init_129 rfl ?_
                                                obtain ⟨z332, ez332⟩ : ∃ y : Int32, y = z302 + 1 := ⟨_, rfl⟩
                                                have tz332 : z332.toInt = (z302.toInt + 1 + 2147483648) % 4294967296 - 2147483648 := by rw [ez332]; exact i_add z302 1
                                                have lz332 := Int32.le_toInt z332
                                                have uz332 := Int32.toInt_lt z332
                                                try replace tz332 : z332.toInt = z302.toInt + 1 := by omega
                                                refine lv_iinc (v := z332) (lv' := [(2, .int z332), (1, .int z312), (3, .ref q305), (0, .ref h)]) S.x S.b d_Nam_init_130 hl (k := 2) rfl (by rw [ez332]; rfl) (by decide) rfl (fun ls hl => ?_)
                                                refine lv_goto (tgt := 66) S.x S.b d_Nam_init_133 (by decide) ?_
                                                refine lv_iload_n S.x S.b d_Nam_init_66 rfl (lv_at hl 0 rfl) ?_
                                                refine lv_bipush (v := 10) S.x S.b d_Nam_init_67 (by decide) ?_
                                                refine lv_icmp_ge (tgt := 136) S.x S.b d_Nam_init_69 (by decide) (fun c333 => ?_) (fun c333 => ?_)
                                                · have nc333 : (10 : Int) ≤ z332.toInt := (i_le (x := 10) (y := z332)).mp c333
                                                  exfalso
                                                  omega
                                                · have nc333 : ¬ (10 : Int) ≤ z332.toInt := mt (i_le (x := 10) (y := z332)).mpr c333
                                                  refine px_new S k_Sym hT hw hA m1_202 m1_203 m1_11 (fs := [.int 0, .int 0, .int 0, .int 0, .int 0, .int 0, .int 0]) (by decide +kernel) (show (((((((((((((((((((0 + 1) + 1) + 1) + 1) + k110) + 1) + k140) + 1) + k170) + 1) + k200) + 1) + k230) + 1) + k260) + 1) + k290) + 1) + k320) + 1 ≤ 6000 from by first | exact oz_0f19472ff7 e119 e149 e179 e209 e239 e269 e299 e329 | omega) (show (((((((((((((((((((0 + 3) + 3) + 2048) + 7) + n111) + 7) + n141) + 7) + n171) + 7) + n201) + 7) + n231) + 7) + n261) + 7) + n291) + 7) + n321) + 7 ≤ 60000 from by omega) d_Nam_init_72 (fun q335 H hw => ?_)
                                                  have hw : pw D A s.heap H _ [wd_Nam cs h (fun k => if k = 0 then q1 else if k = 1 then q4 else q7) (fun _ => none) (upd (upd (fun _ => 0) 3 0) 4 0) na89 (fun _ _ => none), wd_Lst cs q1 (fun _ => 0) (fun k => if k = 0 then (some em) else none) (upd (upd (fun _ => 0) 1 0) 2 0) (fun _ _ => 0) (fun _ _ => none), wd_Lst cs q4 (fun _ => 0) (fun k => if k = 0 then (some lq314) else none) lf316 (fun _ _ => 0) (fun _ _ => none), [(lq314, .inl (cs 12, lc315, .inr (.inr (.inr (.inr lg317)))))], P313, [(q335, .inr (3, [.int 0, .int 0, .int 0, .int 0, .int 0, .int 0, .int 0]))]] := hw
                                                  refine lv_dup S.x S.b d_Nam_init_75 rfl ?_
                                                  refine lv_bipush (v := 15) S.x S.b d_Nam_init_76 (by decide) ?_
                                                  refine lv_iload_n S.x S.b d_Nam_init_78 rfl (lv_at hl 0 rfl) ?_
                                                  refine lv_iadd S.x S.b d_Nam_init_79 ?_
                                                  refine lv_topi (fun z336 ez336 => ?_)
                                                  have tz336 : z336.toInt = ((15 : Int) + z332.toInt + 2147483648) % 4294967296 - 2147483648 := by rw [ez336]; exact i_add 15 z332
                                                  have lz336 := Int32.le_toInt z336
                                                  have uz336 := Int32.toInt_lt z336
                                                  try replace tz336 : z336.toInt = (15 : Int) + z332.toInt := by omega
                                                  refine lv_iconst (v := 2) S.x S.b d_Nam_init_80 (by decide) ?_
                                                  refine px_callv (pr := [wd_Nam cs h (fun k => if k = 0 then q1 else if k = 1 then q4 else q7) (fun _ => none) (upd (upd (fun _ => 0) 3 0) 4 0) na89 (fun _ _ => none), wd_Lst cs q1 (fun _ => 0) (fun k => if k = 0 then (some em) else none) (upd (upd (fun _ => 0) 1 0) 2 0) (fun _ _ => 0) (fun _ _ => none), wd_Lst cs q4 (fun _ => 0) (fun k => if k = 0 then (some lq314) else none) lf316 (fun _ _ => 0) (fun _ _ => none), [(lq314, .inl (cs 12, lc315, .inr (.inr (.inr (.inr lg317)))))], P313]) (px_runI (As := [.int z336, .int 2]) (rest := [.ref q335]) S (c_Sym_init l D cs q335 z336 2 _) hT (pr := [wd_Nam cs h (fun k => if k = 0 then q1 else if k = 1 then q4 else q7) (fun _ => none) (upd (upd (fun _ => 0) 3 0) 4 0) na89 (fun _ _ => none), wd_Lst cs q1 (fun _ => 0) (fun k => if k = 0 then (some em) else none) (upd (upd (fun _ => 0) 1 0) 2 0) (fun _ _ => 0) (fun _ _ => none), wd_Lst cs q4 (fun _ => 0) (fun k => if k = 0 then (some lq314) else none) lf316 (fun _ _ => 0) (fun _ _ => none), [(lq314, .inl (cs 12, lc315, .inr (.inr (.inr (.inr lg317)))))], P313]) (pcs := [[(q335, .inr (3, [.int 0, .int 0, .int 0, .int 0, .int 0, .int 0, .int 0]))]]) hw px_X.tt m1_206 m1_204 m1_205 m1_11 rfl q_Sym_init ⟨Nat.le_of_ble_eq_true rfl, Nat.le_of_ble_eq_true rfl⟩ hl.1 rfl (Nat.le_of_ble_eq_true rfl) d_Nam_init_81 ⟨show ((((((((((((((((((((0 + 1) + 1) + 1) + 1) + k110) + 1) + k140) + 1) + k170) + 1) + k200) + 1) + k230) + 1) + k260) + 1) + k290) + 1) + k320) + 1) + 0 ≤ 6000 from (by first | exact oz_2384b52a16 e119 e149 e179 e209 e239 e269 e299 e329 | omega), show ((((((((((((((((((((0 + 3) + 3) + 2048) + 7) + n111) + 7) + n141) + 7) + n171) + 7) + n201) + 7) + n231) + 7) + n261) + 7) + n291) + 7) + n321) + 7) + 0 ≤ 60000 from by omega⟩) hw hA (fun p337 H locs hp337 hw => ?_)
                                                  subst hp337
                                                  have hw : pw D A s.heap H locs [wd_Nam cs h (fun k => if k = 0 then q1 else if k = 1 then q4 else q7) (fun _ => none) (upd (upd (fun _ => 0) 3 0) 4 0) na89 (fun _ _ => none), wd_Lst cs q1 (fun _ => 0) (fun k => if k = 0 then (some em) else none) (upd (upd (fun _ => 0) 1 0) 2 0) (fun _ _ => 0) (fun _ _ => none), wd_Lst cs q4 (fun _ => 0) (fun k => if k = 0 then (some lq314) else none) lf316 (fun _ _ => 0) (fun _ _ => none), [(lq314, .inl (cs 12, lc315, .inr (.inr (.inr (.inr lg317)))))], P313, wd_Sym cs q335 (fun _ => 0) (fun _ => none) (upd (upd (upd (upd (upd (upd (upd (fun _ => 0) 0 z336) 1 2) 2 0) 3 0) 4 0) 5 0) 6 0) (fun _ _ => 0) (fun _ _ => none)] := hw
                                                  refine lv_astore_n (lv' := [(3, .ref q335), (2, .int z332), (1, .int z312), (0, .ref h)]) S.x S.b d_Nam_init_84 rfl hl (by decide) rfl (fun ls hl => ?_)
                                                  refine lv_aload_n S.x S.b d_Nam_init_85 rfl (lv_at hl 0 rfl) ?_
                                                  refine lv_iload_n S.x S.b d_Nam_init_86 rfl (lv_at hl 1 rfl) ?_
                                                  refine px_put S k_Sym hT hw 5 0 5 rfl rfl (by decide) m1_221 rfl rfl rfl (Nat.le_of_ble_eq_true rfl) d_Nam_init_87 (w' := wd_Sym cs q335 (fun _ => 0) (fun _ => none) (upd (upd (upd (upd (upd (upd (upd (fun _ => 0) 0 z336) 1 2) 2 0) 3 0) 4 0) 5 z332) 6 0) (fun _ _ => 0) (fun _ _ => none)) (ps' := [wd_Nam cs h (fun k => if k = 0 then q1 else if k = 1 then q4 else q7) (fun _ => none) (upd (upd (fun _ => 0) 3 0) 4 0) na89 (fun _ _ => none), wd_Lst cs q1 (fun _ => 0) (fun k => if k = 0 then (some em) else none) (upd (upd (fun _ => 0) 1 0) 2 0) (fun _ _ => 0) (fun _ _ => none), wd_Lst cs q4 (fun _ => 0) (fun k => if k = 0 then (some lq314) else none) lf316 (fun _ _ => 0) (fun _ _ => none), [(lq314, .inl (cs 12, lc315, .inr (.inr (.inr (.inr lg317)))))], P313, wd_Sym cs q335 (fun _ => 0) (fun _ => none) (upd (upd (upd (upd (upd (upd (upd (fun _ => 0) 0 z336) 1 2) 2 0) 3 0) 4 0) 5 z332) 6 0) (fun _ _ => 0) (fun _ _ => none)]) rfl rfl (fun H locs hw => ?_)
                                                  refine lv_aload_n S.x S.b d_Nam_init_90 rfl (lv_at hl 0 rfl) ?_
                                                  refine va_getsN S.x S.b hqtG1 hw.2.2 S.own (va_Nw.use rfl (hT.2.2 _ m2_2n rfl)) (fun _ h => h) d_Nam_init_91 ?_
                                                  refine lv_iload_n S.x S.b d_Nam_init_94 rfl (lv_at hl 1 rfl) ?_
                                                  refine va_ti S.x S.b hqtG2 hw.2.2 (i := z332) (vp_in_iff.mpr (by constructor <;> omega)) rfl d_Nam_init_95 ?_
                                                  refine lv_topi (fun z339 ez339 => ?_)
                                                  have lz339 := Int32.le_toInt z339
                                                  have uz339 := Int32.toInt_lt z339
                                                  have vz339 : z339.toInt = 3 := gvw_at (bs := GTb) (i := 8) ez339 (show z332.toInt = 8 from by first | exact oz_669628ecb5 tz332 tz302 tz272 tz242 tz212 tz182 tz152 tz122 | omega) rfl
                                                  refine px_put S k_Sym hT hw 5 0 6 rfl rfl (by decide) m1_224 rfl rfl rfl (Nat.le_of_ble_eq_true rfl) d_Nam_init_96 (w' := wd_Sym cs q335 (fun _ => 0) (fun _ => none) (upd (upd (upd (upd (upd (upd (upd (fun _ => 0) 0 z336) 1 2) 2 0) 3 0) 4 0) 5 z332) 6 z339) (fun _ _ => 0) (fun _ _ => none)) (ps' := [wd_Nam cs h (fun k => if k = 0 then q1 else if k = 1 then q4 else q7) (fun _ => none) (upd (upd (fun _ => 0) 3 0) 4 0) na89 (fun _ _ => none), wd_Lst cs q1 (fun _ => 0) (fun k => if k = 0 then (some em) else none) (upd (upd (fun _ => 0) 1 0) 2 0) (fun _ _ => 0) (fun _ _ => none), wd_Lst cs q4 (fun _ => 0) (fun k => if k = 0 then (some lq314) else none) lf316 (fun _ _ => 0) (fun _ _ => none), [(lq314, .inl (cs 12, lc315, .inr (.inr (.inr (.inr lg317)))))], P313, wd_Sym cs q335 (fun _ => 0) (fun _ => none) (upd (upd (upd (upd (upd (upd (upd (fun _ => 0) 0 z336) 1 2) 2 0) 3 0) 4 0) 5 z332) 6 z339) (fun _ _ => 0) (fun _ _ => none)]) rfl rfl (fun H locs hw => ?_)
                                                  refine lv_aload_n S.x S.b d_Nam_init_99 rfl (lv_at hl 0 rfl) ?_
                                                  refine lv_iload_n S.x S.b d_Nam_init_100 rfl (lv_at hl 2 rfl) ?_
                                                  refine px_put S k_Sym hT hw 5 0 3 rfl rfl (by decide) m1_215 rfl rfl rfl (Nat.le_of_ble_eq_true rfl) d_Nam_init_101 (w' := wd_Sym cs q335 (fun _ => 0) (fun _ => none) (upd (upd (upd (upd (upd (upd (upd (fun _ => 0) 0 z336) 1 2) 2 0) 3 z312) 4 0) 5 z332) 6 z339) (fun _ _ => 0) (fun _ _ => none)) (ps' := [wd_Nam cs h (fun k => if k = 0 then q1 else if k = 1 then q4 else q7) (fun _ => none) (upd (upd (fun _ => 0) 3 0) 4 0) na89 (fun _ _ => none), wd_Lst cs q1 (fun _ => 0) (fun k => if k = 0 then (some em) else none) (upd (upd (fun _ => 0) 1 0) 2 0) (fun _ _ => 0) (fun _ _ => none), wd_Lst cs q4 (fun _ => 0) (fun k => if k = 0 then (some lq314) else none) lf316 (fun _ _ => 0) (fun _ _ => none), [(lq314, .inl (cs 12, lc315, .inr (.inr (.inr (.inr lg317)))))], P313, wd_Sym cs q335 (fun _ => 0) (fun _ => none) (upd (upd (upd (upd (upd (upd (upd (fun _ => 0) 0 z336) 1 2) 2 0) 3 z312) 4 0) 5 z332) 6 z339) (fun _ _ => 0) (fun _ _ => none)]) rfl rfl (fun H locs hw => ?_)
                                                  refine lv_aload_n S.x S.b d_Nam_init_104 rfl (lv_at hl 0 rfl) ?_
                                                  refine va_getsN S.x S.b hqcG1 hw.2.2 S.own (va_Nw.use rfl (hT.2.2 _ m2_4n rfl)) (fun _ h => h) d_Nam_init_105 ?_
                                                  refine lv_iload_n S.x S.b d_Nam_init_108 rfl (lv_at hl 1 rfl) ?_
                                                  refine va_ti S.x S.b hqcG2 hw.2.2 (i := z332) (vp_in_iff.mpr (by constructor <;> omega)) rfl d_Nam_init_109 ?_
                                                  refine lv_topi (fun z340 ez340 => ?_)
                                                  have lz340 := Int32.le_toInt z340
                                                  have uz340 := Int32.toInt_lt z340
                                                  have vz340 : z340.toInt = 2 := gvw_at (bs := GCb) (i := 8) ez340 (show z332.toInt = 8 from by first | exact oz_669628ecb5 tz332 tz302 tz272 tz242 tz212 tz182 tz152 tz122 | omega) rfl
                                                  refine px_put S k_Sym hT hw 5 0 4 rfl rfl (by decide) m1_218 rfl rfl rfl (Nat.le_of_ble_eq_true rfl) d_Nam_init_110 (w' := wd_Sym cs q335 (fun _ => 0) (fun _ => none) (upd (upd (upd (upd (upd (upd (upd (fun _ => 0) 0 z336) 1 2) 2 0) 3 z312) 4 z340) 5 z332) 6 z339) (fun _ _ => 0) (fun _ _ => none)) (ps' := [wd_Nam cs h (fun k => if k = 0 then q1 else if k = 1 then q4 else q7) (fun _ => none) (upd (upd (fun _ => 0) 3 0) 4 0) na89 (fun _ _ => none), wd_Lst cs q1 (fun _ => 0) (fun k => if k = 0 then (some em) else none) (upd (upd (fun _ => 0) 1 0) 2 0) (fun _ _ => 0) (fun _ _ => none), wd_Lst cs q4 (fun _ => 0) (fun k => if k = 0 then (some lq314) else none) lf316 (fun _ _ => 0) (fun _ _ => none), [(lq314, .inl (cs 12, lc315, .inr (.inr (.inr (.inr lg317)))))], P313, wd_Sym cs q335 (fun _ => 0) (fun _ => none) (upd (upd (upd (upd (upd (upd (upd (fun _ => 0) 0 z336) 1 2) 2 0) 3 z312) 4 z340) 5 z332) 6 z339) (fun _ _ => 0) (fun _ _ => none)]) rfl rfl (fun H locs hw => ?_)
                                                  refine lv_iload_n S.x S.b d_Nam_init_113 rfl (lv_at hl 2 rfl) ?_
                                                  refine va_getsN S.x S.b hqcG1 hw.2.2 S.own (va_Nw.use rfl (hT.2.2 _ m2_4n rfl)) (fun _ h => h) d_Nam_init_114 ?_
                                                  refine lv_iload_n S.x S.b d_Nam_init_117 rfl (lv_at hl 1 rfl) ?_
                                                  refine va_ti S.x S.b hqcG2 hw.2.2 (i := z332) (vp_in_iff.mpr (by constructor <;> omega)) rfl d_Nam_init_118 ?_
                                                  refine lv_topi (fun z341 ez341 => ?_)
                                                  have lz341 := Int32.le_toInt z341
                                                  have uz341 := Int32.toInt_lt z341
                                                  have vz341 : z341.toInt = 2 := gvw_at (bs := GCb) (i := 8) ez341 (show z332.toInt = 8 from by first | exact oz_669628ecb5 tz332 tz302 tz272 tz242 tz212 tz182 tz152 tz122 | omega) rfl
                                                  refine lv_iadd S.x S.b d_Nam_init_119 ?_
                                                  refine lv_topi (fun z342 ez342 => ?_)
                                                  have tz342 : z342.toInt = (z312.toInt + z341.toInt + 2147483648) % 4294967296 - 2147483648 := by rw [ez342]; exact i_add z312 z341
                                                  have lz342 := Int32.le_toInt z342
                                                  have uz342 := Int32.toInt_lt z342
                                                  try replace tz342 : z342.toInt = z312.toInt + z341.toInt := by omega
                                                  refine lv_istore_n (lv' := [(1, .int z342), (3, .ref q335), (2, .int z332), (0, .ref h)]) S.x S.b d_Nam_init_120 rfl hl (by decide) rfl (fun ls hl => ?_)
                                                  have hw : pw D A s.heap _ _ ([wd_Nam cs h (fun k => if k = 0 then q1 else if k = 1 then q4 else q7) (fun _ => none) (upd (upd (fun _ => 0) 3 0) 4 0) na89 (fun _ _ => none), wd_Lst cs q1 (fun _ => 0) (fun k => if k = 0 then (some em) else none) (upd (upd (fun _ => 0) 1 0) 2 0) (fun _ _ => 0) (fun _ _ => none), wd_Lst cs q4 (fun _ => 0) (fun k => if k = 0 then (some lq314) else none) lf316 (fun _ _ => 0) (fun _ _ => none), [(lq314, .inl (cs 12, lc315, .inr (.inr (.inr (.inr lg317)))))]] ++ [P313, wd_Sym cs q335 (fun _ => 0) (fun _ => none) (upd (upd (upd (upd (upd (upd (upd (fun _ => 0) 0 z336) 1 2) 2 0) 3 z312) 4 z340) 5 z332) 6 z339) (fun _ _ => 0) (fun _ _ => none)]) := hw.sub [0, 1, 2, 3, 4, 5] rfl rfl
                                                  have hw := pw_join hw
                                                  have hpnP343 : Pg P313 (P313 ++ wd_Sym cs q335 (fun _ => 0) (fun _ => none) (upd (upd (upd (upd (upd (upd (upd (fun _ => 0) 0 z336) 1 2) 2 0) 3 z312) 4 z340) 5 z332) 6 z339) (fun _ _ => 0) (fun _ _ => none)) := pg_app
                                                  have hsnP343 : Sy (P313 ++ wd_Sym cs q335 (fun _ => 0) (fun _ => none) (upd (upd (upd (upd (upd (upd (upd (fun _ => 0) 0 z336) 1 2) 2 0) 3 z312) 4 z340) 5 z332) 6 z339) (fun _ _ => 0) (fun _ _ => none)) (some q335) := sy_last (s := (upd (upd (upd (upd (upd (upd (upd (fun _ => 0) 0 z336) 1 2) 2 0) 3 z312) 4 z340) 5 z332) 6 z339)) rfl
                                                  have hfnP343 : Fy (P313 ++ wd_Sym cs q335 (fun _ => 0) (fun _ => none) (upd (upd (upd (upd (upd (upd (upd (fun _ => 0) 0 z336) 1 2) 2 0) 3 z312) 4 z340) 5 z332) 6 z339) (fun _ _ => 0) (fun _ _ => none)) (some q335) := fy_last (s := (upd (upd (upd (upd (upd (upd (upd (fun _ => 0) 0 z336) 1 2) 2 0) 3 z312) 4 z340) 5 z332) 6 z339)) rfl (show 0 ≤ z332.toInt from by first | exact oz_0b8b4fb05c tz332 tz302 tz272 tz242 tz212 tz182 tz152 tz122 | omega) (show z332.toInt ≤ 1000000 from by first | exact oz_231bd416e9 tz332 nc303 | omega)
                                                  have hgnP343 : Gy (P313 ++ wd_Sym cs q335 (fun _ => 0) (fun _ => none) (upd (upd (upd (upd (upd (upd (upd (fun _ => 0) 0 z336) 1 2) 2 0) 3 z312) 4 z340) 5 z332) 6 z339) (fun _ _ => 0) (fun _ _ => none)) q335 := gy_lastN (s := (upd (upd (upd (upd (upd (upd (upd (fun _ => 0) 0 z336) 1 2) 2 0) 3 z312) 4 z340) 5 z332) 6 z339)) rfl (show 0 ≤ z332.toInt from by first | exact oz_0b8b4fb05c tz332 tz302 tz272 tz242 tz212 tz182 tz152 tz122 | omega) (show z332.toInt ≤ 1000000 from by first | exact oz_231bd416e9 tz332 nc303 | omega) (show z336.toInt ≠ 25 from by first | exact oz_20fca602ed tz336 nc333 | omega)
                                                  have hsyP343 : SymAt (P313 ++ wd_Sym cs q335 (fun _ => 0) (fun _ => none) (upd (upd (upd (upd (upd (upd (upd (fun _ => 0) 0 z336) 1 2) 2 0) 3 z312) 4 z340) 5 z332) 6 z339) (fun _ _ => 0) (fun _ _ => none)) q335 (upd (upd (upd (upd (upd (upd (upd (fun _ => 0) 0 z336) 1 2) 2 0) 3 z312) 4 z340) 5 z332) 6 z339) := sym_last rfl
                                                  have hpxP343 : ∀ (a : Nat) (s : Nat → Int32), SymAt P313 a s → SymAt (P313 ++ wd_Sym cs q335 (fun _ => 0) (fun _ => none) (upd (upd (upd (upd (upd (upd (upd (fun _ => 0) 0 z336) 1 2) 2 0) 3 z312) 4 z340) 5 z332) 6 z339) (fun _ _ => 0) (fun _ _ => none)) a s := sym_app
                                                  generalize (P313 ++ wd_Sym cs q335 (fun _ => 0) (fun _ => none) (upd (upd (upd (upd (upd (upd (upd (fun _ => 0) 0 z336) 1 2) 2 0) 3 z312) 4 z340) 5 z332) 6 z339) (fun _ _ => 0) (fun _ _ => none)) = P343 at hw hpnP343 hsnP343 hfnP343 hgnP343 hsyP343 hpxP343
                                                  have hEl := hpnP343.els hEl; have hEf := hpnP343.elf hEf; have hEg := hpnP343.elg hEg
                                                  have hw : pw D A s.heap _ _ [wd_Nam cs h (fun k => if k = 0 then q1 else if k = 1 then q4 else q7) (fun _ => none) (upd (upd (fun _ => 0) 3 0) 4 0) na89 (fun _ _ => none), wd_Lst cs q1 (fun _ => 0) (fun k => if k = 0 then (some em) else none) (upd (upd (fun _ => 0) 1 0) 2 0) (fun _ _ => 0) (fun _ _ => none), wd_Lst cs q4 (fun _ => 0) (fun k => if k = 0 then (some lq314) else none) lf316 (fun _ _ => 0) (fun _ _ => none), [(lq314, .inl (cs 12, lc315, .inr (.inr (.inr (.inr lg317)))))], P343] := hw
                                                  refine lv_aload_n S.x S.b d_Nam_init_121 rfl (lv_at hl 3 rfl) ?_
                                                  refine px_get S k_Nam hT hw 0 0 1 (v := .ref q4) rfl rfl rfl (by decide) m2_76 d_Nam_init_122 ?_
                                                  refine lv_aload_n S.x S.b d_Nam_init_125 rfl (lv_at hl 1 rfl) ?_
                                                  refine pg_calli (pr := [wd_Nam cs h (fun k => if k = 0 then q1 else if k = 1 then q4 else q7) (fun _ => none) (upd (upd (fun _ => 0) 3 0) 4 0) na89 (fun _ _ => none), wd_Lst cs q1 (fun _ => 0) (fun k => if k = 0 then (some em) else none) (upd (upd (fun _ => 0) 1 0) 2 0) (fun _ _ => 0) (fun _ _ => none)]) (px_runV (As := [.ref q335]) (rest := []) S (c_al_add_T l D cs mi q4 lq314 lc315 lf316 lg317 P343  q335 (show lc315 ≤ 1000000 from by first | exact oz_821cda5014 e326 e296 e266 e236 e206 e176 e146 e116 | omega) (show 10 ≤ lc315 from by first | exact e327 | omega) (show 0 ≤ (lf316 1).toInt from by first | exact oz_0b8b4fb05c e322 e292 e262 e232 e202 e172 e142 e112 | omega) (show (lf316 1).toInt ≤ (lc315 : Int) from by first | exact e323 | omega) (by first | assumption | exact ElF.els (by assumption)) (by first | assumption | exact sy_none | exact fy_none | exact Fy.sy (by assumption) | exact sy_some (by assumption)) _ _) hT (pr := [wd_Nam cs h (fun k => if k = 0 then q1 else if k = 1 then q4 else q7) (fun _ => none) (upd (upd (fun _ => 0) 3 0) 4 0) na89 (fun _ _ => none), wd_Lst cs q1 (fun _ => 0) (fun k => if k = 0 then (some em) else none) (upd (upd (fun _ => 0) 1 0) 2 0) (fun _ _ => 0) (fun _ _ => none)]) (pcs := [wd_Lst cs q4 (fun _ => 0) (fun k => if k = 0 then (some lq314) else none) lf316 (fun _ _ => 0) (fun _ _ => none), [(lq314, .inl (cs 12, lc315, .inr (.inr (.inr (.inr lg317)))))], P343]) hw (px_X.tot (oX_call (P := (fun A U H => (va_Mi "[Ljava/lang/Object;" mi U))) (pr := [wd_Nam cs h (fun k => if k = 0 then q1 else if k = 1 then q4 else q7) (fun _ => none) (upd (upd (fun _ => 0) 3 0) 4 0) na89 (fun _ _ => none), wd_Lst cs q1 (fun _ => 0) (fun k => if k = 0 then (some em) else none) (upd (upd (fun _ => 0) 1 0) 2 0) (fun _ _ => 0) (fun _ _ => none)]) oG_M hw hA hM)) (px_recv hT hw 2 0 rfl rfl rfl) m2_9 m2_6 m2_7 m2_8 m1_10 q_Lst_add2 ⟨Nat.le_of_ble_eq_true rfl, Nat.le_of_ble_eq_true rfl⟩ hl.1 rfl (Nat.le_of_ble_eq_true rfl) d_Nam_init_126 ⟨show ((((((((((((((((((((0 + 1) + 1) + 1) + 1) + k110) + 1) + k140) + 1) + k170) + 1) + k200) + 1) + k230) + 1) + k260) + 1) + k290) + 1) + k320) + 1) + (1) ≤ 6000 from (by first | exact oz_579e12fb25 e119 e149 e179 e209 e239 e269 e299 e329 | omega), show ((((((((((((((((((((0 + 3) + 3) + 2048) + 7) + n111) + 7) + n141) + 7) + n171) + 7) + n201) + 7) + n231) + 7) + n261) + 7) + n291) + 7) + n321) + 7) + (4 * lc315 + 40) ≤ 60000 from by omega⟩) hw hA (fun v349 p348 k350 n351 H locs hp348 hw => ?_)
                                                  dsimp only at hp348
                                                  obtain ⟨lq344, lc345, lf346, lg347, rfl, e352, e353, e354, e355, e356, e357, e358, e359, e360, e361⟩ := hp348
                                                  have e352 : (lf346 1).toInt = (lf316 1).toInt + 1 := e352
                                                  have e353 : (lf346 1).toInt ≤ (lc345 : Int) := e353
                                                  have e354 : AddL (lf316 1) lg317 lg347 q335 := e354
                                                  have e355 : (lc315 : Int) ≤ (lc345 : Int) := e355
                                                  have e356 : (lc345 : Int) ≤ 2 * (lc315 : Int) + 10 := e356
                                                  have e357 : 10 ≤ lc345 := e357
                                                  have e358 : Lcap lc315 (lf316 1) lc345 := e358
                                                  have e359 : k350 ≤ 1 := e359
                                                  have e360 : (k350 : Int) ≤ (lc345 : Int) - (lc315 : Int) := e360
                                                  have e361 : (n351 : Int) ≤ 4 * ((lc345 : Int) - (lc315 : Int)) := e361
                                                  have hw : pw D A s.heap H locs [wd_Nam cs h (fun k => if k = 0 then q1 else if k = 1 then q4 else q7) (fun _ => none) (upd (upd (fun _ => 0) 3 0) 4 0) na89 (fun _ _ => none), wd_Lst cs q1 (fun _ => 0) (fun k => if k = 0 then (some em) else none) (upd (upd (fun _ => 0) 1 0) 2 0) (fun _ _ => 0) (fun _ _ => none), wd_Lst cs q4 (fun _ => 0) (fun k => if k = 0 then (some lq344) else none) lf346 (fun _ _ => 0) (fun _ _ => none), [(lq344, .inl (cs 12, lc345, .inr (.inr (.inr (.inr lg347)))))], P343] := hw
                                                  have lv349 := Int32.le_toInt v349
                                                  have uv349 := Int32.toInt_lt v349
                                                  have hfe : FunE na89 P343 lg347 14 (GV.take 9) := fe_s (n := (lf316 1)) (s := (upd (upd (upd (upd (upd (upd (upd (fun _ => 0) 0 z336) 1 2) 2 0) 3 z312) 4 z340) 5 z332) 6 z339)) (fg := lg317) 8 11 (23, 3, [1, 17]) rfl (by decide) (by decide) hwk hfe hpxP343 hsyP343 (by assumption) (show (lf316 1).toInt = 8 from by first | exact oz_669628ecb5 e322 e292 e262 e232 e202 e172 e142 e112 | omega) (show z336 = (23 : Int32) from Int32.toInt_inj.mp (show z336.toInt = 23 from by first | exact oz_dce51d93f3 tz336 tz332 tz302 tz272 tz242 tz212 tz182 tz152 tz122 | omega)) rfl (show z339.toInt = 3 from by first | exact vz339 | omega) (show z340.toInt = 2 from by first | exact vz340 | omega) (show z312.toInt = 11 from by omega)
                                                  have hlcb361 := Lcap.le (B := 5000) (by assumption) (by omega) (by omega); have helf := AddL.elf (n' := (lf346 1)) (by assumption) hEf (by assumption) (by omega); have helg := AddL.elg (n' := (lf346 1)) (by assumption) hEg (by assumption) (by omega); have hEf := helf; have hEg := helg; clear helf helg
                                                  refine lv_pop S.x S.b d_Nam_init_129 rfl ?_
                                                  obtain ⟨z362, ez362⟩ : ∃ y : Int32, y = z332 + 1 := ⟨_, rfl⟩
                                                  have tz362 : z362.toInt = (z332.toInt + 1 + 2147483648) % 4294967296 - 2147483648 := by rw [ez362]; exact i_add z332 1
                                                  have lz362 := Int32.le_toInt z362
                                                  have uz362 := Int32.toInt_lt z362
                                                  try replace tz362 : z362.toInt = z332.toInt + 1 := by omega
                                                  refine lv_iinc (v := z362) (lv' := [(2, .int z362), (1, .int z342), (3, .ref q335), (0, .ref h)]) S.x S.b d_Nam_init_130 hl (k := 2) rfl (by rw [ez362]; rfl) (by decide) rfl (fun ls hl => ?_)
                                                  refine lv_goto (tgt := 66) S.x S.b d_Nam_init_133 (by decide) ?_
                                                  refine lv_iload_n S.x S.b d_Nam_init_66 rfl (lv_at hl 0 rfl) ?_
                                                  refine lv_bipush (v := 10) S.x S.b d_Nam_init_67 (by decide) ?_
                                                  refine lv_icmp_ge (tgt := 136) S.x S.b d_Nam_init_69 (by decide) (fun c363 => ?_) (fun c363 => ?_)
                                                  · have nc363 : (10 : Int) ≤ z362.toInt := (i_le (x := 10) (y := z362)).mp c363
                                                    exfalso
                                                    omega
                                                  · have nc363 : ¬ (10 : Int) ≤ z362.toInt := mt (i_le (x := 10) (y := z362)).mpr c363
                                                    refine px_new S k_Sym hT hw hA m1_202 m1_203 m1_11 (fs := [.int 0, .int 0, .int 0, .int 0, .int 0, .int 0, .int 0]) (by decide +kernel) (show (((((((((((((((((((((0 + 1) + 1) + 1) + 1) + k110) + 1) + k140) + 1) + k170) + 1) + k200) + 1) + k230) + 1) + k260) + 1) + k290) + 1) + k320) + 1) + k350) + 1 ≤ 6000 from by first | exact oz_c62e74950e e119 e149 e179 e209 e239 e269 e299 e329 e359 | omega) (show (((((((((((((((((((((0 + 3) + 3) + 2048) + 7) + n111) + 7) + n141) + 7) + n171) + 7) + n201) + 7) + n231) + 7) + n261) + 7) + n291) + 7) + n321) + 7) + n351) + 7 ≤ 60000 from by omega) d_Nam_init_72 (fun q365 H hw => ?_)
                                                    have hw : pw D A s.heap H _ [wd_Nam cs h (fun k => if k = 0 then q1 else if k = 1 then q4 else q7) (fun _ => none) (upd (upd (fun _ => 0) 3 0) 4 0) na89 (fun _ _ => none), wd_Lst cs q1 (fun _ => 0) (fun k => if k = 0 then (some em) else none) (upd (upd (fun _ => 0) 1 0) 2 0) (fun _ _ => 0) (fun _ _ => none), wd_Lst cs q4 (fun _ => 0) (fun k => if k = 0 then (some lq344) else none) lf346 (fun _ _ => 0) (fun _ _ => none), [(lq344, .inl (cs 12, lc345, .inr (.inr (.inr (.inr lg347)))))], P343, [(q365, .inr (3, [.int 0, .int 0, .int 0, .int 0, .int 0, .int 0, .int 0]))]] := hw
                                                    refine lv_dup S.x S.b d_Nam_init_75 rfl ?_
                                                    refine lv_bipush (v := 15) S.x S.b d_Nam_init_76 (by decide) ?_
                                                    refine lv_iload_n S.x S.b d_Nam_init_78 rfl (lv_at hl 0 rfl) ?_
                                                    refine lv_iadd S.x S.b d_Nam_init_79 ?_
                                                    refine lv_topi (fun z366 ez366 => ?_)
                                                    have tz366 : z366.toInt = ((15 : Int) + z362.toInt + 2147483648) % 4294967296 - 2147483648 := by rw [ez366]; exact i_add 15 z362
                                                    have lz366 := Int32.le_toInt z366
                                                    have uz366 := Int32.toInt_lt z366
                                                    try replace tz366 : z366.toInt = (15 : Int) + z362.toInt := by omega
                                                    refine lv_iconst (v := 2) S.x S.b d_Nam_init_80 (by decide) ?_
                                                    refine px_callv (pr := [wd_Nam cs h (fun k => if k = 0 then q1 else if k = 1 then q4 else q7) (fun _ => none) (upd (upd (fun _ => 0) 3 0) 4 0) na89 (fun _ _ => none), wd_Lst cs q1 (fun _ => 0) (fun k => if k = 0 then (some em) else none) (upd (upd (fun _ => 0) 1 0) 2 0) (fun _ _ => 0) (fun _ _ => none), wd_Lst cs q4 (fun _ => 0) (fun k => if k = 0 then (some lq344) else none) lf346 (fun _ _ => 0) (fun _ _ => none), [(lq344, .inl (cs 12, lc345, .inr (.inr (.inr (.inr lg347)))))], P343]) (px_runI (As := [.int z366, .int 2]) (rest := [.ref q365]) S (c_Sym_init l D cs q365 z366 2 _) hT (pr := [wd_Nam cs h (fun k => if k = 0 then q1 else if k = 1 then q4 else q7) (fun _ => none) (upd (upd (fun _ => 0) 3 0) 4 0) na89 (fun _ _ => none), wd_Lst cs q1 (fun _ => 0) (fun k => if k = 0 then (some em) else none) (upd (upd (fun _ => 0) 1 0) 2 0) (fun _ _ => 0) (fun _ _ => none), wd_Lst cs q4 (fun _ => 0) (fun k => if k = 0 then (some lq344) else none) lf346 (fun _ _ => 0) (fun _ _ => none), [(lq344, .inl (cs 12, lc345, .inr (.inr (.inr (.inr lg347)))))], P343]) (pcs := [[(q365, .inr (3, [.int 0, .int 0, .int 0, .int 0, .int 0, .int 0, .int 0]))]]) hw px_X.tt m1_206 m1_204 m1_205 m1_11 rfl q_Sym_init ⟨Nat.le_of_ble_eq_true rfl, Nat.le_of_ble_eq_true rfl⟩ hl.1 rfl (Nat.le_of_ble_eq_true rfl) d_Nam_init_81 ⟨show ((((((((((((((((((((((0 + 1) + 1) + 1) + 1) + k110) + 1) + k140) + 1) + k170) + 1) + k200) + 1) + k230) + 1) + k260) + 1) + k290) + 1) + k320) + 1) + k350) + 1) + 0 ≤ 6000 from (by first | exact oz_f0f6884f5c e119 e149 e179 e209 e239 e269 e299 e329 e359 | omega), show ((((((((((((((((((((((0 + 3) + 3) + 2048) + 7) + n111) + 7) + n141) + 7) + n171) + 7) + n201) + 7) + n231) + 7) + n261) + 7) + n291) + 7) + n321) + 7) + n351) + 7) + 0 ≤ 60000 from by omega⟩) hw hA (fun p367 H locs hp367 hw => ?_)
                                                    subst hp367
                                                    have hw : pw D A s.heap H locs [wd_Nam cs h (fun k => if k = 0 then q1 else if k = 1 then q4 else q7) (fun _ => none) (upd (upd (fun _ => 0) 3 0) 4 0) na89 (fun _ _ => none), wd_Lst cs q1 (fun _ => 0) (fun k => if k = 0 then (some em) else none) (upd (upd (fun _ => 0) 1 0) 2 0) (fun _ _ => 0) (fun _ _ => none), wd_Lst cs q4 (fun _ => 0) (fun k => if k = 0 then (some lq344) else none) lf346 (fun _ _ => 0) (fun _ _ => none), [(lq344, .inl (cs 12, lc345, .inr (.inr (.inr (.inr lg347)))))], P343, wd_Sym cs q365 (fun _ => 0) (fun _ => none) (upd (upd (upd (upd (upd (upd (upd (fun _ => 0) 0 z366) 1 2) 2 0) 3 0) 4 0) 5 0) 6 0) (fun _ _ => 0) (fun _ _ => none)] := hw
                                                    refine lv_astore_n (lv' := [(3, .ref q365), (2, .int z362), (1, .int z342), (0, .ref h)]) S.x S.b d_Nam_init_84 rfl hl (by decide) rfl (fun ls hl => ?_)
                                                    refine lv_aload_n S.x S.b d_Nam_init_85 rfl (lv_at hl 0 rfl) ?_
                                                    refine lv_iload_n S.x S.b d_Nam_init_86 rfl (lv_at hl 1 rfl) ?_
                                                    refine px_put S k_Sym hT hw 5 0 5 rfl rfl (by decide) m1_221 rfl rfl rfl (Nat.le_of_ble_eq_true rfl) d_Nam_init_87 (w' := wd_Sym cs q365 (fun _ => 0) (fun _ => none) (upd (upd (upd (upd (upd (upd (upd (fun _ => 0) 0 z366) 1 2) 2 0) 3 0) 4 0) 5 z362) 6 0) (fun _ _ => 0) (fun _ _ => none)) (ps' := [wd_Nam cs h (fun k => if k = 0 then q1 else if k = 1 then q4 else q7) (fun _ => none) (upd (upd (fun _ => 0) 3 0) 4 0) na89 (fun _ _ => none), wd_Lst cs q1 (fun _ => 0) (fun k => if k = 0 then (some em) else none) (upd (upd (fun _ => 0) 1 0) 2 0) (fun _ _ => 0) (fun _ _ => none), wd_Lst cs q4 (fun _ => 0) (fun k => if k = 0 then (some lq344) else none) lf346 (fun _ _ => 0) (fun _ _ => none), [(lq344, .inl (cs 12, lc345, .inr (.inr (.inr (.inr lg347)))))], P343, wd_Sym cs q365 (fun _ => 0) (fun _ => none) (upd (upd (upd (upd (upd (upd (upd (fun _ => 0) 0 z366) 1 2) 2 0) 3 0) 4 0) 5 z362) 6 0) (fun _ _ => 0) (fun _ _ => none)]) rfl rfl (fun H locs hw => ?_)
                                                    refine lv_aload_n S.x S.b d_Nam_init_90 rfl (lv_at hl 0 rfl) ?_
                                                    refine va_getsN S.x S.b hqtG1 hw.2.2 S.own (va_Nw.use rfl (hT.2.2 _ m2_2n rfl)) (fun _ h => h) d_Nam_init_91 ?_
                                                    refine lv_iload_n S.x S.b d_Nam_init_94 rfl (lv_at hl 1 rfl) ?_
                                                    refine va_ti S.x S.b hqtG2 hw.2.2 (i := z362) (vp_in_iff.mpr (by constructor <;> omega)) rfl d_Nam_init_95 ?_
                                                    refine lv_topi (fun z369 ez369 => ?_)
                                                    have lz369 := Int32.le_toInt z369
                                                    have uz369 := Int32.toInt_lt z369
                                                    have vz369 : z369.toInt = 3 := gvw_at (bs := GTb) (i := 9) ez369 (show z362.toInt = 9 from by first | exact oz_6af167a687 nc363 tz362 tz332 tz302 tz272 tz242 tz212 tz182 tz152 tz122 | omega) rfl
                                                    refine px_put S k_Sym hT hw 5 0 6 rfl rfl (by decide) m1_224 rfl rfl rfl (Nat.le_of_ble_eq_true rfl) d_Nam_init_96 (w' := wd_Sym cs q365 (fun _ => 0) (fun _ => none) (upd (upd (upd (upd (upd (upd (upd (fun _ => 0) 0 z366) 1 2) 2 0) 3 0) 4 0) 5 z362) 6 z369) (fun _ _ => 0) (fun _ _ => none)) (ps' := [wd_Nam cs h (fun k => if k = 0 then q1 else if k = 1 then q4 else q7) (fun _ => none) (upd (upd (fun _ => 0) 3 0) 4 0) na89 (fun _ _ => none), wd_Lst cs q1 (fun _ => 0) (fun k => if k = 0 then (some em) else none) (upd (upd (fun _ => 0) 1 0) 2 0) (fun _ _ => 0) (fun _ _ => none), wd_Lst cs q4 (fun _ => 0) (fun k => if k = 0 then (some lq344) else none) lf346 (fun _ _ => 0) (fun _ _ => none), [(lq344, .inl (cs 12, lc345, .inr (.inr (.inr (.inr lg347)))))], P343, wd_Sym cs q365 (fun _ => 0) (fun _ => none) (upd (upd (upd (upd (upd (upd (upd (fun _ => 0) 0 z366) 1 2) 2 0) 3 0) 4 0) 5 z362) 6 z369) (fun _ _ => 0) (fun _ _ => none)]) rfl rfl (fun H locs hw => ?_)
                                                    refine lv_aload_n S.x S.b d_Nam_init_99 rfl (lv_at hl 0 rfl) ?_
                                                    refine lv_iload_n S.x S.b d_Nam_init_100 rfl (lv_at hl 2 rfl) ?_
                                                    refine px_put S k_Sym hT hw 5 0 3 rfl rfl (by decide) m1_215 rfl rfl rfl (Nat.le_of_ble_eq_true rfl) d_Nam_init_101 (w' := wd_Sym cs q365 (fun _ => 0) (fun _ => none) (upd (upd (upd (upd (upd (upd (upd (fun _ => 0) 0 z366) 1 2) 2 0) 3 z342) 4 0) 5 z362) 6 z369) (fun _ _ => 0) (fun _ _ => none)) (ps' := [wd_Nam cs h (fun k => if k = 0 then q1 else if k = 1 then q4 else q7) (fun _ => none) (upd (upd (fun _ => 0) 3 0) 4 0) na89 (fun _ _ => none), wd_Lst cs q1 (fun _ => 0) (fun k => if k = 0 then (some em) else none) (upd (upd (fun _ => 0) 1 0) 2 0) (fun _ _ => 0) (fun _ _ => none), wd_Lst cs q4 (fun _ => 0) (fun k => if k = 0 then (some lq344) else none) lf346 (fun _ _ => 0) (fun _ _ => none), [(lq344, .inl (cs 12, lc345, .inr (.inr (.inr (.inr lg347)))))], P343, wd_Sym cs q365 (fun _ => 0) (fun _ => none) (upd (upd (upd (upd (upd (upd (upd (fun _ => 0) 0 z366) 1 2) 2 0) 3 z342) 4 0) 5 z362) 6 z369) (fun _ _ => 0) (fun _ _ => none)]) rfl rfl (fun H locs hw => ?_)
                                                    refine lv_aload_n S.x S.b d_Nam_init_104 rfl (lv_at hl 0 rfl) ?_
                                                    refine va_getsN S.x S.b hqcG1 hw.2.2 S.own (va_Nw.use rfl (hT.2.2 _ m2_4n rfl)) (fun _ h => h) d_Nam_init_105 ?_
                                                    refine lv_iload_n S.x S.b d_Nam_init_108 rfl (lv_at hl 1 rfl) ?_
                                                    refine va_ti S.x S.b hqcG2 hw.2.2 (i := z362) (vp_in_iff.mpr (by constructor <;> omega)) rfl d_Nam_init_109 ?_
                                                    refine lv_topi (fun z370 ez370 => ?_)
                                                    have lz370 := Int32.le_toInt z370
                                                    have uz370 := Int32.toInt_lt z370
                                                    have vz370 : z370.toInt = 1 := gvw_at (bs := GCb) (i := 9) ez370 (show z362.toInt = 9 from by first | exact oz_6af167a687 nc363 tz362 tz332 tz302 tz272 tz242 tz212 tz182 tz152 tz122 | omega) rfl
                                                    refine px_put S k_Sym hT hw 5 0 4 rfl rfl (by decide) m1_218 rfl rfl rfl (Nat.le_of_ble_eq_true rfl) d_Nam_init_110 (w' := wd_Sym cs q365 (fun _ => 0) (fun _ => none) (upd (upd (upd (upd (upd (upd (upd (fun _ => 0) 0 z366) 1 2) 2 0) 3 z342) 4 z370) 5 z362) 6 z369) (fun _ _ => 0) (fun _ _ => none)) (ps' := [wd_Nam cs h (fun k => if k = 0 then q1 else if k = 1 then q4 else q7) (fun _ => none) (upd (upd (fun _ => 0) 3 0) 4 0) na89 (fun _ _ => none), wd_Lst cs q1 (fun _ => 0) (fun k => if k = 0 then (some em) else none) (upd (upd (fun _ => 0) 1 0) 2 0) (fun _ _ => 0) (fun _ _ => none), wd_Lst cs q4 (fun _ => 0) (fun k => if k = 0 then (some lq344) else none) lf346 (fun _ _ => 0) (fun _ _ => none), [(lq344, .inl (cs 12, lc345, .inr (.inr (.inr (.inr lg347)))))], P343, wd_Sym cs q365 (fun _ => 0) (fun _ => none) (upd (upd (upd (upd (upd (upd (upd (fun _ => 0) 0 z366) 1 2) 2 0) 3 z342) 4 z370) 5 z362) 6 z369) (fun _ _ => 0) (fun _ _ => none)]) rfl rfl (fun H locs hw => ?_)
                                                    refine lv_iload_n S.x S.b d_Nam_init_113 rfl (lv_at hl 2 rfl) ?_
                                                    refine va_getsN S.x S.b hqcG1 hw.2.2 S.own (va_Nw.use rfl (hT.2.2 _ m2_4n rfl)) (fun _ h => h) d_Nam_init_114 ?_
                                                    refine lv_iload_n S.x S.b d_Nam_init_117 rfl (lv_at hl 1 rfl) ?_
                                                    refine va_ti S.x S.b hqcG2 hw.2.2 (i := z362) (vp_in_iff.mpr (by constructor <;> omega)) rfl d_Nam_init_118 ?_
                                                    refine lv_topi (fun z371 ez371 => ?_)
                                                    have lz371 := Int32.le_toInt z371
                                                    have uz371 := Int32.toInt_lt z371
                                                    have vz371 : z371.toInt = 1 := gvw_at (bs := GCb) (i := 9) ez371 (show z362.toInt = 9 from by first | exact oz_6af167a687 nc363 tz362 tz332 tz302 tz272 tz242 tz212 tz182 tz152 tz122 | omega) rfl
                                                    refine lv_iadd S.x S.b d_Nam_init_119 ?_
                                                    refine lv_topi (fun z372 ez372 => ?_)
                                                    have tz372 : z372.toInt = (z342.toInt + z371.toInt + 2147483648) % 4294967296 - 2147483648 := by rw [ez372]; exact i_add z342 z371
                                                    have lz372 := Int32.le_toInt z372
                                                    have uz372 := Int32.toInt_lt z372
                                                    try replace tz372 : z372.toInt = z342.toInt + z371.toInt := by omega
                                                    refine lv_istore_n (lv' := [(1, .int z372), (3, .ref q365), (2, .int z362), (0, .ref h)]) S.x S.b d_Nam_init_120 rfl hl (by decide) rfl (fun ls hl => ?_)
                                                    have hw : pw D A s.heap _ _ ([wd_Nam cs h (fun k => if k = 0 then q1 else if k = 1 then q4 else q7) (fun _ => none) (upd (upd (fun _ => 0) 3 0) 4 0) na89 (fun _ _ => none), wd_Lst cs q1 (fun _ => 0) (fun k => if k = 0 then (some em) else none) (upd (upd (fun _ => 0) 1 0) 2 0) (fun _ _ => 0) (fun _ _ => none), wd_Lst cs q4 (fun _ => 0) (fun k => if k = 0 then (some lq344) else none) lf346 (fun _ _ => 0) (fun _ _ => none), [(lq344, .inl (cs 12, lc345, .inr (.inr (.inr (.inr lg347)))))]] ++ [P343, wd_Sym cs q365 (fun _ => 0) (fun _ => none) (upd (upd (upd (upd (upd (upd (upd (fun _ => 0) 0 z366) 1 2) 2 0) 3 z342) 4 z370) 5 z362) 6 z369) (fun _ _ => 0) (fun _ _ => none)]) := hw.sub [0, 1, 2, 3, 4, 5] rfl rfl
                                                    have hw := pw_join hw
                                                    have hpnP373 : Pg P343 (P343 ++ wd_Sym cs q365 (fun _ => 0) (fun _ => none) (upd (upd (upd (upd (upd (upd (upd (fun _ => 0) 0 z366) 1 2) 2 0) 3 z342) 4 z370) 5 z362) 6 z369) (fun _ _ => 0) (fun _ _ => none)) := pg_app
                                                    have hsnP373 : Sy (P343 ++ wd_Sym cs q365 (fun _ => 0) (fun _ => none) (upd (upd (upd (upd (upd (upd (upd (fun _ => 0) 0 z366) 1 2) 2 0) 3 z342) 4 z370) 5 z362) 6 z369) (fun _ _ => 0) (fun _ _ => none)) (some q365) := sy_last (s := (upd (upd (upd (upd (upd (upd (upd (fun _ => 0) 0 z366) 1 2) 2 0) 3 z342) 4 z370) 5 z362) 6 z369)) rfl
                                                    have hfnP373 : Fy (P343 ++ wd_Sym cs q365 (fun _ => 0) (fun _ => none) (upd (upd (upd (upd (upd (upd (upd (fun _ => 0) 0 z366) 1 2) 2 0) 3 z342) 4 z370) 5 z362) 6 z369) (fun _ _ => 0) (fun _ _ => none)) (some q365) := fy_last (s := (upd (upd (upd (upd (upd (upd (upd (fun _ => 0) 0 z366) 1 2) 2 0) 3 z342) 4 z370) 5 z362) 6 z369)) rfl (show 0 ≤ z362.toInt from by first | exact oz_41a8f41cc9 tz362 tz332 tz302 tz272 tz242 tz212 tz182 tz152 tz122 | omega) (show z362.toInt ≤ 1000000 from by first | exact oz_231bd416e9 tz362 nc333 | omega)
                                                    have hgnP373 : Gy (P343 ++ wd_Sym cs q365 (fun _ => 0) (fun _ => none) (upd (upd (upd (upd (upd (upd (upd (fun _ => 0) 0 z366) 1 2) 2 0) 3 z342) 4 z370) 5 z362) 6 z369) (fun _ _ => 0) (fun _ _ => none)) q365 := gy_lastN (s := (upd (upd (upd (upd (upd (upd (upd (fun _ => 0) 0 z366) 1 2) 2 0) 3 z342) 4 z370) 5 z362) 6 z369)) rfl (show 0 ≤ z362.toInt from by first | exact oz_41a8f41cc9 tz362 tz332 tz302 tz272 tz242 tz212 tz182 tz152 tz122 | omega) (show z362.toInt ≤ 1000000 from by first | exact oz_231bd416e9 tz362 nc333 | omega) (show z366.toInt ≠ 25 from by first | exact oz_20fca602ed tz366 nc363 | omega)
                                                    have hsyP373 : SymAt (P343 ++ wd_Sym cs q365 (fun _ => 0) (fun _ => none) (upd (upd (upd (upd (upd (upd (upd (fun _ => 0) 0 z366) 1 2) 2 0) 3 z342) 4 z370) 5 z362) 6 z369) (fun _ _ => 0) (fun _ _ => none)) q365 (upd (upd (upd (upd (upd (upd (upd (fun _ => 0) 0 z366) 1 2) 2 0) 3 z342) 4 z370) 5 z362) 6 z369) := sym_last rfl
                                                    have hpxP373 : ∀ (a : Nat) (s : Nat → Int32), SymAt P343 a s → SymAt (P343 ++ wd_Sym cs q365 (fun _ => 0) (fun _ => none) (upd (upd (upd (upd (upd (upd (upd (fun _ => 0) 0 z366) 1 2) 2 0) 3 z342) 4 z370) 5 z362) 6 z369) (fun _ _ => 0) (fun _ _ => none)) a s := sym_app
                                                    generalize (P343 ++ wd_Sym cs q365 (fun _ => 0) (fun _ => none) (upd (upd (upd (upd (upd (upd (upd (fun _ => 0) 0 z366) 1 2) 2 0) 3 z342) 4 z370) 5 z362) 6 z369) (fun _ _ => 0) (fun _ _ => none)) = P373 at hw hpnP373 hsnP373 hfnP373 hgnP373 hsyP373 hpxP373
                                                    have hEl := hpnP373.els hEl; have hEf := hpnP373.elf hEf; have hEg := hpnP373.elg hEg
                                                    have hw : pw D A s.heap _ _ [wd_Nam cs h (fun k => if k = 0 then q1 else if k = 1 then q4 else q7) (fun _ => none) (upd (upd (fun _ => 0) 3 0) 4 0) na89 (fun _ _ => none), wd_Lst cs q1 (fun _ => 0) (fun k => if k = 0 then (some em) else none) (upd (upd (fun _ => 0) 1 0) 2 0) (fun _ _ => 0) (fun _ _ => none), wd_Lst cs q4 (fun _ => 0) (fun k => if k = 0 then (some lq344) else none) lf346 (fun _ _ => 0) (fun _ _ => none), [(lq344, .inl (cs 12, lc345, .inr (.inr (.inr (.inr lg347)))))], P373] := hw
                                                    refine lv_aload_n S.x S.b d_Nam_init_121 rfl (lv_at hl 3 rfl) ?_
                                                    refine px_get S k_Nam hT hw 0 0 1 (v := .ref q4) rfl rfl rfl (by decide) m2_76 d_Nam_init_122 ?_
                                                    refine lv_aload_n S.x S.b d_Nam_init_125 rfl (lv_at hl 1 rfl) ?_
                                                    refine pg_calli (pr := [wd_Nam cs h (fun k => if k = 0 then q1 else if k = 1 then q4 else q7) (fun _ => none) (upd (upd (fun _ => 0) 3 0) 4 0) na89 (fun _ _ => none), wd_Lst cs q1 (fun _ => 0) (fun k => if k = 0 then (some em) else none) (upd (upd (fun _ => 0) 1 0) 2 0) (fun _ _ => 0) (fun _ _ => none)]) (px_runV (As := [.ref q365]) (rest := []) S (c_al_add_T l D cs mi q4 lq344 lc345 lf346 lg347 P373  q365 (show lc345 ≤ 1000000 from by first | exact oz_3e1ff33400 e356 e326 e296 e266 e236 e206 e176 e146 e116 | omega) (show 10 ≤ lc345 from by first | exact e357 | omega) (show 0 ≤ (lf346 1).toInt from by first | exact oz_41a8f41cc9 e352 e322 e292 e262 e232 e202 e172 e142 e112 | omega) (show (lf346 1).toInt ≤ (lc345 : Int) from by first | exact e353 | omega) (by first | assumption | exact ElF.els (by assumption)) (by first | assumption | exact sy_none | exact fy_none | exact Fy.sy (by assumption) | exact sy_some (by assumption)) _ _) hT (pr := [wd_Nam cs h (fun k => if k = 0 then q1 else if k = 1 then q4 else q7) (fun _ => none) (upd (upd (fun _ => 0) 3 0) 4 0) na89 (fun _ _ => none), wd_Lst cs q1 (fun _ => 0) (fun k => if k = 0 then (some em) else none) (upd (upd (fun _ => 0) 1 0) 2 0) (fun _ _ => 0) (fun _ _ => none)]) (pcs := [wd_Lst cs q4 (fun _ => 0) (fun k => if k = 0 then (some lq344) else none) lf346 (fun _ _ => 0) (fun _ _ => none), [(lq344, .inl (cs 12, lc345, .inr (.inr (.inr (.inr lg347)))))], P373]) hw (px_X.tot (oX_call (P := (fun A U H => (va_Mi "[Ljava/lang/Object;" mi U))) (pr := [wd_Nam cs h (fun k => if k = 0 then q1 else if k = 1 then q4 else q7) (fun _ => none) (upd (upd (fun _ => 0) 3 0) 4 0) na89 (fun _ _ => none), wd_Lst cs q1 (fun _ => 0) (fun k => if k = 0 then (some em) else none) (upd (upd (fun _ => 0) 1 0) 2 0) (fun _ _ => 0) (fun _ _ => none)]) oG_M hw hA hM)) (px_recv hT hw 2 0 rfl rfl rfl) m2_9 m2_6 m2_7 m2_8 m1_10 q_Lst_add2 ⟨Nat.le_of_ble_eq_true rfl, Nat.le_of_ble_eq_true rfl⟩ hl.1 rfl (Nat.le_of_ble_eq_true rfl) d_Nam_init_126 ⟨show ((((((((((((((((((((((0 + 1) + 1) + 1) + 1) + k110) + 1) + k140) + 1) + k170) + 1) + k200) + 1) + k230) + 1) + k260) + 1) + k290) + 1) + k320) + 1) + k350) + 1) + (1) ≤ 6000 from (by first | exact oz_549fd81755 e119 e149 e179 e209 e239 e269 e299 e329 e359 | omega), show ((((((((((((((((((((((0 + 3) + 3) + 2048) + 7) + n111) + 7) + n141) + 7) + n171) + 7) + n201) + 7) + n231) + 7) + n261) + 7) + n291) + 7) + n321) + 7) + n351) + 7) + (4 * lc345 + 40) ≤ 60000 from by omega⟩) hw hA (fun v379 p378 k380 n381 H locs hp378 hw => ?_)
                                                    dsimp only at hp378
                                                    obtain ⟨lq374, lc375, lf376, lg377, rfl, e382, e383, e384, e385, e386, e387, e388, e389, e390, e391⟩ := hp378
                                                    have e382 : (lf376 1).toInt = (lf346 1).toInt + 1 := e382
                                                    have e383 : (lf376 1).toInt ≤ (lc375 : Int) := e383
                                                    have e384 : AddL (lf346 1) lg347 lg377 q365 := e384
                                                    have e385 : (lc345 : Int) ≤ (lc375 : Int) := e385
                                                    have e386 : (lc375 : Int) ≤ 2 * (lc345 : Int) + 10 := e386
                                                    have e387 : 10 ≤ lc375 := e387
                                                    have e388 : Lcap lc345 (lf346 1) lc375 := e388
                                                    have e389 : k380 ≤ 1 := e389
                                                    have e390 : (k380 : Int) ≤ (lc375 : Int) - (lc345 : Int) := e390
                                                    have e391 : (n381 : Int) ≤ 4 * ((lc375 : Int) - (lc345 : Int)) := e391
                                                    have hw : pw D A s.heap H locs [wd_Nam cs h (fun k => if k = 0 then q1 else if k = 1 then q4 else q7) (fun _ => none) (upd (upd (fun _ => 0) 3 0) 4 0) na89 (fun _ _ => none), wd_Lst cs q1 (fun _ => 0) (fun k => if k = 0 then (some em) else none) (upd (upd (fun _ => 0) 1 0) 2 0) (fun _ _ => 0) (fun _ _ => none), wd_Lst cs q4 (fun _ => 0) (fun k => if k = 0 then (some lq374) else none) lf376 (fun _ _ => 0) (fun _ _ => none), [(lq374, .inl (cs 12, lc375, .inr (.inr (.inr (.inr lg377)))))], P373] := hw
                                                    have lv379 := Int32.le_toInt v379
                                                    have uv379 := Int32.toInt_lt v379
                                                    have hfe : FunE na89 P373 lg377 14 (GV.take 10) := fe_s (n := (lf346 1)) (s := (upd (upd (upd (upd (upd (upd (upd (fun _ => 0) 0 z366) 1 2) 2 0) 3 z342) 4 z370) 5 z362) 6 z369)) (fg := lg347) 9 13 (24, 3, [1]) rfl (by decide) (by decide) hwk hfe hpxP373 hsyP373 (by assumption) (show (lf346 1).toInt = 9 from by first | exact oz_f8280fa592 e352 e322 e292 e262 e232 e202 e172 e142 e112 | omega) (show z366 = (24 : Int32) from Int32.toInt_inj.mp (show z366.toInt = 24 from by first | exact oz_e0b2b3010b tz366 nc363 tz362 tz332 tz302 tz272 tz242 tz212 tz182 tz152 tz122 | omega)) rfl (show z369.toInt = 3 from by first | exact vz369 | omega) (show z370.toInt = 1 from by first | exact vz370 | omega) (show z342.toInt = 13 from by omega)
                                                    have hlcb391 := Lcap.le (B := 5000) (by assumption) (by omega) (by omega); have helf := AddL.elf (n' := (lf376 1)) (by assumption) hEf (by assumption) (by omega); have helg := AddL.elg (n' := (lf376 1)) (by assumption) hEg (by assumption) (by omega); have hEf := helf; have hEg := helg; clear helf helg
                                                    refine lv_pop S.x S.b d_Nam_init_129 rfl ?_
                                                    obtain ⟨z392, ez392⟩ : ∃ y : Int32, y = z362 + 1 := ⟨_, rfl⟩
                                                    have tz392 : z392.toInt = (z362.toInt + 1 + 2147483648) % 4294967296 - 2147483648 := by rw [ez392]; exact i_add z362 1
                                                    have lz392 := Int32.le_toInt z392
                                                    have uz392 := Int32.toInt_lt z392
                                                    try replace tz392 : z392.toInt = z362.toInt + 1 := by omega
                                                    refine lv_iinc (v := z392) (lv' := [(2, .int z392), (1, .int z372), (3, .ref q365), (0, .ref h)]) S.x S.b d_Nam_init_130 hl (k := 2) rfl (by rw [ez392]; rfl) (by decide) rfl (fun ls hl => ?_)
                                                    refine lv_goto (tgt := 66) S.x S.b d_Nam_init_133 (by decide) ?_
                                                    refine lv_iload_n S.x S.b d_Nam_init_66 rfl (lv_at hl 0 rfl) ?_
                                                    refine lv_bipush (v := 10) S.x S.b d_Nam_init_67 (by decide) ?_
                                                    refine lv_icmp_ge (tgt := 136) S.x S.b d_Nam_init_69 (by decide) (fun c393 => ?_) (fun c393 => ?_)
                                                    · have nc393 : (10 : Int) ≤ z392.toInt := (i_le (x := 10) (y := z392)).mp c393
                                                      exact pg_vret S hr hlk hAe hw (show (((((((((((((((((((((((0 + 1) + 1) + 1) + 1) + k110) + 1) + k140) + 1) + k170) + 1) + k200) + 1) + k230) + 1) + k260) + 1) + k290) + 1) + k320) + 1) + k350) + 1) + k380) ≤ 6000 from by first | exact oz_03585423cb e119 e149 e179 e209 e239 e269 e299 e329 e359 e389 | omega) (show (((((((((((((((((((((((0 + 3) + 3) + 2048) + 7) + n111) + 7) + n141) + 7) + n171) + 7) + n201) + 7) + n231) + 7) + n261) + 7) + n291) + 7) + n321) + 7) + n351) + 7) + n381) ≤ 60000 from by omega) (⟨(fun k => if k = 0 then q1 else if k = 1 then q4 else q7), (upd (upd (fun _ => 0) 3 0) 4 0), na89, (upd (upd (fun _ => 0) 1 0) 2 0), lq374, lc375, lf376, lg377, P373, rfl, (show NmI em P373 false 0 (lf376 1) 0 0 em 0 lc375 (fun _ => none) lg377 from ⟨⟨fun _ => rfl, ⟨by omega, by omega, by omega⟩, els_0 (by omega), ⟨by first | exact oz_197f3b832f e382 e352 e322 e292 e262 e232 e202 e172 e142 e112 | omega, by first | exact e383 | omega, by first | exact oz_f1555a0940 e386 e356 e326 e296 e266 e236 e206 e176 e146 e116 | omega⟩, hEf⟩, fun _ => rfl, fun h9 => absurd h9 (by decide), ⟨by first | exact e387 | omega, by omega, by omega⟩, ⟨by omega, by omega⟩, by omega, hEg, by first | exact oz_46a4a4b8fe e382 e352 e322 e292 e262 e232 e202 e172 e142 e112 | omega⟩), hfe, (show (lf376 1).toInt = 10 from by first | exact oz_eb9ee4bb92 e382 e352 e322 e292 e262 e232 e202 e172 e142 e112 | omega), (show (((((((((((((((((((((((0 + 1) + 1) + 1) + 1) + k110) + 1) + k140) + 1) + k170) + 1) + k200) + 1) + k230) + 1) + k260) + 1) + k290) + 1) + k320) + 1) + k350) + 1) + k380) ≤ 6000 from by first | exact oz_03585423cb e119 e149 e179 e209 e239 e269 e299 e329 e359 e389 | omega), (show (((((((((((((((((((((((0 + 3) + 3) + 2048) + 7) + n111) + 7) + n141) + 7) + n171) + 7) + n201) + 7) + n231) + 7) + n261) + 7) + n291) + 7) + n321) + 7) + n351) + 7) + n381) ≤ 30000 from by omega)⟩) d_Nam_init_136
                                                    · have nc393 : ¬ (10 : Int) ≤ z392.toInt := mt (i_le (x := 10) (y := z392)).mpr c393
                                                      exfalso
                                                      omega
                              · have nc92 : ¬ (14 : Int) ≤ z90.toInt := mt (i_le (x := 14) (y := z90)).mpr c92
                                exfalso
                                omega
