theorem oz_31c68ccdde {a0 : Int} (h0 : a0 = (15 : Int) + (0 : Int)) : a0 ≠ 25 := by omega
theorem oz_ae1c5b008f {n0 : Nat} (h0 : n0 ≤ 1) : (((((0 + 1) + 1) + 1) + 1) + n0) + 1 ≤ 6000 := by omega
theorem oz_4f6919c3d8 {n0 n1 : Nat} (h0 : (n0 : Int) ≤ 4 * ((n1 : Int) - (0 : Int))) (h1 : (n1 : Int) ≤ 2 * (0 : Int) + 10) : (((((0 + 3) + 3) + 2048) + 7) + n0) + 7 ≤ 60000 := by omega
theorem oz_1c281409f8 {a0 : Int} (h0 : a0 = (0 : Int) + 1) : 0 ≤ a0 := by omega
theorem oz_90d46c3e96 {a0 : Int} (h0 : a0 = (0 : Int) + 1) : a0 ≤ 1000000 := by omega
theorem oz_eec561c0db {a0 a1 : Int} (h0 : a0 = (15 : Int) + a1) (h1 : a1 = (0 : Int) + 1) : a0 ≠ 25 := by omega
theorem oz_be9c031610 {n0 n1 : Nat} (h0 : n0 ≤ 1) (h1 : n1 ≤ 1) : (((((((0 + 1) + 1) + 1) + 1) + n0) + 1) + n1) + 1 ≤ 6000 := by omega
theorem oz_67ce8d99fb {n0 n1 n2 n3 : Nat} (h0 : (n0 : Int) ≤ 4 * ((n2 : Int) - (0 : Int))) (h1 : (n1 : Int) ≤ 4 * ((n3 : Int) - (n2 : Int))) (h2 : (n2 : Int) ≤ 2 * (0 : Int) + 10) (h3 : (n3 : Int) ≤ 2 * (n2 : Int) + 10) : (((((((0 + 3) + 3) + 2048) + 7) + n0) + 7) + n1) + 7 ≤ 60000 := by omega
theorem oz_072d2c3f33 {a0 a1 : Int} (h0 : a0 = a1 + 1) (h1 : a1 = (0 : Int) + 1) : 0 ≤ a0 := by omega
theorem oz_b7e3294fe2 {a0 a1 : Int} (h0 : a0 = a1 + 1) (h1 : a1 = (0 : Int) + 1) : a0 ≤ 1000000 := by omega
theorem oz_20fca602ed {a0 a1 : Int} (h0 : a0 = (15 : Int) + a1) (h1 : ¬ (10 : Int) ≤ a1) : a0 ≠ 25 := by omega
theorem oz_83553f5e4d {n0 n1 : Nat} (h0 : (n0 : Int) ≤ 2 * (n1 : Int) + 10) (h1 : (n1 : Int) ≤ 2 * (0 : Int) + 10) : n0 ≤ 1000000 := by omega
theorem oz_2131103c10 {n0 n1 n2 : Nat} (h0 : n0 ≤ 1) (h1 : n1 ≤ 1) (h2 : n2 ≤ 1) : (((((((((0 + 1) + 1) + 1) + 1) + n0) + 1) + n1) + 1) + n2) + 1 ≤ 6000 := by omega
theorem oz_4600e781d2 {n0 n1 n2 n3 n4 n5 : Nat} (h0 : (n0 : Int) ≤ 4 * ((n3 : Int) - (0 : Int))) (h1 : (n1 : Int) ≤ 4 * ((n4 : Int) - (n3 : Int))) (h2 : (n2 : Int) ≤ 4 * ((n5 : Int) - (n4 : Int))) (h3 : (n3 : Int) ≤ 2 * (0 : Int) + 10) (h4 : (n4 : Int) ≤ 2 * (n3 : Int) + 10) (h5 : (n5 : Int) ≤ 2 * (n4 : Int) + 10) : (((((((((0 + 3) + 3) + 2048) + 7) + n0) + 7) + n1) + 7) + n2) + 7 ≤ 60000 := by omega
theorem oz_c9c4d2ac3e {a0 a1 a2 : Int} (h0 : a0 = a1 + 1) (h1 : a1 = a2 + 1) (h2 : a2 = (0 : Int) + 1) : 0 ≤ a0 := by omega
theorem oz_231bd416e9 {a0 a1 : Int} (h0 : a0 = a1 + 1) (h1 : ¬ (10 : Int) ≤ a1) : a0 ≤ 1000000 := by omega
theorem oz_92fbf7ad4a {n0 n1 n2 : Nat} (h0 : (n0 : Int) ≤ 2 * (n1 : Int) + 10) (h1 : (n1 : Int) ≤ 2 * (n2 : Int) + 10) (h2 : (n2 : Int) ≤ 2 * (0 : Int) + 10) : n0 ≤ 1000000 := by omega
theorem oz_0267563003 {n0 n1 n2 n3 : Nat} (h0 : n0 ≤ 1) (h1 : n1 ≤ 1) (h2 : n2 ≤ 1) (h3 : n3 ≤ 1) : (((((((((((0 + 1) + 1) + 1) + 1) + n0) + 1) + n1) + 1) + n2) + 1) + n3) + 1 ≤ 6000 := by omega
theorem oz_e7819ea361 {n0 n1 n2 n3 n4 n5 n6 n7 : Nat} (h0 : (n0 : Int) ≤ 4 * ((n4 : Int) - (0 : Int))) (h1 : (n1 : Int) ≤ 4 * ((n5 : Int) - (n4 : Int))) (h2 : (n2 : Int) ≤ 4 * ((n6 : Int) - (n5 : Int))) (h3 : (n3 : Int) ≤ 4 * ((n7 : Int) - (n6 : Int))) (h4 : (n4 : Int) ≤ 2 * (0 : Int) + 10) (h5 : (n5 : Int) ≤ 2 * (n4 : Int) + 10) (h6 : (n6 : Int) ≤ 2 * (n5 : Int) + 10) (h7 : (n7 : Int) ≤ 2 * (n6 : Int) + 10) : (((((((((((0 + 3) + 3) + 2048) + 7) + n0) + 7) + n1) + 7) + n2) + 7) + n3) + 7 ≤ 60000 := by omega
theorem oz_88c78e5418 {a0 a1 a2 a3 : Int} (h0 : a0 = a1 + 1) (h1 : a1 = a2 + 1) (h2 : a2 = a3 + 1) (h3 : a3 = (0 : Int) + 1) : 0 ≤ a0 := by omega
theorem oz_a0993d86c2 {n0 n1 n2 n3 : Nat} (h0 : (n0 : Int) ≤ 2 * (n1 : Int) + 10) (h1 : (n1 : Int) ≤ 2 * (n2 : Int) + 10) (h2 : (n2 : Int) ≤ 2 * (n3 : Int) + 10) (h3 : (n3 : Int) ≤ 2 * (0 : Int) + 10) : n0 ≤ 1000000 := by omega
theorem oz_4c822ebf64 {n0 n1 n2 n3 n4 : Nat} (h0 : n0 ≤ 1) (h1 : n1 ≤ 1) (h2 : n2 ≤ 1) (h3 : n3 ≤ 1) (h4 : n4 ≤ 1) : (((((((((((((0 + 1) + 1) + 1) + 1) + n0) + 1) + n1) + 1) + n2) + 1) + n3) + 1) + n4) + 1 ≤ 6000 := by omega
theorem oz_67bbab6530 {n0 n1 n2 n3 n4 n5 n6 n7 n8 n9 : Nat} (h0 : (n0 : Int) ≤ 4 * ((n5 : Int) - (0 : Int))) (h1 : (n1 : Int) ≤ 4 * ((n6 : Int) - (n5 : Int))) (h2 : (n2 : Int) ≤ 4 * ((n7 : Int) - (n6 : Int))) (h3 : (n3 : Int) ≤ 4 * ((n8 : Int) - (n7 : Int))) (h4 : (n4 : Int) ≤ 4 * ((n9 : Int) - (n8 : Int))) (h5 : (n5 : Int) ≤ 2 * (0 : Int) + 10) (h6 : (n6 : Int) ≤ 2 * (n5 : Int) + 10) (h7 : (n7 : Int) ≤ 2 * (n6 : Int) + 10) (h8 : (n8 : Int) ≤ 2 * (n7 : Int) + 10) (h9 : (n9 : Int) ≤ 2 * (n8 : Int) + 10) : (((((((((((((0 + 3) + 3) + 2048) + 7) + n0) + 7) + n1) + 7) + n2) + 7) + n3) + 7) + n4) + 7 ≤ 60000 := by omega
theorem oz_44a9c4ba60 {a0 a1 a2 a3 a4 : Int} (h0 : a0 = a1 + 1) (h1 : a1 = a2 + 1) (h2 : a2 = a3 + 1) (h3 : a3 = a4 + 1) (h4 : a4 = (0 : Int) + 1) : 0 ≤ a0 := by omega
theorem oz_531eaa5c43 {n0 n1 n2 n3 n4 : Nat} (h0 : (n0 : Int) ≤ 2 * (n1 : Int) + 10) (h1 : (n1 : Int) ≤ 2 * (n2 : Int) + 10) (h2 : (n2 : Int) ≤ 2 * (n3 : Int) + 10) (h3 : (n3 : Int) ≤ 2 * (n4 : Int) + 10) (h4 : (n4 : Int) ≤ 2 * (0 : Int) + 10) : n0 ≤ 1000000 := by omega
theorem oz_a7c83764b7 {n0 n1 n2 n3 n4 n5 : Nat} (h0 : n0 ≤ 1) (h1 : n1 ≤ 1) (h2 : n2 ≤ 1) (h3 : n3 ≤ 1) (h4 : n4 ≤ 1) (h5 : n5 ≤ 1) : (((((((((((((((0 + 1) + 1) + 1) + 1) + n0) + 1) + n1) + 1) + n2) + 1) + n3) + 1) + n4) + 1) + n5) + 1 ≤ 6000 := by omega
theorem oz_bc9ed7edf1 {n0 n1 n2 n3 n4 n5 n6 n7 n8 n9 n10 n11 : Nat} (h0 : (n0 : Int) ≤ 4 * ((n6 : Int) - (0 : Int))) (h1 : (n1 : Int) ≤ 4 * ((n7 : Int) - (n6 : Int))) (h2 : (n2 : Int) ≤ 4 * ((n8 : Int) - (n7 : Int))) (h3 : (n3 : Int) ≤ 4 * ((n9 : Int) - (n8 : Int))) (h4 : (n4 : Int) ≤ 4 * ((n10 : Int) - (n9 : Int))) (h5 : (n5 : Int) ≤ 4 * ((n11 : Int) - (n10 : Int))) (h6 : (n6 : Int) ≤ 2 * (0 : Int) + 10) (h7 : (n7 : Int) ≤ 2 * (n6 : Int) + 10) (h8 : (n8 : Int) ≤ 2 * (n7 : Int) + 10) (h9 : (n9 : Int) ≤ 2 * (n8 : Int) + 10) (h10 : (n10 : Int) ≤ 2 * (n9 : Int) + 10) (h11 : (n11 : Int) ≤ 2 * (n10 : Int) + 10) : (((((((((((((((0 + 3) + 3) + 2048) + 7) + n0) + 7) + n1) + 7) + n2) + 7) + n3) + 7) + n4) + 7) + n5) + 7 ≤ 60000 := by omega
theorem oz_74a017ed6e {a0 a1 a2 a3 a4 a5 : Int} (h0 : a0 = a1 + 1) (h1 : a1 = a2 + 1) (h2 : a2 = a3 + 1) (h3 : a3 = a4 + 1) (h4 : a4 = a5 + 1) (h5 : a5 = (0 : Int) + 1) : 0 ≤ a0 := by omega
theorem oz_45414977c5 {n0 n1 n2 n3 n4 n5 : Nat} (h0 : (n0 : Int) ≤ 2 * (n1 : Int) + 10) (h1 : (n1 : Int) ≤ 2 * (n2 : Int) + 10) (h2 : (n2 : Int) ≤ 2 * (n3 : Int) + 10) (h3 : (n3 : Int) ≤ 2 * (n4 : Int) + 10) (h4 : (n4 : Int) ≤ 2 * (n5 : Int) + 10) (h5 : (n5 : Int) ≤ 2 * (0 : Int) + 10) : n0 ≤ 1000000 := by omega
theorem oz_cd7dabd4e2 {n0 n1 n2 n3 n4 n5 n6 : Nat} (h0 : n0 ≤ 1) (h1 : n1 ≤ 1) (h2 : n2 ≤ 1) (h3 : n3 ≤ 1) (h4 : n4 ≤ 1) (h5 : n5 ≤ 1) (h6 : n6 ≤ 1) : (((((((((((((((((0 + 1) + 1) + 1) + 1) + n0) + 1) + n1) + 1) + n2) + 1) + n3) + 1) + n4) + 1) + n5) + 1) + n6) + 1 ≤ 6000 := by omega
theorem oz_9f22de95b3 {n0 n1 n2 n3 n4 n5 n6 n7 n8 n9 n10 n11 n12 n13 : Nat} (h0 : (n0 : Int) ≤ 4 * ((n7 : Int) - (0 : Int))) (h1 : (n1 : Int) ≤ 4 * ((n8 : Int) - (n7 : Int))) (h2 : (n2 : Int) ≤ 4 * ((n9 : Int) - (n8 : Int))) (h3 : (n3 : Int) ≤ 4 * ((n10 : Int) - (n9 : Int))) (h4 : (n4 : Int) ≤ 4 * ((n11 : Int) - (n10 : Int))) (h5 : (n5 : Int) ≤ 4 * ((n12 : Int) - (n11 : Int))) (h6 : (n6 : Int) ≤ 4 * ((n13 : Int) - (n12 : Int))) (h7 : (n7 : Int) ≤ 2 * (0 : Int) + 10) (h8 : (n8 : Int) ≤ 2 * (n7 : Int) + 10) (h9 : (n9 : Int) ≤ 2 * (n8 : Int) + 10) (h10 : (n10 : Int) ≤ 2 * (n9 : Int) + 10) (h11 : (n11 : Int) ≤ 2 * (n10 : Int) + 10) (h12 : (n12 : Int) ≤ 2 * (n11 : Int) + 10) (h13 : (n13 : Int) ≤ 2 * (n12 : Int) + 10) : (((((((((((((((((0 + 3) + 3) + 2048) + 7) + n0) + 7) + n1) + 7) + n2) + 7) + n3) + 7) + n4) + 7) + n5) + 7) + n6) + 7 ≤ 60000 := by omega
theorem oz_ae352f211f {a0 a1 a2 a3 a4 a5 a6 : Int} (h0 : a0 = a1 + 1) (h1 : a1 = a2 + 1) (h2 : a2 = a3 + 1) (h3 : a3 = a4 + 1) (h4 : a4 = a5 + 1) (h5 : a5 = a6 + 1) (h6 : a6 = (0 : Int) + 1) : 0 ≤ a0 := by omega
theorem oz_3ea00c64ee {n0 n1 n2 n3 n4 n5 n6 : Nat} (h0 : (n0 : Int) ≤ 2 * (n1 : Int) + 10) (h1 : (n1 : Int) ≤ 2 * (n2 : Int) + 10) (h2 : (n2 : Int) ≤ 2 * (n3 : Int) + 10) (h3 : (n3 : Int) ≤ 2 * (n4 : Int) + 10) (h4 : (n4 : Int) ≤ 2 * (n5 : Int) + 10) (h5 : (n5 : Int) ≤ 2 * (n6 : Int) + 10) (h6 : (n6 : Int) ≤ 2 * (0 : Int) + 10) : n0 ≤ 1000000 := by omega
theorem oz_0f19472ff7 {n0 n1 n2 n3 n4 n5 n6 n7 : Nat} (h0 : n0 ≤ 1) (h1 : n1 ≤ 1) (h2 : n2 ≤ 1) (h3 : n3 ≤ 1) (h4 : n4 ≤ 1) (h5 : n5 ≤ 1) (h6 : n6 ≤ 1) (h7 : n7 ≤ 1) : (((((((((((((((((((0 + 1) + 1) + 1) + 1) + n0) + 1) + n1) + 1) + n2) + 1) + n3) + 1) + n4) + 1) + n5) + 1) + n6) + 1) + n7) + 1 ≤ 6000 := by omega
theorem oz_0b8b4fb05c {a0 a1 a2 a3 a4 a5 a6 a7 : Int} (h0 : a0 = a1 + 1) (h1 : a1 = a2 + 1) (h2 : a2 = a3 + 1) (h3 : a3 = a4 + 1) (h4 : a4 = a5 + 1) (h5 : a5 = a6 + 1) (h6 : a6 = a7 + 1) (h7 : a7 = (0 : Int) + 1) : 0 ≤ a0 := by omega
theorem oz_821cda5014 {n0 n1 n2 n3 n4 n5 n6 n7 : Nat} (h0 : (n0 : Int) ≤ 2 * (n1 : Int) + 10) (h1 : (n1 : Int) ≤ 2 * (n2 : Int) + 10) (h2 : (n2 : Int) ≤ 2 * (n3 : Int) + 10) (h3 : (n3 : Int) ≤ 2 * (n4 : Int) + 10) (h4 : (n4 : Int) ≤ 2 * (n5 : Int) + 10) (h5 : (n5 : Int) ≤ 2 * (n6 : Int) + 10) (h6 : (n6 : Int) ≤ 2 * (n7 : Int) + 10) (h7 : (n7 : Int) ≤ 2 * (0 : Int) + 10) : n0 ≤ 1000000 := by omega
theorem oz_c62e74950e {n0 n1 n2 n3 n4 n5 n6 n7 n8 : Nat} (h0 : n0 ≤ 1) (h1 : n1 ≤ 1) (h2 : n2 ≤ 1) (h3 : n3 ≤ 1) (h4 : n4 ≤ 1) (h5 : n5 ≤ 1) (h6 : n6 ≤ 1) (h7 : n7 ≤ 1) (h8 : n8 ≤ 1) : (((((((((((((((((((((0 + 1) + 1) + 1) + 1) + n0) + 1) + n1) + 1) + n2) + 1) + n3) + 1) + n4) + 1) + n5) + 1) + n6) + 1) + n7) + 1) + n8) + 1 ≤ 6000 := by omega
theorem oz_41a8f41cc9 {a0 a1 a2 a3 a4 a5 a6 a7 a8 : Int} (h0 : a0 = a1 + 1) (h1 : a1 = a2 + 1) (h2 : a2 = a3 + 1) (h3 : a3 = a4 + 1) (h4 : a4 = a5 + 1) (h5 : a5 = a6 + 1) (h6 : a6 = a7 + 1) (h7 : a7 = a8 + 1) (h8 : a8 = (0 : Int) + 1) : 0 ≤ a0 := by omega
theorem oz_3e1ff33400 {n0 n1 n2 n3 n4 n5 n6 n7 n8 : Nat} (h0 : (n0 : Int) ≤ 2 * (n1 : Int) + 10) (h1 : (n1 : Int) ≤ 2 * (n2 : Int) + 10) (h2 : (n2 : Int) ≤ 2 * (n3 : Int) + 10) (h3 : (n3 : Int) ≤ 2 * (n4 : Int) + 10) (h4 : (n4 : Int) ≤ 2 * (n5 : Int) + 10) (h5 : (n5 : Int) ≤ 2 * (n6 : Int) + 10) (h6 : (n6 : Int) ≤ 2 * (n7 : Int) + 10) (h7 : (n7 : Int) ≤ 2 * (n8 : Int) + 10) (h8 : (n8 : Int) ≤ 2 * (0 : Int) + 10) : n0 ≤ 1000000 := by omega
theorem oz_03585423cb {n0 n1 n2 n3 n4 n5 n6 n7 n8 n9 : Nat} (h0 : n0 ≤ 1) (h1 : n1 ≤ 1) (h2 : n2 ≤ 1) (h3 : n3 ≤ 1) (h4 : n4 ≤ 1) (h5 : n5 ≤ 1) (h6 : n6 ≤ 1) (h7 : n7 ≤ 1) (h8 : n8 ≤ 1) (h9 : n9 ≤ 1) : (((((((((((((((((((((((0 + 1) + 1) + 1) + 1) + n0) + 1) + n1) + 1) + n2) + 1) + n3) + 1) + n4) + 1) + n5) + 1) + n6) + 1) + n7) + 1) + n8) + 1) + n9) ≤ 6000 := by omega
theorem oz_197f3b832f {a0 a1 a2 a3 a4 a5 a6 a7 a8 a9 : Int} (h0 : a0 = a1 + 1) (h1 : a1 = a2 + 1) (h2 : a2 = a3 + 1) (h3 : a3 = a4 + 1) (h4 : a4 = a5 + 1) (h5 : a5 = a6 + 1) (h6 : a6 = a7 + 1) (h7 : a7 = a8 + 1) (h8 : a8 = a9 + 1) (h9 : a9 = (0 : Int) + 1) : 0 ≤ a0 := by omega
theorem oz_f1555a0940 {n0 n1 n2 n3 n4 n5 n6 n7 n8 n9 : Nat} (h0 : (n0 : Int) ≤ 2 * (n1 : Int) + 10) (h1 : (n1 : Int) ≤ 2 * (n2 : Int) + 10) (h2 : (n2 : Int) ≤ 2 * (n3 : Int) + 10) (h3 : (n3 : Int) ≤ 2 * (n4 : Int) + 10) (h4 : (n4 : Int) ≤ 2 * (n5 : Int) + 10) (h5 : (n5 : Int) ≤ 2 * (n6 : Int) + 10) (h6 : (n6 : Int) ≤ 2 * (n7 : Int) + 10) (h7 : (n7 : Int) ≤ 2 * (n8 : Int) + 10) (h8 : (n8 : Int) ≤ 2 * (n9 : Int) + 10) (h9 : (n9 : Int) ≤ 2 * (0 : Int) + 10) : n0 ≤ 1000000 := by omega
theorem oz_46a4a4b8fe {a0 a1 a2 a3 a4 a5 a6 a7 a8 a9 : Int} (h0 : a0 = a1 + 1) (h1 : a1 = a2 + 1) (h2 : a2 = a3 + 1) (h3 : a3 = a4 + 1) (h4 : a4 = a5 + 1) (h5 : a5 = a6 + 1) (h6 : a6 = a7 + 1) (h7 : a7 = a8 + 1) (h8 : a8 = a9 + 1) (h9 : a9 = (0 : Int) + 1) : 10 ≤ a0 := by omega
theorem m1_185 : Cond.methodLink "java/util/AbstractCollection" 1 ⟨"java/lang/Object", "<init>", "()V"⟩ ∈ AL := AL_1 (List.mem_of_getElem? (i := 185) rfl) rfl
theorem m1_182 : Cond.methodLink "java/util/AbstractList" 1 ⟨"java/util/AbstractCollection", "<init>", "()V"⟩ ∈ AL := AL_1 (List.mem_of_getElem? (i := 182) rfl) rfl
theorem m1_184 : Cond.code ⟨"java/util/AbstractCollection", "<init>", "()V"⟩ prog_37_method_1_code 1 (Option.none : Option Jvm.ClassFile.FieldType) ∈ AL := AL_1 (List.mem_of_getElem? (i := 184) rfl) rfl
theorem m1_8 : Cond.initialized "java/util/AbstractCollection" ∈ AL := AL_1 (List.mem_of_getElem? (i := 8) rfl) rfl
theorem m1_183 : Cond.instanceMethod ⟨"java/util/AbstractCollection", "<init>", "()V"⟩ ∈ AL := AL_1 (List.mem_of_getElem? (i := 183) rfl) rfl
theorem m1_190 : Cond.fieldLink "java/util/AbstractList" 7 "java/util/AbstractList" "modCount" "I" ∈ AL := AL_1 (List.mem_of_getElem? (i := 190) rfl) rfl
theorem m1_179 : Cond.methodLink "java/util/ArrayList" 1 ⟨"java/util/AbstractList", "<init>", "()V"⟩ ∈ AL := AL_1 (List.mem_of_getElem? (i := 179) rfl) rfl
theorem m1_181 : Cond.code ⟨"java/util/AbstractList", "<init>", "()V"⟩ prog_38_method_1_code 1 (Option.none : Option Jvm.ClassFile.FieldType) ∈ AL := AL_1 (List.mem_of_getElem? (i := 181) rfl) rfl
theorem m1_9 : Cond.initialized "java/util/AbstractList" ∈ AL := AL_1 (List.mem_of_getElem? (i := 9) rfl) rfl
theorem m1_180 : Cond.instanceMethod ⟨"java/util/AbstractList", "<init>", "()V"⟩ ∈ AL := AL_1 (List.mem_of_getElem? (i := 180) rfl) rfl
theorem m1_173 : Cond.methodLink "HomeSystem$Names" 3 ⟨"java/lang/Object", "<init>", "()V"⟩ ∈ AL := AL_1 (List.mem_of_getElem? (i := 173) rfl) rfl
theorem m1_174 : Cond.classLink "HomeSystem$Names" 9 "java/util/ArrayList" ∈ AL := AL_1 (List.mem_of_getElem? (i := 174) rfl) rfl
theorem m1_175 : Cond.instantiable "java/util/ArrayList" 3 ∈ AL := AL_1 (List.mem_of_getElem? (i := 175) rfl) rfl
theorem m1_176 : Cond.methodLink "HomeSystem$Names" 11 ⟨"java/util/ArrayList", "<init>", "()V"⟩ ∈ AL := AL_1 (List.mem_of_getElem? (i := 176) rfl) rfl
theorem m1_178 : Cond.code ⟨"java/util/ArrayList", "<init>", "()V"⟩ prog_39_method_2_code 1 (Option.none : Option Jvm.ClassFile.FieldType) ∈ AL := AL_1 (List.mem_of_getElem? (i := 178) rfl) rfl
theorem m1_177 : Cond.instanceMethod ⟨"java/util/ArrayList", "<init>", "()V"⟩ ∈ AL := AL_1 (List.mem_of_getElem? (i := 177) rfl) rfl
theorem m2_2n : Cond.fieldLinkNest "HomeSystem$Names" 37 "HomeSystem" "GIVEN_TYPES" "[I" "HomeSystem" ∈ tables_1 := by unfold tables_1; exact List.mem_append_right _ (List.mem_append_left _ (List.mem_of_getElem? (i := 2) rfl))
theorem m2_4n : Cond.fieldLinkNest "HomeSystem$Names" 46 "HomeSystem" "GIVEN_COUNTS" "[I" "HomeSystem" ∈ tables_1 := by unfold tables_1; exact List.mem_append_right _ (List.mem_append_left _ (List.mem_of_getElem? (i := 4) rfl))
/-! NAMES are made: the three rows that the class gives -/
def oGR (C n : String) (N : Nat) (A : Nat → Prop) (U : State) (H : Heap) : Prop := ∃ (t : Nat) (f : Nat → Int32), va_Z C n "[I" (.ref t) A U H ∧ va_T .int t N (fun j => .int (f j)) A U H
def oGI (A : Nat → Prop) (U : State) (H : Heap) : Prop := oGR "HomeSystem" "GIVEN_WANTS" 14 A U H ∧ oGR "HomeSystem" "GIVEN_TYPES" 10 A U H ∧ oGR "HomeSystem" "GIVEN_COUNTS" 10 A U H
theorem oG_R {C n : String} {N : Nat} : oG (fun A U H => oGR C n N A U H) := oG_of (fun h ⟨t, f, x, y⟩ => ⟨t, f, va_Z.moved h x, va_T.moved h y⟩) (fun ⟨t, f, x, y⟩ h => ⟨t, f, va_Z.kept x h, va_T.kept y h⟩) (fun ⟨t, f, x, y⟩ h => ⟨t, f, va_Z.narrow x h, va_T.narrow y h⟩)
theorem oG_I : oG (fun A U H => oGI A U H) := oG_and oG_R (oG_and oG_R oG_R)
theorem gy_lastN {P : va_W} {a : Nat} {s : Nat → Int32} {w : va_W} (h : w = [syC a s]) (h0 : 0 ≤ (s 5).toInt) (h1 : (s 5).toInt ≤ 1000000) (hn : (s 0).toInt ≠ 25) : Gy (P ++ w) a :=
  ⟨P.length, s, by rw [h, List.getElem?_append_right (Nat.le_refl _), Nat.sub_self]; rfl, h0, h1, fun e => absurd e hn⟩
theorem elf_0 {P : va_W} {g : Nat → Option Nat} : ElF P 0 g := fun j hj => absurd hj (by have : (0 : Int32).toInt = 0 := rfl; omega)
theorem elg_0 {P : va_W} {g : Nat → Option Nat} : ElG P 0 g := fun j hj => absurd hj (by have : (0 : Int32).toInt = 0 := rfl; omega)
abbrev b_AbstractCollection_init : ByteArray := prog_37_method_1_code
def y_AbstractCollection_init : MethodName := ⟨"java/util/AbstractCollection", "<init>", "()V"⟩
theorem d_AbstractCollection_init_0 : decode b_AbstractCollection_init 0 = .ok (.aload_n 0, 1) := by decide +kernel
theorem d_AbstractCollection_init_1 : decode b_AbstractCollection_init 1 = .ok (.invokespecial 1, 3) := by decide +kernel
theorem d_AbstractCollection_init_4 : decode b_AbstractCollection_init 4 = .ok (.return_, 1) := by decide +kernel
theorem q_AbstractCollection_init : px_y y_AbstractCollection_init 0 := by unfold px_y; decide +kernel
set_option maxHeartbeats 4000000 in
set_option maxRecDepth 100000 in
theorem c_abc_init (l : Launch) (D : va_G) (cs : Nat → ClassId)  (h : Nat)  : MetV l y_AbstractCollection_init b_AbstractCollection_init 1 D cs 1 12 (0) (0) [.ref h] [[(h, .inr (14, [.null, .int 0, .int 0]))]] (fun _ => True) (fun ps => ps = [[(h, .inr (14, [.null, .int 0, .int 0]))]]) := by
  refine px_enter (by decide) (Nat.le_of_ble_eq_true rfl) ?_
  intro p e s m below meth c A ls hAe S hr hlk hnm hA hT hX hw hl
  have hin : meth.name = "<init>" := hnm
  replace hl : lv_has ls 1 [(0, .ref h)] := hl
  refine lv_aload_n S.x S.b d_AbstractCollection_init_0 rfl (lv_at hl 0 rfl) ?_
  refine px_oinit S m1_185 m1_46 m1_47 hl.1 d_AbstractCollection_init_1 (Nat.le_of_ble_eq_true rfl) (Nat.le_of_ble_eq_true rfl) ?_
  exact px_vret S hr hlk hAe hw (Nat.le_of_ble_eq_true rfl) (Nat.le_of_ble_eq_true rfl) (rfl) d_AbstractCollection_init_4
abbrev b_AbstractList_init : ByteArray := prog_38_method_1_code
def y_AbstractList_init : MethodName := ⟨"java/util/AbstractList", "<init>", "()V"⟩
theorem d_AbstractList_init_0 : decode b_AbstractList_init 0 = .ok (.aload_n 0, 1) := by decide +kernel
theorem d_AbstractList_init_1 : decode b_AbstractList_init 1 = .ok (.invokespecial 1, 3) := by decide +kernel
theorem d_AbstractList_init_4 : decode b_AbstractList_init 4 = .ok (.aload_n 0, 1) := by decide +kernel
theorem d_AbstractList_init_5 : decode b_AbstractList_init 5 = .ok (.iconst 0, 1) := by decide +kernel
theorem d_AbstractList_init_6 : decode b_AbstractList_init 6 = .ok (.putfield 7, 3) := by decide +kernel
theorem d_AbstractList_init_9 : decode b_AbstractList_init 9 = .ok (.return_, 1) := by decide +kernel
theorem q_AbstractList_init : px_y y_AbstractList_init 0 := by unfold px_y; decide +kernel
set_option maxHeartbeats 4000000 in
set_option maxRecDepth 100000 in
theorem c_abl_init (l : Launch) (D : va_G) (cs : Nat → ClassId)  (h : Nat)  : MetV l y_AbstractList_init b_AbstractList_init 1 D cs 2 36 (0) (0) [.ref h] [[(h, .inr (14, [.null, .int 0, .int 0]))]] (fun _ => True) (fun ps => ps = [[(h, .inr (14, [.null, .int 0, .int 0]))]]) := by
  refine px_enter (by decide) (Nat.le_of_ble_eq_true rfl) ?_
  intro p e s m below meth c A ls hAe S hr hlk hnm hA hT hX hw hl
  have hin : meth.name = "<init>" := hnm
  replace hl : lv_has ls 1 [(0, .ref h)] := hl
  have cst0 : (0 : Int32).toInt = 0 := rfl
  refine lv_aload_n S.x S.b d_AbstractList_init_0 rfl (lv_at hl 0 rfl) ?_
  refine px_callv (pr := []) (px_runI (As := []) (rest := []) S (c_abc_init l D cs h _) hT (pr := []) (pcs := [[(h, .inr (14, [.null, .int 0, .int 0]))]]) hw px_X.tt m1_184 m1_182 m1_183 m1_8 rfl q_AbstractCollection_init ⟨Nat.le_of_ble_eq_true rfl, Nat.le_of_ble_eq_true rfl⟩ hl.1 rfl (Nat.le_of_ble_eq_true rfl) d_AbstractList_init_1 ⟨Nat.le_of_ble_eq_true rfl, Nat.le_of_ble_eq_true rfl⟩) hw hA (fun p1 H locs hp1 hw => ?_)
  subst hp1
  replace hw : pw D A s.heap H locs [[(h, .inr (14, [.null, .int 0, .int 0]))]] := hw
  refine lv_aload_n S.x S.b d_AbstractList_init_4 rfl (lv_at hl 0 rfl) ?_
  refine lv_iconst (v := 0) S.x S.b d_AbstractList_init_5 (by decide) ?_
  refine px_put S k_Lst hT hw 0 0 2 rfl rfl (by decide) m1_190 rfl rfl rfl (Nat.le_of_ble_eq_true rfl) d_AbstractList_init_6 (w' := [(h, .inr (14, [.null, .int 0, .int 0]))]) (ps' := [[(h, .inr (14, [.null, .int 0, .int 0]))]]) rfl rfl (fun H locs hw => ?_)
  exact px_vret S hr hlk hAe hw (Nat.le_of_ble_eq_true rfl) (Nat.le_of_ble_eq_true rfl) (rfl) d_AbstractList_init_9
abbrev b_Lst_init : ByteArray := prog_39_method_2_code
def y_Lst_init : MethodName := ⟨"java/util/ArrayList", "<init>", "()V"⟩
theorem d_Lst_init_0 : decode b_Lst_init 0 = .ok (.aload_n 0, 1) := by decide +kernel
theorem d_Lst_init_1 : decode b_Lst_init 1 = .ok (.invokespecial 1, 3) := by decide +kernel
theorem d_Lst_init_4 : decode b_Lst_init 4 = .ok (.aload_n 0, 1) := by decide +kernel
theorem d_Lst_init_5 : decode b_Lst_init 5 = .ok (.getstatic 39, 3) := by decide +kernel
theorem d_Lst_init_8 : decode b_Lst_init 8 = .ok (.putfield 9, 3) := by decide +kernel
theorem d_Lst_init_11 : decode b_Lst_init 11 = .ok (.return_, 1) := by decide +kernel
theorem q_Lst_init : px_y y_Lst_init 0 := by unfold px_y; decide +kernel
set_option maxHeartbeats 4000000 in
set_option maxRecDepth 100000 in
theorem c_al_init (l : Launch) (D : va_G) (cs : Nat → ClassId) (em : Nat) (h : Nat)  : MetV l y_Lst_init b_Lst_init 1 D cs 3 60 (0) (0) [.ref h] [[(h, .inr (14, [.null, .int 0, .int 0]))]] (oX (fun A U H => (oE A em U H)) [[(h, .inr (14, [.null, .int 0, .int 0]))]]) (fun ps => ps = [[(h, .inr (14, [.ref em, .int 0, .int 0]))]]) := by
  refine px_enter (by decide) (Nat.le_of_ble_eq_true rfl) ?_
  intro p e s m below meth c A ls hAe S hr hlk hnm hA hT hX hw hl
  have hin : meth.name = "<init>" := hnm
  replace hl : lv_has ls 1 [(0, .ref h)] := hl
  have hX : (fun A U H => (oE A em U H)) A s s.heap := by rw [hAe]; exact hX
  have hE := hX
  refine lv_aload_n S.x S.b d_Lst_init_0 rfl (lv_at hl 0 rfl) ?_
  refine px_callv (pr := []) (px_runI (As := []) (rest := []) S (c_abl_init l D cs h _) hT (pr := []) (pcs := [[(h, .inr (14, [.null, .int 0, .int 0]))]]) hw px_X.tt m1_181 m1_179 m1_180 m1_9 rfl q_AbstractList_init ⟨Nat.le_of_ble_eq_true rfl, Nat.le_of_ble_eq_true rfl⟩ hl.1 rfl (Nat.le_of_ble_eq_true rfl) d_Lst_init_1 ⟨Nat.le_of_ble_eq_true rfl, Nat.le_of_ble_eq_true rfl⟩) hw hA (fun p1 H locs hp1 hw => ?_)
  subst hp1
  replace hw : pw D A s.heap H locs [[(h, .inr (14, [.null, .int 0, .int 0]))]] := hw
  refine lv_aload_n S.x S.b d_Lst_init_4 rfl (lv_at hl 0 rfl) ?_
  refine va_gets S.x S.b hE.1 hw.2.2 S.own (S.w m1_186) (fun _ h => h) d_Lst_init_5 ?_
  refine px_put S k_Lst hT hw 0 0 0 rfl rfl (by decide) m1_188 rfl rfl rfl (Nat.le_of_ble_eq_true rfl) d_Lst_init_8 (w' := [(h, .inr (14, [.ref em, .int 0, .int 0]))]) (ps' := [[(h, .inr (14, [.ref em, .int 0, .int 0]))]]) rfl rfl (fun H locs hw => ?_)
  exact px_vret S hr hlk hAe hw (Nat.le_of_ble_eq_true rfl) (Nat.le_of_ble_eq_true rfl) (rfl) d_Lst_init_11
abbrev b_Nam_init : ByteArray := prog_5_method_1_code
def y_Nam_init : MethodName := ⟨"HomeSystem$Names", "<init>", "()V"⟩
theorem d_Nam_init_0 : decode b_Nam_init 0 = .ok (.aload_n 0, 1) := by decide +kernel
theorem d_Nam_init_1 : decode b_Nam_init 1 = .ok (.invokespecial 3, 3) := by decide +kernel
theorem d_Nam_init_4 : decode b_Nam_init 4 = .ok (.aload_n 0, 1) := by decide +kernel
theorem d_Nam_init_5 : decode b_Nam_init 5 = .ok (.new 9, 3) := by decide +kernel
theorem d_Nam_init_8 : decode b_Nam_init 8 = .ok (.dup, 1) := by decide +kernel
theorem d_Nam_init_9 : decode b_Nam_init 9 = .ok (.invokespecial 11, 3) := by decide +kernel
theorem d_Nam_init_12 : decode b_Nam_init 12 = .ok (.putfield 12, 3) := by decide +kernel
theorem d_Nam_init_15 : decode b_Nam_init 15 = .ok (.aload_n 0, 1) := by decide +kernel
theorem d_Nam_init_16 : decode b_Nam_init 16 = .ok (.new 9, 3) := by decide +kernel
theorem d_Nam_init_19 : decode b_Nam_init 19 = .ok (.dup, 1) := by decide +kernel
theorem d_Nam_init_20 : decode b_Nam_init 20 = .ok (.invokespecial 11, 3) := by decide +kernel
theorem d_Nam_init_23 : decode b_Nam_init 23 = .ok (.putfield 18, 3) := by decide +kernel
theorem d_Nam_init_26 : decode b_Nam_init 26 = .ok (.aload_n 0, 1) := by decide +kernel
theorem d_Nam_init_27 : decode b_Nam_init 27 = .ok (.sipush 2048, 3) := by decide +kernel
theorem d_Nam_init_30 : decode b_Nam_init 30 = .ok (.newarray .int, 2) := by decide +kernel
theorem d_Nam_init_32 : decode b_Nam_init 32 = .ok (.putfield 21, 3) := by decide +kernel
theorem d_Nam_init_35 : decode b_Nam_init 35 = .ok (.iconst 0, 1) := by decide +kernel
theorem d_Nam_init_36 : decode b_Nam_init 36 = .ok (.istore_n 1, 1) := by decide +kernel
theorem d_Nam_init_37 : decode b_Nam_init 37 = .ok (.iload_n 1, 1) := by decide +kernel
theorem d_Nam_init_38 : decode b_Nam_init 38 = .ok (.getstatic 25, 3) := by decide +kernel
theorem d_Nam_init_41 : decode b_Nam_init 41 = .ok (.arraylength, 1) := by decide +kernel
theorem d_Nam_init_42 : decode b_Nam_init 42 = .ok (.if_icmp .ge 20, 3) := by decide +kernel
theorem d_Nam_init_45 : decode b_Nam_init 45 = .ok (.aload_n 0, 1) := by decide +kernel
theorem d_Nam_init_46 : decode b_Nam_init 46 = .ok (.getfield 21, 3) := by decide +kernel
theorem d_Nam_init_49 : decode b_Nam_init 49 = .ok (.iload_n 1, 1) := by decide +kernel
theorem d_Nam_init_50 : decode b_Nam_init 50 = .ok (.getstatic 25, 3) := by decide +kernel
theorem d_Nam_init_53 : decode b_Nam_init 53 = .ok (.iload_n 1, 1) := by decide +kernel
theorem d_Nam_init_54 : decode b_Nam_init 54 = .ok (.iaload, 1) := by decide +kernel
theorem d_Nam_init_55 : decode b_Nam_init 55 = .ok (.iastore, 1) := by decide +kernel
theorem d_Nam_init_56 : decode b_Nam_init 56 = .ok (.iinc 1 1, 3) := by decide +kernel
theorem d_Nam_init_59 : decode b_Nam_init 59 = .ok (.goto (-22), 3) := by decide +kernel
theorem d_Nam_init_62 : decode b_Nam_init 62 = .ok (.iconst 0, 1) := by decide +kernel
theorem d_Nam_init_63 : decode b_Nam_init 63 = .ok (.istore_n 1, 1) := by decide +kernel
theorem d_Nam_init_64 : decode b_Nam_init 64 = .ok (.iconst 0, 1) := by decide +kernel
theorem d_Nam_init_65 : decode b_Nam_init 65 = .ok (.istore_n 2, 1) := by decide +kernel
theorem d_Nam_init_66 : decode b_Nam_init 66 = .ok (.iload_n 2, 1) := by decide +kernel
theorem d_Nam_init_67 : decode b_Nam_init 67 = .ok (.bipush 10, 2) := by decide +kernel
theorem d_Nam_init_69 : decode b_Nam_init 69 = .ok (.if_icmp .ge 67, 3) := by decide +kernel
theorem d_Nam_init_72 : decode b_Nam_init 72 = .ok (.new 28, 3) := by decide +kernel
theorem d_Nam_init_75 : decode b_Nam_init 75 = .ok (.dup, 1) := by decide +kernel
theorem d_Nam_init_76 : decode b_Nam_init 76 = .ok (.bipush 15, 2) := by decide +kernel
theorem d_Nam_init_78 : decode b_Nam_init 78 = .ok (.iload_n 2, 1) := by decide +kernel
theorem d_Nam_init_79 : decode b_Nam_init 79 = .ok (.iadd, 1) := by decide +kernel
theorem d_Nam_init_80 : decode b_Nam_init 80 = .ok (.iconst 2, 1) := by decide +kernel
theorem d_Nam_init_81 : decode b_Nam_init 81 = .ok (.invokespecial 30, 3) := by decide +kernel
theorem d_Nam_init_84 : decode b_Nam_init 84 = .ok (.astore_n 3, 1) := by decide +kernel
theorem d_Nam_init_85 : decode b_Nam_init 85 = .ok (.aload_n 3, 1) := by decide +kernel
theorem d_Nam_init_86 : decode b_Nam_init 86 = .ok (.iload_n 2, 1) := by decide +kernel
theorem d_Nam_init_87 : decode b_Nam_init 87 = .ok (.putfield 33, 3) := by decide +kernel
theorem d_Nam_init_90 : decode b_Nam_init 90 = .ok (.aload_n 3, 1) := by decide +kernel
theorem d_Nam_init_91 : decode b_Nam_init 91 = .ok (.getstatic 37, 3) := by decide +kernel
theorem d_Nam_init_94 : decode b_Nam_init 94 = .ok (.iload_n 2, 1) := by decide +kernel
theorem d_Nam_init_95 : decode b_Nam_init 95 = .ok (.iaload, 1) := by decide +kernel
theorem d_Nam_init_96 : decode b_Nam_init 96 = .ok (.putfield 40, 3) := by decide +kernel
theorem d_Nam_init_99 : decode b_Nam_init 99 = .ok (.aload_n 3, 1) := by decide +kernel
theorem d_Nam_init_100 : decode b_Nam_init 100 = .ok (.iload_n 1, 1) := by decide +kernel
theorem d_Nam_init_101 : decode b_Nam_init 101 = .ok (.putfield 43, 3) := by decide +kernel
theorem d_Nam_init_104 : decode b_Nam_init 104 = .ok (.aload_n 3, 1) := by decide +kernel
theorem d_Nam_init_105 : decode b_Nam_init 105 = .ok (.getstatic 46, 3) := by decide +kernel
theorem d_Nam_init_108 : decode b_Nam_init 108 = .ok (.iload_n 2, 1) := by decide +kernel
theorem d_Nam_init_109 : decode b_Nam_init 109 = .ok (.iaload, 1) := by decide +kernel
theorem d_Nam_init_110 : decode b_Nam_init 110 = .ok (.putfield 49, 3) := by decide +kernel
theorem d_Nam_init_113 : decode b_Nam_init 113 = .ok (.iload_n 1, 1) := by decide +kernel
theorem d_Nam_init_114 : decode b_Nam_init 114 = .ok (.getstatic 46, 3) := by decide +kernel
theorem d_Nam_init_117 : decode b_Nam_init 117 = .ok (.iload_n 2, 1) := by decide +kernel
theorem d_Nam_init_118 : decode b_Nam_init 118 = .ok (.iaload, 1) := by decide +kernel
theorem d_Nam_init_119 : decode b_Nam_init 119 = .ok (.iadd, 1) := by decide +kernel
theorem d_Nam_init_120 : decode b_Nam_init 120 = .ok (.istore_n 1, 1) := by decide +kernel
theorem d_Nam_init_121 : decode b_Nam_init 121 = .ok (.aload_n 0, 1) := by decide +kernel
theorem d_Nam_init_122 : decode b_Nam_init 122 = .ok (.getfield 18, 3) := by decide +kernel
theorem d_Nam_init_125 : decode b_Nam_init 125 = .ok (.aload_n 3, 1) := by decide +kernel
theorem d_Nam_init_126 : decode b_Nam_init 126 = .ok (.invokevirtual 52, 3) := by decide +kernel
theorem d_Nam_init_129 : decode b_Nam_init 129 = .ok (.pop, 1) := by decide +kernel
theorem d_Nam_init_130 : decode b_Nam_init 130 = .ok (.iinc 2 1, 3) := by decide +kernel
theorem d_Nam_init_133 : decode b_Nam_init 133 = .ok (.goto (-67), 3) := by decide +kernel
theorem d_Nam_init_136 : decode b_Nam_init 136 = .ok (.return_, 1) := by decide +kernel
theorem q_Nam_init : px_y y_Nam_init 0 := by unfold px_y; decide +kernel
set_option maxHeartbeats 4000000 in
set_option maxRecDepth 100000 in
theorem c_nam_init (l : Launch) (D : va_G) (cs : Nat → ClassId) (em : Nat) (mi : Nat) (h : Nat)  : MgV l y_Nam_init b_Nam_init 4 D cs 10 560 (6000) (60000) [.ref h] [[(h, .inr (2, [.null, .null, .null, .int 0, .int 0]))]] (oX (fun A U H => (oE A em U H) ∧ (va_Mi "[Ljava/lang/Object;" mi U) ∧ (oGI A U H)) [[(h, .inr (2, [.null, .null, .null, .int 0, .int 0]))]]) (fun ps => ∃ (rn : Nat → Nat) (nf : Nat → Int32) (na : Nat → Nat → Int32) (lf : Nat → Int32) (fq fc : Nat) (ff : Nat → Int32) (fg : Nat → Option Nat) (P : va_W), ps.1.flatten = [wd_Nam cs h rn (fun _ => none) nf na (fun _ _ => none), wd_Lst cs (rn 0) (fun _ => 0) (fun k => if k = 0 then (some em) else none) lf (fun _ _ => 0) (fun _ _ => none), lA cs false em 0 (fun _ => none), wd_Lst cs (rn 1) (fun _ => 0) (fun k => if k = 0 then (some fq) else none) ff (fun _ _ => 0) (fun _ _ => none), [(fq, .inl (cs 12, fc, .inr (.inr (.inr (.inr fg)))))], P].flatten ∧ NmI em P false (lf 1) (ff 1) (nf 3) (nf 4) em 0 fc (fun _ => none) fg ∧ ps.2.1 ≤ 6000 ∧ ps.2.2 ≤ 30000) := by
  refine pg_enter (by decide) (Nat.le_of_ble_eq_true rfl) ?_
  intro p e s m below meth c A ls hAe S hr hlk hnm hA hT hX hw hl
  have hin : meth.name = "<init>" := hnm
  replace hl : lv_has ls 4 [(0, .ref h)] := hl
  have cst0 : (0 : Int32).toInt = 0 := rfl
  have cst2 : (2 : Int32).toInt = 2 := rfl
  have cst10 : (10 : Int32).toInt = 10 := rfl
  have cst15 : (15 : Int32).toInt = 15 := rfl
  have cst2048 : (2048 : Int32).toInt = 2048 := rfl
  have hX : (fun A U H => (oE A em U H) ∧ (va_Mi "[Ljava/lang/Object;" mi U) ∧ (oGI A U H)) A s s.heap := by rw [hAe]; exact hX
  obtain ⟨hE, hM, hGI⟩ := hX
  obtain ⟨qwG, qwGf, hqwG1, hqwG2⟩ := hGI.1
  obtain ⟨qtG, qtGf, hqtG1, hqtG2⟩ := hGI.2.1
  obtain ⟨qcG, qcGf, hqcG1, hqcG2⟩ := hGI.2.2
  have cst0 : (0 : Int32).toInt = 0 := rfl
  refine lv_aload_n S.x S.b d_Nam_init_0 rfl (lv_at hl 0 rfl) ?_
  refine px_oinit S m1_173 m1_46 m1_47 hl.1 d_Nam_init_1 (Nat.le_of_ble_eq_true rfl) (Nat.le_of_ble_eq_true rfl) ?_
  refine lv_aload_n S.x S.b d_Nam_init_4 rfl (lv_at hl 0 rfl) ?_
  refine px_new S k_Lst hT hw hA m1_174 m1_175 m1_10 (fs := [.null, .int 0, .int 0]) (by decide +kernel) (show 0 + 1 ≤ 6000 from by first | decide | omega) (show 0 + 3 ≤ 60000 from by first | decide | omega) d_Nam_init_5 (fun q1 H hw => ?_)
  replace hw : pw D A s.heap H _ [[(h, .inr (2, [.null, .null, .null, .int 0, .int 0]))], [(q1, .inr (14, [.null, .int 0, .int 0]))]] := hw
  refine lv_dup S.x S.b d_Nam_init_8 rfl ?_
  refine px_callv (pr := [[(h, .inr (2, [.null, .null, .null, .int 0, .int 0]))]]) (px_runI (As := []) (rest := [.ref q1, .ref h]) S (c_al_init l D cs em q1 _) hT (pr := [[(h, .inr (2, [.null, .null, .null, .int 0, .int 0]))]]) (pcs := [[(q1, .inr (14, [.null, .int 0, .int 0]))]]) hw (oX_call (P := (fun A U H => (oE A em U H))) (pr := [[(h, .inr (2, [.null, .null, .null, .int 0, .int 0]))]]) oG_E hw hA hE) m1_178 m1_176 m1_177 m1_10 rfl q_Lst_init ⟨Nat.le_of_ble_eq_true rfl, Nat.le_of_ble_eq_true rfl⟩ hl.1 rfl (Nat.le_of_ble_eq_true rfl) d_Nam_init_9 ⟨show (0 + 1) + 0 ≤ 6000 from by first | with_reducible rfl | with_reducible assumption | omega, show (0 + 3) + 0 ≤ 60000 from by first | with_reducible rfl | with_reducible assumption | omega⟩) hw hA (fun p2 H locs hp2 hw => ?_)
  subst hp2
  replace hw : pw D A s.heap H locs [[(h, .inr (2, [.null, .null, .null, .int 0, .int 0]))], [(q1, .inr (14, [.ref em, .int 0, .int 0]))]] := hw
  refine px_putF S k_Nam hin hT hw 0 0 0 rfl rfl (by decide) m2_75 rfl rfl rfl rfl (Nat.le_of_ble_eq_true rfl) d_Nam_init_12 (w' := [(h, .inr (2, [.ref q1, .null, .null, .int 0, .int 0]))]) (ps' := [[(h, .inr (2, [.ref q1, .null, .null, .int 0, .int 0]))], [(q1, .inr (14, [.ref em, .int 0, .int 0]))]]) rfl rfl (fun H locs hw => ?_)
  refine lv_aload_n S.x S.b d_Nam_init_15 rfl (lv_at hl 0 rfl) ?_
  refine px_new S k_Lst hT hw hA m1_174 m1_175 m1_10 (fs := [.null, .int 0, .int 0]) (by decide +kernel) (show (0 + 1) + 1 ≤ 6000 from by first | with_reducible rfl | with_reducible assumption | omega) (show (0 + 3) + 3 ≤ 60000 from by first | with_reducible rfl | with_reducible assumption | omega) d_Nam_init_16 (fun q4 H hw => ?_)
  replace hw : pw D A s.heap H _ [[(h, .inr (2, [.ref q1, .null, .null, .int 0, .int 0]))], [(q1, .inr (14, [.ref em, .int 0, .int 0]))], [(q4, .inr (14, [.null, .int 0, .int 0]))]] := hw
  refine lv_dup S.x S.b d_Nam_init_19 rfl ?_
  refine px_callv (pr := [[(h, .inr (2, [.ref q1, .null, .null, .int 0, .int 0]))], [(q1, .inr (14, [.ref em, .int 0, .int 0]))]]) (px_runI (As := []) (rest := [.ref q4, .ref h]) S (c_al_init l D cs em q4 _) hT (pr := [[(h, .inr (2, [.ref q1, .null, .null, .int 0, .int 0]))], [(q1, .inr (14, [.ref em, .int 0, .int 0]))]]) (pcs := [[(q4, .inr (14, [.null, .int 0, .int 0]))]]) hw (oX_call (P := (fun A U H => (oE A em U H))) (pr := [[(h, .inr (2, [.ref q1, .null, .null, .int 0, .int 0]))], [(q1, .inr (14, [.ref em, .int 0, .int 0]))]]) oG_E hw hA hE) m1_178 m1_176 m1_177 m1_10 rfl q_Lst_init ⟨Nat.le_of_ble_eq_true rfl, Nat.le_of_ble_eq_true rfl⟩ hl.1 rfl (Nat.le_of_ble_eq_true rfl) d_Nam_init_20 ⟨show ((0 + 1) + 1) + 0 ≤ 6000 from by first | with_reducible rfl | with_reducible assumption | omega, show ((0 + 3) + 3) + 0 ≤ 60000 from by first | with_reducible rfl | with_reducible assumption | omega⟩) hw hA (fun p5 H locs hp5 hw => ?_)
  subst hp5
  replace hw : pw D A s.heap H locs [[(h, .inr (2, [.ref q1, .null, .null, .int 0, .int 0]))], [(q1, .inr (14, [.ref em, .int 0, .int 0]))], [(q4, .inr (14, [.ref em, .int 0, .int 0]))]] := hw
  refine px_putF S k_Nam hin hT hw 0 0 1 rfl rfl (by decide) m2_76 rfl rfl rfl rfl (Nat.le_of_ble_eq_true rfl) d_Nam_init_23 (w' := [(h, .inr (2, [.ref q1, .ref q4, .null, .int 0, .int 0]))]) (ps' := [[(h, .inr (2, [.ref q1, .ref q4, .null, .int 0, .int 0]))], [(q1, .inr (14, [.ref em, .int 0, .int 0]))], [(q4, .inr (14, [.ref em, .int 0, .int 0]))]]) rfl rfl (fun H locs hw => ?_)
  refine lv_aload_n S.x S.b d_Nam_init_26 rfl (lv_at hl 0 rfl) ?_
  refine lv_sipush (v := 2048) S.x S.b d_Nam_init_27 (by decide) ?_
  refine px_newa S hT hw hA (atype := .int) m1_166 0 rfl rfl (a0 := (2048, .inl (fun _ => 0))) (fun _ => rfl) (by decide) (by decide +kernel) (Nat.le_of_ble_eq_true rfl) (show ((0 + 1) + 1) + 1 ≤ 6000 from by first | with_reducible rfl | with_reducible assumption | omega) (show ((0 + 3) + 3) + 2048 ≤ 60000 from by first | with_reducible rfl | with_reducible assumption | omega) d_Nam_init_30 (fun q7 H hw => ?_)
  replace hw : pw D A s.heap H _ [[(h, .inr (2, [.ref q1, .ref q4, .null, .int 0, .int 0]))], [(q1, .inr (14, [.ref em, .int 0, .int 0]))], [(q4, .inr (14, [.ref em, .int 0, .int 0]))], [(q7, .inl (cs 0, 2048, .inl (fun _ => 0)))]] := hw
  have nd_q7 := nd_1 q7
  refine px_putF S k_Nam hin hT hw 0 0 2 rfl rfl (by decide) m2_77 rfl rfl rfl rfl (Nat.le_of_ble_eq_true rfl) d_Nam_init_32 (w' := [(h, .inr (2, [.ref q1, .ref q4, .ref q7, .int 0, .int 0]))]) (ps' := [[(h, .inr (2, [.ref q1, .ref q4, .ref q7, .int 0, .int 0]))], [(q1, .inr (14, [.ref em, .int 0, .int 0]))], [(q4, .inr (14, [.ref em, .int 0, .int 0]))], [(q7, .inl (cs 0, 2048, .inl (fun _ => 0)))]]) rfl rfl (fun H locs hw => ?_)
  have hw : pw D A s.heap _ _ [[(h, .inr (2, [.ref q1, .ref q4, .ref q7, .int 0, .int 0]))], [(q7, .inl (cs 0, 2048, .inl (fun _ => 0)))], [(q1, .inr (14, [.ref em, .int 0, .int 0]))], [(q4, .inr (14, [.ref em, .int 0, .int 0]))]] := hw.sub [0, 3, 1, 2] rfl rfl
  have hw : pw D A s.heap _ _ [wd_Nam cs h (fun k => if k = 0 then q1 else if k = 1 then q4 else q7) (fun _ => none) (upd (upd (fun _ => 0) 3 0) 4 0) (fun _ _ => 0) (fun _ _ => none), wd_Lst cs q1 (fun _ => 0) (fun k => if k = 0 then (some em) else none) (upd (upd (fun _ => 0) 1 0) 2 0) (fun _ _ => 0) (fun _ _ => none), wd_Lst cs q4 (fun _ => 0) (fun k => if k = 0 then (some em) else none) (upd (upd (fun _ => 0) 1 0) 2 0) (fun _ _ => 0) (fun _ _ => none), ([] : va_W)] := hw.eq rfl
  have hEl : ElS ([] : va_W) 0 (fun _ => none) := els_0 (by omega); have hEf : ElF ([] : va_W) 0 (fun _ => none) := elf_0; have hEg : ElG ([] : va_W) 0 (fun _ => none) := elg_0
  refine lv_iconst (v := 0) S.x S.b d_Nam_init_35 (by decide) ?_
  refine lv_istore_n (lv' := [(1, .int 0), (0, .ref h)]) S.x S.b d_Nam_init_36 rfl hl (by decide) rfl (fun ls hl => ?_)
  refine lv_iload_n S.x S.b d_Nam_init_37 rfl (lv_at hl 0 rfl) ?_
  refine va_getsN S.x S.b hqwG1 hw.2.2 S.own (va_Nw.use rfl (hT.2.2 _ m1_200n rfl)) (fun _ h => h) d_Nam_init_38 ?_
  refine va_tlen S.x S.b hqwG2 hw.2.2 (v := 14) rfl d_Nam_init_41 ?_
  have cs14_7 : (14 : Int32).toInt = 14 := rfl
  refine lv_icmp_ge (tgt := 62) S.x S.b d_Nam_init_42 (by decide) (fun c9 => ?_) (fun c9 => ?_)
  · exact absurd c9 (by decide)
  ·
    refine lv_aload_n S.x S.b d_Nam_init_45 rfl (lv_at hl 1 rfl) ?_
    refine px_get S k_Nam hT hw 0 0 2 (v := .ref q7) rfl rfl rfl (by decide) m2_77 d_Nam_init_46 ?_
    refine lv_iload_n S.x S.b d_Nam_init_49 rfl (lv_at hl 0 rfl) ?_
    refine va_getsN S.x S.b hqwG1 hw.2.2 S.own (va_Nw.use rfl (hT.2.2 _ m1_200n rfl)) (fun _ h => h) d_Nam_init_50 ?_
    refine lv_iload_n S.x S.b d_Nam_init_53 rfl (lv_at hl 0 rfl) ?_
    refine va_ti S.x S.b hqwG2 hw.2.2 (i := 0) (vp_in_iff.mpr (by constructor <;> omega)) rfl d_Nam_init_54 ?_
    refine lv_topi (fun z10 ez10 => ?_)
    have lz10 := Int32.le_toInt z10
    have uz10 := Int32.toInt_lt z10
    refine px_iast S hT hw 0 1 (n := 2048) (f := ((fun _ _ => 0) 2)) (x := 0) (y := z10) rfl (ga_Nam_2 _ _ _ _ _ _ _) (vp_in_iff.mpr (by constructor <;> omega)) d_Nam_init_55 (w' := wd_Nam cs h (fun k => if k = 0 then q1 else if k = 1 then q4 else q7) (fun _ => none) (upd (upd (fun _ => 0) 3 0) 4 0) (va_up (fun _ _ => 0) 2 (upd ((fun _ _ => 0) 2) (0 : Int32).toNatClampNeg z10)) (fun _ _ => none)) (ps' := [wd_Nam cs h (fun k => if k = 0 then q1 else if k = 1 then q4 else q7) (fun _ => none) (upd (upd (fun _ => 0) 3 0) 4 0) (va_up (fun _ _ => 0) 2 (upd ((fun _ _ => 0) 2) (0 : Int32).toNatClampNeg z10)) (fun _ _ => none), wd_Lst cs q1 (fun _ => 0) (fun k => if k = 0 then (some em) else none) (upd (upd (fun _ => 0) 1 0) 2 0) (fun _ _ => 0) (fun _ _ => none), wd_Lst cs q4 (fun _ => 0) (fun k => if k = 0 then (some em) else none) (upd (upd (fun _ => 0) 1 0) 2 0) (fun _ _ => 0) (fun _ _ => none), ([] : va_W)]) (sa_Nam_2 _ _ _ _ _ _ _ _) rfl (fun H locs hw => ?_)
    obtain ⟨na11, hna11⟩ : ∃ y : Nat → Nat → Int32, y = (va_up (fun _ _ => 0) 2 (upd ((fun _ _ => 0) 2) (0 : Int32).toNatClampNeg z10)) := ⟨_, rfl⟩
    have hw : pw D A s.heap _ _ [wd_Nam cs h (fun k => if k = 0 then q1 else if k = 1 then q4 else q7) (fun _ => none) (upd (upd (fun _ => 0) 3 0) 4 0) na11 (fun _ _ => none), wd_Lst cs q1 (fun _ => 0) (fun k => if k = 0 then (some em) else none) (upd (upd (fun _ => 0) 1 0) 2 0) (fun _ _ => 0) (fun _ _ => none), wd_Lst cs q4 (fun _ => 0) (fun k => if k = 0 then (some em) else none) (upd (upd (fun _ => 0) 1 0) 2 0) (fun _ _ => 0) (fun _ _ => none), ([] : va_W)] := (by rw [hna11]; exact hw)
    clear hna11
    obtain ⟨z12, ez12⟩ : ∃ y : Int32, y = 0 + 1 := ⟨_, rfl⟩
    have tz12 : z12.toInt = ((0 : Int) + 1 + 2147483648) % 4294967296 - 2147483648 := by rw [ez12]; exact i_add 0 1
    have lz12 := Int32.le_toInt z12
    have uz12 := Int32.toInt_lt z12
    try replace tz12 : z12.toInt = (0 : Int) + 1 := by omega
    refine lv_iinc (v := z12) (lv' := [(1, .int z12), (0, .ref h)]) S.x S.b d_Nam_init_56 hl (k := 0) rfl (by rw [ez12]; rfl) (by decide) rfl (fun ls hl => ?_)
    refine lv_goto (tgt := 37) S.x S.b d_Nam_init_59 (by decide) ?_
    refine lv_iload_n S.x S.b d_Nam_init_37 rfl (lv_at hl 0 rfl) ?_
    refine va_getsN S.x S.b hqwG1 hw.2.2 S.own (va_Nw.use rfl (hT.2.2 _ m1_200n rfl)) (fun _ h => h) d_Nam_init_38 ?_
    refine va_tlen S.x S.b hqwG2 hw.2.2 (v := 14) rfl d_Nam_init_41 ?_
    have cs14_12 : (14 : Int32).toInt = 14 := rfl
    refine lv_icmp_ge (tgt := 62) S.x S.b d_Nam_init_42 (by decide) (fun c14 => ?_) (fun c14 => ?_)
    · have nc14 : (14 : Int) ≤ z12.toInt := (i_le (x := 14) (y := z12)).mp c14
      exfalso
      omega
    · have nc14 : ¬ (14 : Int) ≤ z12.toInt := mt (i_le (x := 14) (y := z12)).mpr c14
      refine lv_aload_n S.x S.b d_Nam_init_45 rfl (lv_at hl 1 rfl) ?_
      refine px_get S k_Nam hT hw 0 0 2 (v := .ref q7) rfl rfl rfl (by decide) m2_77 d_Nam_init_46 ?_
      refine lv_iload_n S.x S.b d_Nam_init_49 rfl (lv_at hl 0 rfl) ?_
      refine va_getsN S.x S.b hqwG1 hw.2.2 S.own (va_Nw.use rfl (hT.2.2 _ m1_200n rfl)) (fun _ h => h) d_Nam_init_50 ?_
      refine lv_iload_n S.x S.b d_Nam_init_53 rfl (lv_at hl 0 rfl) ?_
      refine va_ti S.x S.b hqwG2 hw.2.2 (i := z12) (vp_in_iff.mpr (by constructor <;> omega)) rfl d_Nam_init_54 ?_
      refine lv_topi (fun z15 ez15 => ?_)
      have lz15 := Int32.le_toInt z15
      have uz15 := Int32.toInt_lt z15
      refine px_iast S hT hw 0 1 (n := 2048) (f := (na11 2)) (x := z12) (y := z15) rfl (ga_Nam_2 _ _ _ _ _ _ _) (vp_in_iff.mpr (by constructor <;> omega)) d_Nam_init_55 (w' := wd_Nam cs h (fun k => if k = 0 then q1 else if k = 1 then q4 else q7) (fun _ => none) (upd (upd (fun _ => 0) 3 0) 4 0) (va_up na11 2 (upd (na11 2) z12.toNatClampNeg z15)) (fun _ _ => none)) (ps' := [wd_Nam cs h (fun k => if k = 0 then q1 else if k = 1 then q4 else q7) (fun _ => none) (upd (upd (fun _ => 0) 3 0) 4 0) (va_up na11 2 (upd (na11 2) z12.toNatClampNeg z15)) (fun _ _ => none), wd_Lst cs q1 (fun _ => 0) (fun k => if k = 0 then (some em) else none) (upd (upd (fun _ => 0) 1 0) 2 0) (fun _ _ => 0) (fun _ _ => none), wd_Lst cs q4 (fun _ => 0) (fun k => if k = 0 then (some em) else none) (upd (upd (fun _ => 0) 1 0) 2 0) (fun _ _ => 0) (fun _ _ => none), ([] : va_W)]) (sa_Nam_2 _ _ _ _ _ _ _ _) rfl (fun H locs hw => ?_)
      obtain ⟨na16, hna16⟩ : ∃ y : Nat → Nat → Int32, y = (va_up na11 2 (upd (na11 2) z12.toNatClampNeg z15)) := ⟨_, rfl⟩
      have hw : pw D A s.heap _ _ [wd_Nam cs h (fun k => if k = 0 then q1 else if k = 1 then q4 else q7) (fun _ => none) (upd (upd (fun _ => 0) 3 0) 4 0) na16 (fun _ _ => none), wd_Lst cs q1 (fun _ => 0) (fun k => if k = 0 then (some em) else none) (upd (upd (fun _ => 0) 1 0) 2 0) (fun _ _ => 0) (fun _ _ => none), wd_Lst cs q4 (fun _ => 0) (fun k => if k = 0 then (some em) else none) (upd (upd (fun _ => 0) 1 0) 2 0) (fun _ _ => 0) (fun _ _ => none), ([] : va_W)] := (by rw [hna16]; exact hw)
      clear hna16
      obtain ⟨z17, ez17⟩ : ∃ y : Int32, y = z12 + 1 := ⟨_, rfl⟩
      have tz17 : z17.toInt = (z12.toInt + 1 + 2147483648) % 4294967296 - 2147483648 := by rw [ez17]; exact i_add z12 1
      have lz17 := Int32.le_toInt z17
      have uz17 := Int32.toInt_lt z17
      try replace tz17 : z17.toInt = z12.toInt + 1 := by omega
      refine lv_iinc (v := z17) (lv' := [(1, .int z17), (0, .ref h)]) S.x S.b d_Nam_init_56 hl (k := 0) rfl (by rw [ez17]; rfl) (by decide) rfl (fun ls hl => ?_)
      refine lv_goto (tgt := 37) S.x S.b d_Nam_init_59 (by decide) ?_
      refine lv_iload_n S.x S.b d_Nam_init_37 rfl (lv_at hl 0 rfl) ?_
      refine va_getsN S.x S.b hqwG1 hw.2.2 S.own (va_Nw.use rfl (hT.2.2 _ m1_200n rfl)) (fun _ h => h) d_Nam_init_38 ?_
      refine va_tlen S.x S.b hqwG2 hw.2.2 (v := 14) rfl d_Nam_init_41 ?_
      have cs14_17 : (14 : Int32).toInt = 14 := rfl
      refine lv_icmp_ge (tgt := 62) S.x S.b d_Nam_init_42 (by decide) (fun c19 => ?_) (fun c19 => ?_)
      · have nc19 : (14 : Int) ≤ z17.toInt := (i_le (x := 14) (y := z17)).mp c19
        exfalso
        omega
      · have nc19 : ¬ (14 : Int) ≤ z17.toInt := mt (i_le (x := 14) (y := z17)).mpr c19
        refine lv_aload_n S.x S.b d_Nam_init_45 rfl (lv_at hl 1 rfl) ?_
        refine px_get S k_Nam hT hw 0 0 2 (v := .ref q7) rfl rfl rfl (by decide) m2_77 d_Nam_init_46 ?_
        refine lv_iload_n S.x S.b d_Nam_init_49 rfl (lv_at hl 0 rfl) ?_
        refine va_getsN S.x S.b hqwG1 hw.2.2 S.own (va_Nw.use rfl (hT.2.2 _ m1_200n rfl)) (fun _ h => h) d_Nam_init_50 ?_
        refine lv_iload_n S.x S.b d_Nam_init_53 rfl (lv_at hl 0 rfl) ?_
        refine va_ti S.x S.b hqwG2 hw.2.2 (i := z17) (vp_in_iff.mpr (by constructor <;> omega)) rfl d_Nam_init_54 ?_
        refine lv_topi (fun z20 ez20 => ?_)
        have lz20 := Int32.le_toInt z20
        have uz20 := Int32.toInt_lt z20
        refine px_iast S hT hw 0 1 (n := 2048) (f := (na16 2)) (x := z17) (y := z20) rfl (ga_Nam_2 _ _ _ _ _ _ _) (vp_in_iff.mpr (by constructor <;> omega)) d_Nam_init_55 (w' := wd_Nam cs h (fun k => if k = 0 then q1 else if k = 1 then q4 else q7) (fun _ => none) (upd (upd (fun _ => 0) 3 0) 4 0) (va_up na16 2 (upd (na16 2) z17.toNatClampNeg z20)) (fun _ _ => none)) (ps' := [wd_Nam cs h (fun k => if k = 0 then q1 else if k = 1 then q4 else q7) (fun _ => none) (upd (upd (fun _ => 0) 3 0) 4 0) (va_up na16 2 (upd (na16 2) z17.toNatClampNeg z20)) (fun _ _ => none), wd_Lst cs q1 (fun _ => 0) (fun k => if k = 0 then (some em) else none) (upd (upd (fun _ => 0) 1 0) 2 0) (fun _ _ => 0) (fun _ _ => none), wd_Lst cs q4 (fun _ => 0) (fun k => if k = 0 then (some em) else none) (upd (upd (fun _ => 0) 1 0) 2 0) (fun _ _ => 0) (fun _ _ => none), ([] : va_W)]) (sa_Nam_2 _ _ _ _ _ _ _ _) rfl (fun H locs hw => ?_)
        obtain ⟨na21, hna21⟩ : ∃ y : Nat → Nat → Int32, y = (va_up na16 2 (upd (na16 2) z17.toNatClampNeg z20)) := ⟨_, rfl⟩
        have hw : pw D A s.heap _ _ [wd_Nam cs h (fun k => if k = 0 then q1 else if k = 1 then q4 else q7) (fun _ => none) (upd (upd (fun _ => 0) 3 0) 4 0) na21 (fun _ _ => none), wd_Lst cs q1 (fun _ => 0) (fun k => if k = 0 then (some em) else none) (upd (upd (fun _ => 0) 1 0) 2 0) (fun _ _ => 0) (fun _ _ => none), wd_Lst cs q4 (fun _ => 0) (fun k => if k = 0 then (some em) else none) (upd (upd (fun _ => 0) 1 0) 2 0) (fun _ _ => 0) (fun _ _ => none), ([] : va_W)] := (by rw [hna21]; exact hw)
        clear hna21
        obtain ⟨z22, ez22⟩ : ∃ y : Int32, y = z17 + 1 := ⟨_, rfl⟩
        have tz22 : z22.toInt = (z17.toInt + 1 + 2147483648) % 4294967296 - 2147483648 := by rw [ez22]; exact i_add z17 1
        have lz22 := Int32.le_toInt z22
        have uz22 := Int32.toInt_lt z22
        try replace tz22 : z22.toInt = z17.toInt + 1 := by omega
        refine lv_iinc (v := z22) (lv' := [(1, .int z22), (0, .ref h)]) S.x S.b d_Nam_init_56 hl (k := 0) rfl (by rw [ez22]; rfl) (by decide) rfl (fun ls hl => ?_)
        refine lv_goto (tgt := 37) S.x S.b d_Nam_init_59 (by decide) ?_
        refine lv_iload_n S.x S.b d_Nam_init_37 rfl (lv_at hl 0 rfl) ?_
        refine va_getsN S.x S.b hqwG1 hw.2.2 S.own (va_Nw.use rfl (hT.2.2 _ m1_200n rfl)) (fun _ h => h) d_Nam_init_38 ?_
        refine va_tlen S.x S.b hqwG2 hw.2.2 (v := 14) rfl d_Nam_init_41 ?_
        have cs14_22 : (14 : Int32).toInt = 14 := rfl
        refine lv_icmp_ge (tgt := 62) S.x S.b d_Nam_init_42 (by decide) (fun c24 => ?_) (fun c24 => ?_)
        · have nc24 : (14 : Int) ≤ z22.toInt := (i_le (x := 14) (y := z22)).mp c24
          exfalso
          omega
        · have nc24 : ¬ (14 : Int) ≤ z22.toInt := mt (i_le (x := 14) (y := z22)).mpr c24
          refine lv_aload_n S.x S.b d_Nam_init_45 rfl (lv_at hl 1 rfl) ?_
          refine px_get S k_Nam hT hw 0 0 2 (v := .ref q7) rfl rfl rfl (by decide) m2_77 d_Nam_init_46 ?_
          refine lv_iload_n S.x S.b d_Nam_init_49 rfl (lv_at hl 0 rfl) ?_
          refine va_getsN S.x S.b hqwG1 hw.2.2 S.own (va_Nw.use rfl (hT.2.2 _ m1_200n rfl)) (fun _ h => h) d_Nam_init_50 ?_
          refine lv_iload_n S.x S.b d_Nam_init_53 rfl (lv_at hl 0 rfl) ?_
          refine va_ti S.x S.b hqwG2 hw.2.2 (i := z22) (vp_in_iff.mpr (by constructor <;> omega)) rfl d_Nam_init_54 ?_
          refine lv_topi (fun z25 ez25 => ?_)
          have lz25 := Int32.le_toInt z25
          have uz25 := Int32.toInt_lt z25
          refine px_iast S hT hw 0 1 (n := 2048) (f := (na21 2)) (x := z22) (y := z25) rfl (ga_Nam_2 _ _ _ _ _ _ _) (vp_in_iff.mpr (by constructor <;> omega)) d_Nam_init_55 (w' := wd_Nam cs h (fun k => if k = 0 then q1 else if k = 1 then q4 else q7) (fun _ => none) (upd (upd (fun _ => 0) 3 0) 4 0) (va_up na21 2 (upd (na21 2) z22.toNatClampNeg z25)) (fun _ _ => none)) (ps' := [wd_Nam cs h (fun k => if k = 0 then q1 else if k = 1 then q4 else q7) (fun _ => none) (upd (upd (fun _ => 0) 3 0) 4 0) (va_up na21 2 (upd (na21 2) z22.toNatClampNeg z25)) (fun _ _ => none), wd_Lst cs q1 (fun _ => 0) (fun k => if k = 0 then (some em) else none) (upd (upd (fun _ => 0) 1 0) 2 0) (fun _ _ => 0) (fun _ _ => none), wd_Lst cs q4 (fun _ => 0) (fun k => if k = 0 then (some em) else none) (upd (upd (fun _ => 0) 1 0) 2 0) (fun _ _ => 0) (fun _ _ => none), ([] : va_W)]) (sa_Nam_2 _ _ _ _ _ _ _ _) rfl (fun H locs hw => ?_)
          obtain ⟨na26, hna26⟩ : ∃ y : Nat → Nat → Int32, y = (va_up na21 2 (upd (na21 2) z22.toNatClampNeg z25)) := ⟨_, rfl⟩
          have hw : pw D A s.heap _ _ [wd_Nam cs h (fun k => if k = 0 then q1 else if k = 1 then q4 else q7) (fun _ => none) (upd (upd (fun _ => 0) 3 0) 4 0) na26 (fun _ _ => none), wd_Lst cs q1 (fun _ => 0) (fun k => if k = 0 then (some em) else none) (upd (upd (fun _ => 0) 1 0) 2 0) (fun _ _ => 0) (fun _ _ => none), wd_Lst cs q4 (fun _ => 0) (fun k => if k = 0 then (some em) else none) (upd (upd (fun _ => 0) 1 0) 2 0) (fun _ _ => 0) (fun _ _ => none), ([] : va_W)] := (by rw [hna26]; exact hw)
          clear hna26
          obtain ⟨z27, ez27⟩ : ∃ y : Int32, y = z22 + 1 := ⟨_, rfl⟩
          have tz27 : z27.toInt = (z22.toInt + 1 + 2147483648) % 4294967296 - 2147483648 := by rw [ez27]; exact i_add z22 1
          have lz27 := Int32.le_toInt z27
          have uz27 := Int32.toInt_lt z27
          try replace tz27 : z27.toInt = z22.toInt + 1 := by omega
          refine lv_iinc (v := z27) (lv' := [(1, .int z27), (0, .ref h)]) S.x S.b d_Nam_init_56 hl (k := 0) rfl (by rw [ez27]; rfl) (by decide) rfl (fun ls hl => ?_)
          refine lv_goto (tgt := 37) S.x S.b d_Nam_init_59 (by decide) ?_
          refine lv_iload_n S.x S.b d_Nam_init_37 rfl (lv_at hl 0 rfl) ?_
          refine va_getsN S.x S.b hqwG1 hw.2.2 S.own (va_Nw.use rfl (hT.2.2 _ m1_200n rfl)) (fun _ h => h) d_Nam_init_38 ?_
          refine va_tlen S.x S.b hqwG2 hw.2.2 (v := 14) rfl d_Nam_init_41 ?_
          have cs14_27 : (14 : Int32).toInt = 14 := rfl
          refine lv_icmp_ge (tgt := 62) S.x S.b d_Nam_init_42 (by decide) (fun c29 => ?_) (fun c29 => ?_)
          · have nc29 : (14 : Int) ≤ z27.toInt := (i_le (x := 14) (y := z27)).mp c29
            exfalso
            omega
          · have nc29 : ¬ (14 : Int) ≤ z27.toInt := mt (i_le (x := 14) (y := z27)).mpr c29
            refine lv_aload_n S.x S.b d_Nam_init_45 rfl (lv_at hl 1 rfl) ?_
            refine px_get S k_Nam hT hw 0 0 2 (v := .ref q7) rfl rfl rfl (by decide) m2_77 d_Nam_init_46 ?_
            refine lv_iload_n S.x S.b d_Nam_init_49 rfl (lv_at hl 0 rfl) ?_
            refine va_getsN S.x S.b hqwG1 hw.2.2 S.own (va_Nw.use rfl (hT.2.2 _ m1_200n rfl)) (fun _ h => h) d_Nam_init_50 ?_
            refine lv_iload_n S.x S.b d_Nam_init_53 rfl (lv_at hl 0 rfl) ?_
            refine va_ti S.x S.b hqwG2 hw.2.2 (i := z27) (vp_in_iff.mpr (by constructor <;> omega)) rfl d_Nam_init_54 ?_
            refine lv_topi (fun z30 ez30 => ?_)
            have lz30 := Int32.le_toInt z30
            have uz30 := Int32.toInt_lt z30
            refine px_iast S hT hw 0 1 (n := 2048) (f := (na26 2)) (x := z27) (y := z30) rfl (ga_Nam_2 _ _ _ _ _ _ _) (vp_in_iff.mpr (by constructor <;> omega)) d_Nam_init_55 (w' := wd_Nam cs h (fun k => if k = 0 then q1 else if k = 1 then q4 else q7) (fun _ => none) (upd (upd (fun _ => 0) 3 0) 4 0) (va_up na26 2 (upd (na26 2) z27.toNatClampNeg z30)) (fun _ _ => none)) (ps' := [wd_Nam cs h (fun k => if k = 0 then q1 else if k = 1 then q4 else q7) (fun _ => none) (upd (upd (fun _ => 0) 3 0) 4 0) (va_up na26 2 (upd (na26 2) z27.toNatClampNeg z30)) (fun _ _ => none), wd_Lst cs q1 (fun _ => 0) (fun k => if k = 0 then (some em) else none) (upd (upd (fun _ => 0) 1 0) 2 0) (fun _ _ => 0) (fun _ _ => none), wd_Lst cs q4 (fun _ => 0) (fun k => if k = 0 then (some em) else none) (upd (upd (fun _ => 0) 1 0) 2 0) (fun _ _ => 0) (fun _ _ => none), ([] : va_W)]) (sa_Nam_2 _ _ _ _ _ _ _ _) rfl (fun H locs hw => ?_)
            obtain ⟨na31, hna31⟩ : ∃ y : Nat → Nat → Int32, y = (va_up na26 2 (upd (na26 2) z27.toNatClampNeg z30)) := ⟨_, rfl⟩
            have hw : pw D A s.heap _ _ [wd_Nam cs h (fun k => if k = 0 then q1 else if k = 1 then q4 else q7) (fun _ => none) (upd (upd (fun _ => 0) 3 0) 4 0) na31 (fun _ _ => none), wd_Lst cs q1 (fun _ => 0) (fun k => if k = 0 then (some em) else none) (upd (upd (fun _ => 0) 1 0) 2 0) (fun _ _ => 0) (fun _ _ => none), wd_Lst cs q4 (fun _ => 0) (fun k => if k = 0 then (some em) else none) (upd (upd (fun _ => 0) 1 0) 2 0) (fun _ _ => 0) (fun _ _ => none), ([] : va_W)] := (by rw [hna31]; exact hw)
            clear hna31
            obtain ⟨z32, ez32⟩ : ∃ y : Int32, y = z27 + 1 := ⟨_, rfl⟩
            have tz32 : z32.toInt = (z27.toInt + 1 + 2147483648) % 4294967296 - 2147483648 := by rw [ez32]; exact i_add z27 1
            have lz32 := Int32.le_toInt z32
            have uz32 := Int32.toInt_lt z32
            try replace tz32 : z32.toInt = z27.toInt + 1 := by omega
            refine lv_iinc (v := z32) (lv' := [(1, .int z32), (0, .ref h)]) S.x S.b d_Nam_init_56 hl (k := 0) rfl (by rw [ez32]; rfl) (by decide) rfl (fun ls hl => ?_)
            refine lv_goto (tgt := 37) S.x S.b d_Nam_init_59 (by decide) ?_
            refine lv_iload_n S.x S.b d_Nam_init_37 rfl (lv_at hl 0 rfl) ?_
            refine va_getsN S.x S.b hqwG1 hw.2.2 S.own (va_Nw.use rfl (hT.2.2 _ m1_200n rfl)) (fun _ h => h) d_Nam_init_38 ?_
            refine va_tlen S.x S.b hqwG2 hw.2.2 (v := 14) rfl d_Nam_init_41 ?_
            have cs14_32 : (14 : Int32).toInt = 14 := rfl
            refine lv_icmp_ge (tgt := 62) S.x S.b d_Nam_init_42 (by decide) (fun c34 => ?_) (fun c34 => ?_)
            · have nc34 : (14 : Int) ≤ z32.toInt := (i_le (x := 14) (y := z32)).mp c34
              exfalso
              omega
            · have nc34 : ¬ (14 : Int) ≤ z32.toInt := mt (i_le (x := 14) (y := z32)).mpr c34
              refine lv_aload_n S.x S.b d_Nam_init_45 rfl (lv_at hl 1 rfl) ?_
              refine px_get S k_Nam hT hw 0 0 2 (v := .ref q7) rfl rfl rfl (by decide) m2_77 d_Nam_init_46 ?_
              refine lv_iload_n S.x S.b d_Nam_init_49 rfl (lv_at hl 0 rfl) ?_
              refine va_getsN S.x S.b hqwG1 hw.2.2 S.own (va_Nw.use rfl (hT.2.2 _ m1_200n rfl)) (fun _ h => h) d_Nam_init_50 ?_
              refine lv_iload_n S.x S.b d_Nam_init_53 rfl (lv_at hl 0 rfl) ?_
              refine va_ti S.x S.b hqwG2 hw.2.2 (i := z32) (vp_in_iff.mpr (by constructor <;> omega)) rfl d_Nam_init_54 ?_
              refine lv_topi (fun z35 ez35 => ?_)
              have lz35 := Int32.le_toInt z35
              have uz35 := Int32.toInt_lt z35
              refine px_iast S hT hw 0 1 (n := 2048) (f := (na31 2)) (x := z32) (y := z35) rfl (ga_Nam_2 _ _ _ _ _ _ _) (vp_in_iff.mpr (by constructor <;> omega)) d_Nam_init_55 (w' := wd_Nam cs h (fun k => if k = 0 then q1 else if k = 1 then q4 else q7) (fun _ => none) (upd (upd (fun _ => 0) 3 0) 4 0) (va_up na31 2 (upd (na31 2) z32.toNatClampNeg z35)) (fun _ _ => none)) (ps' := [wd_Nam cs h (fun k => if k = 0 then q1 else if k = 1 then q4 else q7) (fun _ => none) (upd (upd (fun _ => 0) 3 0) 4 0) (va_up na31 2 (upd (na31 2) z32.toNatClampNeg z35)) (fun _ _ => none), wd_Lst cs q1 (fun _ => 0) (fun k => if k = 0 then (some em) else none) (upd (upd (fun _ => 0) 1 0) 2 0) (fun _ _ => 0) (fun _ _ => none), wd_Lst cs q4 (fun _ => 0) (fun k => if k = 0 then (some em) else none) (upd (upd (fun _ => 0) 1 0) 2 0) (fun _ _ => 0) (fun _ _ => none), ([] : va_W)]) (sa_Nam_2 _ _ _ _ _ _ _ _) rfl (fun H locs hw => ?_)
              obtain ⟨na36, hna36⟩ : ∃ y : Nat → Nat → Int32, y = (va_up na31 2 (upd (na31 2) z32.toNatClampNeg z35)) := ⟨_, rfl⟩
              have hw : pw D A s.heap _ _ [wd_Nam cs h (fun k => if k = 0 then q1 else if k = 1 then q4 else q7) (fun _ => none) (upd (upd (fun _ => 0) 3 0) 4 0) na36 (fun _ _ => none), wd_Lst cs q1 (fun _ => 0) (fun k => if k = 0 then (some em) else none) (upd (upd (fun _ => 0) 1 0) 2 0) (fun _ _ => 0) (fun _ _ => none), wd_Lst cs q4 (fun _ => 0) (fun k => if k = 0 then (some em) else none) (upd (upd (fun _ => 0) 1 0) 2 0) (fun _ _ => 0) (fun _ _ => none), ([] : va_W)] := (by rw [hna36]; exact hw)
              clear hna36
              obtain ⟨z37, ez37⟩ : ∃ y : Int32, y = z32 + 1 := ⟨_, rfl⟩
              have tz37 : z37.toInt = (z32.toInt + 1 + 2147483648) % 4294967296 - 2147483648 := by rw [ez37]; exact i_add z32 1
              have lz37 := Int32.le_toInt z37
              have uz37 := Int32.toInt_lt z37
              try replace tz37 : z37.toInt = z32.toInt + 1 := by omega
              refine lv_iinc (v := z37) (lv' := [(1, .int z37), (0, .ref h)]) S.x S.b d_Nam_init_56 hl (k := 0) rfl (by rw [ez37]; rfl) (by decide) rfl (fun ls hl => ?_)
              refine lv_goto (tgt := 37) S.x S.b d_Nam_init_59 (by decide) ?_
              refine lv_iload_n S.x S.b d_Nam_init_37 rfl (lv_at hl 0 rfl) ?_
              refine va_getsN S.x S.b hqwG1 hw.2.2 S.own (va_Nw.use rfl (hT.2.2 _ m1_200n rfl)) (fun _ h => h) d_Nam_init_38 ?_
              refine va_tlen S.x S.b hqwG2 hw.2.2 (v := 14) rfl d_Nam_init_41 ?_
              have cs14_37 : (14 : Int32).toInt = 14 := rfl
              refine lv_icmp_ge (tgt := 62) S.x S.b d_Nam_init_42 (by decide) (fun c39 => ?_) (fun c39 => ?_)
              · have nc39 : (14 : Int) ≤ z37.toInt := (i_le (x := 14) (y := z37)).mp c39
                exfalso
                omega
              · have nc39 : ¬ (14 : Int) ≤ z37.toInt := mt (i_le (x := 14) (y := z37)).mpr c39
                refine lv_aload_n S.x S.b d_Nam_init_45 rfl (lv_at hl 1 rfl) ?_
                refine px_get S k_Nam hT hw 0 0 2 (v := .ref q7) rfl rfl rfl (by decide) m2_77 d_Nam_init_46 ?_
                refine lv_iload_n S.x S.b d_Nam_init_49 rfl (lv_at hl 0 rfl) ?_
                refine va_getsN S.x S.b hqwG1 hw.2.2 S.own (va_Nw.use rfl (hT.2.2 _ m1_200n rfl)) (fun _ h => h) d_Nam_init_50 ?_
                refine lv_iload_n S.x S.b d_Nam_init_53 rfl (lv_at hl 0 rfl) ?_
                refine va_ti S.x S.b hqwG2 hw.2.2 (i := z37) (vp_in_iff.mpr (by constructor <;> omega)) rfl d_Nam_init_54 ?_
                refine lv_topi (fun z40 ez40 => ?_)
                have lz40 := Int32.le_toInt z40
                have uz40 := Int32.toInt_lt z40
                refine px_iast S hT hw 0 1 (n := 2048) (f := (na36 2)) (x := z37) (y := z40) rfl (ga_Nam_2 _ _ _ _ _ _ _) (vp_in_iff.mpr (by constructor <;> omega)) d_Nam_init_55 (w' := wd_Nam cs h (fun k => if k = 0 then q1 else if k = 1 then q4 else q7) (fun _ => none) (upd (upd (fun _ => 0) 3 0) 4 0) (va_up na36 2 (upd (na36 2) z37.toNatClampNeg z40)) (fun _ _ => none)) (ps' := [wd_Nam cs h (fun k => if k = 0 then q1 else if k = 1 then q4 else q7) (fun _ => none) (upd (upd (fun _ => 0) 3 0) 4 0) (va_up na36 2 (upd (na36 2) z37.toNatClampNeg z40)) (fun _ _ => none), wd_Lst cs q1 (fun _ => 0) (fun k => if k = 0 then (some em) else none) (upd (upd (fun _ => 0) 1 0) 2 0) (fun _ _ => 0) (fun _ _ => none), wd_Lst cs q4 (fun _ => 0) (fun k => if k = 0 then (some em) else none) (upd (upd (fun _ => 0) 1 0) 2 0) (fun _ _ => 0) (fun _ _ => none), ([] : va_W)]) (sa_Nam_2 _ _ _ _ _ _ _ _) rfl (fun H locs hw => ?_)
                obtain ⟨na41, hna41⟩ : ∃ y : Nat → Nat → Int32, y = (va_up na36 2 (upd (na36 2) z37.toNatClampNeg z40)) := ⟨_, rfl⟩
                have hw : pw D A s.heap _ _ [wd_Nam cs h (fun k => if k = 0 then q1 else if k = 1 then q4 else q7) (fun _ => none) (upd (upd (fun _ => 0) 3 0) 4 0) na41 (fun _ _ => none), wd_Lst cs q1 (fun _ => 0) (fun k => if k = 0 then (some em) else none) (upd (upd (fun _ => 0) 1 0) 2 0) (fun _ _ => 0) (fun _ _ => none), wd_Lst cs q4 (fun _ => 0) (fun k => if k = 0 then (some em) else none) (upd (upd (fun _ => 0) 1 0) 2 0) (fun _ _ => 0) (fun _ _ => none), ([] : va_W)] := (by rw [hna41]; exact hw)
                clear hna41
                obtain ⟨z42, ez42⟩ : ∃ y : Int32, y = z37 + 1 := ⟨_, rfl⟩
                have tz42 : z42.toInt = (z37.toInt + 1 + 2147483648) % 4294967296 - 2147483648 := by rw [ez42]; exact i_add z37 1
                have lz42 := Int32.le_toInt z42
                have uz42 := Int32.toInt_lt z42
                try replace tz42 : z42.toInt = z37.toInt + 1 := by omega
                refine lv_iinc (v := z42) (lv' := [(1, .int z42), (0, .ref h)]) S.x S.b d_Nam_init_56 hl (k := 0) rfl (by rw [ez42]; rfl) (by decide) rfl (fun ls hl => ?_)
                refine lv_goto (tgt := 37) S.x S.b d_Nam_init_59 (by decide) ?_
                refine lv_iload_n S.x S.b d_Nam_init_37 rfl (lv_at hl 0 rfl) ?_
                refine va_getsN S.x S.b hqwG1 hw.2.2 S.own (va_Nw.use rfl (hT.2.2 _ m1_200n rfl)) (fun _ h => h) d_Nam_init_38 ?_
                refine va_tlen S.x S.b hqwG2 hw.2.2 (v := 14) rfl d_Nam_init_41 ?_
                have cs14_42 : (14 : Int32).toInt = 14 := rfl
                refine lv_icmp_ge (tgt := 62) S.x S.b d_Nam_init_42 (by decide) (fun c44 => ?_) (fun c44 => ?_)
                · have nc44 : (14 : Int) ≤ z42.toInt := (i_le (x := 14) (y := z42)).mp c44
                  exfalso
                  omega
                · have nc44 : ¬ (14 : Int) ≤ z42.toInt := mt (i_le (x := 14) (y := z42)).mpr c44
                  refine lv_aload_n S.x S.b d_Nam_init_45 rfl (lv_at hl 1 rfl) ?_
                  refine px_get S k_Nam hT hw 0 0 2 (v := .ref q7) rfl rfl rfl (by decide) m2_77 d_Nam_init_46 ?_
                  refine lv_iload_n S.x S.b d_Nam_init_49 rfl (lv_at hl 0 rfl) ?_
                  refine va_getsN S.x S.b hqwG1 hw.2.2 S.own (va_Nw.use rfl (hT.2.2 _ m1_200n rfl)) (fun _ h => h) d_Nam_init_50 ?_
                  refine lv_iload_n S.x S.b d_Nam_init_53 rfl (lv_at hl 0 rfl) ?_
                  refine va_ti S.x S.b hqwG2 hw.2.2 (i := z42) (vp_in_iff.mpr (by constructor <;> omega)) rfl d_Nam_init_54 ?_
                  refine lv_topi (fun z45 ez45 => ?_)
                  have lz45 := Int32.le_toInt z45
                  have uz45 := Int32.toInt_lt z45
                  refine px_iast S hT hw 0 1 (n := 2048) (f := (na41 2)) (x := z42) (y := z45) rfl (ga_Nam_2 _ _ _ _ _ _ _) (vp_in_iff.mpr (by constructor <;> omega)) d_Nam_init_55 (w' := wd_Nam cs h (fun k => if k = 0 then q1 else if k = 1 then q4 else q7) (fun _ => none) (upd (upd (fun _ => 0) 3 0) 4 0) (va_up na41 2 (upd (na41 2) z42.toNatClampNeg z45)) (fun _ _ => none)) (ps' := [wd_Nam cs h (fun k => if k = 0 then q1 else if k = 1 then q4 else q7) (fun _ => none) (upd (upd (fun _ => 0) 3 0) 4 0) (va_up na41 2 (upd (na41 2) z42.toNatClampNeg z45)) (fun _ _ => none), wd_Lst cs q1 (fun _ => 0) (fun k => if k = 0 then (some em) else none) (upd (upd (fun _ => 0) 1 0) 2 0) (fun _ _ => 0) (fun _ _ => none), wd_Lst cs q4 (fun _ => 0) (fun k => if k = 0 then (some em) else none) (upd (upd (fun _ => 0) 1 0) 2 0) (fun _ _ => 0) (fun _ _ => none), ([] : va_W)]) (sa_Nam_2 _ _ _ _ _ _ _ _) rfl (fun H locs hw => ?_)
                  obtain ⟨na46, hna46⟩ : ∃ y : Nat → Nat → Int32, y = (va_up na41 2 (upd (na41 2) z42.toNatClampNeg z45)) := ⟨_, rfl⟩
                  have hw : pw D A s.heap _ _ [wd_Nam cs h (fun k => if k = 0 then q1 else if k = 1 then q4 else q7) (fun _ => none) (upd (upd (fun _ => 0) 3 0) 4 0) na46 (fun _ _ => none), wd_Lst cs q1 (fun _ => 0) (fun k => if k = 0 then (some em) else none) (upd (upd (fun _ => 0) 1 0) 2 0) (fun _ _ => 0) (fun _ _ => none), wd_Lst cs q4 (fun _ => 0) (fun k => if k = 0 then (some em) else none) (upd (upd (fun _ => 0) 1 0) 2 0) (fun _ _ => 0) (fun _ _ => none), ([] : va_W)] := (by rw [hna46]; exact hw)
                  clear hna46
                  obtain ⟨z47, ez47⟩ : ∃ y : Int32, y = z42 + 1 := ⟨_, rfl⟩
                  have tz47 : z47.toInt = (z42.toInt + 1 + 2147483648) % 4294967296 - 2147483648 := by rw [ez47]; exact i_add z42 1
                  have lz47 := Int32.le_toInt z47
                  have uz47 := Int32.toInt_lt z47
                  try replace tz47 : z47.toInt = z42.toInt + 1 := by omega
                  refine lv_iinc (v := z47) (lv' := [(1, .int z47), (0, .ref h)]) S.x S.b d_Nam_init_56 hl (k := 0) rfl (by rw [ez47]; rfl) (by decide) rfl (fun ls hl => ?_)
                  refine lv_goto (tgt := 37) S.x S.b d_Nam_init_59 (by decide) ?_
                  refine lv_iload_n S.x S.b d_Nam_init_37 rfl (lv_at hl 0 rfl) ?_
                  refine va_getsN S.x S.b hqwG1 hw.2.2 S.own (va_Nw.use rfl (hT.2.2 _ m1_200n rfl)) (fun _ h => h) d_Nam_init_38 ?_
                  refine va_tlen S.x S.b hqwG2 hw.2.2 (v := 14) rfl d_Nam_init_41 ?_
                  have cs14_47 : (14 : Int32).toInt = 14 := rfl
                  refine lv_icmp_ge (tgt := 62) S.x S.b d_Nam_init_42 (by decide) (fun c49 => ?_) (fun c49 => ?_)
                  · have nc49 : (14 : Int) ≤ z47.toInt := (i_le (x := 14) (y := z47)).mp c49
                    exfalso
                    omega
                  · have nc49 : ¬ (14 : Int) ≤ z47.toInt := mt (i_le (x := 14) (y := z47)).mpr c49
                    refine lv_aload_n S.x S.b d_Nam_init_45 rfl (lv_at hl 1 rfl) ?_
                    refine px_get S k_Nam hT hw 0 0 2 (v := .ref q7) rfl rfl rfl (by decide) m2_77 d_Nam_init_46 ?_
                    refine lv_iload_n S.x S.b d_Nam_init_49 rfl (lv_at hl 0 rfl) ?_
                    refine va_getsN S.x S.b hqwG1 hw.2.2 S.own (va_Nw.use rfl (hT.2.2 _ m1_200n rfl)) (fun _ h => h) d_Nam_init_50 ?_
                    refine lv_iload_n S.x S.b d_Nam_init_53 rfl (lv_at hl 0 rfl) ?_
                    refine va_ti S.x S.b hqwG2 hw.2.2 (i := z47) (vp_in_iff.mpr (by constructor <;> omega)) rfl d_Nam_init_54 ?_
                    refine lv_topi (fun z50 ez50 => ?_)
                    have lz50 := Int32.le_toInt z50
                    have uz50 := Int32.toInt_lt z50
                    refine px_iast S hT hw 0 1 (n := 2048) (f := (na46 2)) (x := z47) (y := z50) rfl (ga_Nam_2 _ _ _ _ _ _ _) (vp_in_iff.mpr (by constructor <;> omega)) d_Nam_init_55 (w' := wd_Nam cs h (fun k => if k = 0 then q1 else if k = 1 then q4 else q7) (fun _ => none) (upd (upd (fun _ => 0) 3 0) 4 0) (va_up na46 2 (upd (na46 2) z47.toNatClampNeg z50)) (fun _ _ => none)) (ps' := [wd_Nam cs h (fun k => if k = 0 then q1 else if k = 1 then q4 else q7) (fun _ => none) (upd (upd (fun _ => 0) 3 0) 4 0) (va_up na46 2 (upd (na46 2) z47.toNatClampNeg z50)) (fun _ _ => none), wd_Lst cs q1 (fun _ => 0) (fun k => if k = 0 then (some em) else none) (upd (upd (fun _ => 0) 1 0) 2 0) (fun _ _ => 0) (fun _ _ => none), wd_Lst cs q4 (fun _ => 0) (fun k => if k = 0 then (some em) else none) (upd (upd (fun _ => 0) 1 0) 2 0) (fun _ _ => 0) (fun _ _ => none), ([] : va_W)]) (sa_Nam_2 _ _ _ _ _ _ _ _) rfl (fun H locs hw => ?_)
                    obtain ⟨na51, hna51⟩ : ∃ y : Nat → Nat → Int32, y = (va_up na46 2 (upd (na46 2) z47.toNatClampNeg z50)) := ⟨_, rfl⟩
                    have hw : pw D A s.heap _ _ [wd_Nam cs h (fun k => if k = 0 then q1 else if k = 1 then q4 else q7) (fun _ => none) (upd (upd (fun _ => 0) 3 0) 4 0) na51 (fun _ _ => none), wd_Lst cs q1 (fun _ => 0) (fun k => if k = 0 then (some em) else none) (upd (upd (fun _ => 0) 1 0) 2 0) (fun _ _ => 0) (fun _ _ => none), wd_Lst cs q4 (fun _ => 0) (fun k => if k = 0 then (some em) else none) (upd (upd (fun _ => 0) 1 0) 2 0) (fun _ _ => 0) (fun _ _ => none), ([] : va_W)] := (by rw [hna51]; exact hw)
                    clear hna51
                    obtain ⟨z52, ez52⟩ : ∃ y : Int32, y = z47 + 1 := ⟨_, rfl⟩
                    have tz52 : z52.toInt = (z47.toInt + 1 + 2147483648) % 4294967296 - 2147483648 := by rw [ez52]; exact i_add z47 1
                    have lz52 := Int32.le_toInt z52
                    have uz52 := Int32.toInt_lt z52
                    try replace tz52 : z52.toInt = z47.toInt + 1 := by omega
                    refine lv_iinc (v := z52) (lv' := [(1, .int z52), (0, .ref h)]) S.x S.b d_Nam_init_56 hl (k := 0) rfl (by rw [ez52]; rfl) (by decide) rfl (fun ls hl => ?_)
                    refine lv_goto (tgt := 37) S.x S.b d_Nam_init_59 (by decide) ?_
                    refine lv_iload_n S.x S.b d_Nam_init_37 rfl (lv_at hl 0 rfl) ?_
                    refine va_getsN S.x S.b hqwG1 hw.2.2 S.own (va_Nw.use rfl (hT.2.2 _ m1_200n rfl)) (fun _ h => h) d_Nam_init_38 ?_
                    refine va_tlen S.x S.b hqwG2 hw.2.2 (v := 14) rfl d_Nam_init_41 ?_
                    have cs14_52 : (14 : Int32).toInt = 14 := rfl
                    refine lv_icmp_ge (tgt := 62) S.x S.b d_Nam_init_42 (by decide) (fun c54 => ?_) (fun c54 => ?_)
                    · have nc54 : (14 : Int) ≤ z52.toInt := (i_le (x := 14) (y := z52)).mp c54
                      exfalso
                      omega
                    · have nc54 : ¬ (14 : Int) ≤ z52.toInt := mt (i_le (x := 14) (y := z52)).mpr c54
                      refine lv_aload_n S.x S.b d_Nam_init_45 rfl (lv_at hl 1 rfl) ?_
                      refine px_get S k_Nam hT hw 0 0 2 (v := .ref q7) rfl rfl rfl (by decide) m2_77 d_Nam_init_46 ?_
                      refine lv_iload_n S.x S.b d_Nam_init_49 rfl (lv_at hl 0 rfl) ?_
                      refine va_getsN S.x S.b hqwG1 hw.2.2 S.own (va_Nw.use rfl (hT.2.2 _ m1_200n rfl)) (fun _ h => h) d_Nam_init_50 ?_
                      refine lv_iload_n S.x S.b d_Nam_init_53 rfl (lv_at hl 0 rfl) ?_
                      refine va_ti S.x S.b hqwG2 hw.2.2 (i := z52) (vp_in_iff.mpr (by constructor <;> omega)) rfl d_Nam_init_54 ?_
                      refine lv_topi (fun z55 ez55 => ?_)
                      have lz55 := Int32.le_toInt z55
                      have uz55 := Int32.toInt_lt z55
                      refine px_iast S hT hw 0 1 (n := 2048) (f := (na51 2)) (x := z52) (y := z55) rfl (ga_Nam_2 _ _ _ _ _ _ _) (vp_in_iff.mpr (by constructor <;> omega)) d_Nam_init_55 (w' := wd_Nam cs h (fun k => if k = 0 then q1 else if k = 1 then q4 else q7) (fun _ => none) (upd (upd (fun _ => 0) 3 0) 4 0) (va_up na51 2 (upd (na51 2) z52.toNatClampNeg z55)) (fun _ _ => none)) (ps' := [wd_Nam cs h (fun k => if k = 0 then q1 else if k = 1 then q4 else q7) (fun _ => none) (upd (upd (fun _ => 0) 3 0) 4 0) (va_up na51 2 (upd (na51 2) z52.toNatClampNeg z55)) (fun _ _ => none), wd_Lst cs q1 (fun _ => 0) (fun k => if k = 0 then (some em) else none) (upd (upd (fun _ => 0) 1 0) 2 0) (fun _ _ => 0) (fun _ _ => none), wd_Lst cs q4 (fun _ => 0) (fun k => if k = 0 then (some em) else none) (upd (upd (fun _ => 0) 1 0) 2 0) (fun _ _ => 0) (fun _ _ => none), ([] : va_W)]) (sa_Nam_2 _ _ _ _ _ _ _ _) rfl (fun H locs hw => ?_)
                      obtain ⟨na56, hna56⟩ : ∃ y : Nat → Nat → Int32, y = (va_up na51 2 (upd (na51 2) z52.toNatClampNeg z55)) := ⟨_, rfl⟩
                      have hw : pw D A s.heap _ _ [wd_Nam cs h (fun k => if k = 0 then q1 else if k = 1 then q4 else q7) (fun _ => none) (upd (upd (fun _ => 0) 3 0) 4 0) na56 (fun _ _ => none), wd_Lst cs q1 (fun _ => 0) (fun k => if k = 0 then (some em) else none) (upd (upd (fun _ => 0) 1 0) 2 0) (fun _ _ => 0) (fun _ _ => none), wd_Lst cs q4 (fun _ => 0) (fun k => if k = 0 then (some em) else none) (upd (upd (fun _ => 0) 1 0) 2 0) (fun _ _ => 0) (fun _ _ => none), ([] : va_W)] := (by rw [hna56]; exact hw)
                      clear hna56
                      obtain ⟨z57, ez57⟩ : ∃ y : Int32, y = z52 + 1 := ⟨_, rfl⟩
                      have tz57 : z57.toInt = (z52.toInt + 1 + 2147483648) % 4294967296 - 2147483648 := by rw [ez57]; exact i_add z52 1
                      have lz57 := Int32.le_toInt z57
                      have uz57 := Int32.toInt_lt z57
                      try replace tz57 : z57.toInt = z52.toInt + 1 := by omega
                      refine lv_iinc (v := z57) (lv' := [(1, .int z57), (0, .ref h)]) S.x S.b d_Nam_init_56 hl (k := 0) rfl (by rw [ez57]; rfl) (by decide) rfl (fun ls hl => ?_)
                      refine lv_goto (tgt := 37) S.x S.b d_Nam_init_59 (by decide) ?_
                      refine lv_iload_n S.x S.b d_Nam_init_37 rfl (lv_at hl 0 rfl) ?_
                      refine va_getsN S.x S.b hqwG1 hw.2.2 S.own (va_Nw.use rfl (hT.2.2 _ m1_200n rfl)) (fun _ h => h) d_Nam_init_38 ?_
                      refine va_tlen S.x S.b hqwG2 hw.2.2 (v := 14) rfl d_Nam_init_41 ?_
                      have cs14_57 : (14 : Int32).toInt = 14 := rfl
                      refine lv_icmp_ge (tgt := 62) S.x S.b d_Nam_init_42 (by decide) (fun c59 => ?_) (fun c59 => ?_)
                      · have nc59 : (14 : Int) ≤ z57.toInt := (i_le (x := 14) (y := z57)).mp c59
                        exfalso
                        omega
                      · have nc59 : ¬ (14 : Int) ≤ z57.toInt := mt (i_le (x := 14) (y := z57)).mpr c59
                        refine lv_aload_n S.x S.b d_Nam_init_45 rfl (lv_at hl 1 rfl) ?_
                        refine px_get S k_Nam hT hw 0 0 2 (v := .ref q7) rfl rfl rfl (by decide) m2_77 d_Nam_init_46 ?_
                        refine lv_iload_n S.x S.b d_Nam_init_49 rfl (lv_at hl 0 rfl) ?_
                        refine va_getsN S.x S.b hqwG1 hw.2.2 S.own (va_Nw.use rfl (hT.2.2 _ m1_200n rfl)) (fun _ h => h) d_Nam_init_50 ?_
                        refine lv_iload_n S.x S.b d_Nam_init_53 rfl (lv_at hl 0 rfl) ?_
                        refine va_ti S.x S.b hqwG2 hw.2.2 (i := z57) (vp_in_iff.mpr (by constructor <;> omega)) rfl d_Nam_init_54 ?_
                        refine lv_topi (fun z60 ez60 => ?_)
                        have lz60 := Int32.le_toInt z60
                        have uz60 := Int32.toInt_lt z60
                        refine px_iast S hT hw 0 1 (n := 2048) (f := (na56 2)) (x := z57) (y := z60) rfl (ga_Nam_2 _ _ _ _ _ _ _) (vp_in_iff.mpr (by constructor <;> omega)) d_Nam_init_55 (w' := wd_Nam cs h (fun k => if k = 0 then q1 else if k = 1 then q4 else q7) (fun _ => none) (upd (upd (fun _ => 0) 3 0) 4 0) (va_up na56 2 (upd (na56 2) z57.toNatClampNeg z60)) (fun _ _ => none)) (ps' := [wd_Nam cs h (fun k => if k = 0 then q1 else if k = 1 then q4 else q7) (fun _ => none) (upd (upd (fun _ => 0) 3 0) 4 0) (va_up na56 2 (upd (na56 2) z57.toNatClampNeg z60)) (fun _ _ => none), wd_Lst cs q1 (fun _ => 0) (fun k => if k = 0 then (some em) else none) (upd (upd (fun _ => 0) 1 0) 2 0) (fun _ _ => 0) (fun _ _ => none), wd_Lst cs q4 (fun _ => 0) (fun k => if k = 0 then (some em) else none) (upd (upd (fun _ => 0) 1 0) 2 0) (fun _ _ => 0) (fun _ _ => none), ([] : va_W)]) (sa_Nam_2 _ _ _ _ _ _ _ _) rfl (fun H locs hw => ?_)
                        obtain ⟨na61, hna61⟩ : ∃ y : Nat → Nat → Int32, y = (va_up na56 2 (upd (na56 2) z57.toNatClampNeg z60)) := ⟨_, rfl⟩
                        have hw : pw D A s.heap _ _ [wd_Nam cs h (fun k => if k = 0 then q1 else if k = 1 then q4 else q7) (fun _ => none) (upd (upd (fun _ => 0) 3 0) 4 0) na61 (fun _ _ => none), wd_Lst cs q1 (fun _ => 0) (fun k => if k = 0 then (some em) else none) (upd (upd (fun _ => 0) 1 0) 2 0) (fun _ _ => 0) (fun _ _ => none), wd_Lst cs q4 (fun _ => 0) (fun k => if k = 0 then (some em) else none) (upd (upd (fun _ => 0) 1 0) 2 0) (fun _ _ => 0) (fun _ _ => none), ([] : va_W)] := (by rw [hna61]; exact hw)
                        clear hna61
                        obtain ⟨z62, ez62⟩ : ∃ y : Int32, y = z57 + 1 := ⟨_, rfl⟩
                        have tz62 : z62.toInt = (z57.toInt + 1 + 2147483648) % 4294967296 - 2147483648 := by rw [ez62]; exact i_add z57 1
                        have lz62 := Int32.le_toInt z62
                        have uz62 := Int32.toInt_lt z62
                        try replace tz62 : z62.toInt = z57.toInt + 1 := by omega
                        refine lv_iinc (v := z62) (lv' := [(1, .int z62), (0, .ref h)]) S.x S.b d_Nam_init_56 hl (k := 0) rfl (by rw [ez62]; rfl) (by decide) rfl (fun ls hl => ?_)
                        refine lv_goto (tgt := 37) S.x S.b d_Nam_init_59 (by decide) ?_
                        refine lv_iload_n S.x S.b d_Nam_init_37 rfl (lv_at hl 0 rfl) ?_
                        refine va_getsN S.x S.b hqwG1 hw.2.2 S.own (va_Nw.use rfl (hT.2.2 _ m1_200n rfl)) (fun _ h => h) d_Nam_init_38 ?_
                        refine va_tlen S.x S.b hqwG2 hw.2.2 (v := 14) rfl d_Nam_init_41 ?_
                        have cs14_62 : (14 : Int32).toInt = 14 := rfl
                        refine lv_icmp_ge (tgt := 62) S.x S.b d_Nam_init_42 (by decide) (fun c64 => ?_) (fun c64 => ?_)
                        · have nc64 : (14 : Int) ≤ z62.toInt := (i_le (x := 14) (y := z62)).mp c64
                          exfalso
                          omega
                        · have nc64 : ¬ (14 : Int) ≤ z62.toInt := mt (i_le (x := 14) (y := z62)).mpr c64
                          refine lv_aload_n S.x S.b d_Nam_init_45 rfl (lv_at hl 1 rfl) ?_
                          refine px_get S k_Nam hT hw 0 0 2 (v := .ref q7) rfl rfl rfl (by decide) m2_77 d_Nam_init_46 ?_
                          refine lv_iload_n S.x S.b d_Nam_init_49 rfl (lv_at hl 0 rfl) ?_
                          refine va_getsN S.x S.b hqwG1 hw.2.2 S.own (va_Nw.use rfl (hT.2.2 _ m1_200n rfl)) (fun _ h => h) d_Nam_init_50 ?_
                          refine lv_iload_n S.x S.b d_Nam_init_53 rfl (lv_at hl 0 rfl) ?_
                          refine va_ti S.x S.b hqwG2 hw.2.2 (i := z62) (vp_in_iff.mpr (by constructor <;> omega)) rfl d_Nam_init_54 ?_
                          refine lv_topi (fun z65 ez65 => ?_)
                          have lz65 := Int32.le_toInt z65
                          have uz65 := Int32.toInt_lt z65
                          refine px_iast S hT hw 0 1 (n := 2048) (f := (na61 2)) (x := z62) (y := z65) rfl (ga_Nam_2 _ _ _ _ _ _ _) (vp_in_iff.mpr (by constructor <;> omega)) d_Nam_init_55 (w' := wd_Nam cs h (fun k => if k = 0 then q1 else if k = 1 then q4 else q7) (fun _ => none) (upd (upd (fun _ => 0) 3 0) 4 0) (va_up na61 2 (upd (na61 2) z62.toNatClampNeg z65)) (fun _ _ => none)) (ps' := [wd_Nam cs h (fun k => if k = 0 then q1 else if k = 1 then q4 else q7) (fun _ => none) (upd (upd (fun _ => 0) 3 0) 4 0) (va_up na61 2 (upd (na61 2) z62.toNatClampNeg z65)) (fun _ _ => none), wd_Lst cs q1 (fun _ => 0) (fun k => if k = 0 then (some em) else none) (upd (upd (fun _ => 0) 1 0) 2 0) (fun _ _ => 0) (fun _ _ => none), wd_Lst cs q4 (fun _ => 0) (fun k => if k = 0 then (some em) else none) (upd (upd (fun _ => 0) 1 0) 2 0) (fun _ _ => 0) (fun _ _ => none), ([] : va_W)]) (sa_Nam_2 _ _ _ _ _ _ _ _) rfl (fun H locs hw => ?_)
                          obtain ⟨na66, hna66⟩ : ∃ y : Nat → Nat → Int32, y = (va_up na61 2 (upd (na61 2) z62.toNatClampNeg z65)) := ⟨_, rfl⟩
                          have hw : pw D A s.heap _ _ [wd_Nam cs h (fun k => if k = 0 then q1 else if k = 1 then q4 else q7) (fun _ => none) (upd (upd (fun _ => 0) 3 0) 4 0) na66 (fun _ _ => none), wd_Lst cs q1 (fun _ => 0) (fun k => if k = 0 then (some em) else none) (upd (upd (fun _ => 0) 1 0) 2 0) (fun _ _ => 0) (fun _ _ => none), wd_Lst cs q4 (fun _ => 0) (fun k => if k = 0 then (some em) else none) (upd (upd (fun _ => 0) 1 0) 2 0) (fun _ _ => 0) (fun _ _ => none), ([] : va_W)] := (by rw [hna66]; exact hw)
                          clear hna66
                          obtain ⟨z67, ez67⟩ : ∃ y : Int32, y = z62 + 1 := ⟨_, rfl⟩
                          have tz67 : z67.toInt = (z62.toInt + 1 + 2147483648) % 4294967296 - 2147483648 := by rw [ez67]; exact i_add z62 1
                          have lz67 := Int32.le_toInt z67
                          have uz67 := Int32.toInt_lt z67
                          try replace tz67 : z67.toInt = z62.toInt + 1 := by omega
                          refine lv_iinc (v := z67) (lv' := [(1, .int z67), (0, .ref h)]) S.x S.b d_Nam_init_56 hl (k := 0) rfl (by rw [ez67]; rfl) (by decide) rfl (fun ls hl => ?_)
                          refine lv_goto (tgt := 37) S.x S.b d_Nam_init_59 (by decide) ?_
                          refine lv_iload_n S.x S.b d_Nam_init_37 rfl (lv_at hl 0 rfl) ?_
                          refine va_getsN S.x S.b hqwG1 hw.2.2 S.own (va_Nw.use rfl (hT.2.2 _ m1_200n rfl)) (fun _ h => h) d_Nam_init_38 ?_
                          refine va_tlen S.x S.b hqwG2 hw.2.2 (v := 14) rfl d_Nam_init_41 ?_
                          have cs14_67 : (14 : Int32).toInt = 14 := rfl
                          refine lv_icmp_ge (tgt := 62) S.x S.b d_Nam_init_42 (by decide) (fun c69 => ?_) (fun c69 => ?_)
                          · have nc69 : (14 : Int) ≤ z67.toInt := (i_le (x := 14) (y := z67)).mp c69
                            exfalso
                            omega
                          · have nc69 : ¬ (14 : Int) ≤ z67.toInt := mt (i_le (x := 14) (y := z67)).mpr c69
                            refine lv_aload_n S.x S.b d_Nam_init_45 rfl (lv_at hl 1 rfl) ?_
                            refine px_get S k_Nam hT hw 0 0 2 (v := .ref q7) rfl rfl rfl (by decide) m2_77 d_Nam_init_46 ?_
                            refine lv_iload_n S.x S.b d_Nam_init_49 rfl (lv_at hl 0 rfl) ?_
                            refine va_getsN S.x S.b hqwG1 hw.2.2 S.own (va_Nw.use rfl (hT.2.2 _ m1_200n rfl)) (fun _ h => h) d_Nam_init_50 ?_
                            refine lv_iload_n S.x S.b d_Nam_init_53 rfl (lv_at hl 0 rfl) ?_
                            refine va_ti S.x S.b hqwG2 hw.2.2 (i := z67) (vp_in_iff.mpr (by constructor <;> omega)) rfl d_Nam_init_54 ?_
                            refine lv_topi (fun z70 ez70 => ?_)
                            have lz70 := Int32.le_toInt z70
                            have uz70 := Int32.toInt_lt z70
                            refine px_iast S hT hw 0 1 (n := 2048) (f := (na66 2)) (x := z67) (y := z70) rfl (ga_Nam_2 _ _ _ _ _ _ _) (vp_in_iff.mpr (by constructor <;> omega)) d_Nam_init_55 (w' := wd_Nam cs h (fun k => if k = 0 then q1 else if k = 1 then q4 else q7) (fun _ => none) (upd (upd (fun _ => 0) 3 0) 4 0) (va_up na66 2 (upd (na66 2) z67.toNatClampNeg z70)) (fun _ _ => none)) (ps' := [wd_Nam cs h (fun k => if k = 0 then q1 else if k = 1 then q4 else q7) (fun _ => none) (upd (upd (fun _ => 0) 3 0) 4 0) (va_up na66 2 (upd (na66 2) z67.toNatClampNeg z70)) (fun _ _ => none), wd_Lst cs q1 (fun _ => 0) (fun k => if k = 0 then (some em) else none) (upd (upd (fun _ => 0) 1 0) 2 0) (fun _ _ => 0) (fun _ _ => none), wd_Lst cs q4 (fun _ => 0) (fun k => if k = 0 then (some em) else none) (upd (upd (fun _ => 0) 1 0) 2 0) (fun _ _ => 0) (fun _ _ => none), ([] : va_W)]) (sa_Nam_2 _ _ _ _ _ _ _ _) rfl (fun H locs hw => ?_)
                            obtain ⟨na71, hna71⟩ : ∃ y : Nat → Nat → Int32, y = (va_up na66 2 (upd (na66 2) z67.toNatClampNeg z70)) := ⟨_, rfl⟩
                            have hw : pw D A s.heap _ _ [wd_Nam cs h (fun k => if k = 0 then q1 else if k = 1 then q4 else q7) (fun _ => none) (upd (upd (fun _ => 0) 3 0) 4 0) na71 (fun _ _ => none), wd_Lst cs q1 (fun _ => 0) (fun k => if k = 0 then (some em) else none) (upd (upd (fun _ => 0) 1 0) 2 0) (fun _ _ => 0) (fun _ _ => none), wd_Lst cs q4 (fun _ => 0) (fun k => if k = 0 then (some em) else none) (upd (upd (fun _ => 0) 1 0) 2 0) (fun _ _ => 0) (fun _ _ => none), ([] : va_W)] := (by rw [hna71]; exact hw)
                            clear hna71
                            obtain ⟨z72, ez72⟩ : ∃ y : Int32, y = z67 + 1 := ⟨_, rfl⟩
                            have tz72 : z72.toInt = (z67.toInt + 1 + 2147483648) % 4294967296 - 2147483648 := by rw [ez72]; exact i_add z67 1
                            have lz72 := Int32.le_toInt z72
                            have uz72 := Int32.toInt_lt z72
                            try replace tz72 : z72.toInt = z67.toInt + 1 := by omega
                            refine lv_iinc (v := z72) (lv' := [(1, .int z72), (0, .ref h)]) S.x S.b d_Nam_init_56 hl (k := 0) rfl (by rw [ez72]; rfl) (by decide) rfl (fun ls hl => ?_)
                            refine lv_goto (tgt := 37) S.x S.b d_Nam_init_59 (by decide) ?_
                            refine lv_iload_n S.x S.b d_Nam_init_37 rfl (lv_at hl 0 rfl) ?_
                            refine va_getsN S.x S.b hqwG1 hw.2.2 S.own (va_Nw.use rfl (hT.2.2 _ m1_200n rfl)) (fun _ h => h) d_Nam_init_38 ?_
                            refine va_tlen S.x S.b hqwG2 hw.2.2 (v := 14) rfl d_Nam_init_41 ?_
                            have cs14_72 : (14 : Int32).toInt = 14 := rfl
                            refine lv_icmp_ge (tgt := 62) S.x S.b d_Nam_init_42 (by decide) (fun c74 => ?_) (fun c74 => ?_)
                            · have nc74 : (14 : Int) ≤ z72.toInt := (i_le (x := 14) (y := z72)).mp c74
                              exfalso
                              omega
                            · have nc74 : ¬ (14 : Int) ≤ z72.toInt := mt (i_le (x := 14) (y := z72)).mpr c74
                              refine lv_aload_n S.x S.b d_Nam_init_45 rfl (lv_at hl 1 rfl) ?_
                              refine px_get S k_Nam hT hw 0 0 2 (v := .ref q7) rfl rfl rfl (by decide) m2_77 d_Nam_init_46 ?_
                              refine lv_iload_n S.x S.b d_Nam_init_49 rfl (lv_at hl 0 rfl) ?_
                              refine va_getsN S.x S.b hqwG1 hw.2.2 S.own (va_Nw.use rfl (hT.2.2 _ m1_200n rfl)) (fun _ h => h) d_Nam_init_50 ?_
                              refine lv_iload_n S.x S.b d_Nam_init_53 rfl (lv_at hl 0 rfl) ?_
                              refine va_ti S.x S.b hqwG2 hw.2.2 (i := z72) (vp_in_iff.mpr (by constructor <;> omega)) rfl d_Nam_init_54 ?_
                              refine lv_topi (fun z75 ez75 => ?_)
                              have lz75 := Int32.le_toInt z75
                              have uz75 := Int32.toInt_lt z75
                              refine px_iast S hT hw 0 1 (n := 2048) (f := (na71 2)) (x := z72) (y := z75) rfl (ga_Nam_2 _ _ _ _ _ _ _) (vp_in_iff.mpr (by constructor <;> omega)) d_Nam_init_55 (w' := wd_Nam cs h (fun k => if k = 0 then q1 else if k = 1 then q4 else q7) (fun _ => none) (upd (upd (fun _ => 0) 3 0) 4 0) (va_up na71 2 (upd (na71 2) z72.toNatClampNeg z75)) (fun _ _ => none)) (ps' := [wd_Nam cs h (fun k => if k = 0 then q1 else if k = 1 then q4 else q7) (fun _ => none) (upd (upd (fun _ => 0) 3 0) 4 0) (va_up na71 2 (upd (na71 2) z72.toNatClampNeg z75)) (fun _ _ => none), wd_Lst cs q1 (fun _ => 0) (fun k => if k = 0 then (some em) else none) (upd (upd (fun _ => 0) 1 0) 2 0) (fun _ _ => 0) (fun _ _ => none), wd_Lst cs q4 (fun _ => 0) (fun k => if k = 0 then (some em) else none) (upd (upd (fun _ => 0) 1 0) 2 0) (fun _ _ => 0) (fun _ _ => none), ([] : va_W)]) (sa_Nam_2 _ _ _ _ _ _ _ _) rfl (fun H locs hw => ?_)
                              obtain ⟨na76, hna76⟩ : ∃ y : Nat → Nat → Int32, y = (va_up na71 2 (upd (na71 2) z72.toNatClampNeg z75)) := ⟨_, rfl⟩
                              have hw : pw D A s.heap _ _ [wd_Nam cs h (fun k => if k = 0 then q1 else if k = 1 then q4 else q7) (fun _ => none) (upd (upd (fun _ => 0) 3 0) 4 0) na76 (fun _ _ => none), wd_Lst cs q1 (fun _ => 0) (fun k => if k = 0 then (some em) else none) (upd (upd (fun _ => 0) 1 0) 2 0) (fun _ _ => 0) (fun _ _ => none), wd_Lst cs q4 (fun _ => 0) (fun k => if k = 0 then (some em) else none) (upd (upd (fun _ => 0) 1 0) 2 0) (fun _ _ => 0) (fun _ _ => none), ([] : va_W)] := (by rw [hna76]; exact hw)
                              clear hna76
                              obtain ⟨z77, ez77⟩ : ∃ y : Int32, y = z72 + 1 := ⟨_, rfl⟩
                              have tz77 : z77.toInt = (z72.toInt + 1 + 2147483648) % 4294967296 - 2147483648 := by rw [ez77]; exact i_add z72 1
                              have lz77 := Int32.le_toInt z77
                              have uz77 := Int32.toInt_lt z77
                              try replace tz77 : z77.toInt = z72.toInt + 1 := by omega
                              refine lv_iinc (v := z77) (lv' := [(1, .int z77), (0, .ref h)]) S.x S.b d_Nam_init_56 hl (k := 0) rfl (by rw [ez77]; rfl) (by decide) rfl (fun ls hl => ?_)
                              refine lv_goto (tgt := 37) S.x S.b d_Nam_init_59 (by decide) ?_
                              refine lv_iload_n S.x S.b d_Nam_init_37 rfl (lv_at hl 0 rfl) ?_
                              refine va_getsN S.x S.b hqwG1 hw.2.2 S.own (va_Nw.use rfl (hT.2.2 _ m1_200n rfl)) (fun _ h => h) d_Nam_init_38 ?_
                              refine va_tlen S.x S.b hqwG2 hw.2.2 (v := 14) rfl d_Nam_init_41 ?_
                              have cs14_77 : (14 : Int32).toInt = 14 := rfl
                              refine lv_icmp_ge (tgt := 62) S.x S.b d_Nam_init_42 (by decide) (fun c79 => ?_) (fun c79 => ?_)
                              · have nc79 : (14 : Int) ≤ z77.toInt := (i_le (x := 14) (y := z77)).mp c79
                                refine lv_iconst (v := 0) S.x S.b d_Nam_init_62 (by decide) ?_
                                refine lv_istore_n (lv' := [(1, .int 0), (0, .ref h)]) S.x S.b d_Nam_init_63 rfl hl (by decide) rfl (fun ls hl => ?_)
                                refine lv_iconst (v := 0) S.x S.b d_Nam_init_64 (by decide) ?_
                                refine lv_istore_n (lv' := [(2, .int 0), (1, .int 0), (0, .ref h)]) S.x S.b d_Nam_init_65 rfl hl (by decide) rfl (fun ls hl => ?_)
                                refine lv_iload_n S.x S.b d_Nam_init_66 rfl (lv_at hl 0 rfl) ?_
                                refine lv_bipush (v := 10) S.x S.b d_Nam_init_67 (by decide) ?_
                                refine lv_icmp_ge (tgt := 136) S.x S.b d_Nam_init_69 (by decide) (fun c80 => ?_) (fun c80 => ?_)
                                · exact absurd c80 (by decide)
                                ·
                                  refine px_new S k_Sym hT hw hA m1_202 m1_203 m1_11 (fs := [.int 0, .int 0, .int 0, .int 0, .int 0, .int 0, .int 0]) (by decide +kernel) (show (((0 + 1) + 1) + 1) + 1 ≤ 6000 from by first | with_reducible rfl | with_reducible assumption | omega) (show (((0 + 3) + 3) + 2048) + 7 ≤ 60000 from by first | with_reducible rfl | with_reducible assumption | omega) d_Nam_init_72 (fun q81 H hw => ?_)
                                  replace hw : pw D A s.heap H _ [wd_Nam cs h (fun k => if k = 0 then q1 else if k = 1 then q4 else q7) (fun _ => none) (upd (upd (fun _ => 0) 3 0) 4 0) na76 (fun _ _ => none), wd_Lst cs q1 (fun _ => 0) (fun k => if k = 0 then (some em) else none) (upd (upd (fun _ => 0) 1 0) 2 0) (fun _ _ => 0) (fun _ _ => none), wd_Lst cs q4 (fun _ => 0) (fun k => if k = 0 then (some em) else none) (upd (upd (fun _ => 0) 1 0) 2 0) (fun _ _ => 0) (fun _ _ => none), ([] : va_W), [(q81, .inr (3, [.int 0, .int 0, .int 0, .int 0, .int 0, .int 0, .int 0]))]] := hw
                                  refine lv_dup S.x S.b d_Nam_init_75 rfl ?_
                                  refine lv_bipush (v := 15) S.x S.b d_Nam_init_76 (by decide) ?_
                                  refine lv_iload_n S.x S.b d_Nam_init_78 rfl (lv_at hl 0 rfl) ?_
                                  refine lv_iadd S.x S.b d_Nam_init_79 ?_
                                  refine lv_topi (fun z82 ez82 => ?_)
                                  have tz82 : z82.toInt = ((15 : Int) + (0 : Int) + 2147483648) % 4294967296 - 2147483648 := by rw [ez82]; exact i_add 15 0
                                  have lz82 := Int32.le_toInt z82
                                  have uz82 := Int32.toInt_lt z82
                                  try replace tz82 : z82.toInt = (15 : Int) + (0 : Int) := by omega
                                  refine lv_iconst (v := 2) S.x S.b d_Nam_init_80 (by decide) ?_
                                  refine px_callv (pr := [wd_Nam cs h (fun k => if k = 0 then q1 else if k = 1 then q4 else q7) (fun _ => none) (upd (upd (fun _ => 0) 3 0) 4 0) na76 (fun _ _ => none), wd_Lst cs q1 (fun _ => 0) (fun k => if k = 0 then (some em) else none) (upd (upd (fun _ => 0) 1 0) 2 0) (fun _ _ => 0) (fun _ _ => none), wd_Lst cs q4 (fun _ => 0) (fun k => if k = 0 then (some em) else none) (upd (upd (fun _ => 0) 1 0) 2 0) (fun _ _ => 0) (fun _ _ => none), ([] : va_W)]) (px_runI (As := [.int z82, .int 2]) (rest := [.ref q81]) S (c_Sym_init l D cs q81 z82 2 _) hT (pr := [wd_Nam cs h (fun k => if k = 0 then q1 else if k = 1 then q4 else q7) (fun _ => none) (upd (upd (fun _ => 0) 3 0) 4 0) na76 (fun _ _ => none), wd_Lst cs q1 (fun _ => 0) (fun k => if k = 0 then (some em) else none) (upd (upd (fun _ => 0) 1 0) 2 0) (fun _ _ => 0) (fun _ _ => none), wd_Lst cs q4 (fun _ => 0) (fun k => if k = 0 then (some em) else none) (upd (upd (fun _ => 0) 1 0) 2 0) (fun _ _ => 0) (fun _ _ => none), ([] : va_W)]) (pcs := [[(q81, .inr (3, [.int 0, .int 0, .int 0, .int 0, .int 0, .int 0, .int 0]))]]) hw px_X.tt m1_206 m1_204 m1_205 m1_11 rfl q_Sym_init ⟨Nat.le_of_ble_eq_true rfl, Nat.le_of_ble_eq_true rfl⟩ hl.1 rfl (Nat.le_of_ble_eq_true rfl) d_Nam_init_81 ⟨show ((((0 + 1) + 1) + 1) + 1) + 0 ≤ 6000 from by first | with_reducible rfl | with_reducible assumption | omega, show ((((0 + 3) + 3) + 2048) + 7) + 0 ≤ 60000 from by first | with_reducible rfl | with_reducible assumption | omega⟩) hw hA (fun p83 H locs hp83 hw => ?_)
                                  subst hp83
                                  replace hw : pw D A s.heap H locs [wd_Nam cs h (fun k => if k = 0 then q1 else if k = 1 then q4 else q7) (fun _ => none) (upd (upd (fun _ => 0) 3 0) 4 0) na76 (fun _ _ => none), wd_Lst cs q1 (fun _ => 0) (fun k => if k = 0 then (some em) else none) (upd (upd (fun _ => 0) 1 0) 2 0) (fun _ _ => 0) (fun _ _ => none), wd_Lst cs q4 (fun _ => 0) (fun k => if k = 0 then (some em) else none) (upd (upd (fun _ => 0) 1 0) 2 0) (fun _ _ => 0) (fun _ _ => none), ([] : va_W), wd_Sym cs q81 (fun _ => 0) (fun _ => none) (upd (upd (upd (upd (upd (upd (upd (fun _ => 0) 0 z82) 1 2) 2 0) 3 0) 4 0) 5 0) 6 0) (fun _ _ => 0) (fun _ _ => none)] := hw
                                  refine lv_astore_n (lv' := [(3, .ref q81), (2, .int 0), (1, .int 0), (0, .ref h)]) S.x S.b d_Nam_init_84 rfl hl (by decide) rfl (fun ls hl => ?_)
                                  refine lv_aload_n S.x S.b d_Nam_init_85 rfl (lv_at hl 0 rfl) ?_
                                  refine lv_iload_n S.x S.b d_Nam_init_86 rfl (lv_at hl 1 rfl) ?_
                                  refine px_put S k_Sym hT hw 4 0 5 rfl rfl (by decide) m1_221 rfl rfl rfl (Nat.le_of_ble_eq_true rfl) d_Nam_init_87 (w' := wd_Sym cs q81 (fun _ => 0) (fun _ => none) (upd (upd (upd (upd (upd (upd (upd (fun _ => 0) 0 z82) 1 2) 2 0) 3 0) 4 0) 5 0) 6 0) (fun _ _ => 0) (fun _ _ => none)) (ps' := [wd_Nam cs h (fun k => if k = 0 then q1 else if k = 1 then q4 else q7) (fun _ => none) (upd (upd (fun _ => 0) 3 0) 4 0) na76 (fun _ _ => none), wd_Lst cs q1 (fun _ => 0) (fun k => if k = 0 then (some em) else none) (upd (upd (fun _ => 0) 1 0) 2 0) (fun _ _ => 0) (fun _ _ => none), wd_Lst cs q4 (fun _ => 0) (fun k => if k = 0 then (some em) else none) (upd (upd (fun _ => 0) 1 0) 2 0) (fun _ _ => 0) (fun _ _ => none), ([] : va_W), wd_Sym cs q81 (fun _ => 0) (fun _ => none) (upd (upd (upd (upd (upd (upd (upd (fun _ => 0) 0 z82) 1 2) 2 0) 3 0) 4 0) 5 0) 6 0) (fun _ _ => 0) (fun _ _ => none)]) rfl rfl (fun H locs hw => ?_)
                                  refine lv_aload_n S.x S.b d_Nam_init_90 rfl (lv_at hl 0 rfl) ?_
                                  refine va_getsN S.x S.b hqtG1 hw.2.2 S.own (va_Nw.use rfl (hT.2.2 _ m2_2n rfl)) (fun _ h => h) d_Nam_init_91 ?_
                                  refine lv_iload_n S.x S.b d_Nam_init_94 rfl (lv_at hl 1 rfl) ?_
                                  refine va_ti S.x S.b hqtG2 hw.2.2 (i := 0) (vp_in_iff.mpr (by constructor <;> omega)) rfl d_Nam_init_95 ?_
                                  refine lv_topi (fun z85 ez85 => ?_)
                                  have lz85 := Int32.le_toInt z85
                                  have uz85 := Int32.toInt_lt z85
                                  refine px_put S k_Sym hT hw 4 0 6 rfl rfl (by decide) m1_224 rfl rfl rfl (Nat.le_of_ble_eq_true rfl) d_Nam_init_96 (w' := wd_Sym cs q81 (fun _ => 0) (fun _ => none) (upd (upd (upd (upd (upd (upd (upd (fun _ => 0) 0 z82) 1 2) 2 0) 3 0) 4 0) 5 0) 6 z85) (fun _ _ => 0) (fun _ _ => none)) (ps' := [wd_Nam cs h (fun k => if k = 0 then q1 else if k = 1 then q4 else q7) (fun _ => none) (upd (upd (fun _ => 0) 3 0) 4 0) na76 (fun _ _ => none), wd_Lst cs q1 (fun _ => 0) (fun k => if k = 0 then (some em) else none) (upd (upd (fun _ => 0) 1 0) 2 0) (fun _ _ => 0) (fun _ _ => none), wd_Lst cs q4 (fun _ => 0) (fun k => if k = 0 then (some em) else none) (upd (upd (fun _ => 0) 1 0) 2 0) (fun _ _ => 0) (fun _ _ => none), ([] : va_W), wd_Sym cs q81 (fun _ => 0) (fun _ => none) (upd (upd (upd (upd (upd (upd (upd (fun _ => 0) 0 z82) 1 2) 2 0) 3 0) 4 0) 5 0) 6 z85) (fun _ _ => 0) (fun _ _ => none)]) rfl rfl (fun H locs hw => ?_)
                                  refine lv_aload_n S.x S.b d_Nam_init_99 rfl (lv_at hl 0 rfl) ?_
                                  refine lv_iload_n S.x S.b d_Nam_init_100 rfl (lv_at hl 2 rfl) ?_
                                  refine px_put S k_Sym hT hw 4 0 3 rfl rfl (by decide) m1_215 rfl rfl rfl (Nat.le_of_ble_eq_true rfl) d_Nam_init_101 (w' := wd_Sym cs q81 (fun _ => 0) (fun _ => none) (upd (upd (upd (upd (upd (upd (upd (fun _ => 0) 0 z82) 1 2) 2 0) 3 0) 4 0) 5 0) 6 z85) (fun _ _ => 0) (fun _ _ => none)) (ps' := [wd_Nam cs h (fun k => if k = 0 then q1 else if k = 1 then q4 else q7) (fun _ => none) (upd (upd (fun _ => 0) 3 0) 4 0) na76 (fun _ _ => none), wd_Lst cs q1 (fun _ => 0) (fun k => if k = 0 then (some em) else none) (upd (upd (fun _ => 0) 1 0) 2 0) (fun _ _ => 0) (fun _ _ => none), wd_Lst cs q4 (fun _ => 0) (fun k => if k = 0 then (some em) else none) (upd (upd (fun _ => 0) 1 0) 2 0) (fun _ _ => 0) (fun _ _ => none), ([] : va_W), wd_Sym cs q81 (fun _ => 0) (fun _ => none) (upd (upd (upd (upd (upd (upd (upd (fun _ => 0) 0 z82) 1 2) 2 0) 3 0) 4 0) 5 0) 6 z85) (fun _ _ => 0) (fun _ _ => none)]) rfl rfl (fun H locs hw => ?_)
                                  refine lv_aload_n S.x S.b d_Nam_init_104 rfl (lv_at hl 0 rfl) ?_
                                  refine va_getsN S.x S.b hqcG1 hw.2.2 S.own (va_Nw.use rfl (hT.2.2 _ m2_4n rfl)) (fun _ h => h) d_Nam_init_105 ?_
                                  refine lv_iload_n S.x S.b d_Nam_init_108 rfl (lv_at hl 1 rfl) ?_
                                  refine va_ti S.x S.b hqcG2 hw.2.2 (i := 0) (vp_in_iff.mpr (by constructor <;> omega)) rfl d_Nam_init_109 ?_
                                  refine lv_topi (fun z86 ez86 => ?_)
                                  have lz86 := Int32.le_toInt z86
                                  have uz86 := Int32.toInt_lt z86
                                  refine px_put S k_Sym hT hw 4 0 4 rfl rfl (by decide) m1_218 rfl rfl rfl (Nat.le_of_ble_eq_true rfl) d_Nam_init_110 (w' := wd_Sym cs q81 (fun _ => 0) (fun _ => none) (upd (upd (upd (upd (upd (upd (upd (fun _ => 0) 0 z82) 1 2) 2 0) 3 0) 4 z86) 5 0) 6 z85) (fun _ _ => 0) (fun _ _ => none)) (ps' := [wd_Nam cs h (fun k => if k = 0 then q1 else if k = 1 then q4 else q7) (fun _ => none) (upd (upd (fun _ => 0) 3 0) 4 0) na76 (fun _ _ => none), wd_Lst cs q1 (fun _ => 0) (fun k => if k = 0 then (some em) else none) (upd (upd (fun _ => 0) 1 0) 2 0) (fun _ _ => 0) (fun _ _ => none), wd_Lst cs q4 (fun _ => 0) (fun k => if k = 0 then (some em) else none) (upd (upd (fun _ => 0) 1 0) 2 0) (fun _ _ => 0) (fun _ _ => none), ([] : va_W), wd_Sym cs q81 (fun _ => 0) (fun _ => none) (upd (upd (upd (upd (upd (upd (upd (fun _ => 0) 0 z82) 1 2) 2 0) 3 0) 4 z86) 5 0) 6 z85) (fun _ _ => 0) (fun _ _ => none)]) rfl rfl (fun H locs hw => ?_)
                                  refine lv_iload_n S.x S.b d_Nam_init_113 rfl (lv_at hl 2 rfl) ?_
                                  refine va_getsN S.x S.b hqcG1 hw.2.2 S.own (va_Nw.use rfl (hT.2.2 _ m2_4n rfl)) (fun _ h => h) d_Nam_init_114 ?_
                                  refine lv_iload_n S.x S.b d_Nam_init_117 rfl (lv_at hl 1 rfl) ?_
                                  refine va_ti S.x S.b hqcG2 hw.2.2 (i := 0) (vp_in_iff.mpr (by constructor <;> omega)) rfl d_Nam_init_118 ?_
                                  refine lv_topi (fun z87 ez87 => ?_)
                                  have lz87 := Int32.le_toInt z87
                                  have uz87 := Int32.toInt_lt z87
                                  refine lv_iadd S.x S.b d_Nam_init_119 ?_
                                  refine lv_topi (fun z88 ez88 => ?_)
                                  have lz88 := Int32.le_toInt z88
                                  have uz88 := Int32.toInt_lt z88
                                  refine lv_istore_n (lv' := [(1, .int z88), (3, .ref q81), (2, .int 0), (0, .ref h)]) S.x S.b d_Nam_init_120 rfl hl (by decide) rfl (fun ls hl => ?_)
                                  have hw : pw D A s.heap _ _ ([wd_Nam cs h (fun k => if k = 0 then q1 else if k = 1 then q4 else q7) (fun _ => none) (upd (upd (fun _ => 0) 3 0) 4 0) na76 (fun _ _ => none), wd_Lst cs q1 (fun _ => 0) (fun k => if k = 0 then (some em) else none) (upd (upd (fun _ => 0) 1 0) 2 0) (fun _ _ => 0) (fun _ _ => none), wd_Lst cs q4 (fun _ => 0) (fun k => if k = 0 then (some em) else none) (upd (upd (fun _ => 0) 1 0) 2 0) (fun _ _ => 0) (fun _ _ => none)] ++ [([] : va_W), wd_Sym cs q81 (fun _ => 0) (fun _ => none) (upd (upd (upd (upd (upd (upd (upd (fun _ => 0) 0 z82) 1 2) 2 0) 3 0) 4 z86) 5 0) 6 z85) (fun _ _ => 0) (fun _ _ => none)]) := hw.sub [0, 1, 2, 3, 4] rfl rfl
                                  have hw := pw_join hw
                                  have hpnP89 : Pg ([] : va_W) (([] : va_W) ++ wd_Sym cs q81 (fun _ => 0) (fun _ => none) (upd (upd (upd (upd (upd (upd (upd (fun _ => 0) 0 z82) 1 2) 2 0) 3 0) 4 z86) 5 0) 6 z85) (fun _ _ => 0) (fun _ _ => none)) := pg_app
                                  have hsnP89 : Sy (([] : va_W) ++ wd_Sym cs q81 (fun _ => 0) (fun _ => none) (upd (upd (upd (upd (upd (upd (upd (fun _ => 0) 0 z82) 1 2) 2 0) 3 0) 4 z86) 5 0) 6 z85) (fun _ _ => 0) (fun _ _ => none)) (some q81) := sy_last (s := (upd (upd (upd (upd (upd (upd (upd (fun _ => 0) 0 z82) 1 2) 2 0) 3 0) 4 z86) 5 0) 6 z85)) rfl
                                  have hfnP89 : Fy (([] : va_W) ++ wd_Sym cs q81 (fun _ => 0) (fun _ => none) (upd (upd (upd (upd (upd (upd (upd (fun _ => 0) 0 z82) 1 2) 2 0) 3 0) 4 z86) 5 0) 6 z85) (fun _ _ => 0) (fun _ _ => none)) (some q81) := fy_last (s := (upd (upd (upd (upd (upd (upd (upd (fun _ => 0) 0 z82) 1 2) 2 0) 3 0) 4 z86) 5 0) 6 z85)) rfl (show 0 ≤ (0 : Int) from by first | decide | omega) (show (0 : Int) ≤ 1000000 from by first | decide | omega)
                                  have hgnP89 : Gy (([] : va_W) ++ wd_Sym cs q81 (fun _ => 0) (fun _ => none) (upd (upd (upd (upd (upd (upd (upd (fun _ => 0) 0 z82) 1 2) 2 0) 3 0) 4 z86) 5 0) 6 z85) (fun _ _ => 0) (fun _ _ => none)) q81 := gy_lastN (s := (upd (upd (upd (upd (upd (upd (upd (fun _ => 0) 0 z82) 1 2) 2 0) 3 0) 4 z86) 5 0) 6 z85)) rfl (show 0 ≤ (0 : Int) from by first | decide | omega) (show (0 : Int) ≤ 1000000 from by first | decide | omega) (show z82.toInt ≠ 25 from by first | exact oz_31c68ccdde tz82 | omega)
                                  generalize (([] : va_W) ++ wd_Sym cs q81 (fun _ => 0) (fun _ => none) (upd (upd (upd (upd (upd (upd (upd (fun _ => 0) 0 z82) 1 2) 2 0) 3 0) 4 z86) 5 0) 6 z85) (fun _ _ => 0) (fun _ _ => none)) = P89 at hw hpnP89 hsnP89 hfnP89 hgnP89
                                  have hEl := hpnP89.els hEl; have hEf := hpnP89.elf hEf; have hEg := hpnP89.elg hEg
                                  replace hw : pw D A s.heap _ _ [wd_Nam cs h (fun k => if k = 0 then q1 else if k = 1 then q4 else q7) (fun _ => none) (upd (upd (fun _ => 0) 3 0) 4 0) na76 (fun _ _ => none), wd_Lst cs q1 (fun _ => 0) (fun k => if k = 0 then (some em) else none) (upd (upd (fun _ => 0) 1 0) 2 0) (fun _ _ => 0) (fun _ _ => none), wd_Lst cs q4 (fun _ => 0) (fun k => if k = 0 then (some em) else none) (upd (upd (fun _ => 0) 1 0) 2 0) (fun _ _ => 0) (fun _ _ => none), P89] := hw
                                  refine lv_aload_n S.x S.b d_Nam_init_121 rfl (lv_at hl 3 rfl) ?_
                                  refine px_get S k_Nam hT hw 0 0 1 (v := .ref q4) rfl rfl rfl (by decide) m2_76 d_Nam_init_122 ?_
                                  refine lv_aload_n S.x S.b d_Nam_init_125 rfl (lv_at hl 1 rfl) ?_
                                  refine pg_calli (pr := [wd_Nam cs h (fun k => if k = 0 then q1 else if k = 1 then q4 else q7) (fun _ => none) (upd (upd (fun _ => 0) 3 0) 4 0) na76 (fun _ _ => none), wd_Lst cs q1 (fun _ => 0) (fun k => if k = 0 then (some em) else none) (upd (upd (fun _ => 0) 1 0) 2 0) (fun _ _ => 0) (fun _ _ => none)]) (px_runV (As := [.ref q81]) (rest := []) S (c_al_add_F l D cs em mi q4 em (upd (upd (fun _ => 0) 1 0) 2 0) P89  q81 (show (0 : Int) = 0 from by first | decide | omega) rfl (by first | assumption | exact sy_none | exact fy_none | exact Fy.sy (by assumption) | exact sy_some (by assumption)) _ _) hT (pr := [wd_Nam cs h (fun k => if k = 0 then q1 else if k = 1 then q4 else q7) (fun _ => none) (upd (upd (fun _ => 0) 3 0) 4 0) na76 (fun _ _ => none), wd_Lst cs q1 (fun _ => 0) (fun k => if k = 0 then (some em) else none) (upd (upd (fun _ => 0) 1 0) 2 0) (fun _ _ => 0) (fun _ _ => none)]) (pcs := [wd_Lst cs q4 (fun _ => 0) (fun k => if k = 0 then (some em) else none) (upd (upd (fun _ => 0) 1 0) 2 0) (fun _ _ => 0) (fun _ _ => none), P89]) hw (px_X.tot (oX_call (P := (fun A U H => (oE A em U H) ∧ (va_Mi "[Ljava/lang/Object;" mi U))) (pr := [wd_Nam cs h (fun k => if k = 0 then q1 else if k = 1 then q4 else q7) (fun _ => none) (upd (upd (fun _ => 0) 3 0) 4 0) na76 (fun _ _ => none), wd_Lst cs q1 (fun _ => 0) (fun k => if k = 0 then (some em) else none) (upd (upd (fun _ => 0) 1 0) 2 0) (fun _ _ => 0) (fun _ _ => none)]) (oG_and oG_E oG_M) hw hA ⟨hE, hM⟩)) (px_recv hT hw 2 0 rfl rfl rfl) m2_9 m2_6 m2_7 m2_8 m1_10 q_Lst_add2 ⟨Nat.le_of_ble_eq_true rfl, Nat.le_of_ble_eq_true rfl⟩ hl.1 rfl (Nat.le_of_ble_eq_true rfl) d_Nam_init_126 ⟨show ((((0 + 1) + 1) + 1) + 1) + (1) ≤ 6000 from by first | with_reducible rfl | with_reducible assumption | omega, show ((((0 + 3) + 3) + 2048) + 7) + (40) ≤ 60000 from by first | with_reducible rfl | with_reducible assumption | omega⟩) hw hA (fun v95 p94 k96 n97 H locs hp94 hw => ?_)
                                  dsimp only at hp94
                                  obtain ⟨lq90, lc91, lf92, lg93, rfl, e98, e99, e100, e101, e102, e103, e104, e105, e106, e107⟩ := hp94
                                  replace e98 : (lf92 1).toInt = (0 : Int) + 1 := e98
                                  replace e99 : (lf92 1).toInt ≤ (lc91 : Int) := e99
                                  replace e100 : AddL (0 : Int32) (fun _ => none) lg93 q81 := e100
                                  replace e101 : (0 : Int) ≤ (lc91 : Int) := e101
                                  replace e102 : (lc91 : Int) ≤ 2 * (0 : Int) + 10 := e102
                                  replace e103 : 10 ≤ lc91 := e103
                                  replace e104 : Lcap 0 (0 : Int32) lc91 := e104
                                  replace e105 : k96 ≤ 1 := e105
                                  replace e106 : (k96 : Int) ≤ (lc91 : Int) - (0 : Int) := e106
                                  replace e107 : (n97 : Int) ≤ 4 * ((lc91 : Int) - (0 : Int)) := e107
                                  replace hw : pw D A s.heap H locs [wd_Nam cs h (fun k => if k = 0 then q1 else if k = 1 then q4 else q7) (fun _ => none) (upd (upd (fun _ => 0) 3 0) 4 0) na76 (fun _ _ => none), wd_Lst cs q1 (fun _ => 0) (fun k => if k = 0 then (some em) else none) (upd (upd (fun _ => 0) 1 0) 2 0) (fun _ _ => 0) (fun _ _ => none), wd_Lst cs q4 (fun _ => 0) (fun k => if k = 0 then (some lq90) else none) lf92 (fun _ _ => 0) (fun _ _ => none), [(lq90, .inl (cs 12, lc91, .inr (.inr (.inr (.inr lg93)))))], P89] := hw
                                  have lv95 := Int32.le_toInt v95
                                  have uv95 := Int32.toInt_lt v95
                                  have hlcb107 := Lcap.le (B := 5000) (by assumption) (by omega) (by omega); have helf := AddL.elf (n' := (lf92 1)) (by assumption) hEf (by assumption) (by omega); have helg := AddL.elg (n' := (lf92 1)) (by assumption) hEg (by assumption) (by omega); have hEf := helf; have hEg := helg; clear helf helg
                                  refine lv_pop S.x S.b d_Nam_init_129 rfl ?_
                                  obtain ⟨z108, ez108⟩ : ∃ y : Int32, y = 0 + 1 := ⟨_, rfl⟩
                                  have tz108 : z108.toInt = ((0 : Int) + 1 + 2147483648) % 4294967296 - 2147483648 := by rw [ez108]; exact i_add 0 1
                                  have lz108 := Int32.le_toInt z108
                                  have uz108 := Int32.toInt_lt z108
                                  try replace tz108 : z108.toInt = (0 : Int) + 1 := by omega
                                  refine lv_iinc (v := z108) (lv' := [(2, .int z108), (1, .int z88), (3, .ref q81), (0, .ref h)]) S.x S.b d_Nam_init_130 hl (k := 2) rfl (by rw [ez108]; rfl) (by decide) rfl (fun ls hl => ?_)
                                  refine lv_goto (tgt := 66) S.x S.b d_Nam_init_133 (by decide) ?_
                                  refine lv_iload_n S.x S.b d_Nam_init_66 rfl (lv_at hl 0 rfl) ?_
                                  refine lv_bipush (v := 10) S.x S.b d_Nam_init_67 (by decide) ?_
                                  refine lv_icmp_ge (tgt := 136) S.x S.b d_Nam_init_69 (by decide) (fun c109 => ?_) (fun c109 => ?_)
                                  · have nc109 : (10 : Int) ≤ z108.toInt := (i_le (x := 10) (y := z108)).mp c109
                                    exfalso
                                    omega
                                  · have nc109 : ¬ (10 : Int) ≤ z108.toInt := mt (i_le (x := 10) (y := z108)).mpr c109
                                    refine px_new S k_Sym hT hw hA m1_202 m1_203 m1_11 (fs := [.int 0, .int 0, .int 0, .int 0, .int 0, .int 0, .int 0]) (by decide +kernel) (show (((((0 + 1) + 1) + 1) + 1) + k96) + 1 ≤ 6000 from by first | exact oz_ae1c5b008f e105 | omega) (show (((((0 + 3) + 3) + 2048) + 7) + n97) + 7 ≤ 60000 from by first | exact oz_4f6919c3d8 e107 e102 | omega) d_Nam_init_72 (fun q110 H hw => ?_)
                                    replace hw : pw D A s.heap H _ [wd_Nam cs h (fun k => if k = 0 then q1 else if k = 1 then q4 else q7) (fun _ => none) (upd (upd (fun _ => 0) 3 0) 4 0) na76 (fun _ _ => none), wd_Lst cs q1 (fun _ => 0) (fun k => if k = 0 then (some em) else none) (upd (upd (fun _ => 0) 1 0) 2 0) (fun _ _ => 0) (fun _ _ => none), wd_Lst cs q4 (fun _ => 0) (fun k => if k = 0 then (some lq90) else none) lf92 (fun _ _ => 0) (fun _ _ => none), [(lq90, .inl (cs 12, lc91, .inr (.inr (.inr (.inr lg93)))))], P89, [(q110, .inr (3, [.int 0, .int 0, .int 0, .int 0, .int 0, .int 0, .int 0]))]] := hw
                                    refine lv_dup S.x S.b d_Nam_init_75 rfl ?_
                                    refine lv_bipush (v := 15) S.x S.b d_Nam_init_76 (by decide) ?_
                                    refine lv_iload_n S.x S.b d_Nam_init_78 rfl (lv_at hl 0 rfl) ?_
                                    refine lv_iadd S.x S.b d_Nam_init_79 ?_
                                    refine lv_topi (fun z111 ez111 => ?_)
                                    have tz111 : z111.toInt = ((15 : Int) + z108.toInt + 2147483648) % 4294967296 - 2147483648 := by rw [ez111]; exact i_add 15 z108
                                    have lz111 := Int32.le_toInt z111
                                    have uz111 := Int32.toInt_lt z111
                                    try replace tz111 : z111.toInt = (15 : Int) + z108.toInt := by omega
                                    refine lv_iconst (v := 2) S.x S.b d_Nam_init_80 (by decide) ?_
                                    refine px_callv (pr := [wd_Nam cs h (fun k => if k = 0 then q1 else if k = 1 then q4 else q7) (fun _ => none) (upd (upd (fun _ => 0) 3 0) 4 0) na76 (fun _ _ => none), wd_Lst cs q1 (fun _ => 0) (fun k => if k = 0 then (some em) else none) (upd (upd (fun _ => 0) 1 0) 2 0) (fun _ _ => 0) (fun _ _ => none), wd_Lst cs q4 (fun _ => 0) (fun k => if k = 0 then (some lq90) else none) lf92 (fun _ _ => 0) (fun _ _ => none), [(lq90, .inl (cs 12, lc91, .inr (.inr (.inr (.inr lg93)))))], P89]) (px_runI (As := [.int z111, .int 2]) (rest := [.ref q110]) S (c_Sym_init l D cs q110 z111 2 _) hT (pr := [wd_Nam cs h (fun k => if k = 0 then q1 else if k = 1 then q4 else q7) (fun _ => none) (upd (upd (fun _ => 0) 3 0) 4 0) na76 (fun _ _ => none), wd_Lst cs q1 (fun _ => 0) (fun k => if k = 0 then (some em) else none) (upd (upd (fun _ => 0) 1 0) 2 0) (fun _ _ => 0) (fun _ _ => none), wd_Lst cs q4 (fun _ => 0) (fun k => if k = 0 then (some lq90) else none) lf92 (fun _ _ => 0) (fun _ _ => none), [(lq90, .inl (cs 12, lc91, .inr (.inr (.inr (.inr lg93)))))], P89]) (pcs := [[(q110, .inr (3, [.int 0, .int 0, .int 0, .int 0, .int 0, .int 0, .int 0]))]]) hw px_X.tt m1_206 m1_204 m1_205 m1_11 rfl q_Sym_init ⟨Nat.le_of_ble_eq_true rfl, Nat.le_of_ble_eq_true rfl⟩ hl.1 rfl (Nat.le_of_ble_eq_true rfl) d_Nam_init_81 ⟨show ((((((0 + 1) + 1) + 1) + 1) + k96) + 1) + 0 ≤ 6000 from by first | with_reducible rfl | with_reducible assumption | omega, show ((((((0 + 3) + 3) + 2048) + 7) + n97) + 7) + 0 ≤ 60000 from by first | with_reducible rfl | with_reducible assumption | omega⟩) hw hA (fun p112 H locs hp112 hw => ?_)
                                    subst hp112
                                    replace hw : pw D A s.heap H locs [wd_Nam cs h (fun k => if k = 0 then q1 else if k = 1 then q4 else q7) (fun _ => none) (upd (upd (fun _ => 0) 3 0) 4 0) na76 (fun _ _ => none), wd_Lst cs q1 (fun _ => 0) (fun k => if k = 0 then (some em) else none) (upd (upd (fun _ => 0) 1 0) 2 0) (fun _ _ => 0) (fun _ _ => none), wd_Lst cs q4 (fun _ => 0) (fun k => if k = 0 then (some lq90) else none) lf92 (fun _ _ => 0) (fun _ _ => none), [(lq90, .inl (cs 12, lc91, .inr (.inr (.inr (.inr lg93)))))], P89, wd_Sym cs q110 (fun _ => 0) (fun _ => none) (upd (upd (upd (upd (upd (upd (upd (fun _ => 0) 0 z111) 1 2) 2 0) 3 0) 4 0) 5 0) 6 0) (fun _ _ => 0) (fun _ _ => none)] := hw
                                    refine lv_astore_n (lv' := [(3, .ref q110), (2, .int z108), (1, .int z88), (0, .ref h)]) S.x S.b d_Nam_init_84 rfl hl (by decide) rfl (fun ls hl => ?_)
                                    refine lv_aload_n S.x S.b d_Nam_init_85 rfl (lv_at hl 0 rfl) ?_
                                    refine lv_iload_n S.x S.b d_Nam_init_86 rfl (lv_at hl 1 rfl) ?_
                                    refine px_put S k_Sym hT hw 5 0 5 rfl rfl (by decide) m1_221 rfl rfl rfl (Nat.le_of_ble_eq_true rfl) d_Nam_init_87 (w' := wd_Sym cs q110 (fun _ => 0) (fun _ => none) (upd (upd (upd (upd (upd (upd (upd (fun _ => 0) 0 z111) 1 2) 2 0) 3 0) 4 0) 5 z108) 6 0) (fun _ _ => 0) (fun _ _ => none)) (ps' := [wd_Nam cs h (fun k => if k = 0 then q1 else if k = 1 then q4 else q7) (fun _ => none) (upd (upd (fun _ => 0) 3 0) 4 0) na76 (fun _ _ => none), wd_Lst cs q1 (fun _ => 0) (fun k => if k = 0 then (some em) else none) (upd (upd (fun _ => 0) 1 0) 2 0) (fun _ _ => 0) (fun _ _ => none), wd_Lst cs q4 (fun _ => 0) (fun k => if k = 0 then (some lq90) else none) lf92 (fun _ _ => 0) (fun _ _ => none), [(lq90, .inl (cs 12, lc91, .inr (.inr (.inr (.inr lg93)))))], P89, wd_Sym cs q110 (fun _ => 0) (fun _ => none) (upd (upd (upd (upd (upd (upd (upd (fun _ => 0) 0 z111) 1 2) 2 0) 3 0) 4 0) 5 z108) 6 0) (fun _ _ => 0) (fun _ _ => none)]) rfl rfl (fun H locs hw => ?_)
                                    refine lv_aload_n S.x S.b d_Nam_init_90 rfl (lv_at hl 0 rfl) ?_
                                    refine va_getsN S.x S.b hqtG1 hw.2.2 S.own (va_Nw.use rfl (hT.2.2 _ m2_2n rfl)) (fun _ h => h) d_Nam_init_91 ?_
                                    refine lv_iload_n S.x S.b d_Nam_init_94 rfl (lv_at hl 1 rfl) ?_
                                    refine va_ti S.x S.b hqtG2 hw.2.2 (i := z108) (vp_in_iff.mpr (by constructor <;> omega)) rfl d_Nam_init_95 ?_
                                    refine lv_topi (fun z114 ez114 => ?_)
                                    have lz114 := Int32.le_toInt z114
                                    have uz114 := Int32.toInt_lt z114
                                    refine px_put S k_Sym hT hw 5 0 6 rfl rfl (by decide) m1_224 rfl rfl rfl (Nat.le_of_ble_eq_true rfl) d_Nam_init_96 (w' := wd_Sym cs q110 (fun _ => 0) (fun _ => none) (upd (upd (upd (upd (upd (upd (upd (fun _ => 0) 0 z111) 1 2) 2 0) 3 0) 4 0) 5 z108) 6 z114) (fun _ _ => 0) (fun _ _ => none)) (ps' := [wd_Nam cs h (fun k => if k = 0 then q1 else if k = 1 then q4 else q7) (fun _ => none) (upd (upd (fun _ => 0) 3 0) 4 0) na76 (fun _ _ => none), wd_Lst cs q1 (fun _ => 0) (fun k => if k = 0 then (some em) else none) (upd (upd (fun _ => 0) 1 0) 2 0) (fun _ _ => 0) (fun _ _ => none), wd_Lst cs q4 (fun _ => 0) (fun k => if k = 0 then (some lq90) else none) lf92 (fun _ _ => 0) (fun _ _ => none), [(lq90, .inl (cs 12, lc91, .inr (.inr (.inr (.inr lg93)))))], P89, wd_Sym cs q110 (fun _ => 0) (fun _ => none) (upd (upd (upd (upd (upd (upd (upd (fun _ => 0) 0 z111) 1 2) 2 0) 3 0) 4 0) 5 z108) 6 z114) (fun _ _ => 0) (fun _ _ => none)]) rfl rfl (fun H locs hw => ?_)
                                    refine lv_aload_n S.x S.b d_Nam_init_99 rfl (lv_at hl 0 rfl) ?_
                                    refine lv_iload_n S.x S.b d_Nam_init_100 rfl (lv_at hl 2 rfl) ?_
                                    refine px_put S k_Sym hT hw 5 0 3 rfl rfl (by decide) m1_215 rfl rfl rfl (Nat.le_of_ble_eq_true rfl) d_Nam_init_101 (w' := wd_Sym cs q110 (fun _ => 0) (fun _ => none) (upd (upd (upd (upd (upd (upd (upd (fun _ => 0) 0 z111) 1 2) 2 0) 3 z88) 4 0) 5 z108) 6 z114) (fun _ _ => 0) (fun _ _ => none)) (ps' := [wd_Nam cs h (fun k => if k = 0 then q1 else if k = 1 then q4 else q7) (fun _ => none) (upd (upd (fun _ => 0) 3 0) 4 0) na76 (fun _ _ => none), wd_Lst cs q1 (fun _ => 0) (fun k => if k = 0 then (some em) else none) (upd (upd (fun _ => 0) 1 0) 2 0) (fun _ _ => 0) (fun _ _ => none), wd_Lst cs q4 (fun _ => 0) (fun k => if k = 0 then (some lq90) else none) lf92 (fun _ _ => 0) (fun _ _ => none), [(lq90, .inl (cs 12, lc91, .inr (.inr (.inr (.inr lg93)))))], P89, wd_Sym cs q110 (fun _ => 0) (fun _ => none) (upd (upd (upd (upd (upd (upd (upd (fun _ => 0) 0 z111) 1 2) 2 0) 3 z88) 4 0) 5 z108) 6 z114) (fun _ _ => 0) (fun _ _ => none)]) rfl rfl (fun H locs hw => ?_)
                                    refine lv_aload_n S.x S.b d_Nam_init_104 rfl (lv_at hl 0 rfl) ?_
                                    refine va_getsN S.x S.b hqcG1 hw.2.2 S.own (va_Nw.use rfl (hT.2.2 _ m2_4n rfl)) (fun _ h => h) d_Nam_init_105 ?_
                                    refine lv_iload_n S.x S.b d_Nam_init_108 rfl (lv_at hl 1 rfl) ?_
                                    refine va_ti S.x S.b hqcG2 hw.2.2 (i := z108) (vp_in_iff.mpr (by constructor <;> omega)) rfl d_Nam_init_109 ?_
                                    refine lv_topi (fun z115 ez115 => ?_)
                                    have lz115 := Int32.le_toInt z115
                                    have uz115 := Int32.toInt_lt z115
                                    refine px_put S k_Sym hT hw 5 0 4 rfl rfl (by decide) m1_218 rfl rfl rfl (Nat.le_of_ble_eq_true rfl) d_Nam_init_110 (w' := wd_Sym cs q110 (fun _ => 0) (fun _ => none) (upd (upd (upd (upd (upd (upd (upd (fun _ => 0) 0 z111) 1 2) 2 0) 3 z88) 4 z115) 5 z108) 6 z114) (fun _ _ => 0) (fun _ _ => none)) (ps' := [wd_Nam cs h (fun k => if k = 0 then q1 else if k = 1 then q4 else q7) (fun _ => none) (upd (upd (fun _ => 0) 3 0) 4 0) na76 (fun _ _ => none), wd_Lst cs q1 (fun _ => 0) (fun k => if k = 0 then (some em) else none) (upd (upd (fun _ => 0) 1 0) 2 0) (fun _ _ => 0) (fun _ _ => none), wd_Lst cs q4 (fun _ => 0) (fun k => if k = 0 then (some lq90) else none) lf92 (fun _ _ => 0) (fun _ _ => none), [(lq90, .inl (cs 12, lc91, .inr (.inr (.inr (.inr lg93)))))], P89, wd_Sym cs q110 (fun _ => 0) (fun _ => none) (upd (upd (upd (upd (upd (upd (upd (fun _ => 0) 0 z111) 1 2) 2 0) 3 z88) 4 z115) 5 z108) 6 z114) (fun _ _ => 0) (fun _ _ => none)]) rfl rfl (fun H locs hw => ?_)
                                    refine lv_iload_n S.x S.b d_Nam_init_113 rfl (lv_at hl 2 rfl) ?_
                                    refine va_getsN S.x S.b hqcG1 hw.2.2 S.own (va_Nw.use rfl (hT.2.2 _ m2_4n rfl)) (fun _ h => h) d_Nam_init_114 ?_
                                    refine lv_iload_n S.x S.b d_Nam_init_117 rfl (lv_at hl 1 rfl) ?_
                                    refine va_ti S.x S.b hqcG2 hw.2.2 (i := z108) (vp_in_iff.mpr (by constructor <;> omega)) rfl d_Nam_init_118 ?_
                                    refine lv_topi (fun z116 ez116 => ?_)
                                    have lz116 := Int32.le_toInt z116
                                    have uz116 := Int32.toInt_lt z116
                                    refine lv_iadd S.x S.b d_Nam_init_119 ?_
                                    refine lv_topi (fun z117 ez117 => ?_)
                                    have lz117 := Int32.le_toInt z117
                                    have uz117 := Int32.toInt_lt z117
                                    refine lv_istore_n (lv' := [(1, .int z117), (3, .ref q110), (2, .int z108), (0, .ref h)]) S.x S.b d_Nam_init_120 rfl hl (by decide) rfl (fun ls hl => ?_)
                                    have hw : pw D A s.heap _ _ ([wd_Nam cs h (fun k => if k = 0 then q1 else if k = 1 then q4 else q7) (fun _ => none) (upd (upd (fun _ => 0) 3 0) 4 0) na76 (fun _ _ => none), wd_Lst cs q1 (fun _ => 0) (fun k => if k = 0 then (some em) else none) (upd (upd (fun _ => 0) 1 0) 2 0) (fun _ _ => 0) (fun _ _ => none), wd_Lst cs q4 (fun _ => 0) (fun k => if k = 0 then (some lq90) else none) lf92 (fun _ _ => 0) (fun _ _ => none), [(lq90, .inl (cs 12, lc91, .inr (.inr (.inr (.inr lg93)))))]] ++ [P89, wd_Sym cs q110 (fun _ => 0) (fun _ => none) (upd (upd (upd (upd (upd (upd (upd (fun _ => 0) 0 z111) 1 2) 2 0) 3 z88) 4 z115) 5 z108) 6 z114) (fun _ _ => 0) (fun _ _ => none)]) := hw.sub [0, 1, 2, 3, 4, 5] rfl rfl
                                    have hw := pw_join hw
                                    have hpnP118 : Pg P89 (P89 ++ wd_Sym cs q110 (fun _ => 0) (fun _ => none) (upd (upd (upd (upd (upd (upd (upd (fun _ => 0) 0 z111) 1 2) 2 0) 3 z88) 4 z115) 5 z108) 6 z114) (fun _ _ => 0) (fun _ _ => none)) := pg_app
                                    have hsnP118 : Sy (P89 ++ wd_Sym cs q110 (fun _ => 0) (fun _ => none) (upd (upd (upd (upd (upd (upd (upd (fun _ => 0) 0 z111) 1 2) 2 0) 3 z88) 4 z115) 5 z108) 6 z114) (fun _ _ => 0) (fun _ _ => none)) (some q110) := sy_last (s := (upd (upd (upd (upd (upd (upd (upd (fun _ => 0) 0 z111) 1 2) 2 0) 3 z88) 4 z115) 5 z108) 6 z114)) rfl
                                    have hfnP118 : Fy (P89 ++ wd_Sym cs q110 (fun _ => 0) (fun _ => none) (upd (upd (upd (upd (upd (upd (upd (fun _ => 0) 0 z111) 1 2) 2 0) 3 z88) 4 z115) 5 z108) 6 z114) (fun _ _ => 0) (fun _ _ => none)) (some q110) := fy_last (s := (upd (upd (upd (upd (upd (upd (upd (fun _ => 0) 0 z111) 1 2) 2 0) 3 z88) 4 z115) 5 z108) 6 z114)) rfl (show 0 ≤ z108.toInt from by first | exact oz_1c281409f8 tz108 | omega) (show z108.toInt ≤ 1000000 from by first | exact oz_90d46c3e96 tz108 | omega)
                                    have hgnP118 : Gy (P89 ++ wd_Sym cs q110 (fun _ => 0) (fun _ => none) (upd (upd (upd (upd (upd (upd (upd (fun _ => 0) 0 z111) 1 2) 2 0) 3 z88) 4 z115) 5 z108) 6 z114) (fun _ _ => 0) (fun _ _ => none)) q110 := gy_lastN (s := (upd (upd (upd (upd (upd (upd (upd (fun _ => 0) 0 z111) 1 2) 2 0) 3 z88) 4 z115) 5 z108) 6 z114)) rfl (show 0 ≤ z108.toInt from by first | exact oz_1c281409f8 tz108 | omega) (show z108.toInt ≤ 1000000 from by first | exact oz_90d46c3e96 tz108 | omega) (show z111.toInt ≠ 25 from by first | exact oz_eec561c0db tz111 tz108 | omega)
                                    generalize (P89 ++ wd_Sym cs q110 (fun _ => 0) (fun _ => none) (upd (upd (upd (upd (upd (upd (upd (fun _ => 0) 0 z111) 1 2) 2 0) 3 z88) 4 z115) 5 z108) 6 z114) (fun _ _ => 0) (fun _ _ => none)) = P118 at hw hpnP118 hsnP118 hfnP118 hgnP118
                                    have hEl := hpnP118.els hEl; have hEf := hpnP118.elf hEf; have hEg := hpnP118.elg hEg
                                    replace hw : pw D A s.heap _ _ [wd_Nam cs h (fun k => if k = 0 then q1 else if k = 1 then q4 else q7) (fun _ => none) (upd (upd (fun _ => 0) 3 0) 4 0) na76 (fun _ _ => none), wd_Lst cs q1 (fun _ => 0) (fun k => if k = 0 then (some em) else none) (upd (upd (fun _ => 0) 1 0) 2 0) (fun _ _ => 0) (fun _ _ => none), wd_Lst cs q4 (fun _ => 0) (fun k => if k = 0 then (some lq90) else none) lf92 (fun _ _ => 0) (fun _ _ => none), [(lq90, .inl (cs 12, lc91, .inr (.inr (.inr (.inr lg93)))))], P118] := hw
                                    refine lv_aload_n S.x S.b d_Nam_init_121 rfl (lv_at hl 3 rfl) ?_
                                    refine px_get S k_Nam hT hw 0 0 1 (v := .ref q4) rfl rfl rfl (by decide) m2_76 d_Nam_init_122 ?_
                                    refine lv_aload_n S.x S.b d_Nam_init_125 rfl (lv_at hl 1 rfl) ?_
                                    refine pg_calli (pr := [wd_Nam cs h (fun k => if k = 0 then q1 else if k = 1 then q4 else q7) (fun _ => none) (upd (upd (fun _ => 0) 3 0) 4 0) na76 (fun _ _ => none), wd_Lst cs q1 (fun _ => 0) (fun k => if k = 0 then (some em) else none) (upd (upd (fun _ => 0) 1 0) 2 0) (fun _ _ => 0) (fun _ _ => none)]) (px_runV (As := [.ref q110]) (rest := []) S (c_al_add_T l D cs mi q4 lq90 lc91 lf92 lg93 P118  q110 (show lc91 ≤ 1000000 from by first | exact oz_fbfa855060 e102 | omega) (show 10 ≤ lc91 from by first | exact e103 | omega) (show 0 ≤ (lf92 1).toInt from by first | exact oz_1c281409f8 e98 | omega) (show (lf92 1).toInt ≤ (lc91 : Int) from by first | exact e99 | omega) (by first | assumption | exact ElF.els (by assumption)) (by first | assumption | exact sy_none | exact fy_none | exact Fy.sy (by assumption) | exact sy_some (by assumption)) _ _) hT (pr := [wd_Nam cs h (fun k => if k = 0 then q1 else if k = 1 then q4 else q7) (fun _ => none) (upd (upd (fun _ => 0) 3 0) 4 0) na76 (fun _ _ => none), wd_Lst cs q1 (fun _ => 0) (fun k => if k = 0 then (some em) else none) (upd (upd (fun _ => 0) 1 0) 2 0) (fun _ _ => 0) (fun _ _ => none)]) (pcs := [wd_Lst cs q4 (fun _ => 0) (fun k => if k = 0 then (some lq90) else none) lf92 (fun _ _ => 0) (fun _ _ => none), [(lq90, .inl (cs 12, lc91, .inr (.inr (.inr (.inr lg93)))))], P118]) hw (px_X.tot (oX_call (P := (fun A U H => (va_Mi "[Ljava/lang/Object;" mi U))) (pr := [wd_Nam cs h (fun k => if k = 0 then q1 else if k = 1 then q4 else q7) (fun _ => none) (upd (upd (fun _ => 0) 3 0) 4 0) na76 (fun _ _ => none), wd_Lst cs q1 (fun _ => 0) (fun k => if k = 0 then (some em) else none) (upd (upd (fun _ => 0) 1 0) 2 0) (fun _ _ => 0) (fun _ _ => none)]) oG_M hw hA hM)) (px_recv hT hw 2 0 rfl rfl rfl) m2_9 m2_6 m2_7 m2_8 m1_10 q_Lst_add2 ⟨Nat.le_of_ble_eq_true rfl, Nat.le_of_ble_eq_true rfl⟩ hl.1 rfl (Nat.le_of_ble_eq_true rfl) d_Nam_init_126 ⟨show ((((((0 + 1) + 1) + 1) + 1) + k96) + 1) + (1) ≤ 6000 from by first | with_reducible rfl | with_reducible assumption | omega, show ((((((0 + 3) + 3) + 2048) + 7) + n97) + 7) + (4 * lc91 + 40) ≤ 60000 from by first | with_reducible rfl | with_reducible assumption | omega⟩) hw hA (fun v124 p123 k125 n126 H locs hp123 hw => ?_)
                                    dsimp only at hp123
                                    obtain ⟨lq119, lc120, lf121, lg122, rfl, e127, e128, e129, e130, e131, e132, e133, e134, e135, e136⟩ := hp123
                                    replace e127 : (lf121 1).toInt = (lf92 1).toInt + 1 := e127
                                    replace e128 : (lf121 1).toInt ≤ (lc120 : Int) := e128
                                    replace e129 : AddL (lf92 1) lg93 lg122 q110 := e129
                                    replace e130 : (lc91 : Int) ≤ (lc120 : Int) := e130
                                    replace e131 : (lc120 : Int) ≤ 2 * (lc91 : Int) + 10 := e131
                                    replace e132 : 10 ≤ lc120 := e132
                                    replace e133 : Lcap lc91 (lf92 1) lc120 := e133
                                    replace e134 : k125 ≤ 1 := e134
                                    replace e135 : (k125 : Int) ≤ (lc120 : Int) - (lc91 : Int) := e135
                                    replace e136 : (n126 : Int) ≤ 4 * ((lc120 : Int) - (lc91 : Int)) := e136
                                    replace hw : pw D A s.heap H locs [wd_Nam cs h (fun k => if k = 0 then q1 else if k = 1 then q4 else q7) (fun _ => none) (upd (upd (fun _ => 0) 3 0) 4 0) na76 (fun _ _ => none), wd_Lst cs q1 (fun _ => 0) (fun k => if k = 0 then (some em) else none) (upd (upd (fun _ => 0) 1 0) 2 0) (fun _ _ => 0) (fun _ _ => none), wd_Lst cs q4 (fun _ => 0) (fun k => if k = 0 then (some lq119) else none) lf121 (fun _ _ => 0) (fun _ _ => none), [(lq119, .inl (cs 12, lc120, .inr (.inr (.inr (.inr lg122)))))], P118] := hw
                                    have lv124 := Int32.le_toInt v124
                                    have uv124 := Int32.toInt_lt v124
                                    have hlcb136 := Lcap.le (B := 5000) (by assumption) (by omega) (by omega); have helf := AddL.elf (n' := (lf121 1)) (by assumption) hEf (by assumption) (by omega); have helg := AddL.elg (n' := (lf121 1)) (by assumption) hEg (by assumption) (by omega); have hEf := helf; have hEg := helg; clear helf helg
                                    refine lv_pop S.x S.b d_Nam_init_129 rfl ?_
                                    obtain ⟨z137, ez137⟩ : ∃ y : Int32, y = z108 + 1 := ⟨_, rfl⟩
                                    have tz137 : z137.toInt = (z108.toInt + 1 + 2147483648) % 4294967296 - 2147483648 := by rw [ez137]; exact i_add z108 1
                                    have lz137 := Int32.le_toInt z137
                                    have uz137 := Int32.toInt_lt z137
                                    try replace tz137 : z137.toInt = z108.toInt + 1 := by omega
                                    refine lv_iinc (v := z137) (lv' := [(2, .int z137), (1, .int z117), (3, .ref q110), (0, .ref h)]) S.x S.b d_Nam_init_130 hl (k := 2) rfl (by rw [ez137]; rfl) (by decide) rfl (fun ls hl => ?_)
                                    refine lv_goto (tgt := 66) S.x S.b d_Nam_init_133 (by decide) ?_
                                    refine lv_iload_n S.x S.b d_Nam_init_66 rfl (lv_at hl 0 rfl) ?_
                                    refine lv_bipush (v := 10) S.x S.b d_Nam_init_67 (by decide) ?_
                                    refine lv_icmp_ge (tgt := 136) S.x S.b d_Nam_init_69 (by decide) (fun c138 => ?_) (fun c138 => ?_)
                                    · have nc138 : (10 : Int) ≤ z137.toInt := (i_le (x := 10) (y := z137)).mp c138
                                      exfalso
                                      omega
                                    · have nc138 : ¬ (10 : Int) ≤ z137.toInt := mt (i_le (x := 10) (y := z137)).mpr c138
                                      refine px_new S k_Sym hT hw hA m1_202 m1_203 m1_11 (fs := [.int 0, .int 0, .int 0, .int 0, .int 0, .int 0, .int 0]) (by decide +kernel) (show (((((((0 + 1) + 1) + 1) + 1) + k96) + 1) + k125) + 1 ≤ 6000 from by first | exact oz_be9c031610 e105 e134 | omega) (show (((((((0 + 3) + 3) + 2048) + 7) + n97) + 7) + n126) + 7 ≤ 60000 from by first | exact oz_67ce8d99fb e107 e136 e102 e131 | omega) d_Nam_init_72 (fun q139 H hw => ?_)
                                      replace hw : pw D A s.heap H _ [wd_Nam cs h (fun k => if k = 0 then q1 else if k = 1 then q4 else q7) (fun _ => none) (upd (upd (fun _ => 0) 3 0) 4 0) na76 (fun _ _ => none), wd_Lst cs q1 (fun _ => 0) (fun k => if k = 0 then (some em) else none) (upd (upd (fun _ => 0) 1 0) 2 0) (fun _ _ => 0) (fun _ _ => none), wd_Lst cs q4 (fun _ => 0) (fun k => if k = 0 then (some lq119) else none) lf121 (fun _ _ => 0) (fun _ _ => none), [(lq119, .inl (cs 12, lc120, .inr (.inr (.inr (.inr lg122)))))], P118, [(q139, .inr (3, [.int 0, .int 0, .int 0, .int 0, .int 0, .int 0, .int 0]))]] := hw
                                      refine lv_dup S.x S.b d_Nam_init_75 rfl ?_
                                      refine lv_bipush (v := 15) S.x S.b d_Nam_init_76 (by decide) ?_
                                      refine lv_iload_n S.x S.b d_Nam_init_78 rfl (lv_at hl 0 rfl) ?_
                                      refine lv_iadd S.x S.b d_Nam_init_79 ?_
                                      refine lv_topi (fun z140 ez140 => ?_)
                                      have tz140 : z140.toInt = ((15 : Int) + z137.toInt + 2147483648) % 4294967296 - 2147483648 := by rw [ez140]; exact i_add 15 z137
                                      have lz140 := Int32.le_toInt z140
                                      have uz140 := Int32.toInt_lt z140
                                      try replace tz140 : z140.toInt = (15 : Int) + z137.toInt := by omega
                                      refine lv_iconst (v := 2) S.x S.b d_Nam_init_80 (by decide) ?_
                                      refine px_callv (pr := [wd_Nam cs h (fun k => if k = 0 then q1 else if k = 1 then q4 else q7) (fun _ => none) (upd (upd (fun _ => 0) 3 0) 4 0) na76 (fun _ _ => none), wd_Lst cs q1 (fun _ => 0) (fun k => if k = 0 then (some em) else none) (upd (upd (fun _ => 0) 1 0) 2 0) (fun _ _ => 0) (fun _ _ => none), wd_Lst cs q4 (fun _ => 0) (fun k => if k = 0 then (some lq119) else none) lf121 (fun _ _ => 0) (fun _ _ => none), [(lq119, .inl (cs 12, lc120, .inr (.inr (.inr (.inr lg122)))))], P118]) (px_runI (As := [.int z140, .int 2]) (rest := [.ref q139]) S (c_Sym_init l D cs q139 z140 2 _) hT (pr := [wd_Nam cs h (fun k => if k = 0 then q1 else if k = 1 then q4 else q7) (fun _ => none) (upd (upd (fun _ => 0) 3 0) 4 0) na76 (fun _ _ => none), wd_Lst cs q1 (fun _ => 0) (fun k => if k = 0 then (some em) else none) (upd (upd (fun _ => 0) 1 0) 2 0) (fun _ _ => 0) (fun _ _ => none), wd_Lst cs q4 (fun _ => 0) (fun k => if k = 0 then (some lq119) else none) lf121 (fun _ _ => 0) (fun _ _ => none), [(lq119, .inl (cs 12, lc120, .inr (.inr (.inr (.inr lg122)))))], P118]) (pcs := [[(q139, .inr (3, [.int 0, .int 0, .int 0, .int 0, .int 0, .int 0, .int 0]))]]) hw px_X.tt m1_206 m1_204 m1_205 m1_11 rfl q_Sym_init ⟨Nat.le_of_ble_eq_true rfl, Nat.le_of_ble_eq_true rfl⟩ hl.1 rfl (Nat.le_of_ble_eq_true rfl) d_Nam_init_81 ⟨show ((((((((0 + 1) + 1) + 1) + 1) + k96) + 1) + k125) + 1) + 0 ≤ 6000 from by first | with_reducible rfl | with_reducible assumption | omega, show ((((((((0 + 3) + 3) + 2048) + 7) + n97) + 7) + n126) + 7) + 0 ≤ 60000 from by first | with_reducible rfl | with_reducible assumption | omega⟩) hw hA (fun p141 H locs hp141 hw => ?_)
                                      subst hp141
                                      replace hw : pw D A s.heap H locs [wd_Nam cs h (fun k => if k = 0 then q1 else if k = 1 then q4 else q7) (fun _ => none) (upd (upd (fun _ => 0) 3 0) 4 0) na76 (fun _ _ => none), wd_Lst cs q1 (fun _ => 0) (fun k => if k = 0 then (some em) else none) (upd (upd (fun _ => 0) 1 0) 2 0) (fun _ _ => 0) (fun _ _ => none), wd_Lst cs q4 (fun _ => 0) (fun k => if k = 0 then (some lq119) else none) lf121 (fun _ _ => 0) (fun _ _ => none), [(lq119, .inl (cs 12, lc120, .inr (.inr (.inr (.inr lg122)))))], P118, wd_Sym cs q139 (fun _ => 0) (fun _ => none) (upd (upd (upd (upd (upd (upd (upd (fun _ => 0) 0 z140) 1 2) 2 0) 3 0) 4 0) 5 0) 6 0) (fun _ _ => 0) (fun _ _ => none)] := hw
                                      refine lv_astore_n (lv' := [(3, .ref q139), (2, .int z137), (1, .int z117), (0, .ref h)]) S.x S.b d_Nam_init_84 rfl hl (by decide) rfl (fun ls hl => ?_)
                                      refine lv_aload_n S.x S.b d_Nam_init_85 rfl (lv_at hl 0 rfl) ?_
                                      refine lv_iload_n S.x S.b d_Nam_init_86 rfl (lv_at hl 1 rfl) ?_
                                      refine px_put S k_Sym hT hw 5 0 5 rfl rfl (by decide) m1_221 rfl rfl rfl (Nat.le_of_ble_eq_true rfl) d_Nam_init_87 (w' := wd_Sym cs q139 (fun _ => 0) (fun _ => none) (upd (upd (upd (upd (upd (upd (upd (fun _ => 0) 0 z140) 1 2) 2 0) 3 0) 4 0) 5 z137) 6 0) (fun _ _ => 0) (fun _ _ => none)) (ps' := [wd_Nam cs h (fun k => if k = 0 then q1 else if k = 1 then q4 else q7) (fun _ => none) (upd (upd (fun _ => 0) 3 0) 4 0) na76 (fun _ _ => none), wd_Lst cs q1 (fun _ => 0) (fun k => if k = 0 then (some em) else none) (upd (upd (fun _ => 0) 1 0) 2 0) (fun _ _ => 0) (fun _ _ => none), wd_Lst cs q4 (fun _ => 0) (fun k => if k = 0 then (some lq119) else none) lf121 (fun _ _ => 0) (fun _ _ => none), [(lq119, .inl (cs 12, lc120, .inr (.inr (.inr (.inr lg122)))))], P118, wd_Sym cs q139 (fun _ => 0) (fun _ => none) (upd (upd (upd (upd (upd (upd (upd (fun _ => 0) 0 z140) 1 2) 2 0) 3 0) 4 0) 5 z137) 6 0) (fun _ _ => 0) (fun _ _ => none)]) rfl rfl (fun H locs hw => ?_)
                                      refine lv_aload_n S.x S.b d_Nam_init_90 rfl (lv_at hl 0 rfl) ?_
                                      refine va_getsN S.x S.b hqtG1 hw.2.2 S.own (va_Nw.use rfl (hT.2.2 _ m2_2n rfl)) (fun _ h => h) d_Nam_init_91 ?_
                                      refine lv_iload_n S.x S.b d_Nam_init_94 rfl (lv_at hl 1 rfl) ?_
                                      refine va_ti S.x S.b hqtG2 hw.2.2 (i := z137) (vp_in_iff.mpr (by constructor <;> omega)) rfl d_Nam_init_95 ?_
                                      refine lv_topi (fun z143 ez143 => ?_)
                                      have lz143 := Int32.le_toInt z143
                                      have uz143 := Int32.toInt_lt z143
                                      refine px_put S k_Sym hT hw 5 0 6 rfl rfl (by decide) m1_224 rfl rfl rfl (Nat.le_of_ble_eq_true rfl) d_Nam_init_96 (w' := wd_Sym cs q139 (fun _ => 0) (fun _ => none) (upd (upd (upd (upd (upd (upd (upd (fun _ => 0) 0 z140) 1 2) 2 0) 3 0) 4 0) 5 z137) 6 z143) (fun _ _ => 0) (fun _ _ => none)) (ps' := [wd_Nam cs h (fun k => if k = 0 then q1 else if k = 1 then q4 else q7) (fun _ => none) (upd (upd (fun _ => 0) 3 0) 4 0) na76 (fun _ _ => none), wd_Lst cs q1 (fun _ => 0) (fun k => if k = 0 then (some em) else none) (upd (upd (fun _ => 0) 1 0) 2 0) (fun _ _ => 0) (fun _ _ => none), wd_Lst cs q4 (fun _ => 0) (fun k => if k = 0 then (some lq119) else none) lf121 (fun _ _ => 0) (fun _ _ => none), [(lq119, .inl (cs 12, lc120, .inr (.inr (.inr (.inr lg122)))))], P118, wd_Sym cs q139 (fun _ => 0) (fun _ => none) (upd (upd (upd (upd (upd (upd (upd (fun _ => 0) 0 z140) 1 2) 2 0) 3 0) 4 0) 5 z137) 6 z143) (fun _ _ => 0) (fun _ _ => none)]) rfl rfl (fun H locs hw => ?_)
                                      refine lv_aload_n S.x S.b d_Nam_init_99 rfl (lv_at hl 0 rfl) ?_
                                      refine lv_iload_n S.x S.b d_Nam_init_100 rfl (lv_at hl 2 rfl) ?_
                                      refine px_put S k_Sym hT hw 5 0 3 rfl rfl (by decide) m1_215 rfl rfl rfl (Nat.le_of_ble_eq_true rfl) d_Nam_init_101 (w' := wd_Sym cs q139 (fun _ => 0) (fun _ => none) (upd (upd (upd (upd (upd (upd (upd (fun _ => 0) 0 z140) 1 2) 2 0) 3 z117) 4 0) 5 z137) 6 z143) (fun _ _ => 0) (fun _ _ => none)) (ps' := [wd_Nam cs h (fun k => if k = 0 then q1 else if k = 1 then q4 else q7) (fun _ => none) (upd (upd (fun _ => 0) 3 0) 4 0) na76 (fun _ _ => none), wd_Lst cs q1 (fun _ => 0) (fun k => if k = 0 then (some em) else none) (upd (upd (fun _ => 0) 1 0) 2 0) (fun _ _ => 0) (fun _ _ => none), wd_Lst cs q4 (fun _ => 0) (fun k => if k = 0 then (some lq119) else none) lf121 (fun _ _ => 0) (fun _ _ => none), [(lq119, .inl (cs 12, lc120, .inr (.inr (.inr (.inr lg122)))))], P118, wd_Sym cs q139 (fun _ => 0) (fun _ => none) (upd (upd (upd (upd (upd (upd (upd (fun _ => 0) 0 z140) 1 2) 2 0) 3 z117) 4 0) 5 z137) 6 z143) (fun _ _ => 0) (fun _ _ => none)]) rfl rfl (fun H locs hw => ?_)
                                      refine lv_aload_n S.x S.b d_Nam_init_104 rfl (lv_at hl 0 rfl) ?_
                                      refine va_getsN S.x S.b hqcG1 hw.2.2 S.own (va_Nw.use rfl (hT.2.2 _ m2_4n rfl)) (fun _ h => h) d_Nam_init_105 ?_
                                      refine lv_iload_n S.x S.b d_Nam_init_108 rfl (lv_at hl 1 rfl) ?_
                                      refine va_ti S.x S.b hqcG2 hw.2.2 (i := z137) (vp_in_iff.mpr (by constructor <;> omega)) rfl d_Nam_init_109 ?_
                                      refine lv_topi (fun z144 ez144 => ?_)
                                      have lz144 := Int32.le_toInt z144
                                      have uz144 := Int32.toInt_lt z144
                                      refine px_put S k_Sym hT hw 5 0 4 rfl rfl (by decide) m1_218 rfl rfl rfl (Nat.le_of_ble_eq_true rfl) d_Nam_init_110 (w' := wd_Sym cs q139 (fun _ => 0) (fun _ => none) (upd (upd (upd (upd (upd (upd (upd (fun _ => 0) 0 z140) 1 2) 2 0) 3 z117) 4 z144) 5 z137) 6 z143) (fun _ _ => 0) (fun _ _ => none)) (ps' := [wd_Nam cs h (fun k => if k = 0 then q1 else if k = 1 then q4 else q7) (fun _ => none) (upd (upd (fun _ => 0) 3 0) 4 0) na76 (fun _ _ => none), wd_Lst cs q1 (fun _ => 0) (fun k => if k = 0 then (some em) else none) (upd (upd (fun _ => 0) 1 0) 2 0) (fun _ _ => 0) (fun _ _ => none), wd_Lst cs q4 (fun _ => 0) (fun k => if k = 0 then (some lq119) else none) lf121 (fun _ _ => 0) (fun _ _ => none), [(lq119, .inl (cs 12, lc120, .inr (.inr (.inr (.inr lg122)))))], P118, wd_Sym cs q139 (fun _ => 0) (fun _ => none) (upd (upd (upd (upd (upd (upd (upd (fun _ => 0) 0 z140) 1 2) 2 0) 3 z117) 4 z144) 5 z137) 6 z143) (fun _ _ => 0) (fun _ _ => none)]) rfl rfl (fun H locs hw => ?_)
                                      refine lv_iload_n S.x S.b d_Nam_init_113 rfl (lv_at hl 2 rfl) ?_
                                      refine va_getsN S.x S.b hqcG1 hw.2.2 S.own (va_Nw.use rfl (hT.2.2 _ m2_4n rfl)) (fun _ h => h) d_Nam_init_114 ?_
                                      refine lv_iload_n S.x S.b d_Nam_init_117 rfl (lv_at hl 1 rfl) ?_
                                      refine va_ti S.x S.b hqcG2 hw.2.2 (i := z137) (vp_in_iff.mpr (by constructor <;> omega)) rfl d_Nam_init_118 ?_
                                      refine lv_topi (fun z145 ez145 => ?_)
                                      have lz145 := Int32.le_toInt z145
                                      have uz145 := Int32.toInt_lt z145
                                      refine lv_iadd S.x S.b d_Nam_init_119 ?_
                                      refine lv_topi (fun z146 ez146 => ?_)
                                      have lz146 := Int32.le_toInt z146
                                      have uz146 := Int32.toInt_lt z146
                                      refine lv_istore_n (lv' := [(1, .int z146), (3, .ref q139), (2, .int z137), (0, .ref h)]) S.x S.b d_Nam_init_120 rfl hl (by decide) rfl (fun ls hl => ?_)
                                      have hw : pw D A s.heap _ _ ([wd_Nam cs h (fun k => if k = 0 then q1 else if k = 1 then q4 else q7) (fun _ => none) (upd (upd (fun _ => 0) 3 0) 4 0) na76 (fun _ _ => none), wd_Lst cs q1 (fun _ => 0) (fun k => if k = 0 then (some em) else none) (upd (upd (fun _ => 0) 1 0) 2 0) (fun _ _ => 0) (fun _ _ => none), wd_Lst cs q4 (fun _ => 0) (fun k => if k = 0 then (some lq119) else none) lf121 (fun _ _ => 0) (fun _ _ => none), [(lq119, .inl (cs 12, lc120, .inr (.inr (.inr (.inr lg122)))))]] ++ [P118, wd_Sym cs q139 (fun _ => 0) (fun _ => none) (upd (upd (upd (upd (upd (upd (upd (fun _ => 0) 0 z140) 1 2) 2 0) 3 z117) 4 z144) 5 z137) 6 z143) (fun _ _ => 0) (fun _ _ => none)]) := hw.sub [0, 1, 2, 3, 4, 5] rfl rfl
                                      have hw := pw_join hw
                                      have hpnP147 : Pg P118 (P118 ++ wd_Sym cs q139 (fun _ => 0) (fun _ => none) (upd (upd (upd (upd (upd (upd (upd (fun _ => 0) 0 z140) 1 2) 2 0) 3 z117) 4 z144) 5 z137) 6 z143) (fun _ _ => 0) (fun _ _ => none)) := pg_app
                                      have hsnP147 : Sy (P118 ++ wd_Sym cs q139 (fun _ => 0) (fun _ => none) (upd (upd (upd (upd (upd (upd (upd (fun _ => 0) 0 z140) 1 2) 2 0) 3 z117) 4 z144) 5 z137) 6 z143) (fun _ _ => 0) (fun _ _ => none)) (some q139) := sy_last (s := (upd (upd (upd (upd (upd (upd (upd (fun _ => 0) 0 z140) 1 2) 2 0) 3 z117) 4 z144) 5 z137) 6 z143)) rfl
                                      have hfnP147 : Fy (P118 ++ wd_Sym cs q139 (fun _ => 0) (fun _ => none) (upd (upd (upd (upd (upd (upd (upd (fun _ => 0) 0 z140) 1 2) 2 0) 3 z117) 4 z144) 5 z137) 6 z143) (fun _ _ => 0) (fun _ _ => none)) (some q139) := fy_last (s := (upd (upd (upd (upd (upd (upd (upd (fun _ => 0) 0 z140) 1 2) 2 0) 3 z117) 4 z144) 5 z137) 6 z143)) rfl (show 0 ≤ z137.toInt from by first | exact oz_072d2c3f33 tz137 tz108 | omega) (show z137.toInt ≤ 1000000 from by first | exact oz_b7e3294fe2 tz137 tz108 | omega)
                                      have hgnP147 : Gy (P118 ++ wd_Sym cs q139 (fun _ => 0) (fun _ => none) (upd (upd (upd (upd (upd (upd (upd (fun _ => 0) 0 z140) 1 2) 2 0) 3 z117) 4 z144) 5 z137) 6 z143) (fun _ _ => 0) (fun _ _ => none)) q139 := gy_lastN (s := (upd (upd (upd (upd (upd (upd (upd (fun _ => 0) 0 z140) 1 2) 2 0) 3 z117) 4 z144) 5 z137) 6 z143)) rfl (show 0 ≤ z137.toInt from by first | exact oz_072d2c3f33 tz137 tz108 | omega) (show z137.toInt ≤ 1000000 from by first | exact oz_b7e3294fe2 tz137 tz108 | omega) (show z140.toInt ≠ 25 from by first | exact oz_20fca602ed tz140 nc138 | omega)
                                      generalize (P118 ++ wd_Sym cs q139 (fun _ => 0) (fun _ => none) (upd (upd (upd (upd (upd (upd (upd (fun _ => 0) 0 z140) 1 2) 2 0) 3 z117) 4 z144) 5 z137) 6 z143) (fun _ _ => 0) (fun _ _ => none)) = P147 at hw hpnP147 hsnP147 hfnP147 hgnP147
                                      have hEl := hpnP147.els hEl; have hEf := hpnP147.elf hEf; have hEg := hpnP147.elg hEg
                                      replace hw : pw D A s.heap _ _ [wd_Nam cs h (fun k => if k = 0 then q1 else if k = 1 then q4 else q7) (fun _ => none) (upd (upd (fun _ => 0) 3 0) 4 0) na76 (fun _ _ => none), wd_Lst cs q1 (fun _ => 0) (fun k => if k = 0 then (some em) else none) (upd (upd (fun _ => 0) 1 0) 2 0) (fun _ _ => 0) (fun _ _ => none), wd_Lst cs q4 (fun _ => 0) (fun k => if k = 0 then (some lq119) else none) lf121 (fun _ _ => 0) (fun _ _ => none), [(lq119, .inl (cs 12, lc120, .inr (.inr (.inr (.inr lg122)))))], P147] := hw
                                      refine lv_aload_n S.x S.b d_Nam_init_121 rfl (lv_at hl 3 rfl) ?_
                                      refine px_get S k_Nam hT hw 0 0 1 (v := .ref q4) rfl rfl rfl (by decide) m2_76 d_Nam_init_122 ?_
                                      refine lv_aload_n S.x S.b d_Nam_init_125 rfl (lv_at hl 1 rfl) ?_
                                      refine pg_calli (pr := [wd_Nam cs h (fun k => if k = 0 then q1 else if k = 1 then q4 else q7) (fun _ => none) (upd (upd (fun _ => 0) 3 0) 4 0) na76 (fun _ _ => none), wd_Lst cs q1 (fun _ => 0) (fun k => if k = 0 then (some em) else none) (upd (upd (fun _ => 0) 1 0) 2 0) (fun _ _ => 0) (fun _ _ => none)]) (px_runV (As := [.ref q139]) (rest := []) S (c_al_add_T l D cs mi q4 lq119 lc120 lf121 lg122 P147  q139 (show lc120 ≤ 1000000 from by first | exact oz_83553f5e4d e131 e102 | omega) (show 10 ≤ lc120 from by first | exact e132 | omega) (show 0 ≤ (lf121 1).toInt from by first | exact oz_072d2c3f33 e127 e98 | omega) (show (lf121 1).toInt ≤ (lc120 : Int) from by first | exact e128 | omega) (by first | assumption | exact ElF.els (by assumption)) (by first | assumption | exact sy_none | exact fy_none | exact Fy.sy (by assumption) | exact sy_some (by assumption)) _ _) hT (pr := [wd_Nam cs h (fun k => if k = 0 then q1 else if k = 1 then q4 else q7) (fun _ => none) (upd (upd (fun _ => 0) 3 0) 4 0) na76 (fun _ _ => none), wd_Lst cs q1 (fun _ => 0) (fun k => if k = 0 then (some em) else none) (upd (upd (fun _ => 0) 1 0) 2 0) (fun _ _ => 0) (fun _ _ => none)]) (pcs := [wd_Lst cs q4 (fun _ => 0) (fun k => if k = 0 then (some lq119) else none) lf121 (fun _ _ => 0) (fun _ _ => none), [(lq119, .inl (cs 12, lc120, .inr (.inr (.inr (.inr lg122)))))], P147]) hw (px_X.tot (oX_call (P := (fun A U H => (va_Mi "[Ljava/lang/Object;" mi U))) (pr := [wd_Nam cs h (fun k => if k = 0 then q1 else if k = 1 then q4 else q7) (fun _ => none) (upd (upd (fun _ => 0) 3 0) 4 0) na76 (fun _ _ => none), wd_Lst cs q1 (fun _ => 0) (fun k => if k = 0 then (some em) else none) (upd (upd (fun _ => 0) 1 0) 2 0) (fun _ _ => 0) (fun _ _ => none)]) oG_M hw hA hM)) (px_recv hT hw 2 0 rfl rfl rfl) m2_9 m2_6 m2_7 m2_8 m1_10 q_Lst_add2 ⟨Nat.le_of_ble_eq_true rfl, Nat.le_of_ble_eq_true rfl⟩ hl.1 rfl (Nat.le_of_ble_eq_true rfl) d_Nam_init_126 ⟨show ((((((((0 + 1) + 1) + 1) + 1) + k96) + 1) + k125) + 1) + (1) ≤ 6000 from by first | with_reducible rfl | with_reducible assumption | omega, show ((((((((0 + 3) + 3) + 2048) + 7) + n97) + 7) + n126) + 7) + (4 * lc120 + 40) ≤ 60000 from by first | with_reducible rfl | with_reducible assumption | omega⟩) hw hA (fun v153 p152 k154 n155 H locs hp152 hw => ?_)
                                      dsimp only at hp152
                                      obtain ⟨lq148, lc149, lf150, lg151, rfl, e156, e157, e158, e159, e160, e161, e162, e163, e164, e165⟩ := hp152
                                      replace e156 : (lf150 1).toInt = (lf121 1).toInt + 1 := e156
                                      replace e157 : (lf150 1).toInt ≤ (lc149 : Int) := e157
                                      replace e158 : AddL (lf121 1) lg122 lg151 q139 := e158
                                      replace e159 : (lc120 : Int) ≤ (lc149 : Int) := e159
                                      replace e160 : (lc149 : Int) ≤ 2 * (lc120 : Int) + 10 := e160
                                      replace e161 : 10 ≤ lc149 := e161
                                      replace e162 : Lcap lc120 (lf121 1) lc149 := e162
                                      replace e163 : k154 ≤ 1 := e163
                                      replace e164 : (k154 : Int) ≤ (lc149 : Int) - (lc120 : Int) := e164
                                      replace e165 : (n155 : Int) ≤ 4 * ((lc149 : Int) - (lc120 : Int)) := e165
                                      replace hw : pw D A s.heap H locs [wd_Nam cs h (fun k => if k = 0 then q1 else if k = 1 then q4 else q7) (fun _ => none) (upd (upd (fun _ => 0) 3 0) 4 0) na76 (fun _ _ => none), wd_Lst cs q1 (fun _ => 0) (fun k => if k = 0 then (some em) else none) (upd (upd (fun _ => 0) 1 0) 2 0) (fun _ _ => 0) (fun _ _ => none), wd_Lst cs q4 (fun _ => 0) (fun k => if k = 0 then (some lq148) else none) lf150 (fun _ _ => 0) (fun _ _ => none), [(lq148, .inl (cs 12, lc149, .inr (.inr (.inr (.inr lg151)))))], P147] := hw
                                      have lv153 := Int32.le_toInt v153
                                      have uv153 := Int32.toInt_lt v153
                                      have hlcb165 := Lcap.le (B := 5000) (by assumption) (by omega) (by omega); have helf := AddL.elf (n' := (lf150 1)) (by assumption) hEf (by assumption) (by omega); have helg := AddL.elg (n' := (lf150 1)) (by assumption) hEg (by assumption) (by omega); have hEf := helf; have hEg := helg; clear helf helg
                                      refine lv_pop S.x S.b d_Nam_init_129 rfl ?_
                                      obtain ⟨z166, ez166⟩ : ∃ y : Int32, y = z137 + 1 := ⟨_, rfl⟩
                                      have tz166 : z166.toInt = (z137.toInt + 1 + 2147483648) % 4294967296 - 2147483648 := by rw [ez166]; exact i_add z137 1
                                      have lz166 := Int32.le_toInt z166
                                      have uz166 := Int32.toInt_lt z166
                                      try replace tz166 : z166.toInt = z137.toInt + 1 := by omega
                                      refine lv_iinc (v := z166) (lv' := [(2, .int z166), (1, .int z146), (3, .ref q139), (0, .ref h)]) S.x S.b d_Nam_init_130 hl (k := 2) rfl (by rw [ez166]; rfl) (by decide) rfl (fun ls hl => ?_)
                                      refine lv_goto (tgt := 66) S.x S.b d_Nam_init_133 (by decide) ?_
                                      refine lv_iload_n S.x S.b d_Nam_init_66 rfl (lv_at hl 0 rfl) ?_
                                      refine lv_bipush (v := 10) S.x S.b d_Nam_init_67 (by decide) ?_
                                      refine lv_icmp_ge (tgt := 136) S.x S.b d_Nam_init_69 (by decide) (fun c167 => ?_) (fun c167 => ?_)
                                      · have nc167 : (10 : Int) ≤ z166.toInt := (i_le (x := 10) (y := z166)).mp c167
                                        exfalso
                                        omega
                                      · have nc167 : ¬ (10 : Int) ≤ z166.toInt := mt (i_le (x := 10) (y := z166)).mpr c167
                                        refine px_new S k_Sym hT hw hA m1_202 m1_203 m1_11 (fs := [.int 0, .int 0, .int 0, .int 0, .int 0, .int 0, .int 0]) (by decide +kernel) (show (((((((((0 + 1) + 1) + 1) + 1) + k96) + 1) + k125) + 1) + k154) + 1 ≤ 6000 from by first | exact oz_2131103c10 e105 e134 e163 | omega) (show (((((((((0 + 3) + 3) + 2048) + 7) + n97) + 7) + n126) + 7) + n155) + 7 ≤ 60000 from by first | exact oz_4600e781d2 e107 e136 e165 e102 e131 e160 | omega) d_Nam_init_72 (fun q168 H hw => ?_)
                                        replace hw : pw D A s.heap H _ [wd_Nam cs h (fun k => if k = 0 then q1 else if k = 1 then q4 else q7) (fun _ => none) (upd (upd (fun _ => 0) 3 0) 4 0) na76 (fun _ _ => none), wd_Lst cs q1 (fun _ => 0) (fun k => if k = 0 then (some em) else none) (upd (upd (fun _ => 0) 1 0) 2 0) (fun _ _ => 0) (fun _ _ => none), wd_Lst cs q4 (fun _ => 0) (fun k => if k = 0 then (some lq148) else none) lf150 (fun _ _ => 0) (fun _ _ => none), [(lq148, .inl (cs 12, lc149, .inr (.inr (.inr (.inr lg151)))))], P147, [(q168, .inr (3, [.int 0, .int 0, .int 0, .int 0, .int 0, .int 0, .int 0]))]] := hw
                                        refine lv_dup S.x S.b d_Nam_init_75 rfl ?_
                                        refine lv_bipush (v := 15) S.x S.b d_Nam_init_76 (by decide) ?_
                                        refine lv_iload_n S.x S.b d_Nam_init_78 rfl (lv_at hl 0 rfl) ?_
                                        refine lv_iadd S.x S.b d_Nam_init_79 ?_
                                        refine lv_topi (fun z169 ez169 => ?_)
                                        have tz169 : z169.toInt = ((15 : Int) + z166.toInt + 2147483648) % 4294967296 - 2147483648 := by rw [ez169]; exact i_add 15 z166
                                        have lz169 := Int32.le_toInt z169
                                        have uz169 := Int32.toInt_lt z169
                                        try replace tz169 : z169.toInt = (15 : Int) + z166.toInt := by omega
                                        refine lv_iconst (v := 2) S.x S.b d_Nam_init_80 (by decide) ?_
                                        refine px_callv (pr := [wd_Nam cs h (fun k => if k = 0 then q1 else if k = 1 then q4 else q7) (fun _ => none) (upd (upd (fun _ => 0) 3 0) 4 0) na76 (fun _ _ => none), wd_Lst cs q1 (fun _ => 0) (fun k => if k = 0 then (some em) else none) (upd (upd (fun _ => 0) 1 0) 2 0) (fun _ _ => 0) (fun _ _ => none), wd_Lst cs q4 (fun _ => 0) (fun k => if k = 0 then (some lq148) else none) lf150 (fun _ _ => 0) (fun _ _ => none), [(lq148, .inl (cs 12, lc149, .inr (.inr (.inr (.inr lg151)))))], P147]) (px_runI (As := [.int z169, .int 2]) (rest := [.ref q168]) S (c_Sym_init l D cs q168 z169 2 _) hT (pr := [wd_Nam cs h (fun k => if k = 0 then q1 else if k = 1 then q4 else q7) (fun _ => none) (upd (upd (fun _ => 0) 3 0) 4 0) na76 (fun _ _ => none), wd_Lst cs q1 (fun _ => 0) (fun k => if k = 0 then (some em) else none) (upd (upd (fun _ => 0) 1 0) 2 0) (fun _ _ => 0) (fun _ _ => none), wd_Lst cs q4 (fun _ => 0) (fun k => if k = 0 then (some lq148) else none) lf150 (fun _ _ => 0) (fun _ _ => none), [(lq148, .inl (cs 12, lc149, .inr (.inr (.inr (.inr lg151)))))], P147]) (pcs := [[(q168, .inr (3, [.int 0, .int 0, .int 0, .int 0, .int 0, .int 0, .int 0]))]]) hw px_X.tt m1_206 m1_204 m1_205 m1_11 rfl q_Sym_init ⟨Nat.le_of_ble_eq_true rfl, Nat.le_of_ble_eq_true rfl⟩ hl.1 rfl (Nat.le_of_ble_eq_true rfl) d_Nam_init_81 ⟨show ((((((((((0 + 1) + 1) + 1) + 1) + k96) + 1) + k125) + 1) + k154) + 1) + 0 ≤ 6000 from by first | with_reducible rfl | with_reducible assumption | omega, show ((((((((((0 + 3) + 3) + 2048) + 7) + n97) + 7) + n126) + 7) + n155) + 7) + 0 ≤ 60000 from by first | with_reducible rfl | with_reducible assumption | omega⟩) hw hA (fun p170 H locs hp170 hw => ?_)
                                        subst hp170
                                        replace hw : pw D A s.heap H locs [wd_Nam cs h (fun k => if k = 0 then q1 else if k = 1 then q4 else q7) (fun _ => none) (upd (upd (fun _ => 0) 3 0) 4 0) na76 (fun _ _ => none), wd_Lst cs q1 (fun _ => 0) (fun k => if k = 0 then (some em) else none) (upd (upd (fun _ => 0) 1 0) 2 0) (fun _ _ => 0) (fun _ _ => none), wd_Lst cs q4 (fun _ => 0) (fun k => if k = 0 then (some lq148) else none) lf150 (fun _ _ => 0) (fun _ _ => none), [(lq148, .inl (cs 12, lc149, .inr (.inr (.inr (.inr lg151)))))], P147, wd_Sym cs q168 (fun _ => 0) (fun _ => none) (upd (upd (upd (upd (upd (upd (upd (fun _ => 0) 0 z169) 1 2) 2 0) 3 0) 4 0) 5 0) 6 0) (fun _ _ => 0) (fun _ _ => none)] := hw
                                        refine lv_astore_n (lv' := [(3, .ref q168), (2, .int z166), (1, .int z146), (0, .ref h)]) S.x S.b d_Nam_init_84 rfl hl (by decide) rfl (fun ls hl => ?_)
                                        refine lv_aload_n S.x S.b d_Nam_init_85 rfl (lv_at hl 0 rfl) ?_
                                        refine lv_iload_n S.x S.b d_Nam_init_86 rfl (lv_at hl 1 rfl) ?_
                                        refine px_put S k_Sym hT hw 5 0 5 rfl rfl (by decide) m1_221 rfl rfl rfl (Nat.le_of_ble_eq_true rfl) d_Nam_init_87 (w' := wd_Sym cs q168 (fun _ => 0) (fun _ => none) (upd (upd (upd (upd (upd (upd (upd (fun _ => 0) 0 z169) 1 2) 2 0) 3 0) 4 0) 5 z166) 6 0) (fun _ _ => 0) (fun _ _ => none)) (ps' := [wd_Nam cs h (fun k => if k = 0 then q1 else if k = 1 then q4 else q7) (fun _ => none) (upd (upd (fun _ => 0) 3 0) 4 0) na76 (fun _ _ => none), wd_Lst cs q1 (fun _ => 0) (fun k => if k = 0 then (some em) else none) (upd (upd (fun _ => 0) 1 0) 2 0) (fun _ _ => 0) (fun _ _ => none), wd_Lst cs q4 (fun _ => 0) (fun k => if k = 0 then (some lq148) else none) lf150 (fun _ _ => 0) (fun _ _ => none), [(lq148, .inl (cs 12, lc149, .inr (.inr (.inr (.inr lg151)))))], P147, wd_Sym cs q168 (fun _ => 0) (fun _ => none) (upd (upd (upd (upd (upd (upd (upd (fun _ => 0) 0 z169) 1 2) 2 0) 3 0) 4 0) 5 z166) 6 0) (fun _ _ => 0) (fun _ _ => none)]) rfl rfl (fun H locs hw => ?_)
                                        refine lv_aload_n S.x S.b d_Nam_init_90 rfl (lv_at hl 0 rfl) ?_
                                        refine va_getsN S.x S.b hqtG1 hw.2.2 S.own (va_Nw.use rfl (hT.2.2 _ m2_2n rfl)) (fun _ h => h) d_Nam_init_91 ?_
                                        refine lv_iload_n S.x S.b d_Nam_init_94 rfl (lv_at hl 1 rfl) ?_
                                        refine va_ti S.x S.b hqtG2 hw.2.2 (i := z166) (vp_in_iff.mpr (by constructor <;> omega)) rfl d_Nam_init_95 ?_
                                        refine lv_topi (fun z172 ez172 => ?_)
                                        have lz172 := Int32.le_toInt z172
                                        have uz172 := Int32.toInt_lt z172
                                        refine px_put S k_Sym hT hw 5 0 6 rfl rfl (by decide) m1_224 rfl rfl rfl (Nat.le_of_ble_eq_true rfl) d_Nam_init_96 (w' := wd_Sym cs q168 (fun _ => 0) (fun _ => none) (upd (upd (upd (upd (upd (upd (upd (fun _ => 0) 0 z169) 1 2) 2 0) 3 0) 4 0) 5 z166) 6 z172) (fun _ _ => 0) (fun _ _ => none)) (ps' := [wd_Nam cs h (fun k => if k = 0 then q1 else if k = 1 then q4 else q7) (fun _ => none) (upd (upd (fun _ => 0) 3 0) 4 0) na76 (fun _ _ => none), wd_Lst cs q1 (fun _ => 0) (fun k => if k = 0 then (some em) else none) (upd (upd (fun _ => 0) 1 0) 2 0) (fun _ _ => 0) (fun _ _ => none), wd_Lst cs q4 (fun _ => 0) (fun k => if k = 0 then (some lq148) else none) lf150 (fun _ _ => 0) (fun _ _ => none), [(lq148, .inl (cs 12, lc149, .inr (.inr (.inr (.inr lg151)))))], P147, wd_Sym cs q168 (fun _ => 0) (fun _ => none) (upd (upd (upd (upd (upd (upd (upd (fun _ => 0) 0 z169) 1 2) 2 0) 3 0) 4 0) 5 z166) 6 z172) (fun _ _ => 0) (fun _ _ => none)]) rfl rfl (fun H locs hw => ?_)
                                        refine lv_aload_n S.x S.b d_Nam_init_99 rfl (lv_at hl 0 rfl) ?_
                                        refine lv_iload_n S.x S.b d_Nam_init_100 rfl (lv_at hl 2 rfl) ?_
                                        refine px_put S k_Sym hT hw 5 0 3 rfl rfl (by decide) m1_215 rfl rfl rfl (Nat.le_of_ble_eq_true rfl) d_Nam_init_101 (w' := wd_Sym cs q168 (fun _ => 0) (fun _ => none) (upd (upd (upd (upd (upd (upd (upd (fun _ => 0) 0 z169) 1 2) 2 0) 3 z146) 4 0) 5 z166) 6 z172) (fun _ _ => 0) (fun _ _ => none)) (ps' := [wd_Nam cs h (fun k => if k = 0 then q1 else if k = 1 then q4 else q7) (fun _ => none) (upd (upd (fun _ => 0) 3 0) 4 0) na76 (fun _ _ => none), wd_Lst cs q1 (fun _ => 0) (fun k => if k = 0 then (some em) else none) (upd (upd (fun _ => 0) 1 0) 2 0) (fun _ _ => 0) (fun _ _ => none), wd_Lst cs q4 (fun _ => 0) (fun k => if k = 0 then (some lq148) else none) lf150 (fun _ _ => 0) (fun _ _ => none), [(lq148, .inl (cs 12, lc149, .inr (.inr (.inr (.inr lg151)))))], P147, wd_Sym cs q168 (fun _ => 0) (fun _ => none) (upd (upd (upd (upd (upd (upd (upd (fun _ => 0) 0 z169) 1 2) 2 0) 3 z146) 4 0) 5 z166) 6 z172) (fun _ _ => 0) (fun _ _ => none)]) rfl rfl (fun H locs hw => ?_)
                                        refine lv_aload_n S.x S.b d_Nam_init_104 rfl (lv_at hl 0 rfl) ?_
                                        refine va_getsN S.x S.b hqcG1 hw.2.2 S.own (va_Nw.use rfl (hT.2.2 _ m2_4n rfl)) (fun _ h => h) d_Nam_init_105 ?_
                                        refine lv_iload_n S.x S.b d_Nam_init_108 rfl (lv_at hl 1 rfl) ?_
                                        refine va_ti S.x S.b hqcG2 hw.2.2 (i := z166) (vp_in_iff.mpr (by constructor <;> omega)) rfl d_Nam_init_109 ?_
                                        refine lv_topi (fun z173 ez173 => ?_)
                                        have lz173 := Int32.le_toInt z173
                                        have uz173 := Int32.toInt_lt z173
                                        refine px_put S k_Sym hT hw 5 0 4 rfl rfl (by decide) m1_218 rfl rfl rfl (Nat.le_of_ble_eq_true rfl) d_Nam_init_110 (w' := wd_Sym cs q168 (fun _ => 0) (fun _ => none) (upd (upd (upd (upd (upd (upd (upd (fun _ => 0) 0 z169) 1 2) 2 0) 3 z146) 4 z173) 5 z166) 6 z172) (fun _ _ => 0) (fun _ _ => none)) (ps' := [wd_Nam cs h (fun k => if k = 0 then q1 else if k = 1 then q4 else q7) (fun _ => none) (upd (upd (fun _ => 0) 3 0) 4 0) na76 (fun _ _ => none), wd_Lst cs q1 (fun _ => 0) (fun k => if k = 0 then (some em) else none) (upd (upd (fun _ => 0) 1 0) 2 0) (fun _ _ => 0) (fun _ _ => none), wd_Lst cs q4 (fun _ => 0) (fun k => if k = 0 then (some lq148) else none) lf150 (fun _ _ => 0) (fun _ _ => none), [(lq148, .inl (cs 12, lc149, .inr (.inr (.inr (.inr lg151)))))], P147, wd_Sym cs q168 (fun _ => 0) (fun _ => none) (upd (upd (upd (upd (upd (upd (upd (fun _ => 0) 0 z169) 1 2) 2 0) 3 z146) 4 z173) 5 z166) 6 z172) (fun _ _ => 0) (fun _ _ => none)]) rfl rfl (fun H locs hw => ?_)
                                        refine lv_iload_n S.x S.b d_Nam_init_113 rfl (lv_at hl 2 rfl) ?_
                                        refine va_getsN S.x S.b hqcG1 hw.2.2 S.own (va_Nw.use rfl (hT.2.2 _ m2_4n rfl)) (fun _ h => h) d_Nam_init_114 ?_
                                        refine lv_iload_n S.x S.b d_Nam_init_117 rfl (lv_at hl 1 rfl) ?_
                                        refine va_ti S.x S.b hqcG2 hw.2.2 (i := z166) (vp_in_iff.mpr (by constructor <;> omega)) rfl d_Nam_init_118 ?_
                                        refine lv_topi (fun z174 ez174 => ?_)
                                        have lz174 := Int32.le_toInt z174
                                        have uz174 := Int32.toInt_lt z174
                                        refine lv_iadd S.x S.b d_Nam_init_119 ?_
                                        refine lv_topi (fun z175 ez175 => ?_)
                                        have lz175 := Int32.le_toInt z175
                                        have uz175 := Int32.toInt_lt z175
                                        refine lv_istore_n (lv' := [(1, .int z175), (3, .ref q168), (2, .int z166), (0, .ref h)]) S.x S.b d_Nam_init_120 rfl hl (by decide) rfl (fun ls hl => ?_)
                                        have hw : pw D A s.heap _ _ ([wd_Nam cs h (fun k => if k = 0 then q1 else if k = 1 then q4 else q7) (fun _ => none) (upd (upd (fun _ => 0) 3 0) 4 0) na76 (fun _ _ => none), wd_Lst cs q1 (fun _ => 0) (fun k => if k = 0 then (some em) else none) (upd (upd (fun _ => 0) 1 0) 2 0) (fun _ _ => 0) (fun _ _ => none), wd_Lst cs q4 (fun _ => 0) (fun k => if k = 0 then (some lq148) else none) lf150 (fun _ _ => 0) (fun _ _ => none), [(lq148, .inl (cs 12, lc149, .inr (.inr (.inr (.inr lg151)))))]] ++ [P147, wd_Sym cs q168 (fun _ => 0) (fun _ => none) (upd (upd (upd (upd (upd (upd (upd (fun _ => 0) 0 z169) 1 2) 2 0) 3 z146) 4 z173) 5 z166) 6 z172) (fun _ _ => 0) (fun _ _ => none)]) := hw.sub [0, 1, 2, 3, 4, 5] rfl rfl
                                        have hw := pw_join hw
                                        have hpnP176 : Pg P147 (P147 ++ wd_Sym cs q168 (fun _ => 0) (fun _ => none) (upd (upd (upd (upd (upd (upd (upd (fun _ => 0) 0 z169) 1 2) 2 0) 3 z146) 4 z173) 5 z166) 6 z172) (fun _ _ => 0) (fun _ _ => none)) := pg_app
                                        have hsnP176 : Sy (P147 ++ wd_Sym cs q168 (fun _ => 0) (fun _ => none) (upd (upd (upd (upd (upd (upd (upd (fun _ => 0) 0 z169) 1 2) 2 0) 3 z146) 4 z173) 5 z166) 6 z172) (fun _ _ => 0) (fun _ _ => none)) (some q168) := sy_last (s := (upd (upd (upd (upd (upd (upd (upd (fun _ => 0) 0 z169) 1 2) 2 0) 3 z146) 4 z173) 5 z166) 6 z172)) rfl
                                        have hfnP176 : Fy (P147 ++ wd_Sym cs q168 (fun _ => 0) (fun _ => none) (upd (upd (upd (upd (upd (upd (upd (fun _ => 0) 0 z169) 1 2) 2 0) 3 z146) 4 z173) 5 z166) 6 z172) (fun _ _ => 0) (fun _ _ => none)) (some q168) := fy_last (s := (upd (upd (upd (upd (upd (upd (upd (fun _ => 0) 0 z169) 1 2) 2 0) 3 z146) 4 z173) 5 z166) 6 z172)) rfl (show 0 ≤ z166.toInt from by first | exact oz_c9c4d2ac3e tz166 tz137 tz108 | omega) (show z166.toInt ≤ 1000000 from by first | exact oz_231bd416e9 tz166 nc138 | omega)
                                        have hgnP176 : Gy (P147 ++ wd_Sym cs q168 (fun _ => 0) (fun _ => none) (upd (upd (upd (upd (upd (upd (upd (fun _ => 0) 0 z169) 1 2) 2 0) 3 z146) 4 z173) 5 z166) 6 z172) (fun _ _ => 0) (fun _ _ => none)) q168 := gy_lastN (s := (upd (upd (upd (upd (upd (upd (upd (fun _ => 0) 0 z169) 1 2) 2 0) 3 z146) 4 z173) 5 z166) 6 z172)) rfl (show 0 ≤ z166.toInt from by first | exact oz_c9c4d2ac3e tz166 tz137 tz108 | omega) (show z166.toInt ≤ 1000000 from by first | exact oz_231bd416e9 tz166 nc138 | omega) (show z169.toInt ≠ 25 from by first | exact oz_20fca602ed tz169 nc167 | omega)
                                        generalize (P147 ++ wd_Sym cs q168 (fun _ => 0) (fun _ => none) (upd (upd (upd (upd (upd (upd (upd (fun _ => 0) 0 z169) 1 2) 2 0) 3 z146) 4 z173) 5 z166) 6 z172) (fun _ _ => 0) (fun _ _ => none)) = P176 at hw hpnP176 hsnP176 hfnP176 hgnP176
                                        have hEl := hpnP176.els hEl; have hEf := hpnP176.elf hEf; have hEg := hpnP176.elg hEg
                                        replace hw : pw D A s.heap _ _ [wd_Nam cs h (fun k => if k = 0 then q1 else if k = 1 then q4 else q7) (fun _ => none) (upd (upd (fun _ => 0) 3 0) 4 0) na76 (fun _ _ => none), wd_Lst cs q1 (fun _ => 0) (fun k => if k = 0 then (some em) else none) (upd (upd (fun _ => 0) 1 0) 2 0) (fun _ _ => 0) (fun _ _ => none), wd_Lst cs q4 (fun _ => 0) (fun k => if k = 0 then (some lq148) else none) lf150 (fun _ _ => 0) (fun _ _ => none), [(lq148, .inl (cs 12, lc149, .inr (.inr (.inr (.inr lg151)))))], P176] := hw
                                        refine lv_aload_n S.x S.b d_Nam_init_121 rfl (lv_at hl 3 rfl) ?_
                                        refine px_get S k_Nam hT hw 0 0 1 (v := .ref q4) rfl rfl rfl (by decide) m2_76 d_Nam_init_122 ?_
                                        refine lv_aload_n S.x S.b d_Nam_init_125 rfl (lv_at hl 1 rfl) ?_
                                        refine pg_calli (pr := [wd_Nam cs h (fun k => if k = 0 then q1 else if k = 1 then q4 else q7) (fun _ => none) (upd (upd (fun _ => 0) 3 0) 4 0) na76 (fun _ _ => none), wd_Lst cs q1 (fun _ => 0) (fun k => if k = 0 then (some em) else none) (upd (upd (fun _ => 0) 1 0) 2 0) (fun _ _ => 0) (fun _ _ => none)]) (px_runV (As := [.ref q168]) (rest := []) S (c_al_add_T l D cs mi q4 lq148 lc149 lf150 lg151 P176  q168 (show lc149 ≤ 1000000 from by first | exact oz_92fbf7ad4a e160 e131 e102 | omega) (show 10 ≤ lc149 from by first | exact e161 | omega) (show 0 ≤ (lf150 1).toInt from by first | exact oz_c9c4d2ac3e e156 e127 e98 | omega) (show (lf150 1).toInt ≤ (lc149 : Int) from by first | exact e157 | omega) (by first | assumption | exact ElF.els (by assumption)) (by first | assumption | exact sy_none | exact fy_none | exact Fy.sy (by assumption) | exact sy_some (by assumption)) _ _) hT (pr := [wd_Nam cs h (fun k => if k = 0 then q1 else if k = 1 then q4 else q7) (fun _ => none) (upd (upd (fun _ => 0) 3 0) 4 0) na76 (fun _ _ => none), wd_Lst cs q1 (fun _ => 0) (fun k => if k = 0 then (some em) else none) (upd (upd (fun _ => 0) 1 0) 2 0) (fun _ _ => 0) (fun _ _ => none)]) (pcs := [wd_Lst cs q4 (fun _ => 0) (fun k => if k = 0 then (some lq148) else none) lf150 (fun _ _ => 0) (fun _ _ => none), [(lq148, .inl (cs 12, lc149, .inr (.inr (.inr (.inr lg151)))))], P176]) hw (px_X.tot (oX_call (P := (fun A U H => (va_Mi "[Ljava/lang/Object;" mi U))) (pr := [wd_Nam cs h (fun k => if k = 0 then q1 else if k = 1 then q4 else q7) (fun _ => none) (upd (upd (fun _ => 0) 3 0) 4 0) na76 (fun _ _ => none), wd_Lst cs q1 (fun _ => 0) (fun k => if k = 0 then (some em) else none) (upd (upd (fun _ => 0) 1 0) 2 0) (fun _ _ => 0) (fun _ _ => none)]) oG_M hw hA hM)) (px_recv hT hw 2 0 rfl rfl rfl) m2_9 m2_6 m2_7 m2_8 m1_10 q_Lst_add2 ⟨Nat.le_of_ble_eq_true rfl, Nat.le_of_ble_eq_true rfl⟩ hl.1 rfl (Nat.le_of_ble_eq_true rfl) d_Nam_init_126 ⟨show ((((((((((0 + 1) + 1) + 1) + 1) + k96) + 1) + k125) + 1) + k154) + 1) + (1) ≤ 6000 from by first | with_reducible rfl | with_reducible assumption | omega, show ((((((((((0 + 3) + 3) + 2048) + 7) + n97) + 7) + n126) + 7) + n155) + 7) + (4 * lc149 + 40) ≤ 60000 from by first | with_reducible rfl | with_reducible assumption | omega⟩) hw hA (fun v182 p181 k183 n184 H locs hp181 hw => ?_)
                                        dsimp only at hp181
                                        obtain ⟨lq177, lc178, lf179, lg180, rfl, e185, e186, e187, e188, e189, e190, e191, e192, e193, e194⟩ := hp181
                                        replace e185 : (lf179 1).toInt = (lf150 1).toInt + 1 := e185
                                        replace e186 : (lf179 1).toInt ≤ (lc178 : Int) := e186
                                        replace e187 : AddL (lf150 1) lg151 lg180 q168 := e187
                                        replace e188 : (lc149 : Int) ≤ (lc178 : Int) := e188
                                        replace e189 : (lc178 : Int) ≤ 2 * (lc149 : Int) + 10 := e189
                                        replace e190 : 10 ≤ lc178 := e190
                                        replace e191 : Lcap lc149 (lf150 1) lc178 := e191
                                        replace e192 : k183 ≤ 1 := e192
                                        replace e193 : (k183 : Int) ≤ (lc178 : Int) - (lc149 : Int) := e193
                                        replace e194 : (n184 : Int) ≤ 4 * ((lc178 : Int) - (lc149 : Int)) := e194
                                        replace hw : pw D A s.heap H locs [wd_Nam cs h (fun k => if k = 0 then q1 else if k = 1 then q4 else q7) (fun _ => none) (upd (upd (fun _ => 0) 3 0) 4 0) na76 (fun _ _ => none), wd_Lst cs q1 (fun _ => 0) (fun k => if k = 0 then (some em) else none) (upd (upd (fun _ => 0) 1 0) 2 0) (fun _ _ => 0) (fun _ _ => none), wd_Lst cs q4 (fun _ => 0) (fun k => if k = 0 then (some lq177) else none) lf179 (fun _ _ => 0) (fun _ _ => none), [(lq177, .inl (cs 12, lc178, .inr (.inr (.inr (.inr lg180)))))], P176] := hw
                                        have lv182 := Int32.le_toInt v182
                                        have uv182 := Int32.toInt_lt v182
                                        have hlcb194 := Lcap.le (B := 5000) (by assumption) (by omega) (by omega); have helf := AddL.elf (n' := (lf179 1)) (by assumption) hEf (by assumption) (by omega); have helg := AddL.elg (n' := (lf179 1)) (by assumption) hEg (by assumption) (by omega); have hEf := helf; have hEg := helg; clear helf helg
                                        refine lv_pop S.x S.b d_Nam_init_129 rfl ?_
                                        obtain ⟨z195, ez195⟩ : ∃ y : Int32, y = z166 + 1 := ⟨_, rfl⟩
                                        have tz195 : z195.toInt = (z166.toInt + 1 + 2147483648) % 4294967296 - 2147483648 := by rw [ez195]; exact i_add z166 1
                                        have lz195 := Int32.le_toInt z195
                                        have uz195 := Int32.toInt_lt z195
                                        try replace tz195 : z195.toInt = z166.toInt + 1 := by omega
                                        refine lv_iinc (v := z195) (lv' := [(2, .int z195), (1, .int z175), (3, .ref q168), (0, .ref h)]) S.x S.b d_Nam_init_130 hl (k := 2) rfl (by rw [ez195]; rfl) (by decide) rfl (fun ls hl => ?_)
                                        refine lv_goto (tgt := 66) S.x S.b d_Nam_init_133 (by decide) ?_
                                        refine lv_iload_n S.x S.b d_Nam_init_66 rfl (lv_at hl 0 rfl) ?_
                                        refine lv_bipush (v := 10) S.x S.b d_Nam_init_67 (by decide) ?_
                                        refine lv_icmp_ge (tgt := 136) S.x S.b d_Nam_init_69 (by decide) (fun c196 => ?_) (fun c196 => ?_)
                                        · have nc196 : (10 : Int) ≤ z195.toInt := (i_le (x := 10) (y := z195)).mp c196
                                          exfalso
                                          omega
                                        · have nc196 : ¬ (10 : Int) ≤ z195.toInt := mt (i_le (x := 10) (y := z195)).mpr c196
                                          refine px_new S k_Sym hT hw hA m1_202 m1_203 m1_11 (fs := [.int 0, .int 0, .int 0, .int 0, .int 0, .int 0, .int 0]) (by decide +kernel) (show (((((((((((0 + 1) + 1) + 1) + 1) + k96) + 1) + k125) + 1) + k154) + 1) + k183) + 1 ≤ 6000 from by first | exact oz_0267563003 e105 e134 e163 e192 | omega) (show (((((((((((0 + 3) + 3) + 2048) + 7) + n97) + 7) + n126) + 7) + n155) + 7) + n184) + 7 ≤ 60000 from by first | exact oz_e7819ea361 e107 e136 e165 e194 e102 e131 e160 e189 | omega) d_Nam_init_72 (fun q197 H hw => ?_)
                                          replace hw : pw D A s.heap H _ [wd_Nam cs h (fun k => if k = 0 then q1 else if k = 1 then q4 else q7) (fun _ => none) (upd (upd (fun _ => 0) 3 0) 4 0) na76 (fun _ _ => none), wd_Lst cs q1 (fun _ => 0) (fun k => if k = 0 then (some em) else none) (upd (upd (fun _ => 0) 1 0) 2 0) (fun _ _ => 0) (fun _ _ => none), wd_Lst cs q4 (fun _ => 0) (fun k => if k = 0 then (some lq177) else none) lf179 (fun _ _ => 0) (fun _ _ => none), [(lq177, .inl (cs 12, lc178, .inr (.inr (.inr (.inr lg180)))))], P176, [(q197, .inr (3, [.int 0, .int 0, .int 0, .int 0, .int 0, .int 0, .int 0]))]] := hw
                                          refine lv_dup S.x S.b d_Nam_init_75 rfl ?_
                                          refine lv_bipush (v := 15) S.x S.b d_Nam_init_76 (by decide) ?_
                                          refine lv_iload_n S.x S.b d_Nam_init_78 rfl (lv_at hl 0 rfl) ?_
                                          refine lv_iadd S.x S.b d_Nam_init_79 ?_
                                          refine lv_topi (fun z198 ez198 => ?_)
                                          have tz198 : z198.toInt = ((15 : Int) + z195.toInt + 2147483648) % 4294967296 - 2147483648 := by rw [ez198]; exact i_add 15 z195
                                          have lz198 := Int32.le_toInt z198
                                          have uz198 := Int32.toInt_lt z198
                                          try replace tz198 : z198.toInt = (15 : Int) + z195.toInt := by omega
                                          refine lv_iconst (v := 2) S.x S.b d_Nam_init_80 (by decide) ?_
                                          refine px_callv (pr := [wd_Nam cs h (fun k => if k = 0 then q1 else if k = 1 then q4 else q7) (fun _ => none) (upd (upd (fun _ => 0) 3 0) 4 0) na76 (fun _ _ => none), wd_Lst cs q1 (fun _ => 0) (fun k => if k = 0 then (some em) else none) (upd (upd (fun _ => 0) 1 0) 2 0) (fun _ _ => 0) (fun _ _ => none), wd_Lst cs q4 (fun _ => 0) (fun k => if k = 0 then (some lq177) else none) lf179 (fun _ _ => 0) (fun _ _ => none), [(lq177, .inl (cs 12, lc178, .inr (.inr (.inr (.inr lg180)))))], P176]) (px_runI (As := [.int z198, .int 2]) (rest := [.ref q197]) S (c_Sym_init l D cs q197 z198 2 _) hT (pr := [wd_Nam cs h (fun k => if k = 0 then q1 else if k = 1 then q4 else q7) (fun _ => none) (upd (upd (fun _ => 0) 3 0) 4 0) na76 (fun _ _ => none), wd_Lst cs q1 (fun _ => 0) (fun k => if k = 0 then (some em) else none) (upd (upd (fun _ => 0) 1 0) 2 0) (fun _ _ => 0) (fun _ _ => none), wd_Lst cs q4 (fun _ => 0) (fun k => if k = 0 then (some lq177) else none) lf179 (fun _ _ => 0) (fun _ _ => none), [(lq177, .inl (cs 12, lc178, .inr (.inr (.inr (.inr lg180)))))], P176]) (pcs := [[(q197, .inr (3, [.int 0, .int 0, .int 0, .int 0, .int 0, .int 0, .int 0]))]]) hw px_X.tt m1_206 m1_204 m1_205 m1_11 rfl q_Sym_init ⟨Nat.le_of_ble_eq_true rfl, Nat.le_of_ble_eq_true rfl⟩ hl.1 rfl (Nat.le_of_ble_eq_true rfl) d_Nam_init_81 ⟨show ((((((((((((0 + 1) + 1) + 1) + 1) + k96) + 1) + k125) + 1) + k154) + 1) + k183) + 1) + 0 ≤ 6000 from by first | with_reducible rfl | with_reducible assumption | omega, show ((((((((((((0 + 3) + 3) + 2048) + 7) + n97) + 7) + n126) + 7) + n155) + 7) + n184) + 7) + 0 ≤ 60000 from by first | with_reducible rfl | with_reducible assumption | omega⟩) hw hA (fun p199 H locs hp199 hw => ?_)
                                          subst hp199
                                          replace hw : pw D A s.heap H locs [wd_Nam cs h (fun k => if k = 0 then q1 else if k = 1 then q4 else q7) (fun _ => none) (upd (upd (fun _ => 0) 3 0) 4 0) na76 (fun _ _ => none), wd_Lst cs q1 (fun _ => 0) (fun k => if k = 0 then (some em) else none) (upd (upd (fun _ => 0) 1 0) 2 0) (fun _ _ => 0) (fun _ _ => none), wd_Lst cs q4 (fun _ => 0) (fun k => if k = 0 then (some lq177) else none) lf179 (fun _ _ => 0) (fun _ _ => none), [(lq177, .inl (cs 12, lc178, .inr (.inr (.inr (.inr lg180)))))], P176, wd_Sym cs q197 (fun _ => 0) (fun _ => none) (upd (upd (upd (upd (upd (upd (upd (fun _ => 0) 0 z198) 1 2) 2 0) 3 0) 4 0) 5 0) 6 0) (fun _ _ => 0) (fun _ _ => none)] := hw
                                          refine lv_astore_n (lv' := [(3, .ref q197), (2, .int z195), (1, .int z175), (0, .ref h)]) S.x S.b d_Nam_init_84 rfl hl (by decide) rfl (fun ls hl => ?_)
                                          refine lv_aload_n S.x S.b d_Nam_init_85 rfl (lv_at hl 0 rfl) ?_
                                          refine lv_iload_n S.x S.b d_Nam_init_86 rfl (lv_at hl 1 rfl) ?_
                                          refine px_put S k_Sym hT hw 5 0 5 rfl rfl (by decide) m1_221 rfl rfl rfl (Nat.le_of_ble_eq_true rfl) d_Nam_init_87 (w' := wd_Sym cs q197 (fun _ => 0) (fun _ => none) (upd (upd (upd (upd (upd (upd (upd (fun _ => 0) 0 z198) 1 2) 2 0) 3 0) 4 0) 5 z195) 6 0) (fun _ _ => 0) (fun _ _ => none)) (ps' := [wd_Nam cs h (fun k => if k = 0 then q1 else if k = 1 then q4 else q7) (fun _ => none) (upd (upd (fun _ => 0) 3 0) 4 0) na76 (fun _ _ => none), wd_Lst cs q1 (fun _ => 0) (fun k => if k = 0 then (some em) else none) (upd (upd (fun _ => 0) 1 0) 2 0) (fun _ _ => 0) (fun _ _ => none), wd_Lst cs q4 (fun _ => 0) (fun k => if k = 0 then (some lq177) else none) lf179 (fun _ _ => 0) (fun _ _ => none), [(lq177, .inl (cs 12, lc178, .inr (.inr (.inr (.inr lg180)))))], P176, wd_Sym cs q197 (fun _ => 0) (fun _ => none) (upd (upd (upd (upd (upd (upd (upd (fun _ => 0) 0 z198) 1 2) 2 0) 3 0) 4 0) 5 z195) 6 0) (fun _ _ => 0) (fun _ _ => none)]) rfl rfl (fun H locs hw => ?_)
                                          refine lv_aload_n S.x S.b d_Nam_init_90 rfl (lv_at hl 0 rfl) ?_
                                          refine va_getsN S.x S.b hqtG1 hw.2.2 S.own (va_Nw.use rfl (hT.2.2 _ m2_2n rfl)) (fun _ h => h) d_Nam_init_91 ?_
                                          refine lv_iload_n S.x S.b d_Nam_init_94 rfl (lv_at hl 1 rfl) ?_
                                          refine va_ti S.x S.b hqtG2 hw.2.2 (i := z195) (vp_in_iff.mpr (by constructor <;> omega)) rfl d_Nam_init_95 ?_
                                          refine lv_topi (fun z201 ez201 => ?_)
                                          have lz201 := Int32.le_toInt z201
                                          have uz201 := Int32.toInt_lt z201
                                          refine px_put S k_Sym hT hw 5 0 6 rfl rfl (by decide) m1_224 rfl rfl rfl (Nat.le_of_ble_eq_true rfl) d_Nam_init_96 (w' := wd_Sym cs q197 (fun _ => 0) (fun _ => none) (upd (upd (upd (upd (upd (upd (upd (fun _ => 0) 0 z198) 1 2) 2 0) 3 0) 4 0) 5 z195) 6 z201) (fun _ _ => 0) (fun _ _ => none)) (ps' := [wd_Nam cs h (fun k => if k = 0 then q1 else if k = 1 then q4 else q7) (fun _ => none) (upd (upd (fun _ => 0) 3 0) 4 0) na76 (fun _ _ => none), wd_Lst cs q1 (fun _ => 0) (fun k => if k = 0 then (some em) else none) (upd (upd (fun _ => 0) 1 0) 2 0) (fun _ _ => 0) (fun _ _ => none), wd_Lst cs q4 (fun _ => 0) (fun k => if k = 0 then (some lq177) else none) lf179 (fun _ _ => 0) (fun _ _ => none), [(lq177, .inl (cs 12, lc178, .inr (.inr (.inr (.inr lg180)))))], P176, wd_Sym cs q197 (fun _ => 0) (fun _ => none) (upd (upd (upd (upd (upd (upd (upd (fun _ => 0) 0 z198) 1 2) 2 0) 3 0) 4 0) 5 z195) 6 z201) (fun _ _ => 0) (fun _ _ => none)]) rfl rfl (fun H locs hw => ?_)
                                          refine lv_aload_n S.x S.b d_Nam_init_99 rfl (lv_at hl 0 rfl) ?_
                                          refine lv_iload_n S.x S.b d_Nam_init_100 rfl (lv_at hl 2 rfl) ?_
                                          refine px_put S k_Sym hT hw 5 0 3 rfl rfl (by decide) m1_215 rfl rfl rfl (Nat.le_of_ble_eq_true rfl) d_Nam_init_101 (w' := wd_Sym cs q197 (fun _ => 0) (fun _ => none) (upd (upd (upd (upd (upd (upd (upd (fun _ => 0) 0 z198) 1 2) 2 0) 3 z175) 4 0) 5 z195) 6 z201) (fun _ _ => 0) (fun _ _ => none)) (ps' := [wd_Nam cs h (fun k => if k = 0 then q1 else if k = 1 then q4 else q7) (fun _ => none) (upd (upd (fun _ => 0) 3 0) 4 0) na76 (fun _ _ => none), wd_Lst cs q1 (fun _ => 0) (fun k => if k = 0 then (some em) else none) (upd (upd (fun _ => 0) 1 0) 2 0) (fun _ _ => 0) (fun _ _ => none), wd_Lst cs q4 (fun _ => 0) (fun k => if k = 0 then (some lq177) else none) lf179 (fun _ _ => 0) (fun _ _ => none), [(lq177, .inl (cs 12, lc178, .inr (.inr (.inr (.inr lg180)))))], P176, wd_Sym cs q197 (fun _ => 0) (fun _ => none) (upd (upd (upd (upd (upd (upd (upd (fun _ => 0) 0 z198) 1 2) 2 0) 3 z175) 4 0) 5 z195) 6 z201) (fun _ _ => 0) (fun _ _ => none)]) rfl rfl (fun H locs hw => ?_)
                                          refine lv_aload_n S.x S.b d_Nam_init_104 rfl (lv_at hl 0 rfl) ?_
                                          refine va_getsN S.x S.b hqcG1 hw.2.2 S.own (va_Nw.use rfl (hT.2.2 _ m2_4n rfl)) (fun _ h => h) d_Nam_init_105 ?_
                                          refine lv_iload_n S.x S.b d_Nam_init_108 rfl (lv_at hl 1 rfl) ?_
                                          refine va_ti S.x S.b hqcG2 hw.2.2 (i := z195) (vp_in_iff.mpr (by constructor <;> omega)) rfl d_Nam_init_109 ?_
                                          refine lv_topi (fun z202 ez202 => ?_)
                                          have lz202 := Int32.le_toInt z202
                                          have uz202 := Int32.toInt_lt z202
                                          refine px_put S k_Sym hT hw 5 0 4 rfl rfl (by decide) m1_218 rfl rfl rfl (Nat.le_of_ble_eq_true rfl) d_Nam_init_110 (w' := wd_Sym cs q197 (fun _ => 0) (fun _ => none) (upd (upd (upd (upd (upd (upd (upd (fun _ => 0) 0 z198) 1 2) 2 0) 3 z175) 4 z202) 5 z195) 6 z201) (fun _ _ => 0) (fun _ _ => none)) (ps' := [wd_Nam cs h (fun k => if k = 0 then q1 else if k = 1 then q4 else q7) (fun _ => none) (upd (upd (fun _ => 0) 3 0) 4 0) na76 (fun _ _ => none), wd_Lst cs q1 (fun _ => 0) (fun k => if k = 0 then (some em) else none) (upd (upd (fun _ => 0) 1 0) 2 0) (fun _ _ => 0) (fun _ _ => none), wd_Lst cs q4 (fun _ => 0) (fun k => if k = 0 then (some lq177) else none) lf179 (fun _ _ => 0) (fun _ _ => none), [(lq177, .inl (cs 12, lc178, .inr (.inr (.inr (.inr lg180)))))], P176, wd_Sym cs q197 (fun _ => 0) (fun _ => none) (upd (upd (upd (upd (upd (upd (upd (fun _ => 0) 0 z198) 1 2) 2 0) 3 z175) 4 z202) 5 z195) 6 z201) (fun _ _ => 0) (fun _ _ => none)]) rfl rfl (fun H locs hw => ?_)
                                          refine lv_iload_n S.x S.b d_Nam_init_113 rfl (lv_at hl 2 rfl) ?_
                                          refine va_getsN S.x S.b hqcG1 hw.2.2 S.own (va_Nw.use rfl (hT.2.2 _ m2_4n rfl)) (fun _ h => h) d_Nam_init_114 ?_
                                          refine lv_iload_n S.x S.b d_Nam_init_117 rfl (lv_at hl 1 rfl) ?_
                                          refine va_ti S.x S.b hqcG2 hw.2.2 (i := z195) (vp_in_iff.mpr (by constructor <;> omega)) rfl d_Nam_init_118 ?_
                                          refine lv_topi (fun z203 ez203 => ?_)
                                          have lz203 := Int32.le_toInt z203
                                          have uz203 := Int32.toInt_lt z203
                                          refine lv_iadd S.x S.b d_Nam_init_119 ?_
                                          refine lv_topi (fun z204 ez204 => ?_)
                                          have lz204 := Int32.le_toInt z204
                                          have uz204 := Int32.toInt_lt z204
                                          refine lv_istore_n (lv' := [(1, .int z204), (3, .ref q197), (2, .int z195), (0, .ref h)]) S.x S.b d_Nam_init_120 rfl hl (by decide) rfl (fun ls hl => ?_)
                                          have hw : pw D A s.heap _ _ ([wd_Nam cs h (fun k => if k = 0 then q1 else if k = 1 then q4 else q7) (fun _ => none) (upd (upd (fun _ => 0) 3 0) 4 0) na76 (fun _ _ => none), wd_Lst cs q1 (fun _ => 0) (fun k => if k = 0 then (some em) else none) (upd (upd (fun _ => 0) 1 0) 2 0) (fun _ _ => 0) (fun _ _ => none), wd_Lst cs q4 (fun _ => 0) (fun k => if k = 0 then (some lq177) else none) lf179 (fun _ _ => 0) (fun _ _ => none), [(lq177, .inl (cs 12, lc178, .inr (.inr (.inr (.inr lg180)))))]] ++ [P176, wd_Sym cs q197 (fun _ => 0) (fun _ => none) (upd (upd (upd (upd (upd (upd (upd (fun _ => 0) 0 z198) 1 2) 2 0) 3 z175) 4 z202) 5 z195) 6 z201) (fun _ _ => 0) (fun _ _ => none)]) := hw.sub [0, 1, 2, 3, 4, 5] rfl rfl
                                          have hw := pw_join hw
                                          have hpnP205 : Pg P176 (P176 ++ wd_Sym cs q197 (fun _ => 0) (fun _ => none) (upd (upd (upd (upd (upd (upd (upd (fun _ => 0) 0 z198) 1 2) 2 0) 3 z175) 4 z202) 5 z195) 6 z201) (fun _ _ => 0) (fun _ _ => none)) := pg_app
                                          have hsnP205 : Sy (P176 ++ wd_Sym cs q197 (fun _ => 0) (fun _ => none) (upd (upd (upd (upd (upd (upd (upd (fun _ => 0) 0 z198) 1 2) 2 0) 3 z175) 4 z202) 5 z195) 6 z201) (fun _ _ => 0) (fun _ _ => none)) (some q197) := sy_last (s := (upd (upd (upd (upd (upd (upd (upd (fun _ => 0) 0 z198) 1 2) 2 0) 3 z175) 4 z202) 5 z195) 6 z201)) rfl
                                          have hfnP205 : Fy (P176 ++ wd_Sym cs q197 (fun _ => 0) (fun _ => none) (upd (upd (upd (upd (upd (upd (upd (fun _ => 0) 0 z198) 1 2) 2 0) 3 z175) 4 z202) 5 z195) 6 z201) (fun _ _ => 0) (fun _ _ => none)) (some q197) := fy_last (s := (upd (upd (upd (upd (upd (upd (upd (fun _ => 0) 0 z198) 1 2) 2 0) 3 z175) 4 z202) 5 z195) 6 z201)) rfl (show 0 ≤ z195.toInt from by first | exact oz_88c78e5418 tz195 tz166 tz137 tz108 | omega) (show z195.toInt ≤ 1000000 from by first | exact oz_231bd416e9 tz195 nc167 | omega)
                                          have hgnP205 : Gy (P176 ++ wd_Sym cs q197 (fun _ => 0) (fun _ => none) (upd (upd (upd (upd (upd (upd (upd (fun _ => 0) 0 z198) 1 2) 2 0) 3 z175) 4 z202) 5 z195) 6 z201) (fun _ _ => 0) (fun _ _ => none)) q197 := gy_lastN (s := (upd (upd (upd (upd (upd (upd (upd (fun _ => 0) 0 z198) 1 2) 2 0) 3 z175) 4 z202) 5 z195) 6 z201)) rfl (show 0 ≤ z195.toInt from by first | exact oz_88c78e5418 tz195 tz166 tz137 tz108 | omega) (show z195.toInt ≤ 1000000 from by first | exact oz_231bd416e9 tz195 nc167 | omega) (show z198.toInt ≠ 25 from by first | exact oz_20fca602ed tz198 nc196 | omega)
                                          generalize (P176 ++ wd_Sym cs q197 (fun _ => 0) (fun _ => none) (upd (upd (upd (upd (upd (upd (upd (fun _ => 0) 0 z198) 1 2) 2 0) 3 z175) 4 z202) 5 z195) 6 z201) (fun _ _ => 0) (fun _ _ => none)) = P205 at hw hpnP205 hsnP205 hfnP205 hgnP205
                                          have hEl := hpnP205.els hEl; have hEf := hpnP205.elf hEf; have hEg := hpnP205.elg hEg
                                          replace hw : pw D A s.heap _ _ [wd_Nam cs h (fun k => if k = 0 then q1 else if k = 1 then q4 else q7) (fun _ => none) (upd (upd (fun _ => 0) 3 0) 4 0) na76 (fun _ _ => none), wd_Lst cs q1 (fun _ => 0) (fun k => if k = 0 then (some em) else none) (upd (upd (fun _ => 0) 1 0) 2 0) (fun _ _ => 0) (fun _ _ => none), wd_Lst cs q4 (fun _ => 0) (fun k => if k = 0 then (some lq177) else none) lf179 (fun _ _ => 0) (fun _ _ => none), [(lq177, .inl (cs 12, lc178, .inr (.inr (.inr (.inr lg180)))))], P205] := hw
                                          refine lv_aload_n S.x S.b d_Nam_init_121 rfl (lv_at hl 3 rfl) ?_
                                          refine px_get S k_Nam hT hw 0 0 1 (v := .ref q4) rfl rfl rfl (by decide) m2_76 d_Nam_init_122 ?_
                                          refine lv_aload_n S.x S.b d_Nam_init_125 rfl (lv_at hl 1 rfl) ?_
                                          refine pg_calli (pr := [wd_Nam cs h (fun k => if k = 0 then q1 else if k = 1 then q4 else q7) (fun _ => none) (upd (upd (fun _ => 0) 3 0) 4 0) na76 (fun _ _ => none), wd_Lst cs q1 (fun _ => 0) (fun k => if k = 0 then (some em) else none) (upd (upd (fun _ => 0) 1 0) 2 0) (fun _ _ => 0) (fun _ _ => none)]) (px_runV (As := [.ref q197]) (rest := []) S (c_al_add_T l D cs mi q4 lq177 lc178 lf179 lg180 P205  q197 (show lc178 ≤ 1000000 from by first | exact oz_a0993d86c2 e189 e160 e131 e102 | omega) (show 10 ≤ lc178 from by first | exact e190 | omega) (show 0 ≤ (lf179 1).toInt from by first | exact oz_88c78e5418 e185 e156 e127 e98 | omega) (show (lf179 1).toInt ≤ (lc178 : Int) from by first | exact e186 | omega) (by first | assumption | exact ElF.els (by assumption)) (by first | assumption | exact sy_none | exact fy_none | exact Fy.sy (by assumption) | exact sy_some (by assumption)) _ _) hT (pr := [wd_Nam cs h (fun k => if k = 0 then q1 else if k = 1 then q4 else q7) (fun _ => none) (upd (upd (fun _ => 0) 3 0) 4 0) na76 (fun _ _ => none), wd_Lst cs q1 (fun _ => 0) (fun k => if k = 0 then (some em) else none) (upd (upd (fun _ => 0) 1 0) 2 0) (fun _ _ => 0) (fun _ _ => none)]) (pcs := [wd_Lst cs q4 (fun _ => 0) (fun k => if k = 0 then (some lq177) else none) lf179 (fun _ _ => 0) (fun _ _ => none), [(lq177, .inl (cs 12, lc178, .inr (.inr (.inr (.inr lg180)))))], P205]) hw (px_X.tot (oX_call (P := (fun A U H => (va_Mi "[Ljava/lang/Object;" mi U))) (pr := [wd_Nam cs h (fun k => if k = 0 then q1 else if k = 1 then q4 else q7) (fun _ => none) (upd (upd (fun _ => 0) 3 0) 4 0) na76 (fun _ _ => none), wd_Lst cs q1 (fun _ => 0) (fun k => if k = 0 then (some em) else none) (upd (upd (fun _ => 0) 1 0) 2 0) (fun _ _ => 0) (fun _ _ => none)]) oG_M hw hA hM)) (px_recv hT hw 2 0 rfl rfl rfl) m2_9 m2_6 m2_7 m2_8 m1_10 q_Lst_add2 ⟨Nat.le_of_ble_eq_true rfl, Nat.le_of_ble_eq_true rfl⟩ hl.1 rfl (Nat.le_of_ble_eq_true rfl) d_Nam_init_126 ⟨show ((((((((((((0 + 1) + 1) + 1) + 1) + k96) + 1) + k125) + 1) + k154) + 1) + k183) + 1) + (1) ≤ 6000 from by first | with_reducible rfl | with_reducible assumption | omega, show ((((((((((((0 + 3) + 3) + 2048) + 7) + n97) + 7) + n126) + 7) + n155) + 7) + n184) + 7) + (4 * lc178 + 40) ≤ 60000 from by first | with_reducible rfl | with_reducible assumption | omega⟩) hw hA (fun v211 p210 k212 n213 H locs hp210 hw => ?_)
                                          dsimp only at hp210
                                          obtain ⟨lq206, lc207, lf208, lg209, rfl, e214, e215, e216, e217, e218, e219, e220, e221, e222, e223⟩ := hp210
                                          replace e214 : (lf208 1).toInt = (lf179 1).toInt + 1 := e214
                                          replace e215 : (lf208 1).toInt ≤ (lc207 : Int) := e215
                                          replace e216 : AddL (lf179 1) lg180 lg209 q197 := e216
                                          replace e217 : (lc178 : Int) ≤ (lc207 : Int) := e217
                                          replace e218 : (lc207 : Int) ≤ 2 * (lc178 : Int) + 10 := e218
                                          replace e219 : 10 ≤ lc207 := e219
                                          replace e220 : Lcap lc178 (lf179 1) lc207 := e220
                                          replace e221 : k212 ≤ 1 := e221
                                          replace e222 : (k212 : Int) ≤ (lc207 : Int) - (lc178 : Int) := e222
                                          replace e223 : (n213 : Int) ≤ 4 * ((lc207 : Int) - (lc178 : Int)) := e223
                                          replace hw : pw D A s.heap H locs [wd_Nam cs h (fun k => if k = 0 then q1 else if k = 1 then q4 else q7) (fun _ => none) (upd (upd (fun _ => 0) 3 0) 4 0) na76 (fun _ _ => none), wd_Lst cs q1 (fun _ => 0) (fun k => if k = 0 then (some em) else none) (upd (upd (fun _ => 0) 1 0) 2 0) (fun _ _ => 0) (fun _ _ => none), wd_Lst cs q4 (fun _ => 0) (fun k => if k = 0 then (some lq206) else none) lf208 (fun _ _ => 0) (fun _ _ => none), [(lq206, .inl (cs 12, lc207, .inr (.inr (.inr (.inr lg209)))))], P205] := hw
                                          have lv211 := Int32.le_toInt v211
                                          have uv211 := Int32.toInt_lt v211
                                          have hlcb223 := Lcap.le (B := 5000) (by assumption) (by omega) (by omega); have helf := AddL.elf (n' := (lf208 1)) (by assumption) hEf (by assumption) (by omega); have helg := AddL.elg (n' := (lf208 1)) (by assumption) hEg (by assumption) (by omega); have hEf := helf; have hEg := helg; clear helf helg
                                          refine lv_pop S.x S.b d_Nam_init_129 rfl ?_
                                          obtain ⟨z224, ez224⟩ : ∃ y : Int32, y = z195 + 1 := ⟨_, rfl⟩
                                          have tz224 : z224.toInt = (z195.toInt + 1 + 2147483648) % 4294967296 - 2147483648 := by rw [ez224]; exact i_add z195 1
                                          have lz224 := Int32.le_toInt z224
                                          have uz224 := Int32.toInt_lt z224
                                          try replace tz224 : z224.toInt = z195.toInt + 1 := by omega
                                          refine lv_iinc (v := z224) (lv' := [(2, .int z224), (1, .int z204), (3, .ref q197), (0, .ref h)]) S.x S.b d_Nam_init_130 hl (k := 2) rfl (by rw [ez224]; rfl) (by decide) rfl (fun ls hl => ?_)
                                          refine lv_goto (tgt := 66) S.x S.b d_Nam_init_133 (by decide) ?_
                                          refine lv_iload_n S.x S.b d_Nam_init_66 rfl (lv_at hl 0 rfl) ?_
                                          refine lv_bipush (v := 10) S.x S.b d_Nam_init_67 (by decide) ?_
                                          refine lv_icmp_ge (tgt := 136) S.x S.b d_Nam_init_69 (by decide) (fun c225 => ?_) (fun c225 => ?_)
                                          · have nc225 : (10 : Int) ≤ z224.toInt := (i_le (x := 10) (y := z224)).mp c225
                                            exfalso
                                            omega
                                          · have nc225 : ¬ (10 : Int) ≤ z224.toInt := mt (i_le (x := 10) (y := z224)).mpr c225
                                            refine px_new S k_Sym hT hw hA m1_202 m1_203 m1_11 (fs := [.int 0, .int 0, .int 0, .int 0, .int 0, .int 0, .int 0]) (by decide +kernel) (show (((((((((((((0 + 1) + 1) + 1) + 1) + k96) + 1) + k125) + 1) + k154) + 1) + k183) + 1) + k212) + 1 ≤ 6000 from by first | exact oz_4c822ebf64 e105 e134 e163 e192 e221 | omega) (show (((((((((((((0 + 3) + 3) + 2048) + 7) + n97) + 7) + n126) + 7) + n155) + 7) + n184) + 7) + n213) + 7 ≤ 60000 from by first | exact oz_67bbab6530 e107 e136 e165 e194 e223 e102 e131 e160 e189 e218 | omega) d_Nam_init_72 (fun q226 H hw => ?_)
                                            replace hw : pw D A s.heap H _ [wd_Nam cs h (fun k => if k = 0 then q1 else if k = 1 then q4 else q7) (fun _ => none) (upd (upd (fun _ => 0) 3 0) 4 0) na76 (fun _ _ => none), wd_Lst cs q1 (fun _ => 0) (fun k => if k = 0 then (some em) else none) (upd (upd (fun _ => 0) 1 0) 2 0) (fun _ _ => 0) (fun _ _ => none), wd_Lst cs q4 (fun _ => 0) (fun k => if k = 0 then (some lq206) else none) lf208 (fun _ _ => 0) (fun _ _ => none), [(lq206, .inl (cs 12, lc207, .inr (.inr (.inr (.inr lg209)))))], P205, [(q226, .inr (3, [.int 0, .int 0, .int 0, .int 0, .int 0, .int 0, .int 0]))]] := hw
                                            refine lv_dup S.x S.b d_Nam_init_75 rfl ?_
                                            refine lv_bipush (v := 15) S.x S.b d_Nam_init_76 (by decide) ?_
                                            refine lv_iload_n S.x S.b d_Nam_init_78 rfl (lv_at hl 0 rfl) ?_
                                            refine lv_iadd S.x S.b d_Nam_init_79 ?_
                                            refine lv_topi (fun z227 ez227 => ?_)
                                            have tz227 : z227.toInt = ((15 : Int) + z224.toInt + 2147483648) % 4294967296 - 2147483648 := by rw [ez227]; exact i_add 15 z224
                                            have lz227 := Int32.le_toInt z227
                                            have uz227 := Int32.toInt_lt z227
                                            try replace tz227 : z227.toInt = (15 : Int) + z224.toInt := by omega
                                            refine lv_iconst (v := 2) S.x S.b d_Nam_init_80 (by decide) ?_
                                            refine px_callv (pr := [wd_Nam cs h (fun k => if k = 0 then q1 else if k = 1 then q4 else q7) (fun _ => none) (upd (upd (fun _ => 0) 3 0) 4 0) na76 (fun _ _ => none), wd_Lst cs q1 (fun _ => 0) (fun k => if k = 0 then (some em) else none) (upd (upd (fun _ => 0) 1 0) 2 0) (fun _ _ => 0) (fun _ _ => none), wd_Lst cs q4 (fun _ => 0) (fun k => if k = 0 then (some lq206) else none) lf208 (fun _ _ => 0) (fun _ _ => none), [(lq206, .inl (cs 12, lc207, .inr (.inr (.inr (.inr lg209)))))], P205]) (px_runI (As := [.int z227, .int 2]) (rest := [.ref q226]) S (c_Sym_init l D cs q226 z227 2 _) hT (pr := [wd_Nam cs h (fun k => if k = 0 then q1 else if k = 1 then q4 else q7) (fun _ => none) (upd (upd (fun _ => 0) 3 0) 4 0) na76 (fun _ _ => none), wd_Lst cs q1 (fun _ => 0) (fun k => if k = 0 then (some em) else none) (upd (upd (fun _ => 0) 1 0) 2 0) (fun _ _ => 0) (fun _ _ => none), wd_Lst cs q4 (fun _ => 0) (fun k => if k = 0 then (some lq206) else none) lf208 (fun _ _ => 0) (fun _ _ => none), [(lq206, .inl (cs 12, lc207, .inr (.inr (.inr (.inr lg209)))))], P205]) (pcs := [[(q226, .inr (3, [.int 0, .int 0, .int 0, .int 0, .int 0, .int 0, .int 0]))]]) hw px_X.tt m1_206 m1_204 m1_205 m1_11 rfl q_Sym_init ⟨Nat.le_of_ble_eq_true rfl, Nat.le_of_ble_eq_true rfl⟩ hl.1 rfl (Nat.le_of_ble_eq_true rfl) d_Nam_init_81 ⟨show ((((((((((((((0 + 1) + 1) + 1) + 1) + k96) + 1) + k125) + 1) + k154) + 1) + k183) + 1) + k212) + 1) + 0 ≤ 6000 from by first | with_reducible rfl | with_reducible assumption | omega, show ((((((((((((((0 + 3) + 3) + 2048) + 7) + n97) + 7) + n126) + 7) + n155) + 7) + n184) + 7) + n213) + 7) + 0 ≤ 60000 from by first | with_reducible rfl | with_reducible assumption | omega⟩) hw hA (fun p228 H locs hp228 hw => ?_)
                                            subst hp228
                                            replace hw : pw D A s.heap H locs [wd_Nam cs h (fun k => if k = 0 then q1 else if k = 1 then q4 else q7) (fun _ => none) (upd (upd (fun _ => 0) 3 0) 4 0) na76 (fun _ _ => none), wd_Lst cs q1 (fun _ => 0) (fun k => if k = 0 then (some em) else none) (upd (upd (fun _ => 0) 1 0) 2 0) (fun _ _ => 0) (fun _ _ => none), wd_Lst cs q4 (fun _ => 0) (fun k => if k = 0 then (some lq206) else none) lf208 (fun _ _ => 0) (fun _ _ => none), [(lq206, .inl (cs 12, lc207, .inr (.inr (.inr (.inr lg209)))))], P205, wd_Sym cs q226 (fun _ => 0) (fun _ => none) (upd (upd (upd (upd (upd (upd (upd (fun _ => 0) 0 z227) 1 2) 2 0) 3 0) 4 0) 5 0) 6 0) (fun _ _ => 0) (fun _ _ => none)] := hw
                                            refine lv_astore_n (lv' := [(3, .ref q226), (2, .int z224), (1, .int z204), (0, .ref h)]) S.x S.b d_Nam_init_84 rfl hl (by decide) rfl (fun ls hl => ?_)
                                            refine lv_aload_n S.x S.b d_Nam_init_85 rfl (lv_at hl 0 rfl) ?_
                                            refine lv_iload_n S.x S.b d_Nam_init_86 rfl (lv_at hl 1 rfl) ?_
                                            refine px_put S k_Sym hT hw 5 0 5 rfl rfl (by decide) m1_221 rfl rfl rfl (Nat.le_of_ble_eq_true rfl) d_Nam_init_87 (w' := wd_Sym cs q226 (fun _ => 0) (fun _ => none) (upd (upd (upd (upd (upd (upd (upd (fun _ => 0) 0 z227) 1 2) 2 0) 3 0) 4 0) 5 z224) 6 0) (fun _ _ => 0) (fun _ _ => none)) (ps' := [wd_Nam cs h (fun k => if k = 0 then q1 else if k = 1 then q4 else q7) (fun _ => none) (upd (upd (fun _ => 0) 3 0) 4 0) na76 (fun _ _ => none), wd_Lst cs q1 (fun _ => 0) (fun k => if k = 0 then (some em) else none) (upd (upd (fun _ => 0) 1 0) 2 0) (fun _ _ => 0) (fun _ _ => none), wd_Lst cs q4 (fun _ => 0) (fun k => if k = 0 then (some lq206) else none) lf208 (fun _ _ => 0) (fun _ _ => none), [(lq206, .inl (cs 12, lc207, .inr (.inr (.inr (.inr lg209)))))], P205, wd_Sym cs q226 (fun _ => 0) (fun _ => none) (upd (upd (upd (upd (upd (upd (upd (fun _ => 0) 0 z227) 1 2) 2 0) 3 0) 4 0) 5 z224) 6 0) (fun _ _ => 0) (fun _ _ => none)]) rfl rfl (fun H locs hw => ?_)
                                            refine lv_aload_n S.x S.b d_Nam_init_90 rfl (lv_at hl 0 rfl) ?_
                                            refine va_getsN S.x S.b hqtG1 hw.2.2 S.own (va_Nw.use rfl (hT.2.2 _ m2_2n rfl)) (fun _ h => h) d_Nam_init_91 ?_
                                            refine lv_iload_n S.x S.b d_Nam_init_94 rfl (lv_at hl 1 rfl) ?_
                                            refine va_ti S.x S.b hqtG2 hw.2.2 (i := z224) (vp_in_iff.mpr (by constructor <;> omega)) rfl d_Nam_init_95 ?_
                                            refine lv_topi (fun z230 ez230 => ?_)
                                            have lz230 := Int32.le_toInt z230
                                            have uz230 := Int32.toInt_lt z230
                                            refine px_put S k_Sym hT hw 5 0 6 rfl rfl (by decide) m1_224 rfl rfl rfl (Nat.le_of_ble_eq_true rfl) d_Nam_init_96 (w' := wd_Sym cs q226 (fun _ => 0) (fun _ => none) (upd (upd (upd (upd (upd (upd (upd (fun _ => 0) 0 z227) 1 2) 2 0) 3 0) 4 0) 5 z224) 6 z230) (fun _ _ => 0) (fun _ _ => none)) (ps' := [wd_Nam cs h (fun k => if k = 0 then q1 else if k = 1 then q4 else q7) (fun _ => none) (upd (upd (fun _ => 0) 3 0) 4 0) na76 (fun _ _ => none), wd_Lst cs q1 (fun _ => 0) (fun k => if k = 0 then (some em) else none) (upd (upd (fun _ => 0) 1 0) 2 0) (fun _ _ => 0) (fun _ _ => none), wd_Lst cs q4 (fun _ => 0) (fun k => if k = 0 then (some lq206) else none) lf208 (fun _ _ => 0) (fun _ _ => none), [(lq206, .inl (cs 12, lc207, .inr (.inr (.inr (.inr lg209)))))], P205, wd_Sym cs q226 (fun _ => 0) (fun _ => none) (upd (upd (upd (upd (upd (upd (upd (fun _ => 0) 0 z227) 1 2) 2 0) 3 0) 4 0) 5 z224) 6 z230) (fun _ _ => 0) (fun _ _ => none)]) rfl rfl (fun H locs hw => ?_)
                                            refine lv_aload_n S.x S.b d_Nam_init_99 rfl (lv_at hl 0 rfl) ?_
                                            refine lv_iload_n S.x S.b d_Nam_init_100 rfl (lv_at hl 2 rfl) ?_
                                            refine px_put S k_Sym hT hw 5 0 3 rfl rfl (by decide) m1_215 rfl rfl rfl (Nat.le_of_ble_eq_true rfl) d_Nam_init_101 (w' := wd_Sym cs q226 (fun _ => 0) (fun _ => none) (upd (upd (upd (upd (upd (upd (upd (fun _ => 0) 0 z227) 1 2) 2 0) 3 z204) 4 0) 5 z224) 6 z230) (fun _ _ => 0) (fun _ _ => none)) (ps' := [wd_Nam cs h (fun k => if k = 0 then q1 else if k = 1 then q4 else q7) (fun _ => none) (upd (upd (fun _ => 0) 3 0) 4 0) na76 (fun _ _ => none), wd_Lst cs q1 (fun _ => 0) (fun k => if k = 0 then (some em) else none) (upd (upd (fun _ => 0) 1 0) 2 0) (fun _ _ => 0) (fun _ _ => none), wd_Lst cs q4 (fun _ => 0) (fun k => if k = 0 then (some lq206) else none) lf208 (fun _ _ => 0) (fun _ _ => none), [(lq206, .inl (cs 12, lc207, .inr (.inr (.inr (.inr lg209)))))], P205, wd_Sym cs q226 (fun _ => 0) (fun _ => none) (upd (upd (upd (upd (upd (upd (upd (fun _ => 0) 0 z227) 1 2) 2 0) 3 z204) 4 0) 5 z224) 6 z230) (fun _ _ => 0) (fun _ _ => none)]) rfl rfl (fun H locs hw => ?_)
                                            refine lv_aload_n S.x S.b d_Nam_init_104 rfl (lv_at hl 0 rfl) ?_
                                            refine va_getsN S.x S.b hqcG1 hw.2.2 S.own (va_Nw.use rfl (hT.2.2 _ m2_4n rfl)) (fun _ h => h) d_Nam_init_105 ?_
                                            refine lv_iload_n S.x S.b d_Nam_init_108 rfl (lv_at hl 1 rfl) ?_
                                            refine va_ti S.x S.b hqcG2 hw.2.2 (i := z224) (vp_in_iff.mpr (by constructor <;> omega)) rfl d_Nam_init_109 ?_
                                            refine lv_topi (fun z231 ez231 => ?_)
                                            have lz231 := Int32.le_toInt z231
                                            have uz231 := Int32.toInt_lt z231
                                            refine px_put S k_Sym hT hw 5 0 4 rfl rfl (by decide) m1_218 rfl rfl rfl (Nat.le_of_ble_eq_true rfl) d_Nam_init_110 (w' := wd_Sym cs q226 (fun _ => 0) (fun _ => none) (upd (upd (upd (upd (upd (upd (upd (fun _ => 0) 0 z227) 1 2) 2 0) 3 z204) 4 z231) 5 z224) 6 z230) (fun _ _ => 0) (fun _ _ => none)) (ps' := [wd_Nam cs h (fun k => if k = 0 then q1 else if k = 1 then q4 else q7) (fun _ => none) (upd (upd (fun _ => 0) 3 0) 4 0) na76 (fun _ _ => none), wd_Lst cs q1 (fun _ => 0) (fun k => if k = 0 then (some em) else none) (upd (upd (fun _ => 0) 1 0) 2 0) (fun _ _ => 0) (fun _ _ => none), wd_Lst cs q4 (fun _ => 0) (fun k => if k = 0 then (some lq206) else none) lf208 (fun _ _ => 0) (fun _ _ => none), [(lq206, .inl (cs 12, lc207, .inr (.inr (.inr (.inr lg209)))))], P205, wd_Sym cs q226 (fun _ => 0) (fun _ => none) (upd (upd (upd (upd (upd (upd (upd (fun _ => 0) 0 z227) 1 2) 2 0) 3 z204) 4 z231) 5 z224) 6 z230) (fun _ _ => 0) (fun _ _ => none)]) rfl rfl (fun H locs hw => ?_)
                                            refine lv_iload_n S.x S.b d_Nam_init_113 rfl (lv_at hl 2 rfl) ?_
                                            refine va_getsN S.x S.b hqcG1 hw.2.2 S.own (va_Nw.use rfl (hT.2.2 _ m2_4n rfl)) (fun _ h => h) d_Nam_init_114 ?_
                                            refine lv_iload_n S.x S.b d_Nam_init_117 rfl (lv_at hl 1 rfl) ?_
                                            refine va_ti S.x S.b hqcG2 hw.2.2 (i := z224) (vp_in_iff.mpr (by constructor <;> omega)) rfl d_Nam_init_118 ?_
                                            refine lv_topi (fun z232 ez232 => ?_)
                                            have lz232 := Int32.le_toInt z232
                                            have uz232 := Int32.toInt_lt z232
                                            refine lv_iadd S.x S.b d_Nam_init_119 ?_
                                            refine lv_topi (fun z233 ez233 => ?_)
                                            have lz233 := Int32.le_toInt z233
                                            have uz233 := Int32.toInt_lt z233
                                            refine lv_istore_n (lv' := [(1, .int z233), (3, .ref q226), (2, .int z224), (0, .ref h)]) S.x S.b d_Nam_init_120 rfl hl (by decide) rfl (fun ls hl => ?_)
                                            have hw : pw D A s.heap _ _ ([wd_Nam cs h (fun k => if k = 0 then q1 else if k = 1 then q4 else q7) (fun _ => none) (upd (upd (fun _ => 0) 3 0) 4 0) na76 (fun _ _ => none), wd_Lst cs q1 (fun _ => 0) (fun k => if k = 0 then (some em) else none) (upd (upd (fun _ => 0) 1 0) 2 0) (fun _ _ => 0) (fun _ _ => none), wd_Lst cs q4 (fun _ => 0) (fun k => if k = 0 then (some lq206) else none) lf208 (fun _ _ => 0) (fun _ _ => none), [(lq206, .inl (cs 12, lc207, .inr (.inr (.inr (.inr lg209)))))]] ++ [P205, wd_Sym cs q226 (fun _ => 0) (fun _ => none) (upd (upd (upd (upd (upd (upd (upd (fun _ => 0) 0 z227) 1 2) 2 0) 3 z204) 4 z231) 5 z224) 6 z230) (fun _ _ => 0) (fun _ _ => none)]) := hw.sub [0, 1, 2, 3, 4, 5] rfl rfl
                                            have hw := pw_join hw
                                            have hpnP234 : Pg P205 (P205 ++ wd_Sym cs q226 (fun _ => 0) (fun _ => none) (upd (upd (upd (upd (upd (upd (upd (fun _ => 0) 0 z227) 1 2) 2 0) 3 z204) 4 z231) 5 z224) 6 z230) (fun _ _ => 0) (fun _ _ => none)) := pg_app
                                            have hsnP234 : Sy (P205 ++ wd_Sym cs q226 (fun _ => 0) (fun _ => none) (upd (upd (upd (upd (upd (upd (upd (fun _ => 0) 0 z227) 1 2) 2 0) 3 z204) 4 z231) 5 z224) 6 z230) (fun _ _ => 0) (fun _ _ => none)) (some q226) := sy_last (s := (upd (upd (upd (upd (upd (upd (upd (fun _ => 0) 0 z227) 1 2) 2 0) 3 z204) 4 z231) 5 z224) 6 z230)) rfl
                                            have hfnP234 : Fy (P205 ++ wd_Sym cs q226 (fun _ => 0) (fun _ => none) (upd (upd (upd (upd (upd (upd (upd (fun _ => 0) 0 z227) 1 2) 2 0) 3 z204) 4 z231) 5 z224) 6 z230) (fun _ _ => 0) (fun _ _ => none)) (some q226) := fy_last (s := (upd (upd (upd (upd (upd (upd (upd (fun _ => 0) 0 z227) 1 2) 2 0) 3 z204) 4 z231) 5 z224) 6 z230)) rfl (show 0 ≤ z224.toInt from by first | exact oz_44a9c4ba60 tz224 tz195 tz166 tz137 tz108 | omega) (show z224.toInt ≤ 1000000 from by first | exact oz_231bd416e9 tz224 nc196 | omega)
                                            have hgnP234 : Gy (P205 ++ wd_Sym cs q226 (fun _ => 0) (fun _ => none) (upd (upd (upd (upd (upd (upd (upd (fun _ => 0) 0 z227) 1 2) 2 0) 3 z204) 4 z231) 5 z224) 6 z230) (fun _ _ => 0) (fun _ _ => none)) q226 := gy_lastN (s := (upd (upd (upd (upd (upd (upd (upd (fun _ => 0) 0 z227) 1 2) 2 0) 3 z204) 4 z231) 5 z224) 6 z230)) rfl (show 0 ≤ z224.toInt from by first | exact oz_44a9c4ba60 tz224 tz195 tz166 tz137 tz108 | omega) (show z224.toInt ≤ 1000000 from by first | exact oz_231bd416e9 tz224 nc196 | omega) (show z227.toInt ≠ 25 from by first | exact oz_20fca602ed tz227 nc225 | omega)
                                            generalize (P205 ++ wd_Sym cs q226 (fun _ => 0) (fun _ => none) (upd (upd (upd (upd (upd (upd (upd (fun _ => 0) 0 z227) 1 2) 2 0) 3 z204) 4 z231) 5 z224) 6 z230) (fun _ _ => 0) (fun _ _ => none)) = P234 at hw hpnP234 hsnP234 hfnP234 hgnP234
                                            have hEl := hpnP234.els hEl; have hEf := hpnP234.elf hEf; have hEg := hpnP234.elg hEg
                                            replace hw : pw D A s.heap _ _ [wd_Nam cs h (fun k => if k = 0 then q1 else if k = 1 then q4 else q7) (fun _ => none) (upd (upd (fun _ => 0) 3 0) 4 0) na76 (fun _ _ => none), wd_Lst cs q1 (fun _ => 0) (fun k => if k = 0 then (some em) else none) (upd (upd (fun _ => 0) 1 0) 2 0) (fun _ _ => 0) (fun _ _ => none), wd_Lst cs q4 (fun _ => 0) (fun k => if k = 0 then (some lq206) else none) lf208 (fun _ _ => 0) (fun _ _ => none), [(lq206, .inl (cs 12, lc207, .inr (.inr (.inr (.inr lg209)))))], P234] := hw
                                            refine lv_aload_n S.x S.b d_Nam_init_121 rfl (lv_at hl 3 rfl) ?_
                                            refine px_get S k_Nam hT hw 0 0 1 (v := .ref q4) rfl rfl rfl (by decide) m2_76 d_Nam_init_122 ?_
                                            refine lv_aload_n S.x S.b d_Nam_init_125 rfl (lv_at hl 1 rfl) ?_
                                            refine pg_calli (pr := [wd_Nam cs h (fun k => if k = 0 then q1 else if k = 1 then q4 else q7) (fun _ => none) (upd (upd (fun _ => 0) 3 0) 4 0) na76 (fun _ _ => none), wd_Lst cs q1 (fun _ => 0) (fun k => if k = 0 then (some em) else none) (upd (upd (fun _ => 0) 1 0) 2 0) (fun _ _ => 0) (fun _ _ => none)]) (px_runV (As := [.ref q226]) (rest := []) S (c_al_add_T l D cs mi q4 lq206 lc207 lf208 lg209 P234  q226 (show lc207 ≤ 1000000 from by first | exact oz_531eaa5c43 e218 e189 e160 e131 e102 | omega) (show 10 ≤ lc207 from by first | exact e219 | omega) (show 0 ≤ (lf208 1).toInt from by first | exact oz_44a9c4ba60 e214 e185 e156 e127 e98 | omega) (show (lf208 1).toInt ≤ (lc207 : Int) from by first | exact e215 | omega) (by first | assumption | exact ElF.els (by assumption)) (by first | assumption | exact sy_none | exact fy_none | exact Fy.sy (by assumption) | exact sy_some (by assumption)) _ _) hT (pr := [wd_Nam cs h (fun k => if k = 0 then q1 else if k = 1 then q4 else q7) (fun _ => none) (upd (upd (fun _ => 0) 3 0) 4 0) na76 (fun _ _ => none), wd_Lst cs q1 (fun _ => 0) (fun k => if k = 0 then (some em) else none) (upd (upd (fun _ => 0) 1 0) 2 0) (fun _ _ => 0) (fun _ _ => none)]) (pcs := [wd_Lst cs q4 (fun _ => 0) (fun k => if k = 0 then (some lq206) else none) lf208 (fun _ _ => 0) (fun _ _ => none), [(lq206, .inl (cs 12, lc207, .inr (.inr (.inr (.inr lg209)))))], P234]) hw (px_X.tot (oX_call (P := (fun A U H => (va_Mi "[Ljava/lang/Object;" mi U))) (pr := [wd_Nam cs h (fun k => if k = 0 then q1 else if k = 1 then q4 else q7) (fun _ => none) (upd (upd (fun _ => 0) 3 0) 4 0) na76 (fun _ _ => none), wd_Lst cs q1 (fun _ => 0) (fun k => if k = 0 then (some em) else none) (upd (upd (fun _ => 0) 1 0) 2 0) (fun _ _ => 0) (fun _ _ => none)]) oG_M hw hA hM)) (px_recv hT hw 2 0 rfl rfl rfl) m2_9 m2_6 m2_7 m2_8 m1_10 q_Lst_add2 ⟨Nat.le_of_ble_eq_true rfl, Nat.le_of_ble_eq_true rfl⟩ hl.1 rfl (Nat.le_of_ble_eq_true rfl) d_Nam_init_126 ⟨show ((((((((((((((0 + 1) + 1) + 1) + 1) + k96) + 1) + k125) + 1) + k154) + 1) + k183) + 1) + k212) + 1) + (1) ≤ 6000 from by first | with_reducible rfl | with_reducible assumption | omega, show ((((((((((((((0 + 3) + 3) + 2048) + 7) + n97) + 7) + n126) + 7) + n155) + 7) + n184) + 7) + n213) + 7) + (4 * lc207 + 40) ≤ 60000 from by first | with_reducible rfl | with_reducible assumption | omega⟩) hw hA (fun v240 p239 k241 n242 H locs hp239 hw => ?_)
                                            dsimp only at hp239
                                            obtain ⟨lq235, lc236, lf237, lg238, rfl, e243, e244, e245, e246, e247, e248, e249, e250, e251, e252⟩ := hp239
                                            replace e243 : (lf237 1).toInt = (lf208 1).toInt + 1 := e243
                                            replace e244 : (lf237 1).toInt ≤ (lc236 : Int) := e244
                                            replace e245 : AddL (lf208 1) lg209 lg238 q226 := e245
                                            replace e246 : (lc207 : Int) ≤ (lc236 : Int) := e246
                                            replace e247 : (lc236 : Int) ≤ 2 * (lc207 : Int) + 10 := e247
                                            replace e248 : 10 ≤ lc236 := e248
                                            replace e249 : Lcap lc207 (lf208 1) lc236 := e249
                                            replace e250 : k241 ≤ 1 := e250
                                            replace e251 : (k241 : Int) ≤ (lc236 : Int) - (lc207 : Int) := e251
                                            replace e252 : (n242 : Int) ≤ 4 * ((lc236 : Int) - (lc207 : Int)) := e252
                                            replace hw : pw D A s.heap H locs [wd_Nam cs h (fun k => if k = 0 then q1 else if k = 1 then q4 else q7) (fun _ => none) (upd (upd (fun _ => 0) 3 0) 4 0) na76 (fun _ _ => none), wd_Lst cs q1 (fun _ => 0) (fun k => if k = 0 then (some em) else none) (upd (upd (fun _ => 0) 1 0) 2 0) (fun _ _ => 0) (fun _ _ => none), wd_Lst cs q4 (fun _ => 0) (fun k => if k = 0 then (some lq235) else none) lf237 (fun _ _ => 0) (fun _ _ => none), [(lq235, .inl (cs 12, lc236, .inr (.inr (.inr (.inr lg238)))))], P234] := hw
                                            have lv240 := Int32.le_toInt v240
                                            have uv240 := Int32.toInt_lt v240
                                            have hlcb252 := Lcap.le (B := 5000) (by assumption) (by omega) (by omega); have helf := AddL.elf (n' := (lf237 1)) (by assumption) hEf (by assumption) (by omega); have helg := AddL.elg (n' := (lf237 1)) (by assumption) hEg (by assumption) (by omega); have hEf := helf; have hEg := helg; clear helf helg
                                            refine lv_pop S.x S.b d_Nam_init_129 rfl ?_
                                            obtain ⟨z253, ez253⟩ : ∃ y : Int32, y = z224 + 1 := ⟨_, rfl⟩
                                            have tz253 : z253.toInt = (z224.toInt + 1 + 2147483648) % 4294967296 - 2147483648 := by rw [ez253]; exact i_add z224 1
                                            have lz253 := Int32.le_toInt z253
                                            have uz253 := Int32.toInt_lt z253
                                            try replace tz253 : z253.toInt = z224.toInt + 1 := by omega
                                            refine lv_iinc (v := z253) (lv' := [(2, .int z253), (1, .int z233), (3, .ref q226), (0, .ref h)]) S.x S.b d_Nam_init_130 hl (k := 2) rfl (by rw [ez253]; rfl) (by decide) rfl (fun ls hl => ?_)
                                            refine lv_goto (tgt := 66) S.x S.b d_Nam_init_133 (by decide) ?_
                                            refine lv_iload_n S.x S.b d_Nam_init_66 rfl (lv_at hl 0 rfl) ?_
                                            refine lv_bipush (v := 10) S.x S.b d_Nam_init_67 (by decide) ?_
                                            refine lv_icmp_ge (tgt := 136) S.x S.b d_Nam_init_69 (by decide) (fun c254 => ?_) (fun c254 => ?_)
                                            · have nc254 : (10 : Int) ≤ z253.toInt := (i_le (x := 10) (y := z253)).mp c254
                                              exfalso
                                              omega
                                            · have nc254 : ¬ (10 : Int) ≤ z253.toInt := mt (i_le (x := 10) (y := z253)).mpr c254
                                              refine px_new S k_Sym hT hw hA m1_202 m1_203 m1_11 (fs := [.int 0, .int 0, .int 0, .int 0, .int 0, .int 0, .int 0]) (by decide +kernel) (show (((((((((((((((0 + 1) + 1) + 1) + 1) + k96) + 1) + k125) + 1) + k154) + 1) + k183) + 1) + k212) + 1) + k241) + 1 ≤ 6000 from by first | exact oz_a7c83764b7 e105 e134 e163 e192 e221 e250 | omega) (show (((((((((((((((0 + 3) + 3) + 2048) + 7) + n97) + 7) + n126) + 7) + n155) + 7) + n184) + 7) + n213) + 7) + n242) + 7 ≤ 60000 from by first | exact oz_bc9ed7edf1 e107 e136 e165 e194 e223 e252 e102 e131 e160 e189 e218 e247 | omega) d_Nam_init_72 (fun q255 H hw => ?_)
                                              replace hw : pw D A s.heap H _ [wd_Nam cs h (fun k => if k = 0 then q1 else if k = 1 then q4 else q7) (fun _ => none) (upd (upd (fun _ => 0) 3 0) 4 0) na76 (fun _ _ => none), wd_Lst cs q1 (fun _ => 0) (fun k => if k = 0 then (some em) else none) (upd (upd (fun _ => 0) 1 0) 2 0) (fun _ _ => 0) (fun _ _ => none), wd_Lst cs q4 (fun _ => 0) (fun k => if k = 0 then (some lq235) else none) lf237 (fun _ _ => 0) (fun _ _ => none), [(lq235, .inl (cs 12, lc236, .inr (.inr (.inr (.inr lg238)))))], P234, [(q255, .inr (3, [.int 0, .int 0, .int 0, .int 0, .int 0, .int 0, .int 0]))]] := hw
                                              refine lv_dup S.x S.b d_Nam_init_75 rfl ?_
                                              refine lv_bipush (v := 15) S.x S.b d_Nam_init_76 (by decide) ?_
                                              refine lv_iload_n S.x S.b d_Nam_init_78 rfl (lv_at hl 0 rfl) ?_
                                              refine lv_iadd S.x S.b d_Nam_init_79 ?_
                                              refine lv_topi (fun z256 ez256 => ?_)
                                              have tz256 : z256.toInt = ((15 : Int) + z253.toInt + 2147483648) % 4294967296 - 2147483648 := by rw [ez256]; exact i_add 15 z253
                                              have lz256 := Int32.le_toInt z256
                                              have uz256 := Int32.toInt_lt z256
                                              try replace tz256 : z256.toInt = (15 : Int) + z253.toInt := by omega
                                              refine lv_iconst (v := 2) S.x S.b d_Nam_init_80 (by decide) ?_
                                              refine px_callv (pr := [wd_Nam cs h (fun k => if k = 0 then q1 else if k = 1 then q4 else q7) (fun _ => none) (upd (upd (fun _ => 0) 3 0) 4 0) na76 (fun _ _ => none), wd_Lst cs q1 (fun _ => 0) (fun k => if k = 0 then (some em) else none) (upd (upd (fun _ => 0) 1 0) 2 0) (fun _ _ => 0) (fun _ _ => none), wd_Lst cs q4 (fun _ => 0) (fun k => if k = 0 then (some lq235) else none) lf237 (fun _ _ => 0) (fun _ _ => none), [(lq235, .inl (cs 12, lc236, .inr (.inr (.inr (.inr lg238)))))], P234]) (px_runI (As := [.int z256, .int 2]) (rest := [.ref q255]) S (c_Sym_init l D cs q255 z256 2 _) hT (pr := [wd_Nam cs h (fun k => if k = 0 then q1 else if k = 1 then q4 else q7) (fun _ => none) (upd (upd (fun _ => 0) 3 0) 4 0) na76 (fun _ _ => none), wd_Lst cs q1 (fun _ => 0) (fun k => if k = 0 then (some em) else none) (upd (upd (fun _ => 0) 1 0) 2 0) (fun _ _ => 0) (fun _ _ => none), wd_Lst cs q4 (fun _ => 0) (fun k => if k = 0 then (some lq235) else none) lf237 (fun _ _ => 0) (fun _ _ => none), [(lq235, .inl (cs 12, lc236, .inr (.inr (.inr (.inr lg238)))))], P234]) (pcs := [[(q255, .inr (3, [.int 0, .int 0, .int 0, .int 0, .int 0, .int 0, .int 0]))]]) hw px_X.tt m1_206 m1_204 m1_205 m1_11 rfl q_Sym_init ⟨Nat.le_of_ble_eq_true rfl, Nat.le_of_ble_eq_true rfl⟩ hl.1 rfl (Nat.le_of_ble_eq_true rfl) d_Nam_init_81 ⟨show ((((((((((((((((0 + 1) + 1) + 1) + 1) + k96) + 1) + k125) + 1) + k154) + 1) + k183) + 1) + k212) + 1) + k241) + 1) + 0 ≤ 6000 from by first | with_reducible rfl | with_reducible assumption | omega, show ((((((((((((((((0 + 3) + 3) + 2048) + 7) + n97) + 7) + n126) + 7) + n155) + 7) + n184) + 7) + n213) + 7) + n242) + 7) + 0 ≤ 60000 from by first | with_reducible rfl | with_reducible assumption | omega⟩) hw hA (fun p257 H locs hp257 hw => ?_)
                                              subst hp257
                                              replace hw : pw D A s.heap H locs [wd_Nam cs h (fun k => if k = 0 then q1 else if k = 1 then q4 else q7) (fun _ => none) (upd (upd (fun _ => 0) 3 0) 4 0) na76 (fun _ _ => none), wd_Lst cs q1 (fun _ => 0) (fun k => if k = 0 then (some em) else none) (upd (upd (fun _ => 0) 1 0) 2 0) (fun _ _ => 0) (fun _ _ => none), wd_Lst cs q4 (fun _ => 0) (fun k => if k = 0 then (some lq235) else none) lf237 (fun _ _ => 0) (fun _ _ => none), [(lq235, .inl (cs 12, lc236, .inr (.inr (.inr (.inr lg238)))))], P234, wd_Sym cs q255 (fun _ => 0) (fun _ => none) (upd (upd (upd (upd (upd (upd (upd (fun _ => 0) 0 z256) 1 2) 2 0) 3 0) 4 0) 5 0) 6 0) (fun _ _ => 0) (fun _ _ => none)] := hw
                                              refine lv_astore_n (lv' := [(3, .ref q255), (2, .int z253), (1, .int z233), (0, .ref h)]) S.x S.b d_Nam_init_84 rfl hl (by decide) rfl (fun ls hl => ?_)
                                              refine lv_aload_n S.x S.b d_Nam_init_85 rfl (lv_at hl 0 rfl) ?_
                                              refine lv_iload_n S.x S.b d_Nam_init_86 rfl (lv_at hl 1 rfl) ?_
                                              refine px_put S k_Sym hT hw 5 0 5 rfl rfl (by decide) m1_221 rfl rfl rfl (Nat.le_of_ble_eq_true rfl) d_Nam_init_87 (w' := wd_Sym cs q255 (fun _ => 0) (fun _ => none) (upd (upd (upd (upd (upd (upd (upd (fun _ => 0) 0 z256) 1 2) 2 0) 3 0) 4 0) 5 z253) 6 0) (fun _ _ => 0) (fun _ _ => none)) (ps' := [wd_Nam cs h (fun k => if k = 0 then q1 else if k = 1 then q4 else q7) (fun _ => none) (upd (upd (fun _ => 0) 3 0) 4 0) na76 (fun _ _ => none), wd_Lst cs q1 (fun _ => 0) (fun k => if k = 0 then (some em) else none) (upd (upd (fun _ => 0) 1 0) 2 0) (fun _ _ => 0) (fun _ _ => none), wd_Lst cs q4 (fun _ => 0) (fun k => if k = 0 then (some lq235) else none) lf237 (fun _ _ => 0) (fun _ _ => none), [(lq235, .inl (cs 12, lc236, .inr (.inr (.inr (.inr lg238)))))], P234, wd_Sym cs q255 (fun _ => 0) (fun _ => none) (upd (upd (upd (upd (upd (upd (upd (fun _ => 0) 0 z256) 1 2) 2 0) 3 0) 4 0) 5 z253) 6 0) (fun _ _ => 0) (fun _ _ => none)]) rfl rfl (fun H locs hw => ?_)
                                              refine lv_aload_n S.x S.b d_Nam_init_90 rfl (lv_at hl 0 rfl) ?_
                                              refine va_getsN S.x S.b hqtG1 hw.2.2 S.own (va_Nw.use rfl (hT.2.2 _ m2_2n rfl)) (fun _ h => h) d_Nam_init_91 ?_
                                              refine lv_iload_n S.x S.b d_Nam_init_94 rfl (lv_at hl 1 rfl) ?_
                                              refine va_ti S.x S.b hqtG2 hw.2.2 (i := z253) (vp_in_iff.mpr (by constructor <;> omega)) rfl d_Nam_init_95 ?_
                                              refine lv_topi (fun z259 ez259 => ?_)
                                              have lz259 := Int32.le_toInt z259
                                              have uz259 := Int32.toInt_lt z259
                                              refine px_put S k_Sym hT hw 5 0 6 rfl rfl (by decide) m1_224 rfl rfl rfl (Nat.le_of_ble_eq_true rfl) d_Nam_init_96 (w' := wd_Sym cs q255 (fun _ => 0) (fun _ => none) (upd (upd (upd (upd (upd (upd (upd (fun _ => 0) 0 z256) 1 2) 2 0) 3 0) 4 0) 5 z253) 6 z259) (fun _ _ => 0) (fun _ _ => none)) (ps' := [wd_Nam cs h (fun k => if k = 0 then q1 else if k = 1 then q4 else q7) (fun _ => none) (upd (upd (fun _ => 0) 3 0) 4 0) na76 (fun _ _ => none), wd_Lst cs q1 (fun _ => 0) (fun k => if k = 0 then (some em) else none) (upd (upd (fun _ => 0) 1 0) 2 0) (fun _ _ => 0) (fun _ _ => none), wd_Lst cs q4 (fun _ => 0) (fun k => if k = 0 then (some lq235) else none) lf237 (fun _ _ => 0) (fun _ _ => none), [(lq235, .inl (cs 12, lc236, .inr (.inr (.inr (.inr lg238)))))], P234, wd_Sym cs q255 (fun _ => 0) (fun _ => none) (upd (upd (upd (upd (upd (upd (upd (fun _ => 0) 0 z256) 1 2) 2 0) 3 0) 4 0) 5 z253) 6 z259) (fun _ _ => 0) (fun _ _ => none)]) rfl rfl (fun H locs hw => ?_)
                                              refine lv_aload_n S.x S.b d_Nam_init_99 rfl (lv_at hl 0 rfl) ?_
                                              refine lv_iload_n S.x S.b d_Nam_init_100 rfl (lv_at hl 2 rfl) ?_
                                              refine px_put S k_Sym hT hw 5 0 3 rfl rfl (by decide) m1_215 rfl rfl rfl (Nat.le_of_ble_eq_true rfl) d_Nam_init_101 (w' := wd_Sym cs q255 (fun _ => 0) (fun _ => none) (upd (upd (upd (upd (upd (upd (upd (fun _ => 0) 0 z256) 1 2) 2 0) 3 z233) 4 0) 5 z253) 6 z259) (fun _ _ => 0) (fun _ _ => none)) (ps' := [wd_Nam cs h (fun k => if k = 0 then q1 else if k = 1 then q4 else q7) (fun _ => none) (upd (upd (fun _ => 0) 3 0) 4 0) na76 (fun _ _ => none), wd_Lst cs q1 (fun _ => 0) (fun k => if k = 0 then (some em) else none) (upd (upd (fun _ => 0) 1 0) 2 0) (fun _ _ => 0) (fun _ _ => none), wd_Lst cs q4 (fun _ => 0) (fun k => if k = 0 then (some lq235) else none) lf237 (fun _ _ => 0) (fun _ _ => none), [(lq235, .inl (cs 12, lc236, .inr (.inr (.inr (.inr lg238)))))], P234, wd_Sym cs q255 (fun _ => 0) (fun _ => none) (upd (upd (upd (upd (upd (upd (upd (fun _ => 0) 0 z256) 1 2) 2 0) 3 z233) 4 0) 5 z253) 6 z259) (fun _ _ => 0) (fun _ _ => none)]) rfl rfl (fun H locs hw => ?_)
                                              refine lv_aload_n S.x S.b d_Nam_init_104 rfl (lv_at hl 0 rfl) ?_
                                              refine va_getsN S.x S.b hqcG1 hw.2.2 S.own (va_Nw.use rfl (hT.2.2 _ m2_4n rfl)) (fun _ h => h) d_Nam_init_105 ?_
                                              refine lv_iload_n S.x S.b d_Nam_init_108 rfl (lv_at hl 1 rfl) ?_
                                              refine va_ti S.x S.b hqcG2 hw.2.2 (i := z253) (vp_in_iff.mpr (by constructor <;> omega)) rfl d_Nam_init_109 ?_
                                              refine lv_topi (fun z260 ez260 => ?_)
                                              have lz260 := Int32.le_toInt z260
                                              have uz260 := Int32.toInt_lt z260
                                              refine px_put S k_Sym hT hw 5 0 4 rfl rfl (by decide) m1_218 rfl rfl rfl (Nat.le_of_ble_eq_true rfl) d_Nam_init_110 (w' := wd_Sym cs q255 (fun _ => 0) (fun _ => none) (upd (upd (upd (upd (upd (upd (upd (fun _ => 0) 0 z256) 1 2) 2 0) 3 z233) 4 z260) 5 z253) 6 z259) (fun _ _ => 0) (fun _ _ => none)) (ps' := [wd_Nam cs h (fun k => if k = 0 then q1 else if k = 1 then q4 else q7) (fun _ => none) (upd (upd (fun _ => 0) 3 0) 4 0) na76 (fun _ _ => none), wd_Lst cs q1 (fun _ => 0) (fun k => if k = 0 then (some em) else none) (upd (upd (fun _ => 0) 1 0) 2 0) (fun _ _ => 0) (fun _ _ => none), wd_Lst cs q4 (fun _ => 0) (fun k => if k = 0 then (some lq235) else none) lf237 (fun _ _ => 0) (fun _ _ => none), [(lq235, .inl (cs 12, lc236, .inr (.inr (.inr (.inr lg238)))))], P234, wd_Sym cs q255 (fun _ => 0) (fun _ => none) (upd (upd (upd (upd (upd (upd (upd (fun _ => 0) 0 z256) 1 2) 2 0) 3 z233) 4 z260) 5 z253) 6 z259) (fun _ _ => 0) (fun _ _ => none)]) rfl rfl (fun H locs hw => ?_)
                                              refine lv_iload_n S.x S.b d_Nam_init_113 rfl (lv_at hl 2 rfl) ?_
                                              refine va_getsN S.x S.b hqcG1 hw.2.2 S.own (va_Nw.use rfl (hT.2.2 _ m2_4n rfl)) (fun _ h => h) d_Nam_init_114 ?_
                                              refine lv_iload_n S.x S.b d_Nam_init_117 rfl (lv_at hl 1 rfl) ?_
                                              refine va_ti S.x S.b hqcG2 hw.2.2 (i := z253) (vp_in_iff.mpr (by constructor <;> omega)) rfl d_Nam_init_118 ?_
                                              refine lv_topi (fun z261 ez261 => ?_)
                                              have lz261 := Int32.le_toInt z261
                                              have uz261 := Int32.toInt_lt z261
                                              refine lv_iadd S.x S.b d_Nam_init_119 ?_
                                              refine lv_topi (fun z262 ez262 => ?_)
                                              have lz262 := Int32.le_toInt z262
                                              have uz262 := Int32.toInt_lt z262
                                              refine lv_istore_n (lv' := [(1, .int z262), (3, .ref q255), (2, .int z253), (0, .ref h)]) S.x S.b d_Nam_init_120 rfl hl (by decide) rfl (fun ls hl => ?_)
                                              have hw : pw D A s.heap _ _ ([wd_Nam cs h (fun k => if k = 0 then q1 else if k = 1 then q4 else q7) (fun _ => none) (upd (upd (fun _ => 0) 3 0) 4 0) na76 (fun _ _ => none), wd_Lst cs q1 (fun _ => 0) (fun k => if k = 0 then (some em) else none) (upd (upd (fun _ => 0) 1 0) 2 0) (fun _ _ => 0) (fun _ _ => none), wd_Lst cs q4 (fun _ => 0) (fun k => if k = 0 then (some lq235) else none) lf237 (fun _ _ => 0) (fun _ _ => none), [(lq235, .inl (cs 12, lc236, .inr (.inr (.inr (.inr lg238)))))]] ++ [P234, wd_Sym cs q255 (fun _ => 0) (fun _ => none) (upd (upd (upd (upd (upd (upd (upd (fun _ => 0) 0 z256) 1 2) 2 0) 3 z233) 4 z260) 5 z253) 6 z259) (fun _ _ => 0) (fun _ _ => none)]) := hw.sub [0, 1, 2, 3, 4, 5] rfl rfl
                                              have hw := pw_join hw
                                              have hpnP263 : Pg P234 (P234 ++ wd_Sym cs q255 (fun _ => 0) (fun _ => none) (upd (upd (upd (upd (upd (upd (upd (fun _ => 0) 0 z256) 1 2) 2 0) 3 z233) 4 z260) 5 z253) 6 z259) (fun _ _ => 0) (fun _ _ => none)) := pg_app
                                              have hsnP263 : Sy (P234 ++ wd_Sym cs q255 (fun _ => 0) (fun _ => none) (upd (upd (upd (upd (upd (upd (upd (fun _ => 0) 0 z256) 1 2) 2 0) 3 z233) 4 z260) 5 z253) 6 z259) (fun _ _ => 0) (fun _ _ => none)) (some q255) := sy_last (s := (upd (upd (upd (upd (upd (upd (upd (fun _ => 0) 0 z256) 1 2) 2 0) 3 z233) 4 z260) 5 z253) 6 z259)) rfl
                                              have hfnP263 : Fy (P234 ++ wd_Sym cs q255 (fun _ => 0) (fun _ => none) (upd (upd (upd (upd (upd (upd (upd (fun _ => 0) 0 z256) 1 2) 2 0) 3 z233) 4 z260) 5 z253) 6 z259) (fun _ _ => 0) (fun _ _ => none)) (some q255) := fy_last (s := (upd (upd (upd (upd (upd (upd (upd (fun _ => 0) 0 z256) 1 2) 2 0) 3 z233) 4 z260) 5 z253) 6 z259)) rfl (show 0 ≤ z253.toInt from by first | exact oz_74a017ed6e tz253 tz224 tz195 tz166 tz137 tz108 | omega) (show z253.toInt ≤ 1000000 from by first | exact oz_231bd416e9 tz253 nc225 | omega)
                                              have hgnP263 : Gy (P234 ++ wd_Sym cs q255 (fun _ => 0) (fun _ => none) (upd (upd (upd (upd (upd (upd (upd (fun _ => 0) 0 z256) 1 2) 2 0) 3 z233) 4 z260) 5 z253) 6 z259) (fun _ _ => 0) (fun _ _ => none)) q255 := gy_lastN (s := (upd (upd (upd (upd (upd (upd (upd (fun _ => 0) 0 z256) 1 2) 2 0) 3 z233) 4 z260) 5 z253) 6 z259)) rfl (show 0 ≤ z253.toInt from by first | exact oz_74a017ed6e tz253 tz224 tz195 tz166 tz137 tz108 | omega) (show z253.toInt ≤ 1000000 from by first | exact oz_231bd416e9 tz253 nc225 | omega) (show z256.toInt ≠ 25 from by first | exact oz_20fca602ed tz256 nc254 | omega)
                                              generalize (P234 ++ wd_Sym cs q255 (fun _ => 0) (fun _ => none) (upd (upd (upd (upd (upd (upd (upd (fun _ => 0) 0 z256) 1 2) 2 0) 3 z233) 4 z260) 5 z253) 6 z259) (fun _ _ => 0) (fun _ _ => none)) = P263 at hw hpnP263 hsnP263 hfnP263 hgnP263
                                              have hEl := hpnP263.els hEl; have hEf := hpnP263.elf hEf; have hEg := hpnP263.elg hEg
                                              replace hw : pw D A s.heap _ _ [wd_Nam cs h (fun k => if k = 0 then q1 else if k = 1 then q4 else q7) (fun _ => none) (upd (upd (fun _ => 0) 3 0) 4 0) na76 (fun _ _ => none), wd_Lst cs q1 (fun _ => 0) (fun k => if k = 0 then (some em) else none) (upd (upd (fun _ => 0) 1 0) 2 0) (fun _ _ => 0) (fun _ _ => none), wd_Lst cs q4 (fun _ => 0) (fun k => if k = 0 then (some lq235) else none) lf237 (fun _ _ => 0) (fun _ _ => none), [(lq235, .inl (cs 12, lc236, .inr (.inr (.inr (.inr lg238)))))], P263] := hw
                                              refine lv_aload_n S.x S.b d_Nam_init_121 rfl (lv_at hl 3 rfl) ?_
                                              refine px_get S k_Nam hT hw 0 0 1 (v := .ref q4) rfl rfl rfl (by decide) m2_76 d_Nam_init_122 ?_
                                              refine lv_aload_n S.x S.b d_Nam_init_125 rfl (lv_at hl 1 rfl) ?_
                                              refine pg_calli (pr := [wd_Nam cs h (fun k => if k = 0 then q1 else if k = 1 then q4 else q7) (fun _ => none) (upd (upd (fun _ => 0) 3 0) 4 0) na76 (fun _ _ => none), wd_Lst cs q1 (fun _ => 0) (fun k => if k = 0 then (some em) else none) (upd (upd (fun _ => 0) 1 0) 2 0) (fun _ _ => 0) (fun _ _ => none)]) (px_runV (As := [.ref q255]) (rest := []) S (c_al_add_T l D cs mi q4 lq235 lc236 lf237 lg238 P263  q255 (show lc236 ≤ 1000000 from by first | exact oz_45414977c5 e247 e218 e189 e160 e131 e102 | omega) (show 10 ≤ lc236 from by first | exact e248 | omega) (show 0 ≤ (lf237 1).toInt from by first | exact oz_74a017ed6e e243 e214 e185 e156 e127 e98 | omega) (show (lf237 1).toInt ≤ (lc236 : Int) from by first | exact e244 | omega) (by first | assumption | exact ElF.els (by assumption)) (by first | assumption | exact sy_none | exact fy_none | exact Fy.sy (by assumption) | exact sy_some (by assumption)) _ _) hT (pr := [wd_Nam cs h (fun k => if k = 0 then q1 else if k = 1 then q4 else q7) (fun _ => none) (upd (upd (fun _ => 0) 3 0) 4 0) na76 (fun _ _ => none), wd_Lst cs q1 (fun _ => 0) (fun k => if k = 0 then (some em) else none) (upd (upd (fun _ => 0) 1 0) 2 0) (fun _ _ => 0) (fun _ _ => none)]) (pcs := [wd_Lst cs q4 (fun _ => 0) (fun k => if k = 0 then (some lq235) else none) lf237 (fun _ _ => 0) (fun _ _ => none), [(lq235, .inl (cs 12, lc236, .inr (.inr (.inr (.inr lg238)))))], P263]) hw (px_X.tot (oX_call (P := (fun A U H => (va_Mi "[Ljava/lang/Object;" mi U))) (pr := [wd_Nam cs h (fun k => if k = 0 then q1 else if k = 1 then q4 else q7) (fun _ => none) (upd (upd (fun _ => 0) 3 0) 4 0) na76 (fun _ _ => none), wd_Lst cs q1 (fun _ => 0) (fun k => if k = 0 then (some em) else none) (upd (upd (fun _ => 0) 1 0) 2 0) (fun _ _ => 0) (fun _ _ => none)]) oG_M hw hA hM)) (px_recv hT hw 2 0 rfl rfl rfl) m2_9 m2_6 m2_7 m2_8 m1_10 q_Lst_add2 ⟨Nat.le_of_ble_eq_true rfl, Nat.le_of_ble_eq_true rfl⟩ hl.1 rfl (Nat.le_of_ble_eq_true rfl) d_Nam_init_126 ⟨show ((((((((((((((((0 + 1) + 1) + 1) + 1) + k96) + 1) + k125) + 1) + k154) + 1) + k183) + 1) + k212) + 1) + k241) + 1) + (1) ≤ 6000 from by first | with_reducible rfl | with_reducible assumption | omega, show ((((((((((((((((0 + 3) + 3) + 2048) + 7) + n97) + 7) + n126) + 7) + n155) + 7) + n184) + 7) + n213) + 7) + n242) + 7) + (4 * lc236 + 40) ≤ 60000 from by first | with_reducible rfl | with_reducible assumption | omega⟩) hw hA (fun v269 p268 k270 n271 H locs hp268 hw => ?_)
                                              dsimp only at hp268
                                              obtain ⟨lq264, lc265, lf266, lg267, rfl, e272, e273, e274, e275, e276, e277, e278, e279, e280, e281⟩ := hp268
                                              replace e272 : (lf266 1).toInt = (lf237 1).toInt + 1 := e272
                                              replace e273 : (lf266 1).toInt ≤ (lc265 : Int) := e273
                                              replace e274 : AddL (lf237 1) lg238 lg267 q255 := e274
                                              replace e275 : (lc236 : Int) ≤ (lc265 : Int) := e275
                                              replace e276 : (lc265 : Int) ≤ 2 * (lc236 : Int) + 10 := e276
                                              replace e277 : 10 ≤ lc265 := e277
                                              replace e278 : Lcap lc236 (lf237 1) lc265 := e278
                                              replace e279 : k270 ≤ 1 := e279
                                              replace e280 : (k270 : Int) ≤ (lc265 : Int) - (lc236 : Int) := e280
                                              replace e281 : (n271 : Int) ≤ 4 * ((lc265 : Int) - (lc236 : Int)) := e281
                                              replace hw : pw D A s.heap H locs [wd_Nam cs h (fun k => if k = 0 then q1 else if k = 1 then q4 else q7) (fun _ => none) (upd (upd (fun _ => 0) 3 0) 4 0) na76 (fun _ _ => none), wd_Lst cs q1 (fun _ => 0) (fun k => if k = 0 then (some em) else none) (upd (upd (fun _ => 0) 1 0) 2 0) (fun _ _ => 0) (fun _ _ => none), wd_Lst cs q4 (fun _ => 0) (fun k => if k = 0 then (some lq264) else none) lf266 (fun _ _ => 0) (fun _ _ => none), [(lq264, .inl (cs 12, lc265, .inr (.inr (.inr (.inr lg267)))))], P263] := hw
                                              have lv269 := Int32.le_toInt v269
                                              have uv269 := Int32.toInt_lt v269
                                              have hlcb281 := Lcap.le (B := 5000) (by assumption) (by omega) (by omega); have helf := AddL.elf (n' := (lf266 1)) (by assumption) hEf (by assumption) (by omega); have helg := AddL.elg (n' := (lf266 1)) (by assumption) hEg (by assumption) (by omega); have hEf := helf; have hEg := helg; clear helf helg
                                              refine lv_pop S.x S.b d_Nam_init_129 rfl ?_
                                              obtain ⟨z282, ez282⟩ : ∃ y : Int32, y = z253 + 1 := ⟨_, rfl⟩
                                              have tz282 : z282.toInt = (z253.toInt + 1 + 2147483648) % 4294967296 - 2147483648 := by rw [ez282]; exact i_add z253 1
                                              have lz282 := Int32.le_toInt z282
                                              have uz282 := Int32.toInt_lt z282
                                              try replace tz282 : z282.toInt = z253.toInt + 1 := by omega
                                              refine lv_iinc (v := z282) (lv' := [(2, .int z282), (1, .int z262), (3, .ref q255), (0, .ref h)]) S.x S.b d_Nam_init_130 hl (k := 2) rfl (by rw [ez282]; rfl) (by decide) rfl (fun ls hl => ?_)
                                              refine lv_goto (tgt := 66) S.x S.b d_Nam_init_133 (by decide) ?_
                                              refine lv_iload_n S.x S.b d_Nam_init_66 rfl (lv_at hl 0 rfl) ?_
                                              refine lv_bipush (v := 10) S.x S.b d_Nam_init_67 (by decide) ?_
                                              refine lv_icmp_ge (tgt := 136) S.x S.b d_Nam_init_69 (by decide) (fun c283 => ?_) (fun c283 => ?_)
                                              · have nc283 : (10 : Int) ≤ z282.toInt := (i_le (x := 10) (y := z282)).mp c283
                                                exfalso
                                                omega
                                              · have nc283 : ¬ (10 : Int) ≤ z282.toInt := mt (i_le (x := 10) (y := z282)).mpr c283
                                                refine px_new S k_Sym hT hw hA m1_202 m1_203 m1_11 (fs := [.int 0, .int 0, .int 0, .int 0, .int 0, .int 0, .int 0]) (by decide +kernel) (show (((((((((((((((((0 + 1) + 1) + 1) + 1) + k96) + 1) + k125) + 1) + k154) + 1) + k183) + 1) + k212) + 1) + k241) + 1) + k270) + 1 ≤ 6000 from by first | exact oz_cd7dabd4e2 e105 e134 e163 e192 e221 e250 e279 | omega) (show (((((((((((((((((0 + 3) + 3) + 2048) + 7) + n97) + 7) + n126) + 7) + n155) + 7) + n184) + 7) + n213) + 7) + n242) + 7) + n271) + 7 ≤ 60000 from by first | exact oz_9f22de95b3 e107 e136 e165 e194 e223 e252 e281 e102 e131 e160 e189 e218 e247 e276 | omega) d_Nam_init_72 (fun q284 H hw => ?_)
                                                replace hw : pw D A s.heap H _ [wd_Nam cs h (fun k => if k = 0 then q1 else if k = 1 then q4 else q7) (fun _ => none) (upd (upd (fun _ => 0) 3 0) 4 0) na76 (fun _ _ => none), wd_Lst cs q1 (fun _ => 0) (fun k => if k = 0 then (some em) else none) (upd (upd (fun _ => 0) 1 0) 2 0) (fun _ _ => 0) (fun _ _ => none), wd_Lst cs q4 (fun _ => 0) (fun k => if k = 0 then (some lq264) else none) lf266 (fun _ _ => 0) (fun _ _ => none), [(lq264, .inl (cs 12, lc265, .inr (.inr (.inr (.inr lg267)))))], P263, [(q284, .inr (3, [.int 0, .int 0, .int 0, .int 0, .int 0, .int 0, .int 0]))]] := hw
                                                refine lv_dup S.x S.b d_Nam_init_75 rfl ?_
                                                refine lv_bipush (v := 15) S.x S.b d_Nam_init_76 (by decide) ?_
                                                refine lv_iload_n S.x S.b d_Nam_init_78 rfl (lv_at hl 0 rfl) ?_
                                                refine lv_iadd S.x S.b d_Nam_init_79 ?_
                                                refine lv_topi (fun z285 ez285 => ?_)
                                                have tz285 : z285.toInt = ((15 : Int) + z282.toInt + 2147483648) % 4294967296 - 2147483648 := by rw [ez285]; exact i_add 15 z282
                                                have lz285 := Int32.le_toInt z285
                                                have uz285 := Int32.toInt_lt z285
                                                try replace tz285 : z285.toInt = (15 : Int) + z282.toInt := by omega
                                                refine lv_iconst (v := 2) S.x S.b d_Nam_init_80 (by decide) ?_
                                                refine px_callv (pr := [wd_Nam cs h (fun k => if k = 0 then q1 else if k = 1 then q4 else q7) (fun _ => none) (upd (upd (fun _ => 0) 3 0) 4 0) na76 (fun _ _ => none), wd_Lst cs q1 (fun _ => 0) (fun k => if k = 0 then (some em) else none) (upd (upd (fun _ => 0) 1 0) 2 0) (fun _ _ => 0) (fun _ _ => none), wd_Lst cs q4 (fun _ => 0) (fun k => if k = 0 then (some lq264) else none) lf266 (fun _ _ => 0) (fun _ _ => none), [(lq264, .inl (cs 12, lc265, .inr (.inr (.inr (.inr lg267)))))], P263]) (px_runI (As := [.int z285, .int 2]) (rest := [.ref q284]) S (c_Sym_init l D cs q284 z285 2 _) hT (pr := [wd_Nam cs h (fun k => if k = 0 then q1 else if k = 1 then q4 else q7) (fun _ => none) (upd (upd (fun _ => 0) 3 0) 4 0) na76 (fun _ _ => none), wd_Lst cs q1 (fun _ => 0) (fun k => if k = 0 then (some em) else none) (upd (upd (fun _ => 0) 1 0) 2 0) (fun _ _ => 0) (fun _ _ => none), wd_Lst cs q4 (fun _ => 0) (fun k => if k = 0 then (some lq264) else none) lf266 (fun _ _ => 0) (fun _ _ => none), [(lq264, .inl (cs 12, lc265, .inr (.inr (.inr (.inr lg267)))))], P263]) (pcs := [[(q284, .inr (3, [.int 0, .int 0, .int 0, .int 0, .int 0, .int 0, .int 0]))]]) hw px_X.tt m1_206 m1_204 m1_205 m1_11 rfl q_Sym_init ⟨Nat.le_of_ble_eq_true rfl, Nat.le_of_ble_eq_true rfl⟩ hl.1 rfl (Nat.le_of_ble_eq_true rfl) d_Nam_init_81 ⟨show ((((((((((((((((((0 + 1) + 1) + 1) + 1) + k96) + 1) + k125) + 1) + k154) + 1) + k183) + 1) + k212) + 1) + k241) + 1) + k270) + 1) + 0 ≤ 6000 from by first | with_reducible rfl | with_reducible assumption | omega, show ((((((((((((((((((0 + 3) + 3) + 2048) + 7) + n97) + 7) + n126) + 7) + n155) + 7) + n184) + 7) + n213) + 7) + n242) + 7) + n271) + 7) + 0 ≤ 60000 from by first | with_reducible rfl | with_reducible assumption | omega⟩) hw hA (fun p286 H locs hp286 hw => ?_)
                                                subst hp286
                                                replace hw : pw D A s.heap H locs [wd_Nam cs h (fun k => if k = 0 then q1 else if k = 1 then q4 else q7) (fun _ => none) (upd (upd (fun _ => 0) 3 0) 4 0) na76 (fun _ _ => none), wd_Lst cs q1 (fun _ => 0) (fun k => if k = 0 then (some em) else none) (upd (upd (fun _ => 0) 1 0) 2 0) (fun _ _ => 0) (fun _ _ => none), wd_Lst cs q4 (fun _ => 0) (fun k => if k = 0 then (some lq264) else none) lf266 (fun _ _ => 0) (fun _ _ => none), [(lq264, .inl (cs 12, lc265, .inr (.inr (.inr (.inr lg267)))))], P263, wd_Sym cs q284 (fun _ => 0) (fun _ => none) (upd (upd (upd (upd (upd (upd (upd (fun _ => 0) 0 z285) 1 2) 2 0) 3 0) 4 0) 5 0) 6 0) (fun _ _ => 0) (fun _ _ => none)] := hw
                                                refine lv_astore_n (lv' := [(3, .ref q284), (2, .int z282), (1, .int z262), (0, .ref h)]) S.x S.b d_Nam_init_84 rfl hl (by decide) rfl (fun ls hl => ?_)
                                                refine lv_aload_n S.x S.b d_Nam_init_85 rfl (lv_at hl 0 rfl) ?_
                                                refine lv_iload_n S.x S.b d_Nam_init_86 rfl (lv_at hl 1 rfl) ?_
                                                refine px_put S k_Sym hT hw 5 0 5 rfl rfl (by decide) m1_221 rfl rfl rfl (Nat.le_of_ble_eq_true rfl) d_Nam_init_87 (w' := wd_Sym cs q284 (fun _ => 0) (fun _ => none) (upd (upd (upd (upd (upd (upd (upd (fun _ => 0) 0 z285) 1 2) 2 0) 3 0) 4 0) 5 z282) 6 0) (fun _ _ => 0) (fun _ _ => none)) (ps' := [wd_Nam cs h (fun k => if k = 0 then q1 else if k = 1 then q4 else q7) (fun _ => none) (upd (upd (fun _ => 0) 3 0) 4 0) na76 (fun _ _ => none), wd_Lst cs q1 (fun _ => 0) (fun k => if k = 0 then (some em) else none) (upd (upd (fun _ => 0) 1 0) 2 0) (fun _ _ => 0) (fun _ _ => none), wd_Lst cs q4 (fun _ => 0) (fun k => if k = 0 then (some lq264) else none) lf266 (fun _ _ => 0) (fun _ _ => none), [(lq264, .inl (cs 12, lc265, .inr (.inr (.inr (.inr lg267)))))], P263, wd_Sym cs q284 (fun _ => 0) (fun _ => none) (upd (upd (upd (upd (upd (upd (upd (fun _ => 0) 0 z285) 1 2) 2 0) 3 0) 4 0) 5 z282) 6 0) (fun _ _ => 0) (fun _ _ => none)]) rfl rfl (fun H locs hw => ?_)
                                                refine lv_aload_n S.x S.b d_Nam_init_90 rfl (lv_at hl 0 rfl) ?_
                                                refine va_getsN S.x S.b hqtG1 hw.2.2 S.own (va_Nw.use rfl (hT.2.2 _ m2_2n rfl)) (fun _ h => h) d_Nam_init_91 ?_
                                                refine lv_iload_n S.x S.b d_Nam_init_94 rfl (lv_at hl 1 rfl) ?_
                                                refine va_ti S.x S.b hqtG2 hw.2.2 (i := z282) (vp_in_iff.mpr (by constructor <;> omega)) rfl d_Nam_init_95 ?_
                                                refine lv_topi (fun z288 ez288 => ?_)
                                                have lz288 := Int32.le_toInt z288
                                                have uz288 := Int32.toInt_lt z288
                                                refine px_put S k_Sym hT hw 5 0 6 rfl rfl (by decide) m1_224 rfl rfl rfl (Nat.le_of_ble_eq_true rfl) d_Nam_init_96 (w' := wd_Sym cs q284 (fun _ => 0) (fun _ => none) (upd (upd (upd (upd (upd (upd (upd (fun _ => 0) 0 z285) 1 2) 2 0) 3 0) 4 0) 5 z282) 6 z288) (fun _ _ => 0) (fun _ _ => none)) (ps' := [wd_Nam cs h (fun k => if k = 0 then q1 else if k = 1 then q4 else q7) (fun _ => none) (upd (upd (fun _ => 0) 3 0) 4 0) na76 (fun _ _ => none), wd_Lst cs q1 (fun _ => 0) (fun k => if k = 0 then (some em) else none) (upd (upd (fun _ => 0) 1 0) 2 0) (fun _ _ => 0) (fun _ _ => none), wd_Lst cs q4 (fun _ => 0) (fun k => if k = 0 then (some lq264) else none) lf266 (fun _ _ => 0) (fun _ _ => none), [(lq264, .inl (cs 12, lc265, .inr (.inr (.inr (.inr lg267)))))], P263, wd_Sym cs q284 (fun _ => 0) (fun _ => none) (upd (upd (upd (upd (upd (upd (upd (fun _ => 0) 0 z285) 1 2) 2 0) 3 0) 4 0) 5 z282) 6 z288) (fun _ _ => 0) (fun _ _ => none)]) rfl rfl (fun H locs hw => ?_)
                                                refine lv_aload_n S.x S.b d_Nam_init_99 rfl (lv_at hl 0 rfl) ?_
                                                refine lv_iload_n S.x S.b d_Nam_init_100 rfl (lv_at hl 2 rfl) ?_
                                                refine px_put S k_Sym hT hw 5 0 3 rfl rfl (by decide) m1_215 rfl rfl rfl (Nat.le_of_ble_eq_true rfl) d_Nam_init_101 (w' := wd_Sym cs q284 (fun _ => 0) (fun _ => none) (upd (upd (upd (upd (upd (upd (upd (fun _ => 0) 0 z285) 1 2) 2 0) 3 z262) 4 0) 5 z282) 6 z288) (fun _ _ => 0) (fun _ _ => none)) (ps' := [wd_Nam cs h (fun k => if k = 0 then q1 else if k = 1 then q4 else q7) (fun _ => none) (upd (upd (fun _ => 0) 3 0) 4 0) na76 (fun _ _ => none), wd_Lst cs q1 (fun _ => 0) (fun k => if k = 0 then (some em) else none) (upd (upd (fun _ => 0) 1 0) 2 0) (fun _ _ => 0) (fun _ _ => none), wd_Lst cs q4 (fun _ => 0) (fun k => if k = 0 then (some lq264) else none) lf266 (fun _ _ => 0) (fun _ _ => none), [(lq264, .inl (cs 12, lc265, .inr (.inr (.inr (.inr lg267)))))], P263, wd_Sym cs q284 (fun _ => 0) (fun _ => none) (upd (upd (upd (upd (upd (upd (upd (fun _ => 0) 0 z285) 1 2) 2 0) 3 z262) 4 0) 5 z282) 6 z288) (fun _ _ => 0) (fun _ _ => none)]) rfl rfl (fun H locs hw => ?_)
                                                refine lv_aload_n S.x S.b d_Nam_init_104 rfl (lv_at hl 0 rfl) ?_
                                                refine va_getsN S.x S.b hqcG1 hw.2.2 S.own (va_Nw.use rfl (hT.2.2 _ m2_4n rfl)) (fun _ h => h) d_Nam_init_105 ?_
                                                refine lv_iload_n S.x S.b d_Nam_init_108 rfl (lv_at hl 1 rfl) ?_
                                                refine va_ti S.x S.b hqcG2 hw.2.2 (i := z282) (vp_in_iff.mpr (by constructor <;> omega)) rfl d_Nam_init_109 ?_
                                                refine lv_topi (fun z289 ez289 => ?_)
                                                have lz289 := Int32.le_toInt z289
                                                have uz289 := Int32.toInt_lt z289
                                                refine px_put S k_Sym hT hw 5 0 4 rfl rfl (by decide) m1_218 rfl rfl rfl (Nat.le_of_ble_eq_true rfl) d_Nam_init_110 (w' := wd_Sym cs q284 (fun _ => 0) (fun _ => none) (upd (upd (upd (upd (upd (upd (upd (fun _ => 0) 0 z285) 1 2) 2 0) 3 z262) 4 z289) 5 z282) 6 z288) (fun _ _ => 0) (fun _ _ => none)) (ps' := [wd_Nam cs h (fun k => if k = 0 then q1 else if k = 1 then q4 else q7) (fun _ => none) (upd (upd (fun _ => 0) 3 0) 4 0) na76 (fun _ _ => none), wd_Lst cs q1 (fun _ => 0) (fun k => if k = 0 then (some em) else none) (upd (upd (fun _ => 0) 1 0) 2 0) (fun _ _ => 0) (fun _ _ => none), wd_Lst cs q4 (fun _ => 0) (fun k => if k = 0 then (some lq264) else none) lf266 (fun _ _ => 0) (fun _ _ => none), [(lq264, .inl (cs 12, lc265, .inr (.inr (.inr (.inr lg267)))))], P263, wd_Sym cs q284 (fun _ => 0) (fun _ => none) (upd (upd (upd (upd (upd (upd (upd (fun _ => 0) 0 z285) 1 2) 2 0) 3 z262) 4 z289) 5 z282) 6 z288) (fun _ _ => 0) (fun _ _ => none)]) rfl rfl (fun H locs hw => ?_)
                                                refine lv_iload_n S.x S.b d_Nam_init_113 rfl (lv_at hl 2 rfl) ?_
                                                refine va_getsN S.x S.b hqcG1 hw.2.2 S.own (va_Nw.use rfl (hT.2.2 _ m2_4n rfl)) (fun _ h => h) d_Nam_init_114 ?_
                                                refine lv_iload_n S.x S.b d_Nam_init_117 rfl (lv_at hl 1 rfl) ?_
                                                refine va_ti S.x S.b hqcG2 hw.2.2 (i := z282) (vp_in_iff.mpr (by constructor <;> omega)) rfl d_Nam_init_118 ?_
                                                refine lv_topi (fun z290 ez290 => ?_)
                                                have lz290 := Int32.le_toInt z290
                                                have uz290 := Int32.toInt_lt z290
                                                refine lv_iadd S.x S.b d_Nam_init_119 ?_
                                                refine lv_topi (fun z291 ez291 => ?_)
                                                have lz291 := Int32.le_toInt z291
                                                have uz291 := Int32.toInt_lt z291
                                                refine lv_istore_n (lv' := [(1, .int z291), (3, .ref q284), (2, .int z282), (0, .ref h)]) S.x S.b d_Nam_init_120 rfl hl (by decide) rfl (fun ls hl => ?_)
                                                have hw : pw D A s.heap _ _ ([wd_Nam cs h (fun k => if k = 0 then q1 else if k = 1 then q4 else q7) (fun _ => none) (upd (upd (fun _ => 0) 3 0) 4 0) na76 (fun _ _ => none), wd_Lst cs q1 (fun _ => 0) (fun k => if k = 0 then (some em) else none) (upd (upd (fun _ => 0) 1 0) 2 0) (fun _ _ => 0) (fun _ _ => none), wd_Lst cs q4 (fun _ => 0) (fun k => if k = 0 then (some lq264) else none) lf266 (fun _ _ => 0) (fun _ _ => none), [(lq264, .inl (cs 12, lc265, .inr (.inr (.inr (.inr lg267)))))]] ++ [P263, wd_Sym cs q284 (fun _ => 0) (fun _ => none) (upd (upd (upd (upd (upd (upd (upd (fun _ => 0) 0 z285) 1 2) 2 0) 3 z262) 4 z289) 5 z282) 6 z288) (fun _ _ => 0) (fun _ _ => none)]) := hw.sub [0, 1, 2, 3, 4, 5] rfl rfl
                                                have hw := pw_join hw
                                                have hpnP292 : Pg P263 (P263 ++ wd_Sym cs q284 (fun _ => 0) (fun _ => none) (upd (upd (upd (upd (upd (upd (upd (fun _ => 0) 0 z285) 1 2) 2 0) 3 z262) 4 z289) 5 z282) 6 z288) (fun _ _ => 0) (fun _ _ => none)) := pg_app
                                                have hsnP292 : Sy (P263 ++ wd_Sym cs q284 (fun _ => 0) (fun _ => none) (upd (upd (upd (upd (upd (upd (upd (fun _ => 0) 0 z285) 1 2) 2 0) 3 z262) 4 z289) 5 z282) 6 z288) (fun _ _ => 0) (fun _ _ => none)) (some q284) := sy_last (s := (upd (upd (upd (upd (upd (upd (upd (fun _ => 0) 0 z285) 1 2) 2 0) 3 z262) 4 z289) 5 z282) 6 z288)) rfl
                                                have hfnP292 : Fy (P263 ++ wd_Sym cs q284 (fun _ => 0) (fun _ => none) (upd (upd (upd (upd (upd (upd (upd (fun _ => 0) 0 z285) 1 2) 2 0) 3 z262) 4 z289) 5 z282) 6 z288) (fun _ _ => 0) (fun _ _ => none)) (some q284) := fy_last (s := (upd (upd (upd (upd (upd (upd (upd (fun _ => 0) 0 z285) 1 2) 2 0) 3 z262) 4 z289) 5 z282) 6 z288)) rfl (show 0 ≤ z282.toInt from by first | exact oz_ae352f211f tz282 tz253 tz224 tz195 tz166 tz137 tz108 | omega) (show z282.toInt ≤ 1000000 from by first | exact oz_231bd416e9 tz282 nc254 | omega)
                                                have hgnP292 : Gy (P263 ++ wd_Sym cs q284 (fun _ => 0) (fun _ => none) (upd (upd (upd (upd (upd (upd (upd (fun _ => 0) 0 z285) 1 2) 2 0) 3 z262) 4 z289) 5 z282) 6 z288) (fun _ _ => 0) (fun _ _ => none)) q284 := gy_lastN (s := (upd (upd (upd (upd (upd (upd (upd (fun _ => 0) 0 z285) 1 2) 2 0) 3 z262) 4 z289) 5 z282) 6 z288)) rfl (show 0 ≤ z282.toInt from by first | exact oz_ae352f211f tz282 tz253 tz224 tz195 tz166 tz137 tz108 | omega) (show z282.toInt ≤ 1000000 from by first | exact oz_231bd416e9 tz282 nc254 | omega) (show z285.toInt ≠ 25 from by first | exact oz_20fca602ed tz285 nc283 | omega)
                                                generalize (P263 ++ wd_Sym cs q284 (fun _ => 0) (fun _ => none) (upd (upd (upd (upd (upd (upd (upd (fun _ => 0) 0 z285) 1 2) 2 0) 3 z262) 4 z289) 5 z282) 6 z288) (fun _ _ => 0) (fun _ _ => none)) = P292 at hw hpnP292 hsnP292 hfnP292 hgnP292
                                                have hEl := hpnP292.els hEl; have hEf := hpnP292.elf hEf; have hEg := hpnP292.elg hEg
                                                replace hw : pw D A s.heap _ _ [wd_Nam cs h (fun k => if k = 0 then q1 else if k = 1 then q4 else q7) (fun _ => none) (upd (upd (fun _ => 0) 3 0) 4 0) na76 (fun _ _ => none), wd_Lst cs q1 (fun _ => 0) (fun k => if k = 0 then (some em) else none) (upd (upd (fun _ => 0) 1 0) 2 0) (fun _ _ => 0) (fun _ _ => none), wd_Lst cs q4 (fun _ => 0) (fun k => if k = 0 then (some lq264) else none) lf266 (fun _ _ => 0) (fun _ _ => none), [(lq264, .inl (cs 12, lc265, .inr (.inr (.inr (.inr lg267)))))], P292] := hw
                                                refine lv_aload_n S.x S.b d_Nam_init_121 rfl (lv_at hl 3 rfl) ?_
                                                refine px_get S k_Nam hT hw 0 0 1 (v := .ref q4) rfl rfl rfl (by decide) m2_76 d_Nam_init_122 ?_
                                                refine lv_aload_n S.x S.b d_Nam_init_125 rfl (lv_at hl 1 rfl) ?_
                                                refine pg_calli (pr := [wd_Nam cs h (fun k => if k = 0 then q1 else if k = 1 then q4 else q7) (fun _ => none) (upd (upd (fun _ => 0) 3 0) 4 0) na76 (fun _ _ => none), wd_Lst cs q1 (fun _ => 0) (fun k => if k = 0 then (some em) else none) (upd (upd (fun _ => 0) 1 0) 2 0) (fun _ _ => 0) (fun _ _ => none)]) (px_runV (As := [.ref q284]) (rest := []) S (c_al_add_T l D cs mi q4 lq264 lc265 lf266 lg267 P292  q284 (show lc265 ≤ 1000000 from by first | exact oz_3ea00c64ee e276 e247 e218 e189 e160 e131 e102 | omega) (show 10 ≤ lc265 from by first | exact e277 | omega) (show 0 ≤ (lf266 1).toInt from by first | exact oz_ae352f211f e272 e243 e214 e185 e156 e127 e98 | omega) (show (lf266 1).toInt ≤ (lc265 : Int) from by first | exact e273 | omega) (by first | assumption | exact ElF.els (by assumption)) (by first | assumption | exact sy_none | exact fy_none | exact Fy.sy (by assumption) | exact sy_some (by assumption)) _ _) hT (pr := [wd_Nam cs h (fun k => if k = 0 then q1 else if k = 1 then q4 else q7) (fun _ => none) (upd (upd (fun _ => 0) 3 0) 4 0) na76 (fun _ _ => none), wd_Lst cs q1 (fun _ => 0) (fun k => if k = 0 then (some em) else none) (upd (upd (fun _ => 0) 1 0) 2 0) (fun _ _ => 0) (fun _ _ => none)]) (pcs := [wd_Lst cs q4 (fun _ => 0) (fun k => if k = 0 then (some lq264) else none) lf266 (fun _ _ => 0) (fun _ _ => none), [(lq264, .inl (cs 12, lc265, .inr (.inr (.inr (.inr lg267)))))], P292]) hw (px_X.tot (oX_call (P := (fun A U H => (va_Mi "[Ljava/lang/Object;" mi U))) (pr := [wd_Nam cs h (fun k => if k = 0 then q1 else if k = 1 then q4 else q7) (fun _ => none) (upd (upd (fun _ => 0) 3 0) 4 0) na76 (fun _ _ => none), wd_Lst cs q1 (fun _ => 0) (fun k => if k = 0 then (some em) else none) (upd (upd (fun _ => 0) 1 0) 2 0) (fun _ _ => 0) (fun _ _ => none)]) oG_M hw hA hM)) (px_recv hT hw 2 0 rfl rfl rfl) m2_9 m2_6 m2_7 m2_8 m1_10 q_Lst_add2 ⟨Nat.le_of_ble_eq_true rfl, Nat.le_of_ble_eq_true rfl⟩ hl.1 rfl (Nat.le_of_ble_eq_true rfl) d_Nam_init_126 ⟨show ((((((((((((((((((0 + 1) + 1) + 1) + 1) + k96) + 1) + k125) + 1) + k154) + 1) + k183) + 1) + k212) + 1) + k241) + 1) + k270) + 1) + (1) ≤ 6000 from by first | with_reducible rfl | with_reducible assumption | omega, show ((((((((((((((((((0 + 3) + 3) + 2048) + 7) + n97) + 7) + n126) + 7) + n155) + 7) + n184) + 7) + n213) + 7) + n242) + 7) + n271) + 7) + (4 * lc265 + 40) ≤ 60000 from by first | with_reducible rfl | with_reducible assumption | omega⟩) hw hA (fun v298 p297 k299 n300 H locs hp297 hw => ?_)
                                                dsimp only at hp297
                                                obtain ⟨lq293, lc294, lf295, lg296, rfl, e301, e302, e303, e304, e305, e306, e307, e308, e309, e310⟩ := hp297
                                                replace e301 : (lf295 1).toInt = (lf266 1).toInt + 1 := e301
                                                replace e302 : (lf295 1).toInt ≤ (lc294 : Int) := e302
                                                replace e303 : AddL (lf266 1) lg267 lg296 q284 := e303
                                                replace e304 : (lc265 : Int) ≤ (lc294 : Int) := e304
                                                replace e305 : (lc294 : Int) ≤ 2 * (lc265 : Int) + 10 := e305
                                                replace e306 : 10 ≤ lc294 := e306
                                                replace e307 : Lcap lc265 (lf266 1) lc294 := e307
                                                replace e308 : k299 ≤ 1 := e308
                                                replace e309 : (k299 : Int) ≤ (lc294 : Int) - (lc265 : Int) := e309
                                                replace e310 : (n300 : Int) ≤ 4 * ((lc294 : Int) - (lc265 : Int)) := e310
                                                replace hw : pw D A s.heap H locs [wd_Nam cs h (fun k => if k = 0 then q1 else if k = 1 then q4 else q7) (fun _ => none) (upd (upd (fun _ => 0) 3 0) 4 0) na76 (fun _ _ => none), wd_Lst cs q1 (fun _ => 0) (fun k => if k = 0 then (some em) else none) (upd (upd (fun _ => 0) 1 0) 2 0) (fun _ _ => 0) (fun _ _ => none), wd_Lst cs q4 (fun _ => 0) (fun k => if k = 0 then (some lq293) else none) lf295 (fun _ _ => 0) (fun _ _ => none), [(lq293, .inl (cs 12, lc294, .inr (.inr (.inr (.inr lg296)))))], P292] := hw
                                                have lv298 := Int32.le_toInt v298
                                                have uv298 := Int32.toInt_lt v298
                                                have hlcb310 := Lcap.le (B := 5000) (by assumption) (by omega) (by omega); have helf := AddL.elf (n' := (lf295 1)) (by assumption) hEf (by assumption) (by omega); have helg := AddL.elg (n' := (lf295 1)) (by assumption) hEg (by assumption) (by omega); have hEf := helf; have hEg := helg; clear helf helg
                                                refine lv_pop S.x S.b d_Nam_init_129 rfl ?_
                                                obtain ⟨z311, ez311⟩ : ∃ y : Int32, y = z282 + 1 := ⟨_, rfl⟩
                                                have tz311 : z311.toInt = (z282.toInt + 1 + 2147483648) % 4294967296 - 2147483648 := by rw [ez311]; exact i_add z282 1
                                                have lz311 := Int32.le_toInt z311
                                                have uz311 := Int32.toInt_lt z311
                                                try replace tz311 : z311.toInt = z282.toInt + 1 := by omega
                                                refine lv_iinc (v := z311) (lv' := [(2, .int z311), (1, .int z291), (3, .ref q284), (0, .ref h)]) S.x S.b d_Nam_init_130 hl (k := 2) rfl (by rw [ez311]; rfl) (by decide) rfl (fun ls hl => ?_)
                                                refine lv_goto (tgt := 66) S.x S.b d_Nam_init_133 (by decide) ?_
                                                refine lv_iload_n S.x S.b d_Nam_init_66 rfl (lv_at hl 0 rfl) ?_
                                                refine lv_bipush (v := 10) S.x S.b d_Nam_init_67 (by decide) ?_
                                                refine lv_icmp_ge (tgt := 136) S.x S.b d_Nam_init_69 (by decide) (fun c312 => ?_) (fun c312 => ?_)
                                                · have nc312 : (10 : Int) ≤ z311.toInt := (i_le (x := 10) (y := z311)).mp c312
                                                  exfalso
                                                  omega
                                                · have nc312 : ¬ (10 : Int) ≤ z311.toInt := mt (i_le (x := 10) (y := z311)).mpr c312
                                                  refine px_new S k_Sym hT hw hA m1_202 m1_203 m1_11 (fs := [.int 0, .int 0, .int 0, .int 0, .int 0, .int 0, .int 0]) (by decide +kernel) (show (((((((((((((((((((0 + 1) + 1) + 1) + 1) + k96) + 1) + k125) + 1) + k154) + 1) + k183) + 1) + k212) + 1) + k241) + 1) + k270) + 1) + k299) + 1 ≤ 6000 from by first | exact oz_0f19472ff7 e105 e134 e163 e192 e221 e250 e279 e308 | omega) (show (((((((((((((((((((0 + 3) + 3) + 2048) + 7) + n97) + 7) + n126) + 7) + n155) + 7) + n184) + 7) + n213) + 7) + n242) + 7) + n271) + 7) + n300) + 7 ≤ 60000 from by first | with_reducible rfl | with_reducible assumption | omega) d_Nam_init_72 (fun q313 H hw => ?_)
                                                  replace hw : pw D A s.heap H _ [wd_Nam cs h (fun k => if k = 0 then q1 else if k = 1 then q4 else q7) (fun _ => none) (upd (upd (fun _ => 0) 3 0) 4 0) na76 (fun _ _ => none), wd_Lst cs q1 (fun _ => 0) (fun k => if k = 0 then (some em) else none) (upd (upd (fun _ => 0) 1 0) 2 0) (fun _ _ => 0) (fun _ _ => none), wd_Lst cs q4 (fun _ => 0) (fun k => if k = 0 then (some lq293) else none) lf295 (fun _ _ => 0) (fun _ _ => none), [(lq293, .inl (cs 12, lc294, .inr (.inr (.inr (.inr lg296)))))], P292, [(q313, .inr (3, [.int 0, .int 0, .int 0, .int 0, .int 0, .int 0, .int 0]))]] := hw
                                                  refine lv_dup S.x S.b d_Nam_init_75 rfl ?_
                                                  refine lv_bipush (v := 15) S.x S.b d_Nam_init_76 (by decide) ?_
                                                  refine lv_iload_n S.x S.b d_Nam_init_78 rfl (lv_at hl 0 rfl) ?_
                                                  refine lv_iadd S.x S.b d_Nam_init_79 ?_
                                                  refine lv_topi (fun z314 ez314 => ?_)
                                                  have tz314 : z314.toInt = ((15 : Int) + z311.toInt + 2147483648) % 4294967296 - 2147483648 := by rw [ez314]; exact i_add 15 z311
                                                  have lz314 := Int32.le_toInt z314
                                                  have uz314 := Int32.toInt_lt z314
                                                  try replace tz314 : z314.toInt = (15 : Int) + z311.toInt := by omega
                                                  refine lv_iconst (v := 2) S.x S.b d_Nam_init_80 (by decide) ?_
                                                  refine px_callv (pr := [wd_Nam cs h (fun k => if k = 0 then q1 else if k = 1 then q4 else q7) (fun _ => none) (upd (upd (fun _ => 0) 3 0) 4 0) na76 (fun _ _ => none), wd_Lst cs q1 (fun _ => 0) (fun k => if k = 0 then (some em) else none) (upd (upd (fun _ => 0) 1 0) 2 0) (fun _ _ => 0) (fun _ _ => none), wd_Lst cs q4 (fun _ => 0) (fun k => if k = 0 then (some lq293) else none) lf295 (fun _ _ => 0) (fun _ _ => none), [(lq293, .inl (cs 12, lc294, .inr (.inr (.inr (.inr lg296)))))], P292]) (px_runI (As := [.int z314, .int 2]) (rest := [.ref q313]) S (c_Sym_init l D cs q313 z314 2 _) hT (pr := [wd_Nam cs h (fun k => if k = 0 then q1 else if k = 1 then q4 else q7) (fun _ => none) (upd (upd (fun _ => 0) 3 0) 4 0) na76 (fun _ _ => none), wd_Lst cs q1 (fun _ => 0) (fun k => if k = 0 then (some em) else none) (upd (upd (fun _ => 0) 1 0) 2 0) (fun _ _ => 0) (fun _ _ => none), wd_Lst cs q4 (fun _ => 0) (fun k => if k = 0 then (some lq293) else none) lf295 (fun _ _ => 0) (fun _ _ => none), [(lq293, .inl (cs 12, lc294, .inr (.inr (.inr (.inr lg296)))))], P292]) (pcs := [[(q313, .inr (3, [.int 0, .int 0, .int 0, .int 0, .int 0, .int 0, .int 0]))]]) hw px_X.tt m1_206 m1_204 m1_205 m1_11 rfl q_Sym_init ⟨Nat.le_of_ble_eq_true rfl, Nat.le_of_ble_eq_true rfl⟩ hl.1 rfl (Nat.le_of_ble_eq_true rfl) d_Nam_init_81 ⟨show ((((((((((((((((((((0 + 1) + 1) + 1) + 1) + k96) + 1) + k125) + 1) + k154) + 1) + k183) + 1) + k212) + 1) + k241) + 1) + k270) + 1) + k299) + 1) + 0 ≤ 6000 from by first | with_reducible rfl | with_reducible assumption | omega, show ((((((((((((((((((((0 + 3) + 3) + 2048) + 7) + n97) + 7) + n126) + 7) + n155) + 7) + n184) + 7) + n213) + 7) + n242) + 7) + n271) + 7) + n300) + 7) + 0 ≤ 60000 from by first | with_reducible rfl | with_reducible assumption | omega⟩) hw hA (fun p315 H locs hp315 hw => ?_)
                                                  subst hp315
                                                  replace hw : pw D A s.heap H locs [wd_Nam cs h (fun k => if k = 0 then q1 else if k = 1 then q4 else q7) (fun _ => none) (upd (upd (fun _ => 0) 3 0) 4 0) na76 (fun _ _ => none), wd_Lst cs q1 (fun _ => 0) (fun k => if k = 0 then (some em) else none) (upd (upd (fun _ => 0) 1 0) 2 0) (fun _ _ => 0) (fun _ _ => none), wd_Lst cs q4 (fun _ => 0) (fun k => if k = 0 then (some lq293) else none) lf295 (fun _ _ => 0) (fun _ _ => none), [(lq293, .inl (cs 12, lc294, .inr (.inr (.inr (.inr lg296)))))], P292, wd_Sym cs q313 (fun _ => 0) (fun _ => none) (upd (upd (upd (upd (upd (upd (upd (fun _ => 0) 0 z314) 1 2) 2 0) 3 0) 4 0) 5 0) 6 0) (fun _ _ => 0) (fun _ _ => none)] := hw
                                                  refine lv_astore_n (lv' := [(3, .ref q313), (2, .int z311), (1, .int z291), (0, .ref h)]) S.x S.b d_Nam_init_84 rfl hl (by decide) rfl (fun ls hl => ?_)
                                                  refine lv_aload_n S.x S.b d_Nam_init_85 rfl (lv_at hl 0 rfl) ?_
                                                  refine lv_iload_n S.x S.b d_Nam_init_86 rfl (lv_at hl 1 rfl) ?_
                                                  refine px_put S k_Sym hT hw 5 0 5 rfl rfl (by decide) m1_221 rfl rfl rfl (Nat.le_of_ble_eq_true rfl) d_Nam_init_87 (w' := wd_Sym cs q313 (fun _ => 0) (fun _ => none) (upd (upd (upd (upd (upd (upd (upd (fun _ => 0) 0 z314) 1 2) 2 0) 3 0) 4 0) 5 z311) 6 0) (fun _ _ => 0) (fun _ _ => none)) (ps' := [wd_Nam cs h (fun k => if k = 0 then q1 else if k = 1 then q4 else q7) (fun _ => none) (upd (upd (fun _ => 0) 3 0) 4 0) na76 (fun _ _ => none), wd_Lst cs q1 (fun _ => 0) (fun k => if k = 0 then (some em) else none) (upd (upd (fun _ => 0) 1 0) 2 0) (fun _ _ => 0) (fun _ _ => none), wd_Lst cs q4 (fun _ => 0) (fun k => if k = 0 then (some lq293) else none) lf295 (fun _ _ => 0) (fun _ _ => none), [(lq293, .inl (cs 12, lc294, .inr (.inr (.inr (.inr lg296)))))], P292, wd_Sym cs q313 (fun _ => 0) (fun _ => none) (upd (upd (upd (upd (upd (upd (upd (fun _ => 0) 0 z314) 1 2) 2 0) 3 0) 4 0) 5 z311) 6 0) (fun _ _ => 0) (fun _ _ => none)]) rfl rfl (fun H locs hw => ?_)
                                                  refine lv_aload_n S.x S.b d_Nam_init_90 rfl (lv_at hl 0 rfl) ?_
                                                  refine va_getsN S.x S.b hqtG1 hw.2.2 S.own (va_Nw.use rfl (hT.2.2 _ m2_2n rfl)) (fun _ h => h) d_Nam_init_91 ?_
                                                  refine lv_iload_n S.x S.b d_Nam_init_94 rfl (lv_at hl 1 rfl) ?_
                                                  refine va_ti S.x S.b hqtG2 hw.2.2 (i := z311) (vp_in_iff.mpr (by constructor <;> omega)) rfl d_Nam_init_95 ?_
                                                  refine lv_topi (fun z317 ez317 => ?_)
                                                  have lz317 := Int32.le_toInt z317
                                                  have uz317 := Int32.toInt_lt z317
                                                  refine px_put S k_Sym hT hw 5 0 6 rfl rfl (by decide) m1_224 rfl rfl rfl (Nat.le_of_ble_eq_true rfl) d_Nam_init_96 (w' := wd_Sym cs q313 (fun _ => 0) (fun _ => none) (upd (upd (upd (upd (upd (upd (upd (fun _ => 0) 0 z314) 1 2) 2 0) 3 0) 4 0) 5 z311) 6 z317) (fun _ _ => 0) (fun _ _ => none)) (ps' := [wd_Nam cs h (fun k => if k = 0 then q1 else if k = 1 then q4 else q7) (fun _ => none) (upd (upd (fun _ => 0) 3 0) 4 0) na76 (fun _ _ => none), wd_Lst cs q1 (fun _ => 0) (fun k => if k = 0 then (some em) else none) (upd (upd (fun _ => 0) 1 0) 2 0) (fun _ _ => 0) (fun _ _ => none), wd_Lst cs q4 (fun _ => 0) (fun k => if k = 0 then (some lq293) else none) lf295 (fun _ _ => 0) (fun _ _ => none), [(lq293, .inl (cs 12, lc294, .inr (.inr (.inr (.inr lg296)))))], P292, wd_Sym cs q313 (fun _ => 0) (fun _ => none) (upd (upd (upd (upd (upd (upd (upd (fun _ => 0) 0 z314) 1 2) 2 0) 3 0) 4 0) 5 z311) 6 z317) (fun _ _ => 0) (fun _ _ => none)]) rfl rfl (fun H locs hw => ?_)
                                                  refine lv_aload_n S.x S.b d_Nam_init_99 rfl (lv_at hl 0 rfl) ?_
                                                  refine lv_iload_n S.x S.b d_Nam_init_100 rfl (lv_at hl 2 rfl) ?_
                                                  refine px_put S k_Sym hT hw 5 0 3 rfl rfl (by decide) m1_215 rfl rfl rfl (Nat.le_of_ble_eq_true rfl) d_Nam_init_101 (w' := wd_Sym cs q313 (fun _ => 0) (fun _ => none) (upd (upd (upd (upd (upd (upd (upd (fun _ => 0) 0 z314) 1 2) 2 0) 3 z291) 4 0) 5 z311) 6 z317) (fun _ _ => 0) (fun _ _ => none)) (ps' := [wd_Nam cs h (fun k => if k = 0 then q1 else if k = 1 then q4 else q7) (fun _ => none) (upd (upd (fun _ => 0) 3 0) 4 0) na76 (fun _ _ => none), wd_Lst cs q1 (fun _ => 0) (fun k => if k = 0 then (some em) else none) (upd (upd (fun _ => 0) 1 0) 2 0) (fun _ _ => 0) (fun _ _ => none), wd_Lst cs q4 (fun _ => 0) (fun k => if k = 0 then (some lq293) else none) lf295 (fun _ _ => 0) (fun _ _ => none), [(lq293, .inl (cs 12, lc294, .inr (.inr (.inr (.inr lg296)))))], P292, wd_Sym cs q313 (fun _ => 0) (fun _ => none) (upd (upd (upd (upd (upd (upd (upd (fun _ => 0) 0 z314) 1 2) 2 0) 3 z291) 4 0) 5 z311) 6 z317) (fun _ _ => 0) (fun _ _ => none)]) rfl rfl (fun H locs hw => ?_)
                                                  refine lv_aload_n S.x S.b d_Nam_init_104 rfl (lv_at hl 0 rfl) ?_
                                                  refine va_getsN S.x S.b hqcG1 hw.2.2 S.own (va_Nw.use rfl (hT.2.2 _ m2_4n rfl)) (fun _ h => h) d_Nam_init_105 ?_
                                                  refine lv_iload_n S.x S.b d_Nam_init_108 rfl (lv_at hl 1 rfl) ?_
                                                  refine va_ti S.x S.b hqcG2 hw.2.2 (i := z311) (vp_in_iff.mpr (by constructor <;> omega)) rfl d_Nam_init_109 ?_
                                                  refine lv_topi (fun z318 ez318 => ?_)
                                                  have lz318 := Int32.le_toInt z318
                                                  have uz318 := Int32.toInt_lt z318
                                                  refine px_put S k_Sym hT hw 5 0 4 rfl rfl (by decide) m1_218 rfl rfl rfl (Nat.le_of_ble_eq_true rfl) d_Nam_init_110 (w' := wd_Sym cs q313 (fun _ => 0) (fun _ => none) (upd (upd (upd (upd (upd (upd (upd (fun _ => 0) 0 z314) 1 2) 2 0) 3 z291) 4 z318) 5 z311) 6 z317) (fun _ _ => 0) (fun _ _ => none)) (ps' := [wd_Nam cs h (fun k => if k = 0 then q1 else if k = 1 then q4 else q7) (fun _ => none) (upd (upd (fun _ => 0) 3 0) 4 0) na76 (fun _ _ => none), wd_Lst cs q1 (fun _ => 0) (fun k => if k = 0 then (some em) else none) (upd (upd (fun _ => 0) 1 0) 2 0) (fun _ _ => 0) (fun _ _ => none), wd_Lst cs q4 (fun _ => 0) (fun k => if k = 0 then (some lq293) else none) lf295 (fun _ _ => 0) (fun _ _ => none), [(lq293, .inl (cs 12, lc294, .inr (.inr (.inr (.inr lg296)))))], P292, wd_Sym cs q313 (fun _ => 0) (fun _ => none) (upd (upd (upd (upd (upd (upd (upd (fun _ => 0) 0 z314) 1 2) 2 0) 3 z291) 4 z318) 5 z311) 6 z317) (fun _ _ => 0) (fun _ _ => none)]) rfl rfl (fun H locs hw => ?_)
                                                  refine lv_iload_n S.x S.b d_Nam_init_113 rfl (lv_at hl 2 rfl) ?_
                                                  refine va_getsN S.x S.b hqcG1 hw.2.2 S.own (va_Nw.use rfl (hT.2.2 _ m2_4n rfl)) (fun _ h => h) d_Nam_init_114 ?_
                                                  refine lv_iload_n S.x S.b d_Nam_init_117 rfl (lv_at hl 1 rfl) ?_
                                                  refine va_ti S.x S.b hqcG2 hw.2.2 (i := z311) (vp_in_iff.mpr (by constructor <;> omega)) rfl d_Nam_init_118 ?_
                                                  refine lv_topi (fun z319 ez319 => ?_)
                                                  have lz319 := Int32.le_toInt z319
                                                  have uz319 := Int32.toInt_lt z319
                                                  refine lv_iadd S.x S.b d_Nam_init_119 ?_
                                                  refine lv_topi (fun z320 ez320 => ?_)
                                                  have lz320 := Int32.le_toInt z320
                                                  have uz320 := Int32.toInt_lt z320
                                                  refine lv_istore_n (lv' := [(1, .int z320), (3, .ref q313), (2, .int z311), (0, .ref h)]) S.x S.b d_Nam_init_120 rfl hl (by decide) rfl (fun ls hl => ?_)
                                                  have hw : pw D A s.heap _ _ ([wd_Nam cs h (fun k => if k = 0 then q1 else if k = 1 then q4 else q7) (fun _ => none) (upd (upd (fun _ => 0) 3 0) 4 0) na76 (fun _ _ => none), wd_Lst cs q1 (fun _ => 0) (fun k => if k = 0 then (some em) else none) (upd (upd (fun _ => 0) 1 0) 2 0) (fun _ _ => 0) (fun _ _ => none), wd_Lst cs q4 (fun _ => 0) (fun k => if k = 0 then (some lq293) else none) lf295 (fun _ _ => 0) (fun _ _ => none), [(lq293, .inl (cs 12, lc294, .inr (.inr (.inr (.inr lg296)))))]] ++ [P292, wd_Sym cs q313 (fun _ => 0) (fun _ => none) (upd (upd (upd (upd (upd (upd (upd (fun _ => 0) 0 z314) 1 2) 2 0) 3 z291) 4 z318) 5 z311) 6 z317) (fun _ _ => 0) (fun _ _ => none)]) := hw.sub [0, 1, 2, 3, 4, 5] rfl rfl
                                                  have hw := pw_join hw
                                                  have hpnP321 : Pg P292 (P292 ++ wd_Sym cs q313 (fun _ => 0) (fun _ => none) (upd (upd (upd (upd (upd (upd (upd (fun _ => 0) 0 z314) 1 2) 2 0) 3 z291) 4 z318) 5 z311) 6 z317) (fun _ _ => 0) (fun _ _ => none)) := pg_app
                                                  have hsnP321 : Sy (P292 ++ wd_Sym cs q313 (fun _ => 0) (fun _ => none) (upd (upd (upd (upd (upd (upd (upd (fun _ => 0) 0 z314) 1 2) 2 0) 3 z291) 4 z318) 5 z311) 6 z317) (fun _ _ => 0) (fun _ _ => none)) (some q313) := sy_last (s := (upd (upd (upd (upd (upd (upd (upd (fun _ => 0) 0 z314) 1 2) 2 0) 3 z291) 4 z318) 5 z311) 6 z317)) rfl
                                                  have hfnP321 : Fy (P292 ++ wd_Sym cs q313 (fun _ => 0) (fun _ => none) (upd (upd (upd (upd (upd (upd (upd (fun _ => 0) 0 z314) 1 2) 2 0) 3 z291) 4 z318) 5 z311) 6 z317) (fun _ _ => 0) (fun _ _ => none)) (some q313) := fy_last (s := (upd (upd (upd (upd (upd (upd (upd (fun _ => 0) 0 z314) 1 2) 2 0) 3 z291) 4 z318) 5 z311) 6 z317)) rfl (show 0 ≤ z311.toInt from by first | exact oz_0b8b4fb05c tz311 tz282 tz253 tz224 tz195 tz166 tz137 tz108 | omega) (show z311.toInt ≤ 1000000 from by first | exact oz_231bd416e9 tz311 nc283 | omega)
                                                  have hgnP321 : Gy (P292 ++ wd_Sym cs q313 (fun _ => 0) (fun _ => none) (upd (upd (upd (upd (upd (upd (upd (fun _ => 0) 0 z314) 1 2) 2 0) 3 z291) 4 z318) 5 z311) 6 z317) (fun _ _ => 0) (fun _ _ => none)) q313 := gy_lastN (s := (upd (upd (upd (upd (upd (upd (upd (fun _ => 0) 0 z314) 1 2) 2 0) 3 z291) 4 z318) 5 z311) 6 z317)) rfl (show 0 ≤ z311.toInt from by first | exact oz_0b8b4fb05c tz311 tz282 tz253 tz224 tz195 tz166 tz137 tz108 | omega) (show z311.toInt ≤ 1000000 from by first | exact oz_231bd416e9 tz311 nc283 | omega) (show z314.toInt ≠ 25 from by first | exact oz_20fca602ed tz314 nc312 | omega)
                                                  generalize (P292 ++ wd_Sym cs q313 (fun _ => 0) (fun _ => none) (upd (upd (upd (upd (upd (upd (upd (fun _ => 0) 0 z314) 1 2) 2 0) 3 z291) 4 z318) 5 z311) 6 z317) (fun _ _ => 0) (fun _ _ => none)) = P321 at hw hpnP321 hsnP321 hfnP321 hgnP321
                                                  have hEl := hpnP321.els hEl; have hEf := hpnP321.elf hEf; have hEg := hpnP321.elg hEg
                                                  replace hw : pw D A s.heap _ _ [wd_Nam cs h (fun k => if k = 0 then q1 else if k = 1 then q4 else q7) (fun _ => none) (upd (upd (fun _ => 0) 3 0) 4 0) na76 (fun _ _ => none), wd_Lst cs q1 (fun _ => 0) (fun k => if k = 0 then (some em) else none) (upd (upd (fun _ => 0) 1 0) 2 0) (fun _ _ => 0) (fun _ _ => none), wd_Lst cs q4 (fun _ => 0) (fun k => if k = 0 then (some lq293) else none) lf295 (fun _ _ => 0) (fun _ _ => none), [(lq293, .inl (cs 12, lc294, .inr (.inr (.inr (.inr lg296)))))], P321] := hw
                                                  refine lv_aload_n S.x S.b d_Nam_init_121 rfl (lv_at hl 3 rfl) ?_
                                                  refine px_get S k_Nam hT hw 0 0 1 (v := .ref q4) rfl rfl rfl (by decide) m2_76 d_Nam_init_122 ?_
                                                  refine lv_aload_n S.x S.b d_Nam_init_125 rfl (lv_at hl 1 rfl) ?_
                                                  refine pg_calli (pr := [wd_Nam cs h (fun k => if k = 0 then q1 else if k = 1 then q4 else q7) (fun _ => none) (upd (upd (fun _ => 0) 3 0) 4 0) na76 (fun _ _ => none), wd_Lst cs q1 (fun _ => 0) (fun k => if k = 0 then (some em) else none) (upd (upd (fun _ => 0) 1 0) 2 0) (fun _ _ => 0) (fun _ _ => none)]) (px_runV (As := [.ref q313]) (rest := []) S (c_al_add_T l D cs mi q4 lq293 lc294 lf295 lg296 P321  q313 (show lc294 ≤ 1000000 from by first | exact oz_821cda5014 e305 e276 e247 e218 e189 e160 e131 e102 | omega) (show 10 ≤ lc294 from by first | exact e306 | omega) (show 0 ≤ (lf295 1).toInt from by first | exact oz_0b8b4fb05c e301 e272 e243 e214 e185 e156 e127 e98 | omega) (show (lf295 1).toInt ≤ (lc294 : Int) from by first | exact e302 | omega) (by first | assumption | exact ElF.els (by assumption)) (by first | assumption | exact sy_none | exact fy_none | exact Fy.sy (by assumption) | exact sy_some (by assumption)) _ _) hT (pr := [wd_Nam cs h (fun k => if k = 0 then q1 else if k = 1 then q4 else q7) (fun _ => none) (upd (upd (fun _ => 0) 3 0) 4 0) na76 (fun _ _ => none), wd_Lst cs q1 (fun _ => 0) (fun k => if k = 0 then (some em) else none) (upd (upd (fun _ => 0) 1 0) 2 0) (fun _ _ => 0) (fun _ _ => none)]) (pcs := [wd_Lst cs q4 (fun _ => 0) (fun k => if k = 0 then (some lq293) else none) lf295 (fun _ _ => 0) (fun _ _ => none), [(lq293, .inl (cs 12, lc294, .inr (.inr (.inr (.inr lg296)))))], P321]) hw (px_X.tot (oX_call (P := (fun A U H => (va_Mi "[Ljava/lang/Object;" mi U))) (pr := [wd_Nam cs h (fun k => if k = 0 then q1 else if k = 1 then q4 else q7) (fun _ => none) (upd (upd (fun _ => 0) 3 0) 4 0) na76 (fun _ _ => none), wd_Lst cs q1 (fun _ => 0) (fun k => if k = 0 then (some em) else none) (upd (upd (fun _ => 0) 1 0) 2 0) (fun _ _ => 0) (fun _ _ => none)]) oG_M hw hA hM)) (px_recv hT hw 2 0 rfl rfl rfl) m2_9 m2_6 m2_7 m2_8 m1_10 q_Lst_add2 ⟨Nat.le_of_ble_eq_true rfl, Nat.le_of_ble_eq_true rfl⟩ hl.1 rfl (Nat.le_of_ble_eq_true rfl) d_Nam_init_126 ⟨show ((((((((((((((((((((0 + 1) + 1) + 1) + 1) + k96) + 1) + k125) + 1) + k154) + 1) + k183) + 1) + k212) + 1) + k241) + 1) + k270) + 1) + k299) + 1) + (1) ≤ 6000 from by first | with_reducible rfl | with_reducible assumption | omega, show ((((((((((((((((((((0 + 3) + 3) + 2048) + 7) + n97) + 7) + n126) + 7) + n155) + 7) + n184) + 7) + n213) + 7) + n242) + 7) + n271) + 7) + n300) + 7) + (4 * lc294 + 40) ≤ 60000 from by first | with_reducible rfl | with_reducible assumption | omega⟩) hw hA (fun v327 p326 k328 n329 H locs hp326 hw => ?_)
                                                  dsimp only at hp326
                                                  obtain ⟨lq322, lc323, lf324, lg325, rfl, e330, e331, e332, e333, e334, e335, e336, e337, e338, e339⟩ := hp326
                                                  replace e330 : (lf324 1).toInt = (lf295 1).toInt + 1 := e330
                                                  replace e331 : (lf324 1).toInt ≤ (lc323 : Int) := e331
                                                  replace e332 : AddL (lf295 1) lg296 lg325 q313 := e332
                                                  replace e333 : (lc294 : Int) ≤ (lc323 : Int) := e333
                                                  replace e334 : (lc323 : Int) ≤ 2 * (lc294 : Int) + 10 := e334
                                                  replace e335 : 10 ≤ lc323 := e335
                                                  replace e336 : Lcap lc294 (lf295 1) lc323 := e336
                                                  replace e337 : k328 ≤ 1 := e337
                                                  replace e338 : (k328 : Int) ≤ (lc323 : Int) - (lc294 : Int) := e338
                                                  replace e339 : (n329 : Int) ≤ 4 * ((lc323 : Int) - (lc294 : Int)) := e339
                                                  replace hw : pw D A s.heap H locs [wd_Nam cs h (fun k => if k = 0 then q1 else if k = 1 then q4 else q7) (fun _ => none) (upd (upd (fun _ => 0) 3 0) 4 0) na76 (fun _ _ => none), wd_Lst cs q1 (fun _ => 0) (fun k => if k = 0 then (some em) else none) (upd (upd (fun _ => 0) 1 0) 2 0) (fun _ _ => 0) (fun _ _ => none), wd_Lst cs q4 (fun _ => 0) (fun k => if k = 0 then (some lq322) else none) lf324 (fun _ _ => 0) (fun _ _ => none), [(lq322, .inl (cs 12, lc323, .inr (.inr (.inr (.inr lg325)))))], P321] := hw
                                                  have lv327 := Int32.le_toInt v327
                                                  have uv327 := Int32.toInt_lt v327
                                                  have hlcb339 := Lcap.le (B := 5000) (by assumption) (by omega) (by omega); have helf := AddL.elf (n' := (lf324 1)) (by assumption) hEf (by assumption) (by omega); have helg := AddL.elg (n' := (lf324 1)) (by assumption) hEg (by assumption) (by omega); have hEf := helf; have hEg := helg; clear helf helg
                                                  refine lv_pop S.x S.b d_Nam_init_129 rfl ?_
                                                  obtain ⟨z340, ez340⟩ : ∃ y : Int32, y = z311 + 1 := ⟨_, rfl⟩
                                                  have tz340 : z340.toInt = (z311.toInt + 1 + 2147483648) % 4294967296 - 2147483648 := by rw [ez340]; exact i_add z311 1
                                                  have lz340 := Int32.le_toInt z340
                                                  have uz340 := Int32.toInt_lt z340
                                                  try replace tz340 : z340.toInt = z311.toInt + 1 := by omega
                                                  refine lv_iinc (v := z340) (lv' := [(2, .int z340), (1, .int z320), (3, .ref q313), (0, .ref h)]) S.x S.b d_Nam_init_130 hl (k := 2) rfl (by rw [ez340]; rfl) (by decide) rfl (fun ls hl => ?_)
                                                  refine lv_goto (tgt := 66) S.x S.b d_Nam_init_133 (by decide) ?_
                                                  refine lv_iload_n S.x S.b d_Nam_init_66 rfl (lv_at hl 0 rfl) ?_
                                                  refine lv_bipush (v := 10) S.x S.b d_Nam_init_67 (by decide) ?_
                                                  refine lv_icmp_ge (tgt := 136) S.x S.b d_Nam_init_69 (by decide) (fun c341 => ?_) (fun c341 => ?_)
                                                  · have nc341 : (10 : Int) ≤ z340.toInt := (i_le (x := 10) (y := z340)).mp c341
                                                    exfalso
                                                    omega
                                                  · have nc341 : ¬ (10 : Int) ≤ z340.toInt := mt (i_le (x := 10) (y := z340)).mpr c341
                                                    refine px_new S k_Sym hT hw hA m1_202 m1_203 m1_11 (fs := [.int 0, .int 0, .int 0, .int 0, .int 0, .int 0, .int 0]) (by decide +kernel) (show (((((((((((((((((((((0 + 1) + 1) + 1) + 1) + k96) + 1) + k125) + 1) + k154) + 1) + k183) + 1) + k212) + 1) + k241) + 1) + k270) + 1) + k299) + 1) + k328) + 1 ≤ 6000 from by first | exact oz_c62e74950e e105 e134 e163 e192 e221 e250 e279 e308 e337 | omega) (show (((((((((((((((((((((0 + 3) + 3) + 2048) + 7) + n97) + 7) + n126) + 7) + n155) + 7) + n184) + 7) + n213) + 7) + n242) + 7) + n271) + 7) + n300) + 7) + n329) + 7 ≤ 60000 from by first | with_reducible rfl | with_reducible assumption | omega) d_Nam_init_72 (fun q342 H hw => ?_)
                                                    replace hw : pw D A s.heap H _ [wd_Nam cs h (fun k => if k = 0 then q1 else if k = 1 then q4 else q7) (fun _ => none) (upd (upd (fun _ => 0) 3 0) 4 0) na76 (fun _ _ => none), wd_Lst cs q1 (fun _ => 0) (fun k => if k = 0 then (some em) else none) (upd (upd (fun _ => 0) 1 0) 2 0) (fun _ _ => 0) (fun _ _ => none), wd_Lst cs q4 (fun _ => 0) (fun k => if k = 0 then (some lq322) else none) lf324 (fun _ _ => 0) (fun _ _ => none), [(lq322, .inl (cs 12, lc323, .inr (.inr (.inr (.inr lg325)))))], P321, [(q342, .inr (3, [.int 0, .int 0, .int 0, .int 0, .int 0, .int 0, .int 0]))]] := hw
                                                    refine lv_dup S.x S.b d_Nam_init_75 rfl ?_
                                                    refine lv_bipush (v := 15) S.x S.b d_Nam_init_76 (by decide) ?_
                                                    refine lv_iload_n S.x S.b d_Nam_init_78 rfl (lv_at hl 0 rfl) ?_
                                                    refine lv_iadd S.x S.b d_Nam_init_79 ?_
                                                    refine lv_topi (fun z343 ez343 => ?_)
                                                    have tz343 : z343.toInt = ((15 : Int) + z340.toInt + 2147483648) % 4294967296 - 2147483648 := by rw [ez343]; exact i_add 15 z340
                                                    have lz343 := Int32.le_toInt z343
                                                    have uz343 := Int32.toInt_lt z343
                                                    try replace tz343 : z343.toInt = (15 : Int) + z340.toInt := by omega
                                                    refine lv_iconst (v := 2) S.x S.b d_Nam_init_80 (by decide) ?_
                                                    refine px_callv (pr := [wd_Nam cs h (fun k => if k = 0 then q1 else if k = 1 then q4 else q7) (fun _ => none) (upd (upd (fun _ => 0) 3 0) 4 0) na76 (fun _ _ => none), wd_Lst cs q1 (fun _ => 0) (fun k => if k = 0 then (some em) else none) (upd (upd (fun _ => 0) 1 0) 2 0) (fun _ _ => 0) (fun _ _ => none), wd_Lst cs q4 (fun _ => 0) (fun k => if k = 0 then (some lq322) else none) lf324 (fun _ _ => 0) (fun _ _ => none), [(lq322, .inl (cs 12, lc323, .inr (.inr (.inr (.inr lg325)))))], P321]) (px_runI (As := [.int z343, .int 2]) (rest := [.ref q342]) S (c_Sym_init l D cs q342 z343 2 _) hT (pr := [wd_Nam cs h (fun k => if k = 0 then q1 else if k = 1 then q4 else q7) (fun _ => none) (upd (upd (fun _ => 0) 3 0) 4 0) na76 (fun _ _ => none), wd_Lst cs q1 (fun _ => 0) (fun k => if k = 0 then (some em) else none) (upd (upd (fun _ => 0) 1 0) 2 0) (fun _ _ => 0) (fun _ _ => none), wd_Lst cs q4 (fun _ => 0) (fun k => if k = 0 then (some lq322) else none) lf324 (fun _ _ => 0) (fun _ _ => none), [(lq322, .inl (cs 12, lc323, .inr (.inr (.inr (.inr lg325)))))], P321]) (pcs := [[(q342, .inr (3, [.int 0, .int 0, .int 0, .int 0, .int 0, .int 0, .int 0]))]]) hw px_X.tt m1_206 m1_204 m1_205 m1_11 rfl q_Sym_init ⟨Nat.le_of_ble_eq_true rfl, Nat.le_of_ble_eq_true rfl⟩ hl.1 rfl (Nat.le_of_ble_eq_true rfl) d_Nam_init_81 ⟨show ((((((((((((((((((((((0 + 1) + 1) + 1) + 1) + k96) + 1) + k125) + 1) + k154) + 1) + k183) + 1) + k212) + 1) + k241) + 1) + k270) + 1) + k299) + 1) + k328) + 1) + 0 ≤ 6000 from by first | with_reducible rfl | with_reducible assumption | omega, show ((((((((((((((((((((((0 + 3) + 3) + 2048) + 7) + n97) + 7) + n126) + 7) + n155) + 7) + n184) + 7) + n213) + 7) + n242) + 7) + n271) + 7) + n300) + 7) + n329) + 7) + 0 ≤ 60000 from by first | with_reducible rfl | with_reducible assumption | omega⟩) hw hA (fun p344 H locs hp344 hw => ?_)
                                                    subst hp344
                                                    replace hw : pw D A s.heap H locs [wd_Nam cs h (fun k => if k = 0 then q1 else if k = 1 then q4 else q7) (fun _ => none) (upd (upd (fun _ => 0) 3 0) 4 0) na76 (fun _ _ => none), wd_Lst cs q1 (fun _ => 0) (fun k => if k = 0 then (some em) else none) (upd (upd (fun _ => 0) 1 0) 2 0) (fun _ _ => 0) (fun _ _ => none), wd_Lst cs q4 (fun _ => 0) (fun k => if k = 0 then (some lq322) else none) lf324 (fun _ _ => 0) (fun _ _ => none), [(lq322, .inl (cs 12, lc323, .inr (.inr (.inr (.inr lg325)))))], P321, wd_Sym cs q342 (fun _ => 0) (fun _ => none) (upd (upd (upd (upd (upd (upd (upd (fun _ => 0) 0 z343) 1 2) 2 0) 3 0) 4 0) 5 0) 6 0) (fun _ _ => 0) (fun _ _ => none)] := hw
                                                    refine lv_astore_n (lv' := [(3, .ref q342), (2, .int z340), (1, .int z320), (0, .ref h)]) S.x S.b d_Nam_init_84 rfl hl (by decide) rfl (fun ls hl => ?_)
                                                    refine lv_aload_n S.x S.b d_Nam_init_85 rfl (lv_at hl 0 rfl) ?_
                                                    refine lv_iload_n S.x S.b d_Nam_init_86 rfl (lv_at hl 1 rfl) ?_
                                                    refine px_put S k_Sym hT hw 5 0 5 rfl rfl (by decide) m1_221 rfl rfl rfl (Nat.le_of_ble_eq_true rfl) d_Nam_init_87 (w' := wd_Sym cs q342 (fun _ => 0) (fun _ => none) (upd (upd (upd (upd (upd (upd (upd (fun _ => 0) 0 z343) 1 2) 2 0) 3 0) 4 0) 5 z340) 6 0) (fun _ _ => 0) (fun _ _ => none)) (ps' := [wd_Nam cs h (fun k => if k = 0 then q1 else if k = 1 then q4 else q7) (fun _ => none) (upd (upd (fun _ => 0) 3 0) 4 0) na76 (fun _ _ => none), wd_Lst cs q1 (fun _ => 0) (fun k => if k = 0 then (some em) else none) (upd (upd (fun _ => 0) 1 0) 2 0) (fun _ _ => 0) (fun _ _ => none), wd_Lst cs q4 (fun _ => 0) (fun k => if k = 0 then (some lq322) else none) lf324 (fun _ _ => 0) (fun _ _ => none), [(lq322, .inl (cs 12, lc323, .inr (.inr (.inr (.inr lg325)))))], P321, wd_Sym cs q342 (fun _ => 0) (fun _ => none) (upd (upd (upd (upd (upd (upd (upd (fun _ => 0) 0 z343) 1 2) 2 0) 3 0) 4 0) 5 z340) 6 0) (fun _ _ => 0) (fun _ _ => none)]) rfl rfl (fun H locs hw => ?_)
                                                    refine lv_aload_n S.x S.b d_Nam_init_90 rfl (lv_at hl 0 rfl) ?_
                                                    refine va_getsN S.x S.b hqtG1 hw.2.2 S.own (va_Nw.use rfl (hT.2.2 _ m2_2n rfl)) (fun _ h => h) d_Nam_init_91 ?_
                                                    refine lv_iload_n S.x S.b d_Nam_init_94 rfl (lv_at hl 1 rfl) ?_
                                                    refine va_ti S.x S.b hqtG2 hw.2.2 (i := z340) (vp_in_iff.mpr (by constructor <;> omega)) rfl d_Nam_init_95 ?_
                                                    refine lv_topi (fun z346 ez346 => ?_)
                                                    have lz346 := Int32.le_toInt z346
                                                    have uz346 := Int32.toInt_lt z346
                                                    refine px_put S k_Sym hT hw 5 0 6 rfl rfl (by decide) m1_224 rfl rfl rfl (Nat.le_of_ble_eq_true rfl) d_Nam_init_96 (w' := wd_Sym cs q342 (fun _ => 0) (fun _ => none) (upd (upd (upd (upd (upd (upd (upd (fun _ => 0) 0 z343) 1 2) 2 0) 3 0) 4 0) 5 z340) 6 z346) (fun _ _ => 0) (fun _ _ => none)) (ps' := [wd_Nam cs h (fun k => if k = 0 then q1 else if k = 1 then q4 else q7) (fun _ => none) (upd (upd (fun _ => 0) 3 0) 4 0) na76 (fun _ _ => none), wd_Lst cs q1 (fun _ => 0) (fun k => if k = 0 then (some em) else none) (upd (upd (fun _ => 0) 1 0) 2 0) (fun _ _ => 0) (fun _ _ => none), wd_Lst cs q4 (fun _ => 0) (fun k => if k = 0 then (some lq322) else none) lf324 (fun _ _ => 0) (fun _ _ => none), [(lq322, .inl (cs 12, lc323, .inr (.inr (.inr (.inr lg325)))))], P321, wd_Sym cs q342 (fun _ => 0) (fun _ => none) (upd (upd (upd (upd (upd (upd (upd (fun _ => 0) 0 z343) 1 2) 2 0) 3 0) 4 0) 5 z340) 6 z346) (fun _ _ => 0) (fun _ _ => none)]) rfl rfl (fun H locs hw => ?_)
                                                    refine lv_aload_n S.x S.b d_Nam_init_99 rfl (lv_at hl 0 rfl) ?_
                                                    refine lv_iload_n S.x S.b d_Nam_init_100 rfl (lv_at hl 2 rfl) ?_
                                                    refine px_put S k_Sym hT hw 5 0 3 rfl rfl (by decide) m1_215 rfl rfl rfl (Nat.le_of_ble_eq_true rfl) d_Nam_init_101 (w' := wd_Sym cs q342 (fun _ => 0) (fun _ => none) (upd (upd (upd (upd (upd (upd (upd (fun _ => 0) 0 z343) 1 2) 2 0) 3 z320) 4 0) 5 z340) 6 z346) (fun _ _ => 0) (fun _ _ => none)) (ps' := [wd_Nam cs h (fun k => if k = 0 then q1 else if k = 1 then q4 else q7) (fun _ => none) (upd (upd (fun _ => 0) 3 0) 4 0) na76 (fun _ _ => none), wd_Lst cs q1 (fun _ => 0) (fun k => if k = 0 then (some em) else none) (upd (upd (fun _ => 0) 1 0) 2 0) (fun _ _ => 0) (fun _ _ => none), wd_Lst cs q4 (fun _ => 0) (fun k => if k = 0 then (some lq322) else none) lf324 (fun _ _ => 0) (fun _ _ => none), [(lq322, .inl (cs 12, lc323, .inr (.inr (.inr (.inr lg325)))))], P321, wd_Sym cs q342 (fun _ => 0) (fun _ => none) (upd (upd (upd (upd (upd (upd (upd (fun _ => 0) 0 z343) 1 2) 2 0) 3 z320) 4 0) 5 z340) 6 z346) (fun _ _ => 0) (fun _ _ => none)]) rfl rfl (fun H locs hw => ?_)
                                                    refine lv_aload_n S.x S.b d_Nam_init_104 rfl (lv_at hl 0 rfl) ?_
                                                    refine va_getsN S.x S.b hqcG1 hw.2.2 S.own (va_Nw.use rfl (hT.2.2 _ m2_4n rfl)) (fun _ h => h) d_Nam_init_105 ?_
                                                    refine lv_iload_n S.x S.b d_Nam_init_108 rfl (lv_at hl 1 rfl) ?_
                                                    refine va_ti S.x S.b hqcG2 hw.2.2 (i := z340) (vp_in_iff.mpr (by constructor <;> omega)) rfl d_Nam_init_109 ?_
                                                    refine lv_topi (fun z347 ez347 => ?_)
                                                    have lz347 := Int32.le_toInt z347
                                                    have uz347 := Int32.toInt_lt z347
                                                    refine px_put S k_Sym hT hw 5 0 4 rfl rfl (by decide) m1_218 rfl rfl rfl (Nat.le_of_ble_eq_true rfl) d_Nam_init_110 (w' := wd_Sym cs q342 (fun _ => 0) (fun _ => none) (upd (upd (upd (upd (upd (upd (upd (fun _ => 0) 0 z343) 1 2) 2 0) 3 z320) 4 z347) 5 z340) 6 z346) (fun _ _ => 0) (fun _ _ => none)) (ps' := [wd_Nam cs h (fun k => if k = 0 then q1 else if k = 1 then q4 else q7) (fun _ => none) (upd (upd (fun _ => 0) 3 0) 4 0) na76 (fun _ _ => none), wd_Lst cs q1 (fun _ => 0) (fun k => if k = 0 then (some em) else none) (upd (upd (fun _ => 0) 1 0) 2 0) (fun _ _ => 0) (fun _ _ => none), wd_Lst cs q4 (fun _ => 0) (fun k => if k = 0 then (some lq322) else none) lf324 (fun _ _ => 0) (fun _ _ => none), [(lq322, .inl (cs 12, lc323, .inr (.inr (.inr (.inr lg325)))))], P321, wd_Sym cs q342 (fun _ => 0) (fun _ => none) (upd (upd (upd (upd (upd (upd (upd (fun _ => 0) 0 z343) 1 2) 2 0) 3 z320) 4 z347) 5 z340) 6 z346) (fun _ _ => 0) (fun _ _ => none)]) rfl rfl (fun H locs hw => ?_)
                                                    refine lv_iload_n S.x S.b d_Nam_init_113 rfl (lv_at hl 2 rfl) ?_
                                                    refine va_getsN S.x S.b hqcG1 hw.2.2 S.own (va_Nw.use rfl (hT.2.2 _ m2_4n rfl)) (fun _ h => h) d_Nam_init_114 ?_
                                                    refine lv_iload_n S.x S.b d_Nam_init_117 rfl (lv_at hl 1 rfl) ?_
                                                    refine va_ti S.x S.b hqcG2 hw.2.2 (i := z340) (vp_in_iff.mpr (by constructor <;> omega)) rfl d_Nam_init_118 ?_
                                                    refine lv_topi (fun z348 ez348 => ?_)
                                                    have lz348 := Int32.le_toInt z348
                                                    have uz348 := Int32.toInt_lt z348
                                                    refine lv_iadd S.x S.b d_Nam_init_119 ?_
                                                    refine lv_topi (fun z349 ez349 => ?_)
                                                    have lz349 := Int32.le_toInt z349
                                                    have uz349 := Int32.toInt_lt z349
                                                    refine lv_istore_n (lv' := [(1, .int z349), (3, .ref q342), (2, .int z340), (0, .ref h)]) S.x S.b d_Nam_init_120 rfl hl (by decide) rfl (fun ls hl => ?_)
                                                    have hw : pw D A s.heap _ _ ([wd_Nam cs h (fun k => if k = 0 then q1 else if k = 1 then q4 else q7) (fun _ => none) (upd (upd (fun _ => 0) 3 0) 4 0) na76 (fun _ _ => none), wd_Lst cs q1 (fun _ => 0) (fun k => if k = 0 then (some em) else none) (upd (upd (fun _ => 0) 1 0) 2 0) (fun _ _ => 0) (fun _ _ => none), wd_Lst cs q4 (fun _ => 0) (fun k => if k = 0 then (some lq322) else none) lf324 (fun _ _ => 0) (fun _ _ => none), [(lq322, .inl (cs 12, lc323, .inr (.inr (.inr (.inr lg325)))))]] ++ [P321, wd_Sym cs q342 (fun _ => 0) (fun _ => none) (upd (upd (upd (upd (upd (upd (upd (fun _ => 0) 0 z343) 1 2) 2 0) 3 z320) 4 z347) 5 z340) 6 z346) (fun _ _ => 0) (fun _ _ => none)]) := hw.sub [0, 1, 2, 3, 4, 5] rfl rfl
                                                    have hw := pw_join hw
                                                    have hpnP350 : Pg P321 (P321 ++ wd_Sym cs q342 (fun _ => 0) (fun _ => none) (upd (upd (upd (upd (upd (upd (upd (fun _ => 0) 0 z343) 1 2) 2 0) 3 z320) 4 z347) 5 z340) 6 z346) (fun _ _ => 0) (fun _ _ => none)) := pg_app
                                                    have hsnP350 : Sy (P321 ++ wd_Sym cs q342 (fun _ => 0) (fun _ => none) (upd (upd (upd (upd (upd (upd (upd (fun _ => 0) 0 z343) 1 2) 2 0) 3 z320) 4 z347) 5 z340) 6 z346) (fun _ _ => 0) (fun _ _ => none)) (some q342) := sy_last (s := (upd (upd (upd (upd (upd (upd (upd (fun _ => 0) 0 z343) 1 2) 2 0) 3 z320) 4 z347) 5 z340) 6 z346)) rfl
                                                    have hfnP350 : Fy (P321 ++ wd_Sym cs q342 (fun _ => 0) (fun _ => none) (upd (upd (upd (upd (upd (upd (upd (fun _ => 0) 0 z343) 1 2) 2 0) 3 z320) 4 z347) 5 z340) 6 z346) (fun _ _ => 0) (fun _ _ => none)) (some q342) := fy_last (s := (upd (upd (upd (upd (upd (upd (upd (fun _ => 0) 0 z343) 1 2) 2 0) 3 z320) 4 z347) 5 z340) 6 z346)) rfl (show 0 ≤ z340.toInt from by first | exact oz_41a8f41cc9 tz340 tz311 tz282 tz253 tz224 tz195 tz166 tz137 tz108 | omega) (show z340.toInt ≤ 1000000 from by first | exact oz_231bd416e9 tz340 nc312 | omega)
                                                    have hgnP350 : Gy (P321 ++ wd_Sym cs q342 (fun _ => 0) (fun _ => none) (upd (upd (upd (upd (upd (upd (upd (fun _ => 0) 0 z343) 1 2) 2 0) 3 z320) 4 z347) 5 z340) 6 z346) (fun _ _ => 0) (fun _ _ => none)) q342 := gy_lastN (s := (upd (upd (upd (upd (upd (upd (upd (fun _ => 0) 0 z343) 1 2) 2 0) 3 z320) 4 z347) 5 z340) 6 z346)) rfl (show 0 ≤ z340.toInt from by first | exact oz_41a8f41cc9 tz340 tz311 tz282 tz253 tz224 tz195 tz166 tz137 tz108 | omega) (show z340.toInt ≤ 1000000 from by first | exact oz_231bd416e9 tz340 nc312 | omega) (show z343.toInt ≠ 25 from by first | exact oz_20fca602ed tz343 nc341 | omega)
                                                    generalize (P321 ++ wd_Sym cs q342 (fun _ => 0) (fun _ => none) (upd (upd (upd (upd (upd (upd (upd (fun _ => 0) 0 z343) 1 2) 2 0) 3 z320) 4 z347) 5 z340) 6 z346) (fun _ _ => 0) (fun _ _ => none)) = P350 at hw hpnP350 hsnP350 hfnP350 hgnP350
                                                    have hEl := hpnP350.els hEl; have hEf := hpnP350.elf hEf; have hEg := hpnP350.elg hEg
                                                    replace hw : pw D A s.heap _ _ [wd_Nam cs h (fun k => if k = 0 then q1 else if k = 1 then q4 else q7) (fun _ => none) (upd (upd (fun _ => 0) 3 0) 4 0) na76 (fun _ _ => none), wd_Lst cs q1 (fun _ => 0) (fun k => if k = 0 then (some em) else none) (upd (upd (fun _ => 0) 1 0) 2 0) (fun _ _ => 0) (fun _ _ => none), wd_Lst cs q4 (fun _ => 0) (fun k => if k = 0 then (some lq322) else none) lf324 (fun _ _ => 0) (fun _ _ => none), [(lq322, .inl (cs 12, lc323, .inr (.inr (.inr (.inr lg325)))))], P350] := hw
                                                    refine lv_aload_n S.x S.b d_Nam_init_121 rfl (lv_at hl 3 rfl) ?_
                                                    refine px_get S k_Nam hT hw 0 0 1 (v := .ref q4) rfl rfl rfl (by decide) m2_76 d_Nam_init_122 ?_
                                                    refine lv_aload_n S.x S.b d_Nam_init_125 rfl (lv_at hl 1 rfl) ?_
                                                    refine pg_calli (pr := [wd_Nam cs h (fun k => if k = 0 then q1 else if k = 1 then q4 else q7) (fun _ => none) (upd (upd (fun _ => 0) 3 0) 4 0) na76 (fun _ _ => none), wd_Lst cs q1 (fun _ => 0) (fun k => if k = 0 then (some em) else none) (upd (upd (fun _ => 0) 1 0) 2 0) (fun _ _ => 0) (fun _ _ => none)]) (px_runV (As := [.ref q342]) (rest := []) S (c_al_add_T l D cs mi q4 lq322 lc323 lf324 lg325 P350  q342 (show lc323 ≤ 1000000 from by first | exact oz_3e1ff33400 e334 e305 e276 e247 e218 e189 e160 e131 e102 | omega) (show 10 ≤ lc323 from by first | exact e335 | omega) (show 0 ≤ (lf324 1).toInt from by first | exact oz_41a8f41cc9 e330 e301 e272 e243 e214 e185 e156 e127 e98 | omega) (show (lf324 1).toInt ≤ (lc323 : Int) from by first | exact e331 | omega) (by first | assumption | exact ElF.els (by assumption)) (by first | assumption | exact sy_none | exact fy_none | exact Fy.sy (by assumption) | exact sy_some (by assumption)) _ _) hT (pr := [wd_Nam cs h (fun k => if k = 0 then q1 else if k = 1 then q4 else q7) (fun _ => none) (upd (upd (fun _ => 0) 3 0) 4 0) na76 (fun _ _ => none), wd_Lst cs q1 (fun _ => 0) (fun k => if k = 0 then (some em) else none) (upd (upd (fun _ => 0) 1 0) 2 0) (fun _ _ => 0) (fun _ _ => none)]) (pcs := [wd_Lst cs q4 (fun _ => 0) (fun k => if k = 0 then (some lq322) else none) lf324 (fun _ _ => 0) (fun _ _ => none), [(lq322, .inl (cs 12, lc323, .inr (.inr (.inr (.inr lg325)))))], P350]) hw (px_X.tot (oX_call (P := (fun A U H => (va_Mi "[Ljava/lang/Object;" mi U))) (pr := [wd_Nam cs h (fun k => if k = 0 then q1 else if k = 1 then q4 else q7) (fun _ => none) (upd (upd (fun _ => 0) 3 0) 4 0) na76 (fun _ _ => none), wd_Lst cs q1 (fun _ => 0) (fun k => if k = 0 then (some em) else none) (upd (upd (fun _ => 0) 1 0) 2 0) (fun _ _ => 0) (fun _ _ => none)]) oG_M hw hA hM)) (px_recv hT hw 2 0 rfl rfl rfl) m2_9 m2_6 m2_7 m2_8 m1_10 q_Lst_add2 ⟨Nat.le_of_ble_eq_true rfl, Nat.le_of_ble_eq_true rfl⟩ hl.1 rfl (Nat.le_of_ble_eq_true rfl) d_Nam_init_126 ⟨show ((((((((((((((((((((((0 + 1) + 1) + 1) + 1) + k96) + 1) + k125) + 1) + k154) + 1) + k183) + 1) + k212) + 1) + k241) + 1) + k270) + 1) + k299) + 1) + k328) + 1) + (1) ≤ 6000 from by first | with_reducible rfl | with_reducible assumption | omega, show ((((((((((((((((((((((0 + 3) + 3) + 2048) + 7) + n97) + 7) + n126) + 7) + n155) + 7) + n184) + 7) + n213) + 7) + n242) + 7) + n271) + 7) + n300) + 7) + n329) + 7) + (4 * lc323 + 40) ≤ 60000 from by first | with_reducible rfl | with_reducible assumption | omega⟩) hw hA (fun v356 p355 k357 n358 H locs hp355 hw => ?_)
                                                    dsimp only at hp355
                                                    obtain ⟨lq351, lc352, lf353, lg354, rfl, e359, e360, e361, e362, e363, e364, e365, e366, e367, e368⟩ := hp355
                                                    replace e359 : (lf353 1).toInt = (lf324 1).toInt + 1 := e359
                                                    replace e360 : (lf353 1).toInt ≤ (lc352 : Int) := e360
                                                    replace e361 : AddL (lf324 1) lg325 lg354 q342 := e361
                                                    replace e362 : (lc323 : Int) ≤ (lc352 : Int) := e362
                                                    replace e363 : (lc352 : Int) ≤ 2 * (lc323 : Int) + 10 := e363
                                                    replace e364 : 10 ≤ lc352 := e364
                                                    replace e365 : Lcap lc323 (lf324 1) lc352 := e365
                                                    replace e366 : k357 ≤ 1 := e366
                                                    replace e367 : (k357 : Int) ≤ (lc352 : Int) - (lc323 : Int) := e367
                                                    replace e368 : (n358 : Int) ≤ 4 * ((lc352 : Int) - (lc323 : Int)) := e368
                                                    replace hw : pw D A s.heap H locs [wd_Nam cs h (fun k => if k = 0 then q1 else if k = 1 then q4 else q7) (fun _ => none) (upd (upd (fun _ => 0) 3 0) 4 0) na76 (fun _ _ => none), wd_Lst cs q1 (fun _ => 0) (fun k => if k = 0 then (some em) else none) (upd (upd (fun _ => 0) 1 0) 2 0) (fun _ _ => 0) (fun _ _ => none), wd_Lst cs q4 (fun _ => 0) (fun k => if k = 0 then (some lq351) else none) lf353 (fun _ _ => 0) (fun _ _ => none), [(lq351, .inl (cs 12, lc352, .inr (.inr (.inr (.inr lg354)))))], P350] := hw
                                                    have lv356 := Int32.le_toInt v356
                                                    have uv356 := Int32.toInt_lt v356
                                                    have hlcb368 := Lcap.le (B := 5000) (by assumption) (by omega) (by omega); have helf := AddL.elf (n' := (lf353 1)) (by assumption) hEf (by assumption) (by omega); have helg := AddL.elg (n' := (lf353 1)) (by assumption) hEg (by assumption) (by omega); have hEf := helf; have hEg := helg; clear helf helg
                                                    refine lv_pop S.x S.b d_Nam_init_129 rfl ?_
                                                    obtain ⟨z369, ez369⟩ : ∃ y : Int32, y = z340 + 1 := ⟨_, rfl⟩
                                                    have tz369 : z369.toInt = (z340.toInt + 1 + 2147483648) % 4294967296 - 2147483648 := by rw [ez369]; exact i_add z340 1
                                                    have lz369 := Int32.le_toInt z369
                                                    have uz369 := Int32.toInt_lt z369
                                                    try replace tz369 : z369.toInt = z340.toInt + 1 := by omega
                                                    refine lv_iinc (v := z369) (lv' := [(2, .int z369), (1, .int z349), (3, .ref q342), (0, .ref h)]) S.x S.b d_Nam_init_130 hl (k := 2) rfl (by rw [ez369]; rfl) (by decide) rfl (fun ls hl => ?_)
                                                    refine lv_goto (tgt := 66) S.x S.b d_Nam_init_133 (by decide) ?_
                                                    refine lv_iload_n S.x S.b d_Nam_init_66 rfl (lv_at hl 0 rfl) ?_
                                                    refine lv_bipush (v := 10) S.x S.b d_Nam_init_67 (by decide) ?_
                                                    refine lv_icmp_ge (tgt := 136) S.x S.b d_Nam_init_69 (by decide) (fun c370 => ?_) (fun c370 => ?_)
                                                    · have nc370 : (10 : Int) ≤ z369.toInt := (i_le (x := 10) (y := z369)).mp c370
                                                      exact pg_vret S hr hlk hAe hw (show (((((((((((((((((((((((0 + 1) + 1) + 1) + 1) + k96) + 1) + k125) + 1) + k154) + 1) + k183) + 1) + k212) + 1) + k241) + 1) + k270) + 1) + k299) + 1) + k328) + 1) + k357) ≤ 6000 from by first | exact oz_03585423cb e105 e134 e163 e192 e221 e250 e279 e308 e337 e366 | omega) (show (((((((((((((((((((((((0 + 3) + 3) + 2048) + 7) + n97) + 7) + n126) + 7) + n155) + 7) + n184) + 7) + n213) + 7) + n242) + 7) + n271) + 7) + n300) + 7) + n329) + 7) + n358) ≤ 60000 from by first | with_reducible rfl | with_reducible assumption | omega) (⟨(fun k => if k = 0 then q1 else if k = 1 then q4 else q7), (upd (upd (fun _ => 0) 3 0) 4 0), na76, (upd (upd (fun _ => 0) 1 0) 2 0), lq351, lc352, lf353, lg354, P350, rfl, (show NmI em P350 false 0 (lf353 1) 0 0 em 0 lc352 (fun _ => none) lg354 from ⟨⟨fun _ => rfl, ⟨by omega, by omega, by omega⟩, els_0 (by omega), ⟨by first | exact oz_197f3b832f e359 e330 e301 e272 e243 e214 e185 e156 e127 e98 | omega, by first | exact e360 | omega, by first | exact oz_f1555a0940 e363 e334 e305 e276 e247 e218 e189 e160 e131 e102 | omega⟩, hEf⟩, fun _ => rfl, fun h9 => absurd h9 (by decide), ⟨by first | exact e364 | omega, by omega, by omega⟩, ⟨by omega, by omega⟩, by omega, hEg, by first | exact oz_46a4a4b8fe e359 e330 e301 e272 e243 e214 e185 e156 e127 e98 | omega⟩), (show (((((((((((((((((((((((0 + 1) + 1) + 1) + 1) + k96) + 1) + k125) + 1) + k154) + 1) + k183) + 1) + k212) + 1) + k241) + 1) + k270) + 1) + k299) + 1) + k328) + 1) + k357) ≤ 6000 from by first | exact oz_03585423cb e105 e134 e163 e192 e221 e250 e279 e308 e337 e366 | omega), (show (((((((((((((((((((((((0 + 3) + 3) + 2048) + 7) + n97) + 7) + n126) + 7) + n155) + 7) + n184) + 7) + n213) + 7) + n242) + 7) + n271) + 7) + n300) + 7) + n329) + 7) + n358) ≤ 30000 from by first | with_reducible rfl | with_reducible assumption | omega)⟩) d_Nam_init_136
                                                    · have nc370 : ¬ (10 : Int) ≤ z369.toInt := mt (i_le (x := 10) (y := z369)).mpr c370
                                                      exfalso
                                                      omega
                              · have nc79 : ¬ (14 : Int) ≤ z77.toInt := mt (i_le (x := 14) (y := z77)).mpr c79
                                exfalso
                                omega
