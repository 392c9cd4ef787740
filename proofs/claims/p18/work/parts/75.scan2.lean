theorem oz_268d846349  : -1 ≤ (-1 : Int) := by omega
theorem oz_29ac2abf2d  : (-1 : Int) ≤ 255 := by omega
theorem oz_eaf798137c  : 1 ≤ (2 : Int) := by omega
theorem oz_5d034a83b0 {a0 a1 : Int} (h0 : (102 : Int) < a1) (h1 : ¬ (70 : Int) < a1) : a0 = a1 - (65 : Int) := by omega
theorem oz_a0de719061 {a0 a1 a2 : Int} (h0 : (102 : Int) < a2) (h1 : ¬ (70 : Int) < a2) : a0 = a1 + (10 : Int) := by omega
theorem oz_04aa1ad5e6 {a0 a1 a2 a3 : Int} (h0 : a0 = a1 + a2) (h1 : 0 ≤ a1) (h2 : 0 ≤ a2) (h3 : a3 = a1 + a2) (h4 : ¬ (2181 : Int) ≤ a3) : 0 ≤ a0 ∧ a0 < ((2181 : Nat) : Int) := by omega
theorem oz_a86078dd04 {a0 a1 a3 : Int} {n2 : Nat} (h0 : a0+1-a3 < ((n2 + 1 : Nat) : Int)) (h1 : a1 = a3 + 1) : a0+1-a1 < (n2 : Int) := by omega
theorem oz_9583a53679 {a0 : Int}  : a0 ≤ a0+8 := by omega
theorem oz_887c409de9 {a0 a1 a2 : Int} (h0 : a0 ≤ a2) (h1 : a1 = a2 + 1) : a0 ≤ a1 := by omega
theorem oz_1e5ac0e216 {a0 a1 a2 : Int} (h0 : ¬ a1 ≤ a2) (h1 : a0 = a2 + 1) : a0 ≤ a1+8 := by omega
theorem oz_f6c959245f {a0 a1 a3 : Int} {n2 : Nat} (h0 : a0+16-a3 < ((n2 + 1 : Nat) : Int)) (h1 : a1 = a3 + 1) : a0+16-a1 < (n2 : Int) := by omega
theorem oz_6f0a04008e {a0 a1 : Int} (h0 : a0 ≤ a1 + 8) : a0 ≤ a1+8 := by omega
theorem oz_dac6a77683 {a0 a1 a2 a3 : Int} (h0 : a2 = a1 - (1 : Int)) (h1 : a0 = a3 + 1) (h2 : ¬ a2 ≤ a3) : a0 ≤ a1+10 := by omega
theorem oz_ca2896e4b3 {a0 a1 a2 : Int} (h0 : a0 = a1 + (2 : Int)) (h1 : a2 ≤ a1) (h2 : 0 ≤ a2) : 0 ≤ a0 := by omega
theorem oz_8a9d1f933d {a0 a1 a2 a3 : Int} (h0 : a2 = a1 - (1 : Int)) (h1 : a0 = a3 + (2 : Int)) (h2 : ¬ a2 ≤ a3) : a0 ≤ a1+8 := by omega
theorem oz_165792c2c4 {a0 a1 a2 : Int} (h0 : a0 ≤ a2) (h1 : a1 = a2 + (2 : Int)) : a0 ≤ a1 := by omega
theorem oz_d20558dcd1 {a0 a1 : Int} (h0 : a1 = a0 + (2 : Int)) : a0 ≤ a1 := by omega
theorem oz_4fa2be0625 {a0 a1 a2 : Int} (h0 : a2 ≤ a1 + 8) (h1 : a0 = a2 + (2 : Int)) : a0 ≤ a1+10 := by omega
theorem oz_d0a3671be7 {a0 a1 a2 a3 : Int} (h0 : a2 = a3 + (1 : Int)) (h1 : a2 ≤ a3) : a0 = a1 + 1 := by omega
theorem oz_f1d1298f6f {a0 a1 a2 : Int} (h0 : a0 = a2 + (1 : Int)) (h1 : a0 ≤ a2) : a0 ≤ a1 + 8 := by omega
theorem oz_df4877b868 {a0 a1 a2 : Int} (h0 : a0 ≤ a2) (h1 : a1 = a2 + (1 : Int)) : a0 ≤ a1 := by omega
theorem oz_42d443b05b {a0 a1 a2 a3 : Int} (h0 : a2 = a3 + (1 : Int)) (h1 : a2 ≤ a3) : a0 ≤ a1+1 := by omega
theorem oz_ea2b3b93d5 {a0 a1 a3 a4 : Int} {n2 : Nat} (h0 : a3 = a4 + (1 : Int)) (h1 : a3 ≤ a4) : a0+2-a1 < (n2 : Int) := by omega
theorem oz_8c8b3d3770 {a0 a1 : Int} (h0 : ¬ a0 ≤ a1) (h1 : 0 ≤ a1) : 0 ≤ a0 := by omega
theorem oz_447bfbda56 {a0 a1 a2 a3 : Int} (h0 : a0 = a2 + (1 : Int)) (h1 : a3 = (32 : Int)) (h2 : 0 ≤ a3 → 0 ≤ a2 ∧ a2 < a1) : a0 ≤ a1 + 8 := by omega
theorem oz_fbfdb238f4 {a0 a1 a2 : Int} (h0 : a0 ≤ a2) (h1 : ¬ a1 ≤ a2) : a0 ≤ a1 := by omega
theorem oz_0c5335350d {a0 a1 a2 : Int} (h0 : ¬ a1 < a2) (h1 : a0 = a2 + 1) : a0 ≤ a1+1 := by omega
theorem oz_1a25760b21 {a0 a1 a3 : Int} {n2 : Nat} (h0 : a0+2-a3 < ((n2 + 1 : Nat) : Int)) (h1 : a1 = a3 + 1) : a0+2-a1 < (n2 : Int) := by omega
theorem oz_f86517a702 {a0 a1 a2 a3 : Int} (h0 : a0 = a2 + (1 : Int)) (h1 : a3 = (9 : Int)) (h2 : 0 ≤ a3 → 0 ≤ a2 ∧ a2 < a1) : a0 ≤ a1 + 8 := by omega
theorem oz_c84fafa606 {a0 a1 a2 a3 : Int} (h0 : a0 = a2 + (1 : Int)) (h1 : a3 = (10 : Int)) (h2 : 0 ≤ a3 → 0 ≤ a2 ∧ a2 < a1) : a0 ≤ a1 + 8 := by omega
theorem oz_8908a45630 {a0 a1 : Int} (h0 : a0 ≤ a1+8) : a0 ≤ a1 + 8 := by omega
theorem oz_95d7c919dd {a0 a1 a2 a3 a4 a5 : Int} (h0 : a0 ≤ a2) (h1 : a3 = a2 + (1 : Int)) (h2 : a4 = (47 : Int)) (h3 : 0 ≤ a4 → 0 ≤ a3 ∧ a3 < a5) (h4 : a2 ≤ a5 → a2 ≤ a1) : a0 ≤ a1 := by omega
theorem oz_9626c71e54 {a0 a1 a2 a3 : Int} (h0 : a0 = a2 + (1 : Int)) (h1 : a3 = (13 : Int)) (h2 : 0 ≤ a3 → 0 ≤ a2 ∧ a2 < a1) : a0 ≤ a1 + 8 := by omega
theorem oz_86d3cb77db {a0 : Int} (h0 : 0 ≤ a0) : (0 : Int) ≤ a0+1 := by omega
theorem oz_6c4facbc71  : (-1 : Int) ≤ 200 := by omega
theorem oz_81847fae50 {a0 : Int} (h0 : ¬ (126 : Int) < a0) : a0 ≤ 200 := by omega
theorem oz_242b92e872 {a0 a1 : Int} (h0 : a0 = a1) (h1 : a1 ≤ 100) : a0 ≤ 200 := by omega
theorem oz_649850f1a1 {a0 : Int} (h0 : a0 = (92 : Int)) : a0 ≤ 200 := by omega
theorem oz_5d7574dca0 {a0 a1 a2 a3 a4 : Int} (h0 : a2 = (92 : Int)) (h1 : 0 ≤ a2 → 0 ≤ a0 ∧ a0 < a1) (h2 : a3 = a0 + (1 : Int)) (h3 : a4 = (92 : Int)) (h4 : 0 ≤ a4 → 0 ≤ a3 ∧ a3 < a1) : 0 ≤ a0 ∧ a0 < a1 := by omega
theorem oz_247129bdec  : -1 ≤ (0 : Int) := by omega
theorem oz_9dd6b69423  : -1 ≤ (10 : Int) := by omega
theorem oz_69aaa2966f  : (10 : Int) ≤ 200 := by omega
theorem oz_a2ef7ae5fe {a0 a1 : Int} (h0 : a0 = a1 + (1 : Int)) (h1 : 26 ≤ a1) : 26 ≤ a0 := by omega
theorem oz_b0fcc062c9 {a0 a1 : Int} (h0 : a0 = a1 + (1 : Int)) (h1 : ¬ (2074 : Int) ≤ a1) : a0 ≤ 2074 := by omega
theorem oz_8ba622097f {a0 a1 : Int} (h0 : 0 ≤ a0) (h1 : ¬ a1 ≤ a0) (h2 : a1 ≤ 2074) : 0 ≤ a0 ∧ a0 < ((2074 : Nat) : Int) := by omega
theorem oz_b4306d7374 {a0 a1 a2 : Int} (h0 : a0 ≤ 1000 + 24 * a1) (h1 : ¬ a2 ≤ a1) (h2 : a2 ≤ 2074) : a0 ≤ 100000 := by omega
theorem oz_4cae13f11a {a0 : Int} (h0 : a0 ≤ 100000) : a0 ≤ 1000000 := by omega
theorem oz_1d49980e24 {a0 a1 a2 : Int} (h0 : a0 ≤ 1000 + 24 * (a1 - 1)) (h1 : a2 = a1) (h2 : a2 ≤ 2074) : a0 ≤ 1000000 := by omega
theorem oz_e30befe568 {a0 : Int} (h0 : a0 ≤ 24) : a0 ≤ 1000000 := by omega
theorem oz_fd1ecafa56  : (0 : Int) ≤ 100000 := by omega
theorem oz_5e5e39b270 {a0 : Int} (h0 : 26 ≤ a0) : (0 : Int) ≤ a0 := by omega
theorem oz_86da80c8d4 {a0 : Int} (h0 : a0 ≤ (24 : Int)) : a0 ≤ 24 := by omega
theorem oz_213e98d3f1 {a0 a1 a2 : Int} (h0 : a0 + 1 ≤ a2) (h1 : a1 = a2) : a0 + 1 ≤ a1 := by omega
theorem oz_b298d6b515 {a0 a1 a2 a3 : Int} (h0 : a0 < a2) (h1 : a3 ≤ a1) (h2 : a3 = a2) : a0 + 1 ≤ a1 := by omega
theorem oz_b18b803a23 {a0 a1 a2 : Int} (h0 : ¬ a1 ≤ a2) (h1 : a0 = a2 + (1 : Int)) : a0 ≤ a1 + 8 := by omega
theorem oz_7eb37145d2 {a0 a1 a2 : Int} (h0 : ¬ a1 ≤ a2) (h1 : a0 = a2 + (1 : Int)) : a0 ≤ a1 := by omega
theorem oz_122b8b9fb7 {a0 a1 a2 a3 : Int} (h0 : a0 = a2 + 1) (h1 : a1 = a3 + (1 : Int)) (h2 : a2 ≤ a3) : a0 ≤ a1 := by omega
theorem oz_c735cfbd81 {a0 a1 a3 : Int} {n2 : Nat} (h0 : a0+9-a3 < ((n2 + 1 : Nat) : Int)) (h1 : a1 = a3 + (1 : Int)) : a0+9-a1 < (n2 : Int) := by omega
theorem oz_54480d698e {a0 a1 : Int} (h0 : a0 < a1) : a0 + 1 ≤ a1 := by omega
theorem oz_c086c81b49 {a0 a1 a2 : Int} (h0 : a0 < a2) (h1 : a1 = a2 + (1 : Int)) : a0 ≤ a1 := by omega
theorem oz_b62fa091b7 {a0 a1 : Int} (h0 : a0 = a1 - (1 : Int)) (h1 : 26 ≤ a1) (h2 : a1 ≤ 2074) : 0 ≤ a0 ∧ a0 < ((2074 : Nat) : Int) := by omega
theorem oz_f675372ee2 {a0 a1 : Int} (h0 : a0 < a1) : a0 ≤ a1 := by omega
theorem oz_d72d579ea5 {a0 a1 a2 : Int} (h0 : a2 = a1 - (1 : Int)) (h1 : a0 ≤ 1000 + 24 * a2) : a0 ≤ 1000 + 24 * (a1 - 1) := by omega
theorem oz_efe4b1b452 {a0 a1 a2 a3 a4 : Int} (h0 : a0 + a3 ≤ a4) (h1 : a1 = a3 + 1) (h2 : a2 = a4 + (1 : Int)) : a0 + a1 ≤ a2 := by omega
theorem oz_6599b5c69d {a0 a1 : Int} (h0 : a0 = a1 + (0 : Int)) (h1 : 0 ≤ a1) : 0 ≤ a0 := by omega
theorem oz_336516993b {a0 a1 a2 : Int} (h0 : a2 ≤ a1 + 8) (h1 : a0 = a2 + (0 : Int)) : a0 ≤ a1 + 8 := by omega
theorem oz_58f0e89f84 {a0 a1 : Int} (h0 : a1 = a0 + (0 : Int)) : a0 + (0 : Int) ≤ a1 := by omega
theorem oz_923e74ff93 {a0 a1 a2 a3 a4 : Int} (h0 : a0 = a2 + (2 : Int)) (h1 : a3 = (120 : Int)) (h2 : 0 ≤ a3 → 0 ≤ a4 ∧ a4 < a1) (h3 : a4 = a2 + (1 : Int)) : a0 ≤ a1 + 8 := by omega
theorem oz_44ccb7c1dc {a0 a1 : Int} (h0 : a1 = a0 + (2 : Int)) : a0 + (0 : Int) ≤ a1 := by omega
theorem oz_90edb1163d  : (39 : Int) ≤ 100 := by omega
theorem oz_b9e2a46006 {a0 a1 a2 a3 a4 : Int} (h0 : a0 = a1 + (1 : Int)) (h1 : a1 = a2 + a3) (h2 : a2 = a4 + (1 : Int)) (h3 : 1 ≤ a3) (h4 : 0 ≤ a4) : 0 ≤ a0 := by omega
theorem oz_ddf50febdf {a0 a1 a2 a3 : Int} (h0 : a0 = a2 + (1 : Int)) (h1 : a3 = (39 : Int)) (h2 : 0 ≤ a3 → 0 ≤ a2 ∧ a2 < a1) : a0 ≤ a1 + 8 := by omega
theorem oz_5a8feed08b {a0 a1 a2 a3 : Int} (h0 : a0 = a1 + (1 : Int)) (h1 : a2 + 1 ≤ a1) (h2 : a3 = a2) (h3 : 0 ≤ a3) : 0 ≤ a0 := by omega
theorem oz_2110b97299 {a0 a1 a2 a3 : Int} (h0 : a0 = a2 + (1 : Int)) (h1 : a3 = (34 : Int)) (h2 : 0 ≤ a3 → 0 ≤ a2 ∧ a2 < a1) : a0 ≤ a1 + 8 := by omega
theorem oz_3322af70f0 {a0 a1 a2 a3 : Int} (h0 : a0 = a1 + a2) (h1 : 0 ≤ a1) (h2 : a2 = a3 + (1 : Int)) (h3 : 0 ≤ a3) : 0 ≤ a0 := by omega
theorem oz_2fbb33bd74 {a0 a1 a2 a3 a4 : Int} (h0 : a0 = a1 + a2) (h1 : a3 = a1 + a4) (h2 : a2 = a4 + (1 : Int)) (h3 : a3 < (2048 : Int)) : a0 ≤ 2048 := by omega
theorem oz_094660a5a5 {a0 a1 a2 : Int} (h0 : (200 : Int) < a2) (h1 : ¬ (200 : Int) < a2) : a0 = a1 + a2 := by omega
theorem oz_8c84e6b7b9 {a0 a1 : Int} (h0 : (200 : Int) < a1) (h1 : ¬ (200 : Int) < a1) : a0 = a1 + (1 : Int) := by omega
theorem oz_d8abe3bfd1 {a0 a1 a2 a3 : Int} (h0 : (200 : Int) < a3) (h1 : ¬ (200 : Int) < a3) : a0 = a1 + a2 := by omega
theorem oz_c5703319b8 {a0 a1 a2 a3 : Int} (h0 : a0 = a2 + (1 : Int)) (h1 : ¬ a3 < (0 : Int)) (h2 : 0 ≤ a3 → a2 < a1) : a0 ≤ a1 + 8 := by omega
theorem oz_62caf3659d {a0 a1 a2 a3 : Int} (h0 : a0 = a1 + a2) (h1 : 0 ≤ a1) (h2 : a2 = a3 + (1 : Int)) (h3 : (200 : Int) < a3) : 0 ≤ a0 := by omega
theorem oz_b348d3637e {a0 a1 : Int} (h0 : (200 : Int) < a1) (h1 : ¬ (200 : Int) < a1) : a0 ≤ 2048 := by omega
theorem oz_e07fc907b2  : (34 : Int) ≤ 100 := by omega
theorem oz_f4fc9d49f4 {a0 a1 a2 a3 : Int} (h0 : a0 + 1 ≤ a2) (h1 : a1 = a2 + a3) (h2 : 1 ≤ a3) : a0 + 1 ≤ a1 := by omega
theorem oz_72973cefa7 {a0 a1 a2 a3 a4 : Int} (h0 : a0 = a2 + a3) (h1 : ¬ a4 < (0 : Int)) (h2 : 0 ≤ a4 → a2 < a1) (h3 : a3 ≤ 2) : a0 ≤ a1+16 := by omega
theorem oz_efe439d2c9 {a0 a1 : Int} (h0 : a0 = a1 + 1) (h1 : ¬ (200 : Int) < a1) : a0 ≤ 201 := by omega
theorem oz_48b3304134 {a0 a2 : Int} {n1 : Nat} (h0 : (202 : Int)-a2 < ((n1 + 1 : Nat) : Int)) (h1 : a0 = a2 + 1) : (202 : Int)-a0 < (n1 : Int) := by omega
theorem oz_38236be559 {a0 a1 : Int} (h0 : a1 = a0 + (1 : Int)) : a0 + 1 ≤ a1 := by omega
theorem oz_3be05f8734 {a0 a1 a2 : Int} (h0 : a2 ≤ a1 + 8) (h1 : a0 = a2 + (1 : Int)) : a0 ≤ a1+16 := by omega
theorem oz_97f7e2c44f  : (0 : Int) ≤ 201 := by omega
theorem oz_8964937ede {a0 a1 a2 : Int} (h0 : a2 < a1) (h1 : a0 = a2 + (1 : Int)) : a0 ≤ a1 + 8 := by omega
theorem oz_0aba5895db {a0 a1 a2 : Int} (h0 : a0 = a1 + a2) (h1 : 0 ≤ a1) (h2 : a2 = (1 : Int) + 1) : 0 ≤ a0 := by omega
theorem oz_034949d2cd {a0 a1 a2 a3 : Int} (h0 : a2 < a1) (h1 : a0 = a2 + a3) (h2 : a3 = (1 : Int) + 1) : a0 ≤ a1 + 8 := by omega
theorem oz_26c995f1f8 {a0 a1 a2 : Int} (h0 : a2 < a1) (h1 : a0 = a2 + (2 : Int)) : a0 ≤ a1 + 8 := by omega
theorem oz_5872ca9df2 {a0 a1 a2 : Int} (h0 : a0 = a1 + a2) (h1 : 0 ≤ a1) (h2 : a2 = (2 : Int) + 1) : 0 ≤ a0 := by omega
theorem oz_0136642c8e {a0 a1 a2 a3 : Int} (h0 : a2 < a1) (h1 : a0 = a2 + a3) (h2 : a3 = (2 : Int) + 1) : a0 ≤ a1 + 8 := by omega
theorem oz_26a0dc0197 {a0 a1 : Int} (h0 : a0 = a1 + (1 : Int)) (h1 : ¬ (2049 : Int) ≤ a1) : a0 ≤ 2049 := by omega
theorem oz_2218542316 {a0 a1 a2 : Int} (h0 : ¬ a2 < (0 : Int)) (h1 : 0 ≤ a2 → 0 ≤ a0 ∧ a0 < a1) : a0 < a1 := by omega
theorem oz_409f6d7389 {a0 a1 a2 : Int} (h0 : a0 = a1) (h1 : a2 < a1) (h2 : 0 ≤ a2) : 1 ≤ a0 := by omega
theorem oz_b4fae048ea {a0 a1 a2 a3 : Int} (h0 : a2 = a1) (h1 : a0 = a3) (h2 : a3 ≤ a2 + 1) : a0 ≤ a1 + 1 := by omega
theorem oz_153df23603 {a0 a1 a2 a3 : Int} (h0 : a2 = a1) (h1 : a0 = a3) (h2 : ¬ a2 < a3) : a0 ≤ a1 + 1 := by omega
theorem oz_dd77e1f903 {a0 a1 a2 a3 a4 : Int} (h0 : a0 = a1) (h1 : a1 = a2) (h2 : ¬ a3 < a2) (h3 : a4 = a3) (h4 : a4 ≤ 2048) : a0 ≤ 2048 := by omega
theorem oz_bfc0cf0d20 {a0 a1 a2 : Int} (h0 : a0 = a1) (h1 : a1 = a2) (h2 : a2 = 0) : a0 = 0 := by omega
theorem oz_35f3a6d852 {a0 a1 a2 a3 a4 : Int} (h0 : a1 = a2) (h1 : a0 = a3 + 1) (h2 : ¬ a4 < a3) (h3 : a2 = a4) : a0 ≤ a1 + 1 := by omega
theorem oz_19383e82c5 {a0 a1 a2 a3 a4 : Int} (h0 : a0 = a2 + 1) (h1 : a1 = a3 + 1) (h2 : a4 = a3) (h3 : a2 = a4) : a0 = a1 := by omega
theorem oz_acd9d871a8 {a0 a1 a3 a4 a5 : Int} {n2 : Nat} (h0 : a3+2-a4 < ((n2 + 1 : Nat) : Int)) (h1 : a0 = a5) (h2 : a1 = a4 + 1) (h3 : a5 = a3) : a0+2-a1 < (n2 : Int) := by omega
theorem oz_628889f9b3 {a0 : Int} (h0 : 0 ≤ a0) : (0 : Int) ≤ a0 + 1 := by omega
/-! SCAN, told in full -/
def ltr (c : Int32) : Int32 := if (97 ≤ c.toInt ∧ c.toInt ≤ 122) ∨ (65 ≤ c.toInt ∧ c.toInt ≤ 90) ∨ c.toInt = 95 then 1 else 0
def IsLt (v c : Int32) : Prop := v = ltr c
def By (tb : Nat → Int32) (n i v : Int32) : Prop := 0 ≤ i.toInt → i.toInt < n.toInt → v = tb i.toNatClampNeg &&& 255
theorem name_l {tb : Nat → Int32} {n i c v : Int32} (h1 : By tb n i c) (h2 : IsLt v c) (h0 : 0 ≤ i.toInt) (h3 : i.toInt < n.toInt) (hv : ¬ v.toInt = 0) : ltr (tb i.toNatClampNeg &&& 255) = 1 := by
  have e := h1 h0 h3
  rw [← e]
  have h4 : v = ltr c := h2
  unfold ltr at h4 ⊢
  split
  · rfl
  · rename_i h; rw [if_neg h] at h4; rw [h4] at hv; exact absurd rfl hv
theorem lt_ge {v c : Int32} (h : IsLt v c) (hv : ¬ v.toInt = 0) : 65 ≤ c.toInt := by
  have h4 : v = ltr c := h
  unfold ltr at h4
  split at h4
  · omega
  · rw [h4] at hv; exact absurd rfl hv
/-- the first byte is still to be taken -/
def Nm0 (tb : Nat → Int32) (x8 y8 c : Int32) : Prop := x8.toInt < y8.toInt ∨ (y8 = x8 ∧ c = tb x8.toNatClampNeg &&& 255)
theorem Nm0.go {tb : Nat → Int32} {x8 y8 c v : Int32} (h : Nm0 tb x8 y8 c) (hL : ltr (tb x8.toNatClampNeg &&& 255) = 1) (h2 : IsLt v c) (hv : v.toInt = 0) : x8.toInt < y8.toInt := by
  rcases h with h | ⟨-, h⟩
  · exact h
  · have h4 : v = ltr c := h2
    rw [h, hL] at h4
    rw [h4] at hv
    exact absurd hv (by decide)
theorem Nm0.len {tb : Nat → Int32} {x8 y8 c : Int32} (h : Nm0 tb x8 y8 c) {n : Int} (h1 : x8.toInt < n) (h2 : n ≤ y8.toInt) : x8.toInt < y8.toInt := by omega
def LsT (v : Int32) (k : Nat → Int32) (c : Int32) : Prop := v.toInt = 0 → LastOk k c
theorem last_mk {k : Nat → Int32} {x z c : Int32} (h0 : 0 ≤ x.toInt) (hc : c.toInt = x.toInt + 1) (hz : z.toInt = 0 ∨ z.toInt = 19) : LastOk (upd k x.toNatClampNeg z) c := by
  intro y hy
  have e : y = x := Int32.toInt_inj.mp (by omega)
  rw [e, pk_us]
  exact hz
theorem q5_up {c : Nat → Int32} {i : Nat} {z : Int32} (h : Q5 c) (hz : z.toInt ≤ 200) : Q5 (upd c i z) := fun j => by
  by_cases e : j = i
  · rw [e, pk_us]; exact hz
  · rw [pk_un e]; exact h j
set_option maxHeartbeats 4000000 in
set_option maxRecDepth 100000 in
theorem c_t2_doubled (l : Launch) (D : va_G) (cs : Nat → ClassId)  (p0 : Int32)   : MetI l y_Tok_doubled b_Tok_doubled 1 (.int) D cs 0 0 (0) (0) [.int p0] [] (fun _ => True) (fun v ps => (ps = []) ∧ (R_t2_doubled p0 v)) := by
  refine px_enter (by decide) (Nat.le_of_ble_eq_true rfl) ?_
  intro p e s m below meth c A ls hAe S hr hlk hnm hA hT hX hw hl
  have hl : lv_has ls 1 [(0, .int p0)] := hl
  have lp0 := Int32.le_toInt p0
  have up0 := Int32.toInt_lt p0
  have cst0 : (0 : Int32).toInt = 0 := rfl
  have cst134 : (134 : Int32).toInt = 134 := rfl
  have cst135 : (135 : Int32).toInt = 135 := rfl
  have cst136 : (136 : Int32).toInt = 136 := rfl
  have cst137 : (137 : Int32).toInt = 137 := rfl
  have cst138 : (138 : Int32).toInt = 138 := rfl
  have cst139 : (139 : Int32).toInt = 139 := rfl
  refine lv_iload_n S.x S.b d_Tok_doubled_0 rfl (lv_at hl 0 rfl) ?_
  refine px_lookD S (dt := 84) [38, 43, 45, 60, 62, 124] [(68, [38]), (60, [43]), (64, [45]), (76, [60]), (80, [62]), (72, [124])] d_Tok_doubled_1 (by decide +kernel) (by decide) (by decide +kernel) (by decide +kernel) ?_ ?_
  · intro hdf_1
    refine lv_iconst (v := 0) S.x S.b d_Tok_doubled_84 (by decide) ?_
    exact px_iret (v := 0) S hr rfl hlk hAe hw (Nat.le_of_ble_eq_true rfl) (Nat.le_of_ble_eq_true rfl) (⟨rfl, (show R_t2_doubled p0 (0 : Int32) from (Or.inl (Or.inl ⟨hdf_1, rfl⟩)))⟩) d_Tok_doubled_85
  · refine List.forall_mem_cons.mpr ⟨fun c2 => ?_, List.forall_mem_cons.mpr ⟨fun c2 => ?_, List.forall_mem_cons.mpr ⟨fun c2 => ?_, List.forall_mem_cons.mpr ⟨fun c2 => ?_, List.forall_mem_cons.mpr ⟨fun c2 => ?_, List.forall_mem_cons.mpr ⟨fun c2 => ?_, fun _ h => absurd h List.not_mem_nil⟩⟩⟩⟩⟩⟩
    · simp only [List.mem_cons, List.not_mem_nil, or_false] at c2
      refine lv_sipush (v := 136) S.x S.b d_Tok_doubled_68 (by decide) ?_
      exact px_iret (v := 136) S hr rfl hlk hAe hw (Nat.le_of_ble_eq_true rfl) (Nat.le_of_ble_eq_true rfl) (⟨rfl, (show R_t2_doubled p0 (136 : Int32) from (Or.inl (Or.inr (Or.inl ⟨c2, rfl⟩))))⟩) d_Tok_doubled_71
    · simp only [List.mem_cons, List.not_mem_nil, or_false] at c2
      refine lv_sipush (v := 138) S.x S.b d_Tok_doubled_60 (by decide) ?_
      exact px_iret (v := 138) S hr rfl hlk hAe hw (Nat.le_of_ble_eq_true rfl) (Nat.le_of_ble_eq_true rfl) (⟨rfl, (show R_t2_doubled p0 (138 : Int32) from (Or.inl (Or.inr (Or.inr (Or.inl ⟨c2, rfl⟩)))))⟩) d_Tok_doubled_63
    · simp only [List.mem_cons, List.not_mem_nil, or_false] at c2
      refine lv_sipush (v := 139) S.x S.b d_Tok_doubled_64 (by decide) ?_
      exact px_iret (v := 139) S hr rfl hlk hAe hw (Nat.le_of_ble_eq_true rfl) (Nat.le_of_ble_eq_true rfl) (⟨rfl, (show R_t2_doubled p0 (139 : Int32) from (Or.inl (Or.inr (Or.inr (Or.inr (Or.inl ⟨c2, rfl⟩))))))⟩) d_Tok_doubled_67
    · simp only [List.mem_cons, List.not_mem_nil, or_false] at c2
      refine lv_sipush (v := 134) S.x S.b d_Tok_doubled_76 (by decide) ?_
      exact px_iret (v := 134) S hr rfl hlk hAe hw (Nat.le_of_ble_eq_true rfl) (Nat.le_of_ble_eq_true rfl) (⟨rfl, (show R_t2_doubled p0 (134 : Int32) from (Or.inl (Or.inr (Or.inr (Or.inr (Or.inr (Or.inl ⟨c2, rfl⟩)))))))⟩) d_Tok_doubled_79
    · simp only [List.mem_cons, List.not_mem_nil, or_false] at c2
      refine lv_sipush (v := 135) S.x S.b d_Tok_doubled_80 (by decide) ?_
      exact px_iret (v := 135) S hr rfl hlk hAe hw (Nat.le_of_ble_eq_true rfl) (Nat.le_of_ble_eq_true rfl) (⟨rfl, (show R_t2_doubled p0 (135 : Int32) from (Or.inl (Or.inr (Or.inr (Or.inr (Or.inr (Or.inr (Or.inl ⟨c2, rfl⟩))))))))⟩) d_Tok_doubled_83
    · simp only [List.mem_cons, List.not_mem_nil, or_false] at c2
      refine lv_sipush (v := 137) S.x S.b d_Tok_doubled_72 (by decide) ?_
      exact px_iret (v := 137) S hr rfl hlk hAe hw (Nat.le_of_ble_eq_true rfl) (Nat.le_of_ble_eq_true rfl) (⟨rfl, (show R_t2_doubled p0 (137 : Int32) from (Or.inl (Or.inr (Or.inr (Or.inr (Or.inr (Or.inr (Or.inr ⟨c2, rfl⟩))))))))⟩) d_Tok_doubled_75
set_option maxHeartbeats 4000000 in
set_option maxRecDepth 100000 in
theorem c_t2_withEquals (l : Launch) (D : va_G) (cs : Nat → ClassId)  (p0 : Int32)   : MetI l y_Tok_withEquals b_Tok_withEquals 1 (.int) D cs 0 0 (0) (0) [.int p0] [] (fun _ => True) (fun v ps => (ps = []) ∧ (R_t2_withEquals p0 v)) := by
  refine px_enter (by decide) (Nat.le_of_ble_eq_true rfl) ?_
  intro p e s m below meth c A ls hAe S hr hlk hnm hA hT hX hw hl
  have hl : lv_has ls 1 [(0, .int p0)] := hl
  have lp0 := Int32.le_toInt p0
  have up0 := Int32.toInt_lt p0
  have cst0 : (0 : Int32).toInt = 0 := rfl
  have cst130 : (130 : Int32).toInt = 130 := rfl
  have cst131 : (131 : Int32).toInt = 131 := rfl
  have cst132 : (132 : Int32).toInt = 132 := rfl
  have cst133 : (133 : Int32).toInt = 133 := rfl
  have cst256 : (256 : Int32).toInt = 256 := rfl
  refine lv_iload_n S.x S.b d_Tok_withEquals_0 rfl (lv_at hl 0 rfl) ?_
  refine px_lookD S (dt := 146) [33, 37, 38, 42, 43, 45, 47, 60, 62, 94, 124, 134, 135, 256] [(128, [33]), (140, [37, 38, 42, 43, 45, 47, 94, 124, 134, 135]), (132, [60]), (136, [62]), (124, [256])] d_Tok_withEquals_1 (by decide +kernel) (by decide) (by decide +kernel) (by decide +kernel) ?_ ?_
  · intro hdf_1
    refine lv_iconst (v := 0) S.x S.b d_Tok_withEquals_146 (by decide) ?_
    exact px_iret (v := 0) S hr rfl hlk hAe hw (Nat.le_of_ble_eq_true rfl) (Nat.le_of_ble_eq_true rfl) (⟨rfl, (show R_t2_withEquals p0 (0 : Int32) from (Or.inl (Or.inl ⟨hdf_1, rfl⟩)))⟩) d_Tok_withEquals_147
  · refine List.forall_mem_cons.mpr ⟨fun c2 => ?_, List.forall_mem_cons.mpr ⟨fun c2 => ?_, List.forall_mem_cons.mpr ⟨fun c2 => ?_, List.forall_mem_cons.mpr ⟨fun c2 => ?_, List.forall_mem_cons.mpr ⟨fun c2 => ?_, fun _ h => absurd h List.not_mem_nil⟩⟩⟩⟩⟩
    · simp only [List.mem_cons, List.not_mem_nil, or_false] at c2
      refine lv_sipush (v := 131) S.x S.b d_Tok_withEquals_128 (by decide) ?_
      exact px_iret (v := 131) S hr rfl hlk hAe hw (Nat.le_of_ble_eq_true rfl) (Nat.le_of_ble_eq_true rfl) (⟨rfl, (show R_t2_withEquals p0 (131 : Int32) from (Or.inl (Or.inr (Or.inl ⟨c2, rfl⟩))))⟩) d_Tok_withEquals_131
    · simp only [List.mem_cons, List.not_mem_nil, or_false] at c2
      refine lv_sipush (v := 256) S.x S.b d_Tok_withEquals_140 (by decide) ?_
      refine lv_iload_n S.x S.b d_Tok_withEquals_143 rfl (lv_at hl 0 rfl) ?_
      refine lv_iadd S.x S.b d_Tok_withEquals_144 ?_
      refine lv_topi (fun z3 ez3 => ?_)
      have tz3 : z3.toInt = ((256 : Int) + p0.toInt + 2147483648) % 4294967296 - 2147483648 := by rw [ez3]; exact i_add 256 p0
      have lz3 := Int32.le_toInt z3
      have uz3 := Int32.toInt_lt z3
      try replace tz3 : z3.toInt = (256 : Int) + p0.toInt := by omega
      exact px_iret (v := z3) S hr rfl hlk hAe hw (Nat.le_of_ble_eq_true rfl) (Nat.le_of_ble_eq_true rfl) (⟨rfl, (show R_t2_withEquals p0 z3 from (Or.inl (Or.inr (Or.inr (Or.inl ⟨c2, z3, ez3, rfl⟩)))))⟩) d_Tok_withEquals_145
    · simp only [List.mem_cons, List.not_mem_nil, or_false] at c2
      refine lv_sipush (v := 132) S.x S.b d_Tok_withEquals_132 (by decide) ?_
      exact px_iret (v := 132) S hr rfl hlk hAe hw (Nat.le_of_ble_eq_true rfl) (Nat.le_of_ble_eq_true rfl) (⟨rfl, (show R_t2_withEquals p0 (132 : Int32) from (Or.inl (Or.inr (Or.inr (Or.inr (Or.inl ⟨c2, rfl⟩))))))⟩) d_Tok_withEquals_135
    · simp only [List.mem_cons, List.not_mem_nil, or_false] at c2
      refine lv_sipush (v := 133) S.x S.b d_Tok_withEquals_136 (by decide) ?_
      exact px_iret (v := 133) S hr rfl hlk hAe hw (Nat.le_of_ble_eq_true rfl) (Nat.le_of_ble_eq_true rfl) (⟨rfl, (show R_t2_withEquals p0 (133 : Int32) from (Or.inl (Or.inr (Or.inr (Or.inr (Or.inr (Or.inl ⟨c2, rfl⟩)))))))⟩) d_Tok_withEquals_139
    · simp only [List.mem_cons, List.not_mem_nil, or_false] at c2
      refine lv_sipush (v := 130) S.x S.b d_Tok_withEquals_124 (by decide) ?_
      exact px_iret (v := 130) S hr rfl hlk hAe hw (Nat.le_of_ble_eq_true rfl) (Nat.le_of_ble_eq_true rfl) (⟨rfl, (show R_t2_withEquals p0 (130 : Int32) from (Or.inl (Or.inr (Or.inr (Or.inr (Or.inr (Or.inr ⟨c2, rfl⟩)))))))⟩) d_Tok_withEquals_127
set_option maxHeartbeats 4000000 in
set_option maxRecDepth 100000 in
theorem c_t2_isLetter (l : Launch) (D : va_G) (cs : Nat → ClassId)  (p0 : Int32)   : MetI l y_Tok_isLetter b_Tok_isLetter 1 (.boolean) D cs 0 0 (0) (0) [.int p0] [] (fun _ => True) (fun v ps => (ps = []) ∧ (v = 0 ∨ v = 1) ∧ (IsLt v p0) ∧ (R_t2_isLetter p0 v)) := by
  refine px_enter (by decide) (Nat.le_of_ble_eq_true rfl) ?_
  intro p e s m below meth c A ls hAe S hr hlk hnm hA hT hX hw hl
  have hl : lv_has ls 1 [(0, .int p0)] := hl
  have lp0 := Int32.le_toInt p0
  have up0 := Int32.toInt_lt p0
  have cst0 : (0 : Int32).toInt = 0 := rfl
  have cst1 : (1 : Int32).toInt = 1 := rfl
  have cst65 : (65 : Int32).toInt = 65 := rfl
  have cst90 : (90 : Int32).toInt = 90 := rfl
  have cst95 : (95 : Int32).toInt = 95 := rfl
  have cst97 : (97 : Int32).toInt = 97 := rfl
  have cst122 : (122 : Int32).toInt = 122 := rfl
  refine lv_iload_n S.x S.b d_Tok_isLetter_0 rfl (lv_at hl 0 rfl) ?_
  refine lv_bipush (v := 97) S.x S.b d_Tok_isLetter_1 (by decide) ?_
  refine lv_icmp_lt (tgt := 12) S.x S.b d_Tok_isLetter_3 (by decide) (fun c1 => ?_) (fun c1 => ?_)
  · have nc1 : p0.toInt < (97 : Int) := (i_lt (x := p0) (y := 97)).mp c1
    refine lv_iload_n S.x S.b d_Tok_isLetter_12 rfl (lv_at hl 0 rfl) ?_
    refine lv_bipush (v := 65) S.x S.b d_Tok_isLetter_13 (by decide) ?_
    refine lv_icmp_lt (tgt := 24) S.x S.b d_Tok_isLetter_15 (by decide) (fun c3 => ?_) (fun c3 => ?_)
    · have nc3 : p0.toInt < (65 : Int) := (i_lt (x := p0) (y := 65)).mp c3
      refine lv_iload_n S.x S.b d_Tok_isLetter_24 rfl (lv_at hl 0 rfl) ?_
      refine lv_bipush (v := 95) S.x S.b d_Tok_isLetter_25 (by decide) ?_
      refine lv_icmp_ne (tgt := 34) S.x S.b d_Tok_isLetter_27 (by decide) (fun c5 => ?_) (fun c5 => ?_)
      · have nc5 : ¬ p0.toInt = (95 : Int) := mt (i_eq (x := p0) (y := 95)).mpr c5
        refine lv_iconst (v := 0) S.x S.b d_Tok_isLetter_34 (by decide) ?_
        exact px_iret (v := 0) S hr rfl hlk hAe hw (Nat.le_of_ble_eq_true rfl) (Nat.le_of_ble_eq_true rfl) (⟨rfl, (show (0 : Int32) = 0 ∨ (0 : Int32) = 1 from by first | exact Or.inl rfl | exact Or.inr rfl | exact z_or (by omega)), (show IsLt (0 : Int32) p0 from (by unfold IsLt ltr; split <;> first | rfl | (exfalso; omega))), (show R_t2_isLetter p0 (0 : Int32) from (Or.inl (Or.inl ⟨nc1, Or.inl ⟨nc3, Or.inl ⟨nc5, rfl⟩⟩⟩)))⟩) d_Tok_isLetter_35
      · have nc5 : p0.toInt = (95 : Int) := (i_eq (x := p0) (y := 95)).mp c5
        refine lv_iconst (v := 1) S.x S.b d_Tok_isLetter_30 (by decide) ?_
        refine lv_goto (tgt := 35) S.x S.b d_Tok_isLetter_31 (by decide) ?_
        exact px_iret (v := 1) S hr rfl hlk hAe hw (Nat.le_of_ble_eq_true rfl) (Nat.le_of_ble_eq_true rfl) (⟨rfl, (show (1 : Int32) = 0 ∨ (1 : Int32) = 1 from by first | exact Or.inl rfl | exact Or.inr rfl | exact z_or (by omega)), (show IsLt (1 : Int32) p0 from (by unfold IsLt ltr; split <;> first | rfl | (exfalso; omega))), (show R_t2_isLetter p0 (1 : Int32) from (Or.inl (Or.inl ⟨nc1, Or.inl ⟨nc3, Or.inr ⟨nc5, rfl⟩⟩⟩)))⟩) d_Tok_isLetter_35
    · have nc3 : ¬ p0.toInt < (65 : Int) := mt (i_lt (x := p0) (y := 65)).mpr c3
      refine lv_iload_n S.x S.b d_Tok_isLetter_18 rfl (lv_at hl 0 rfl) ?_
      refine lv_bipush (v := 90) S.x S.b d_Tok_isLetter_19 (by decide) ?_
      refine lv_icmp_le (tgt := 30) S.x S.b d_Tok_isLetter_21 (by decide) (fun c7 => ?_) (fun c7 => ?_)
      · have nc7 : p0.toInt ≤ (90 : Int) := (i_le (x := p0) (y := 90)).mp c7
        refine lv_iconst (v := 1) S.x S.b d_Tok_isLetter_30 (by decide) ?_
        refine lv_goto (tgt := 35) S.x S.b d_Tok_isLetter_31 (by decide) ?_
        exact px_iret (v := 1) S hr rfl hlk hAe hw (Nat.le_of_ble_eq_true rfl) (Nat.le_of_ble_eq_true rfl) (⟨rfl, (show (1 : Int32) = 0 ∨ (1 : Int32) = 1 from by first | exact Or.inl rfl | exact Or.inr rfl | exact z_or (by omega)), (show IsLt (1 : Int32) p0 from (by unfold IsLt ltr; split <;> first | rfl | (exfalso; omega))), (show R_t2_isLetter p0 (1 : Int32) from (Or.inl (Or.inl ⟨nc1, Or.inr ⟨nc3, Or.inl ⟨nc7, rfl⟩⟩⟩)))⟩) d_Tok_isLetter_35
      · have nc7 : ¬ p0.toInt ≤ (90 : Int) := mt (i_le (x := p0) (y := 90)).mpr c7
        refine lv_iload_n S.x S.b d_Tok_isLetter_24 rfl (lv_at hl 0 rfl) ?_
        refine lv_bipush (v := 95) S.x S.b d_Tok_isLetter_25 (by decide) ?_
        refine lv_icmp_ne (tgt := 34) S.x S.b d_Tok_isLetter_27 (by decide) (fun c9 => ?_) (fun c9 => ?_)
        · have nc9 : ¬ p0.toInt = (95 : Int) := mt (i_eq (x := p0) (y := 95)).mpr c9
          refine lv_iconst (v := 0) S.x S.b d_Tok_isLetter_34 (by decide) ?_
          exact px_iret (v := 0) S hr rfl hlk hAe hw (Nat.le_of_ble_eq_true rfl) (Nat.le_of_ble_eq_true rfl) (⟨rfl, (show (0 : Int32) = 0 ∨ (0 : Int32) = 1 from by first | exact Or.inl rfl | exact Or.inr rfl | exact z_or (by omega)), (show IsLt (0 : Int32) p0 from (by unfold IsLt ltr; split <;> first | rfl | (exfalso; omega))), (show R_t2_isLetter p0 (0 : Int32) from (Or.inl (Or.inl ⟨nc1, Or.inr ⟨nc3, Or.inr ⟨nc7, Or.inl ⟨nc9, rfl⟩⟩⟩⟩)))⟩) d_Tok_isLetter_35
        · have nc9 : p0.toInt = (95 : Int) := (i_eq (x := p0) (y := 95)).mp c9
          refine lv_iconst (v := 1) S.x S.b d_Tok_isLetter_30 (by decide) ?_
          refine lv_goto (tgt := 35) S.x S.b d_Tok_isLetter_31 (by decide) ?_
          exact px_iret (v := 1) S hr rfl hlk hAe hw (Nat.le_of_ble_eq_true rfl) (Nat.le_of_ble_eq_true rfl) (⟨rfl, (show (1 : Int32) = 0 ∨ (1 : Int32) = 1 from by first | exact Or.inl rfl | exact Or.inr rfl | exact z_or (by omega)), (show IsLt (1 : Int32) p0 from (by unfold IsLt ltr; split <;> first | rfl | (exfalso; omega))), (show R_t2_isLetter p0 (1 : Int32) from (Or.inl (Or.inl ⟨nc1, Or.inr ⟨nc3, Or.inr ⟨nc7, Or.inr ⟨nc9, rfl⟩⟩⟩⟩)))⟩) d_Tok_isLetter_35
  · have nc1 : ¬ p0.toInt < (97 : Int) := mt (i_lt (x := p0) (y := 97)).mpr c1
    refine lv_iload_n S.x S.b d_Tok_isLetter_6 rfl (lv_at hl 0 rfl) ?_
    refine lv_bipush (v := 122) S.x S.b d_Tok_isLetter_7 (by decide) ?_
    refine lv_icmp_le (tgt := 30) S.x S.b d_Tok_isLetter_9 (by decide) (fun c11 => ?_) (fun c11 => ?_)
    · have nc11 : p0.toInt ≤ (122 : Int) := (i_le (x := p0) (y := 122)).mp c11
      refine lv_iconst (v := 1) S.x S.b d_Tok_isLetter_30 (by decide) ?_
      refine lv_goto (tgt := 35) S.x S.b d_Tok_isLetter_31 (by decide) ?_
      exact px_iret (v := 1) S hr rfl hlk hAe hw (Nat.le_of_ble_eq_true rfl) (Nat.le_of_ble_eq_true rfl) (⟨rfl, (show (1 : Int32) = 0 ∨ (1 : Int32) = 1 from by first | exact Or.inl rfl | exact Or.inr rfl | exact z_or (by omega)), (show IsLt (1 : Int32) p0 from (by unfold IsLt ltr; split <;> first | rfl | (exfalso; omega))), (show R_t2_isLetter p0 (1 : Int32) from (Or.inl (Or.inr ⟨nc1, Or.inl ⟨nc11, rfl⟩⟩)))⟩) d_Tok_isLetter_35
    · have nc11 : ¬ p0.toInt ≤ (122 : Int) := mt (i_le (x := p0) (y := 122)).mpr c11
      refine lv_iload_n S.x S.b d_Tok_isLetter_12 rfl (lv_at hl 0 rfl) ?_
      refine lv_bipush (v := 65) S.x S.b d_Tok_isLetter_13 (by decide) ?_
      refine lv_icmp_lt (tgt := 24) S.x S.b d_Tok_isLetter_15 (by decide) (fun c13 => ?_) (fun c13 => ?_)
      · have nc13 : p0.toInt < (65 : Int) := (i_lt (x := p0) (y := 65)).mp c13
        refine lv_iload_n S.x S.b d_Tok_isLetter_24 rfl (lv_at hl 0 rfl) ?_
        refine lv_bipush (v := 95) S.x S.b d_Tok_isLetter_25 (by decide) ?_
        refine lv_icmp_ne (tgt := 34) S.x S.b d_Tok_isLetter_27 (by decide) (fun c15 => ?_) (fun c15 => ?_)
        · have nc15 : ¬ p0.toInt = (95 : Int) := mt (i_eq (x := p0) (y := 95)).mpr c15
          refine lv_iconst (v := 0) S.x S.b d_Tok_isLetter_34 (by decide) ?_
          exact px_iret (v := 0) S hr rfl hlk hAe hw (Nat.le_of_ble_eq_true rfl) (Nat.le_of_ble_eq_true rfl) (⟨rfl, (show (0 : Int32) = 0 ∨ (0 : Int32) = 1 from by first | exact Or.inl rfl | exact Or.inr rfl | exact z_or (by omega)), (show IsLt (0 : Int32) p0 from (by unfold IsLt ltr; split <;> first | rfl | (exfalso; omega))), (show R_t2_isLetter p0 (0 : Int32) from (Or.inl (Or.inr ⟨nc1, Or.inr ⟨nc11, Or.inl ⟨nc13, Or.inl ⟨nc15, rfl⟩⟩⟩⟩)))⟩) d_Tok_isLetter_35
        · have nc15 : p0.toInt = (95 : Int) := (i_eq (x := p0) (y := 95)).mp c15
          refine lv_iconst (v := 1) S.x S.b d_Tok_isLetter_30 (by decide) ?_
          refine lv_goto (tgt := 35) S.x S.b d_Tok_isLetter_31 (by decide) ?_
          exact px_iret (v := 1) S hr rfl hlk hAe hw (Nat.le_of_ble_eq_true rfl) (Nat.le_of_ble_eq_true rfl) (⟨rfl, (show (1 : Int32) = 0 ∨ (1 : Int32) = 1 from by first | exact Or.inl rfl | exact Or.inr rfl | exact z_or (by omega)), (show IsLt (1 : Int32) p0 from (by unfold IsLt ltr; split <;> first | rfl | (exfalso; omega))), (show R_t2_isLetter p0 (1 : Int32) from (Or.inl (Or.inr ⟨nc1, Or.inr ⟨nc11, Or.inl ⟨nc13, Or.inr ⟨nc15, rfl⟩⟩⟩⟩)))⟩) d_Tok_isLetter_35
      · have nc13 : ¬ p0.toInt < (65 : Int) := mt (i_lt (x := p0) (y := 65)).mpr c13
        refine lv_iload_n S.x S.b d_Tok_isLetter_18 rfl (lv_at hl 0 rfl) ?_
        refine lv_bipush (v := 90) S.x S.b d_Tok_isLetter_19 (by decide) ?_
        refine lv_icmp_le (tgt := 30) S.x S.b d_Tok_isLetter_21 (by decide) (fun c17 => ?_) (fun c17 => ?_)
        · have nc17 : p0.toInt ≤ (90 : Int) := (i_le (x := p0) (y := 90)).mp c17
          refine lv_iconst (v := 1) S.x S.b d_Tok_isLetter_30 (by decide) ?_
          refine lv_goto (tgt := 35) S.x S.b d_Tok_isLetter_31 (by decide) ?_
          exact px_iret (v := 1) S hr rfl hlk hAe hw (Nat.le_of_ble_eq_true rfl) (Nat.le_of_ble_eq_true rfl) (⟨rfl, (show (1 : Int32) = 0 ∨ (1 : Int32) = 1 from by first | exact Or.inl rfl | exact Or.inr rfl | exact z_or (by omega)), (show IsLt (1 : Int32) p0 from (by unfold IsLt ltr; split <;> first | rfl | (exfalso; omega))), (show R_t2_isLetter p0 (1 : Int32) from (Or.inl (Or.inr ⟨nc1, Or.inr ⟨nc11, Or.inr ⟨nc13, Or.inl ⟨nc17, rfl⟩⟩⟩⟩)))⟩) d_Tok_isLetter_35
        · have nc17 : ¬ p0.toInt ≤ (90 : Int) := mt (i_le (x := p0) (y := 90)).mpr c17
          refine lv_iload_n S.x S.b d_Tok_isLetter_24 rfl (lv_at hl 0 rfl) ?_
          refine lv_bipush (v := 95) S.x S.b d_Tok_isLetter_25 (by decide) ?_
          refine lv_icmp_ne (tgt := 34) S.x S.b d_Tok_isLetter_27 (by decide) (fun c19 => ?_) (fun c19 => ?_)
          · have nc19 : ¬ p0.toInt = (95 : Int) := mt (i_eq (x := p0) (y := 95)).mpr c19
            refine lv_iconst (v := 0) S.x S.b d_Tok_isLetter_34 (by decide) ?_
            exact px_iret (v := 0) S hr rfl hlk hAe hw (Nat.le_of_ble_eq_true rfl) (Nat.le_of_ble_eq_true rfl) (⟨rfl, (show (0 : Int32) = 0 ∨ (0 : Int32) = 1 from by first | exact Or.inl rfl | exact Or.inr rfl | exact z_or (by omega)), (show IsLt (0 : Int32) p0 from (by unfold IsLt ltr; split <;> first | rfl | (exfalso; omega))), (show R_t2_isLetter p0 (0 : Int32) from (Or.inl (Or.inr ⟨nc1, Or.inr ⟨nc11, Or.inr ⟨nc13, Or.inr ⟨nc17, Or.inl ⟨nc19, rfl⟩⟩⟩⟩⟩)))⟩) d_Tok_isLetter_35
          · have nc19 : p0.toInt = (95 : Int) := (i_eq (x := p0) (y := 95)).mp c19
            refine lv_iconst (v := 1) S.x S.b d_Tok_isLetter_30 (by decide) ?_
            refine lv_goto (tgt := 35) S.x S.b d_Tok_isLetter_31 (by decide) ?_
            exact px_iret (v := 1) S hr rfl hlk hAe hw (Nat.le_of_ble_eq_true rfl) (Nat.le_of_ble_eq_true rfl) (⟨rfl, (show (1 : Int32) = 0 ∨ (1 : Int32) = 1 from by first | exact Or.inl rfl | exact Or.inr rfl | exact z_or (by omega)), (show IsLt (1 : Int32) p0 from (by unfold IsLt ltr; split <;> first | rfl | (exfalso; omega))), (show R_t2_isLetter p0 (1 : Int32) from (Or.inl (Or.inr ⟨nc1, Or.inr ⟨nc11, Or.inr ⟨nc13, Or.inr ⟨nc17, Or.inr ⟨nc19, rfl⟩⟩⟩⟩⟩)))⟩) d_Tok_isLetter_35
set_option maxHeartbeats 4000000 in
set_option maxRecDepth 100000 in
theorem c_t2_isDigit (l : Launch) (D : va_G) (cs : Nat → ClassId)  (p0 : Int32)   : MetI l y_Tok_isDigit b_Tok_isDigit 1 (.boolean) D cs 0 0 (0) (0) [.int p0] [] (fun _ => True) (fun v ps => (ps = []) ∧ (v = 0 ∨ v = 1) ∧ (v.toInt = 1 → 48 ≤ p0.toInt) ∧ (R_t2_isDigit p0 v)) := by
  refine px_enter (by decide) (Nat.le_of_ble_eq_true rfl) ?_
  intro p e s m below meth c A ls hAe S hr hlk hnm hA hT hX hw hl
  have hl : lv_has ls 1 [(0, .int p0)] := hl
  have lp0 := Int32.le_toInt p0
  have up0 := Int32.toInt_lt p0
  have cst0 : (0 : Int32).toInt = 0 := rfl
  have cst1 : (1 : Int32).toInt = 1 := rfl
  have cst48 : (48 : Int32).toInt = 48 := rfl
  have cst57 : (57 : Int32).toInt = 57 := rfl
  refine lv_iload_n S.x S.b d_Tok_isDigit_0 rfl (lv_at hl 0 rfl) ?_
  refine lv_bipush (v := 48) S.x S.b d_Tok_isDigit_1 (by decide) ?_
  refine lv_icmp_lt (tgt := 16) S.x S.b d_Tok_isDigit_3 (by decide) (fun c1 => ?_) (fun c1 => ?_)
  · have nc1 : p0.toInt < (48 : Int) := (i_lt (x := p0) (y := 48)).mp c1
    refine lv_iconst (v := 0) S.x S.b d_Tok_isDigit_16 (by decide) ?_
    exact px_iret (v := 0) S hr rfl hlk hAe hw (Nat.le_of_ble_eq_true rfl) (Nat.le_of_ble_eq_true rfl) (⟨rfl, (show (0 : Int32) = 0 ∨ (0 : Int32) = 1 from by first | exact Or.inl rfl | exact Or.inr rfl | exact z_or (by omega)), (show (0 : Int) = 1 → 48 ≤ p0.toInt from by omega), (show R_t2_isDigit p0 (0 : Int32) from (Or.inl (Or.inl ⟨nc1, rfl⟩)))⟩) d_Tok_isDigit_17
  · have nc1 : ¬ p0.toInt < (48 : Int) := mt (i_lt (x := p0) (y := 48)).mpr c1
    refine lv_iload_n S.x S.b d_Tok_isDigit_6 rfl (lv_at hl 0 rfl) ?_
    refine lv_bipush (v := 57) S.x S.b d_Tok_isDigit_7 (by decide) ?_
    refine lv_icmp_gt (tgt := 16) S.x S.b d_Tok_isDigit_9 (by decide) (fun c3 => ?_) (fun c3 => ?_)
    · have nc3 : (57 : Int) < p0.toInt := (i_lt (x := 57) (y := p0)).mp c3
      refine lv_iconst (v := 0) S.x S.b d_Tok_isDigit_16 (by decide) ?_
      exact px_iret (v := 0) S hr rfl hlk hAe hw (Nat.le_of_ble_eq_true rfl) (Nat.le_of_ble_eq_true rfl) (⟨rfl, (show (0 : Int32) = 0 ∨ (0 : Int32) = 1 from by first | exact Or.inl rfl | exact Or.inr rfl | exact z_or (by omega)), (show (0 : Int) = 1 → 48 ≤ p0.toInt from by omega), (show R_t2_isDigit p0 (0 : Int32) from (Or.inl (Or.inr ⟨nc1, Or.inl ⟨nc3, rfl⟩⟩)))⟩) d_Tok_isDigit_17
    · have nc3 : ¬ (57 : Int) < p0.toInt := mt (i_lt (x := 57) (y := p0)).mpr c3
      refine lv_iconst (v := 1) S.x S.b d_Tok_isDigit_12 (by decide) ?_
      refine lv_goto (tgt := 17) S.x S.b d_Tok_isDigit_13 (by decide) ?_
      exact px_iret (v := 1) S hr rfl hlk hAe hw (Nat.le_of_ble_eq_true rfl) (Nat.le_of_ble_eq_true rfl) (⟨rfl, (show (1 : Int32) = 0 ∨ (1 : Int32) = 1 from by first | exact Or.inl rfl | exact Or.inr rfl | exact z_or (by omega)), (show (1 : Int) = 1 → 48 ≤ p0.toInt from by omega), (show R_t2_isDigit p0 (1 : Int32) from (Or.inl (Or.inr ⟨nc1, Or.inr ⟨nc3, rfl⟩⟩)))⟩) d_Tok_isDigit_17
set_option maxHeartbeats 4000000 in
set_option maxRecDepth 100000 in
theorem c_t2_byteAt (l : Launch) (D : va_G) (cs : Nat → ClassId) (h : Nat) (r : Nat → Nat) (tp : Nat) (tb : Nat → Int32) (g : Nat → Nat → Option Nat) (f : Nat → Int32) (a : Nat → Nat → Int32) (p0 : Int32)  (hinv0 : TokOk (f 7) (f 8) (f 10) (f 11) (f 12) (f 13) (f 17) (a 4)) : MetI l y_Tok_byteAt b_Tok_byteAt 2 (.int) D cs 0 0 (0) (0) [.ref h, .int p0] [wd_Tok cs h r (fun _ => some tp) f a g, [(tp, .inl (cs 1, 2048, .inl tb))]] (fun _ => True) (fun v ps => (ps = [wd_Tok cs h r (fun _ => some tp) f a g, [(tp, .inl (cs 1, 2048, .inl tb))]]) ∧ (-1 ≤ v.toInt) ∧ (v.toInt ≤ 255) ∧ (0 ≤ v.toInt → 0 ≤ p0.toInt ∧ p0.toInt < (f 7).toInt) ∧ (By tb (f 7) p0 v) ∧ (R_t2_byteAt tb f p0 v)) := by
  refine px_enter (by decide) (Nat.le_of_ble_eq_true rfl) ?_
  intro p e s m below meth c A ls hAe S hr hlk hnm hA hT hX hw hl
  have hl : lv_has ls 2 [(0, .ref h), (1, .int p0)] := hl
  have lp0 := Int32.le_toInt p0
  have up0 := Int32.toInt_lt p0
  have cstm1 : ((-1) : Int32).toInt = (-1) := rfl
  have cst255 : (255 : Int32).toInt = 255 := rfl
  obtain ⟨⟨o1, o2⟩, ⟨o3, o4⟩, ⟨o5, o6⟩, ⟨o7, o8⟩, ⟨o9, o10⟩, ⟨o11, o12⟩, o13, hn4⟩ := hinv0
  refine lv_aload_n S.x S.b d_Tok_byteAt_0 rfl (lv_at hl 0 rfl) ?_
  refine px_get S k_Tok hT hw 0 0 6 (v := .ref tp) rfl rfl rfl (by decide) m1_109 d_Tok_byteAt_1 ?_
  refine lv_ifnull S.x S.b d_Tok_byteAt_4 ?_
  refine lv_iload_n S.x S.b d_Tok_byteAt_7 rfl (lv_at hl 1 rfl) ?_
  refine lv_if_lt (tgt := 41) S.x S.b d_Tok_byteAt_8 (by decide) (fun c1 => ?_) (fun c1 => ?_)
  · have nc1 : p0.toInt < (0 : Int) := (i_lt (x := p0) (y := 0)).mp c1
    refine lv_iconst (v := (-1)) S.x S.b d_Tok_byteAt_41 (by decide) ?_
    first | exact px_iret (v := (-1)) S hr rfl hlk hAe hw (Nat.le_of_ble_eq_true rfl) (Nat.le_of_ble_eq_true rfl) (⟨rfl, (show -1 ≤ (-1 : Int) from oz_268d846349), (show (-1 : Int) ≤ 255 from oz_29ac2abf2d), (show 0 ≤ (-1 : Int) → 0 ≤ p0.toInt ∧ p0.toInt < (f 7).toInt from by omega), (show By tb (f 7) p0 (-1 : Int32) from (by intro hb1 hb2; first | (subst_vars; rfl) | (exfalso; omega))), (show R_t2_byteAt tb f p0 (-1 : Int32) from (Or.inl (Or.inl ⟨nc1, rfl⟩)))⟩) d_Tok_byteAt_42 | exact px_iret (v := (-1)) S hr rfl hlk hAe hw (Nat.le_of_ble_eq_true rfl) (Nat.le_of_ble_eq_true rfl) (⟨rfl, (show -1 ≤ (-1 : Int) from by first | exact oz_268d846349 | omega), (show (-1 : Int) ≤ 255 from by first | exact oz_29ac2abf2d | omega), (show 0 ≤ (-1 : Int) → 0 ≤ p0.toInt ∧ p0.toInt < (f 7).toInt from by omega), (show By tb (f 7) p0 (-1 : Int32) from (by intro hb1 hb2; first | (subst_vars; rfl) | (exfalso; omega))), (show R_t2_byteAt tb f p0 (-1 : Int32) from (Or.inl (Or.inl ⟨nc1, rfl⟩)))⟩) d_Tok_byteAt_42
  · have nc1 : ¬ p0.toInt < (0 : Int) := mt (i_lt (x := p0) (y := 0)).mpr c1
    refine lv_iload_n S.x S.b d_Tok_byteAt_11 rfl (lv_at hl 1 rfl) ?_
    refine lv_aload_n S.x S.b d_Tok_byteAt_12 rfl (lv_at hl 0 rfl) ?_
    refine px_get S k_Tok hT hw 0 0 7 (v := .int (f 7)) rfl rfl rfl (by decide) m1_110 d_Tok_byteAt_13 ?_
    refine lv_icmp_ge (tgt := 41) S.x S.b d_Tok_byteAt_16 (by decide) (fun c3 => ?_) (fun c3 => ?_)
    · have nc3 : (f 7).toInt ≤ p0.toInt := (i_le (x := (f 7)) (y := p0)).mp c3
      refine lv_iconst (v := (-1)) S.x S.b d_Tok_byteAt_41 (by decide) ?_
      first | exact px_iret (v := (-1)) S hr rfl hlk hAe hw (Nat.le_of_ble_eq_true rfl) (Nat.le_of_ble_eq_true rfl) (⟨rfl, (show -1 ≤ (-1 : Int) from oz_268d846349), (show (-1 : Int) ≤ 255 from oz_29ac2abf2d), (show 0 ≤ (-1 : Int) → 0 ≤ p0.toInt ∧ p0.toInt < (f 7).toInt from by omega), (show By tb (f 7) p0 (-1 : Int32) from (by intro hb1 hb2; first | (subst_vars; rfl) | (exfalso; omega))), (show R_t2_byteAt tb f p0 (-1 : Int32) from (Or.inl (Or.inr ⟨nc1, Or.inl ⟨nc3, rfl⟩⟩)))⟩) d_Tok_byteAt_42 | exact px_iret (v := (-1)) S hr rfl hlk hAe hw (Nat.le_of_ble_eq_true rfl) (Nat.le_of_ble_eq_true rfl) (⟨rfl, (show -1 ≤ (-1 : Int) from by first | exact oz_268d846349 | omega), (show (-1 : Int) ≤ 255 from by first | exact oz_29ac2abf2d | omega), (show 0 ≤ (-1 : Int) → 0 ≤ p0.toInt ∧ p0.toInt < (f 7).toInt from by omega), (show By tb (f 7) p0 (-1 : Int32) from (by intro hb1 hb2; first | (subst_vars; rfl) | (exfalso; omega))), (show R_t2_byteAt tb f p0 (-1 : Int32) from (Or.inl (Or.inr ⟨nc1, Or.inl ⟨nc3, rfl⟩⟩)))⟩) d_Tok_byteAt_42
    · have nc3 : ¬ (f 7).toInt ≤ p0.toInt := mt (i_le (x := (f 7)) (y := p0)).mpr c3
      refine lv_iload_n S.x S.b d_Tok_byteAt_19 rfl (lv_at hl 1 rfl) ?_
      refine lv_aload_n S.x S.b d_Tok_byteAt_20 rfl (lv_at hl 0 rfl) ?_
      refine px_get S k_Tok hT hw 0 0 6 (v := .ref tp) rfl rfl rfl (by decide) m1_109 d_Tok_byteAt_21 ?_
      refine px_len S hT hw 1 0 1 rfl rfl rfl (v := 2048) rfl d_Tok_byteAt_24 ?_
      refine lv_icmp_ge (tgt := 41) S.x S.b d_Tok_byteAt_25 (by decide) (fun c5 => ?_) (fun c5 => ?_)
      · have nc5 : (2048 : Int) ≤ p0.toInt := (i_le (x := 2048) (y := p0)).mp c5
        refine lv_iconst (v := (-1)) S.x S.b d_Tok_byteAt_41 (by decide) ?_
        first | exact px_iret (v := (-1)) S hr rfl hlk hAe hw (Nat.le_of_ble_eq_true rfl) (Nat.le_of_ble_eq_true rfl) (⟨rfl, (show -1 ≤ (-1 : Int) from oz_268d846349), (show (-1 : Int) ≤ 255 from oz_29ac2abf2d), (show 0 ≤ (-1 : Int) → 0 ≤ p0.toInt ∧ p0.toInt < (f 7).toInt from by omega), (show By tb (f 7) p0 (-1 : Int32) from (by intro hb1 hb2; first | (subst_vars; rfl) | (exfalso; omega))), (show R_t2_byteAt tb f p0 (-1 : Int32) from (Or.inl (Or.inr ⟨nc1, Or.inr ⟨nc3, Or.inl ⟨nc5, rfl⟩⟩⟩)))⟩) d_Tok_byteAt_42 | exact px_iret (v := (-1)) S hr rfl hlk hAe hw (Nat.le_of_ble_eq_true rfl) (Nat.le_of_ble_eq_true rfl) (⟨rfl, (show -1 ≤ (-1 : Int) from by first | exact oz_268d846349 | omega), (show (-1 : Int) ≤ 255 from by first | exact oz_29ac2abf2d | omega), (show 0 ≤ (-1 : Int) → 0 ≤ p0.toInt ∧ p0.toInt < (f 7).toInt from by omega), (show By tb (f 7) p0 (-1 : Int32) from (by intro hb1 hb2; first | (subst_vars; rfl) | (exfalso; omega))), (show R_t2_byteAt tb f p0 (-1 : Int32) from (Or.inl (Or.inr ⟨nc1, Or.inr ⟨nc3, Or.inl ⟨nc5, rfl⟩⟩⟩)))⟩) d_Tok_byteAt_42
      · have nc5 : ¬ (2048 : Int) ≤ p0.toInt := mt (i_le (x := 2048) (y := p0)).mpr c5
        refine lv_aload_n S.x S.b d_Tok_byteAt_28 rfl (lv_at hl 0 rfl) ?_
        refine px_get S k_Tok hT hw 0 0 6 (v := .ref tp) rfl rfl rfl (by decide) m1_109 d_Tok_byteAt_29 ?_
        refine lv_iload_n S.x S.b d_Tok_byteAt_32 rfl (lv_at hl 1 rfl) ?_
        refine px_bald S hT hw 1 0 (n := 2048) (f := tb) rfl rfl (x := p0) (vp_in_iff.mpr (by first | exact oz_f4db95235a nc1 nc5 | (constructor <;> omega))) d_Tok_byteAt_33 ?_
        refine lv_topi (fun z7 ez7 => ?_)
        have lz7 := Int32.le_toInt z7
        have uz7 := Int32.toInt_lt z7
        refine lv_sipush (v := 255) S.x S.b d_Tok_byteAt_34 (by decide) ?_
        refine lv_iand S.x S.b d_Tok_byteAt_37 ?_
        refine lv_topi (fun z8 ez8 => ?_)
        have lz8 := Int32.le_toInt z8
        have uz8 := Int32.toInt_lt z8
        have bz8 := i_andm z7 (m := 255) 8 (by decide) (by decide)
        rw [← ez8] at bz8
        have wz8 : 0 ≤ z8.toInt ∧ z8.toInt ≤ 255 := by simp only [Nat.reducePow, Int.reducePow] at bz8; omega
        refine lv_goto (tgt := 42) S.x S.b d_Tok_byteAt_38 (by decide) ?_
        first | exact px_iret (v := z8) S hr rfl hlk hAe hw (Nat.le_of_ble_eq_true rfl) (Nat.le_of_ble_eq_true rfl) (⟨rfl, (show -1 ≤ z8.toInt from (oz_bd82420902 wz8.1)), (show z8.toInt ≤ 255 from wz8.2), (show 0 ≤ z8.toInt → 0 ≤ p0.toInt ∧ p0.toInt < (f 7).toInt from (fun q9 => oz_a1372f8c53 nc1 nc3)), (show By tb (f 7) p0 z8 from (by intro hb1 hb2; first | (subst_vars; rfl) | (exfalso; omega))), (show R_t2_byteAt tb f p0 z8 from (Or.inl (Or.inr ⟨nc1, Or.inr ⟨nc3, Or.inr ⟨nc5, z7, ez7, z8, ez8, rfl⟩⟩⟩)))⟩) d_Tok_byteAt_42 | exact px_iret (v := z8) S hr rfl hlk hAe hw (Nat.le_of_ble_eq_true rfl) (Nat.le_of_ble_eq_true rfl) (⟨rfl, (show -1 ≤ z8.toInt from by first | exact oz_bd82420902 wz8.1 | omega), (show z8.toInt ≤ 255 from by first | exact wz8.2 | omega), (show 0 ≤ z8.toInt → 0 ≤ p0.toInt ∧ p0.toInt < (f 7).toInt from by first | exact fun q9 => oz_a1372f8c53 nc1 nc3 | omega), (show By tb (f 7) p0 z8 from (by intro hb1 hb2; first | (subst_vars; rfl) | (exfalso; omega))), (show R_t2_byteAt tb f p0 z8 from (Or.inl (Or.inr ⟨nc1, Or.inr ⟨nc3, Or.inr ⟨nc5, z7, ez7, z8, ez8, rfl⟩⟩⟩)))⟩) d_Tok_byteAt_42
set_option maxHeartbeats 4000000 in
set_option maxRecDepth 100000 in
theorem c_t2_quotedWidth (l : Launch) (D : va_G) (cs : Nat → ClassId) (h : Nat) (r : Nat → Nat) (tp : Nat) (tb : Nat → Int32) (g : Nat → Nat → Option Nat) (f : Nat → Int32) (a : Nat → Nat → Int32) (p0 : Int32)  (hinv0 : TokOk (f 7) (f 8) (f 10) (f 11) (f 12) (f 13) (f 17) (a 4)) : MetI l y_Tok_quotedWidth b_Tok_quotedWidth 2 (.int) D cs 1 22 (0) (0) [.ref h, .int p0] [wd_Tok cs h r (fun _ => some tp) f a g, [(tp, .inl (cs 1, 2048, .inl tb))]] (fun _ => True) (fun v ps => (ps = [wd_Tok cs h r (fun _ => some tp) f a g, [(tp, .inl (cs 1, 2048, .inl tb))]]) ∧ (1 ≤ v.toInt) ∧ (v.toInt ≤ 2) ∧ (R_t2_quotedWidth tb f p0 v)) := by
  refine px_enter (by decide) (Nat.le_of_ble_eq_true rfl) ?_
  intro p e s m below meth c A ls hAe S hr hlk hnm hA hT hX hw hl
  have hl : lv_has ls 2 [(0, .ref h), (1, .int p0)] := hl
  have lp0 := Int32.le_toInt p0
  have up0 := Int32.toInt_lt p0
  have cst1 : (1 : Int32).toInt = 1 := rfl
  have cst2 : (2 : Int32).toInt = 2 := rfl
  have cst92 : (92 : Int32).toInt = 92 := rfl
  obtain ⟨⟨o1, o2⟩, ⟨o3, o4⟩, ⟨o5, o6⟩, ⟨o7, o8⟩, ⟨o9, o10⟩, ⟨o11, o12⟩, o13, hn4⟩ := hinv0
  refine lv_aload_n S.x S.b d_Tok_quotedWidth_0 rfl (lv_at hl 0 rfl) ?_
  refine lv_iload_n S.x S.b d_Tok_quotedWidth_1 rfl (lv_at hl 1 rfl) ?_
  first | refine px_calli (pr := []) (px_runV (As := [.int p0]) (rest := []) S (c_t2_byteAt l D cs h r tp tb g f a p0  (show TokOk (f 7) (f 8) (f 10) (f 11) (f 12) (f 13) (f 17) (a 4) from ⟨⟨o1, o2⟩, ⟨o3, o4⟩, ⟨o5, o6⟩, ⟨o7, o8⟩, ⟨o9, o10⟩, ⟨o11, o12⟩, o13, hn4⟩) _) hT (pr := []) (pcs := [wd_Tok cs h r (fun _ => some tp) f a g, [(tp, .inl (cs 1, 2048, .inl tb))]]) hw px_X.tt (px_recv hT hw 0 0 rfl rfl rfl) m3_186 m3_183 m3_185 ms_1_6 m1_2 q_Tok_byteAt ⟨Nat.le_of_ble_eq_true rfl, Nat.le_of_ble_eq_true rfl⟩ hl.1 rfl (Nat.le_of_ble_eq_true rfl) d_Tok_quotedWidth_2 ⟨Nat.le_of_ble_eq_true rfl, Nat.le_of_ble_eq_true rfl⟩) hw hA (fun v2 p1 H locs hp1 hw => ?_) | refine px_calli (pr := []) (px_runV (As := [.int p0]) (rest := []) S (c_t2_byteAt l D cs h r tp tb g f a p0  (show TokOk (f 7) (f 8) (f 10) (f 11) (f 12) (f 13) (f 17) (a 4) from ⟨⟨by first | exact o1 | omega, by first | exact o2 | omega⟩, ⟨by first | exact o3 | omega, by first | exact o4 | omega⟩, ⟨by first | exact o5 | omega, by first | exact o6 | omega⟩, ⟨by first | exact o7 | omega, by first | exact o8 | omega⟩, ⟨by first | exact o9 | omega, by first | exact o10 | omega⟩, ⟨by first | exact o11 | omega, by first | exact o12 | omega⟩, by first | exact o13 | omega, hn4⟩) _) hT (pr := []) (pcs := [wd_Tok cs h r (fun _ => some tp) f a g, [(tp, .inl (cs 1, 2048, .inl tb))]]) hw px_X.tt (px_recv hT hw 0 0 rfl rfl rfl) m3_186 m3_183 m3_185 ms_1_6 m1_2 q_Tok_byteAt ⟨Nat.le_of_ble_eq_true rfl, Nat.le_of_ble_eq_true rfl⟩ hl.1 rfl (Nat.le_of_ble_eq_true rfl) d_Tok_quotedWidth_2 ⟨Nat.le_of_ble_eq_true rfl, Nat.le_of_ble_eq_true rfl⟩) hw hA (fun v2 p1 H locs hp1 hw => ?_)
  obtain ⟨rfl, e3, e4, e5, e6, e7⟩ := hp1
  have e3 : -1 ≤ v2.toInt := e3
  have e4 : v2.toInt ≤ 255 := e4
  have e5 : 0 ≤ v2.toInt → 0 ≤ p0.toInt ∧ p0.toInt < (f 7).toInt := e5
  have e6 : By tb (f 7) p0 v2 := e6
  have e7 : R_t2_byteAt tb f p0 v2 := e7
  have lv2 := Int32.le_toInt v2
  have uv2 := Int32.toInt_lt v2
  refine lv_bipush (v := 92) S.x S.b d_Tok_quotedWidth_5 (by decide) ?_
  refine lv_icmp_ne (tgt := 14) S.x S.b d_Tok_quotedWidth_7 (by decide) (fun c8 => ?_) (fun c8 => ?_)
  · have nc8 : ¬ v2.toInt = (92 : Int) := mt (i_eq (x := v2) (y := 92)).mpr c8
    refine lv_iconst (v := 1) S.x S.b d_Tok_quotedWidth_14 (by decide) ?_
    first | exact px_iret (v := 1) S hr rfl hlk hAe hw (Nat.le_of_ble_eq_true rfl) (Nat.le_of_ble_eq_true rfl) (⟨rfl, (show 1 ≤ (1 : Int) from oz_5ec2f32d28), (show (1 : Int) ≤ 2 from oz_b6a50c1d8b), (show R_t2_quotedWidth tb f p0 (1 : Int32) from (Or.inl ⟨v2, e7, Or.inl ⟨nc8, rfl⟩⟩))⟩) d_Tok_quotedWidth_15 | exact px_iret (v := 1) S hr rfl hlk hAe hw (Nat.le_of_ble_eq_true rfl) (Nat.le_of_ble_eq_true rfl) (⟨rfl, (show 1 ≤ (1 : Int) from by first | exact oz_5ec2f32d28 | omega), (show (1 : Int) ≤ 2 from by first | exact oz_b6a50c1d8b | omega), (show R_t2_quotedWidth tb f p0 (1 : Int32) from (Or.inl ⟨v2, e7, Or.inl ⟨nc8, rfl⟩⟩))⟩) d_Tok_quotedWidth_15
  · have nc8 : v2.toInt = (92 : Int) := (i_eq (x := v2) (y := 92)).mp c8
    refine lv_iconst (v := 2) S.x S.b d_Tok_quotedWidth_10 (by decide) ?_
    refine lv_goto (tgt := 15) S.x S.b d_Tok_quotedWidth_11 (by decide) ?_
    first | exact px_iret (v := 2) S hr rfl hlk hAe hw (Nat.le_of_ble_eq_true rfl) (Nat.le_of_ble_eq_true rfl) (⟨rfl, (show 1 ≤ (2 : Int) from oz_eaf798137c), (show (2 : Int) ≤ 2 from oz_f09bb4b699), (show R_t2_quotedWidth tb f p0 (2 : Int32) from (Or.inl ⟨v2, e7, Or.inr ⟨nc8, rfl⟩⟩))⟩) d_Tok_quotedWidth_15 | exact px_iret (v := 2) S hr rfl hlk hAe hw (Nat.le_of_ble_eq_true rfl) (Nat.le_of_ble_eq_true rfl) (⟨rfl, (show 1 ≤ (2 : Int) from by first | exact oz_eaf798137c | omega), (show (2 : Int) ≤ 2 from by first | exact oz_f09bb4b699 | omega), (show R_t2_quotedWidth tb f p0 (2 : Int32) from (Or.inl ⟨v2, e7, Or.inr ⟨nc8, rfl⟩⟩))⟩) d_Tok_quotedWidth_15
set_option maxHeartbeats 4000000 in
set_option maxRecDepth 100000 in
theorem c_t2_digit (l : Launch) (D : va_G) (cs : Nat → ClassId) (h : Nat) (r : Nat → Nat) (tp : Nat) (tb : Nat → Int32) (g : Nat → Nat → Option Nat) (f : Nat → Int32) (a : Nat → Nat → Int32) (p0 : Int32)  (hinv0 : TokOk (f 7) (f 8) (f 10) (f 11) (f 12) (f 13) (f 17) (a 4)) : MetI l y_Tok_digit b_Tok_digit 3 (.int) D cs 1 22 (0) (0) [.ref h, .int p0] [wd_Tok cs h r (fun _ => some tp) f a g, [(tp, .inl (cs 1, 2048, .inl tb))]] (fun _ => True) (fun v ps => (ps = [wd_Tok cs h r (fun _ => some tp) f a g, [(tp, .inl (cs 1, 2048, .inl tb))]]) ∧ (R_t2_digit tb f p0 v)) := by
  refine px_enter (by decide) (Nat.le_of_ble_eq_true rfl) ?_
  intro p e s m below meth c A ls hAe S hr hlk hnm hA hT hX hw hl
  have hl : lv_has ls 3 [(0, .ref h), (1, .int p0)] := hl
  have lp0 := Int32.le_toInt p0
  have up0 := Int32.toInt_lt p0
  have cstm1 : ((-1) : Int32).toInt = (-1) := rfl
  have cst10 : (10 : Int32).toInt = 10 := rfl
  have cst16 : (16 : Int32).toInt = 16 := rfl
  have cst48 : (48 : Int32).toInt = 48 := rfl
  have cst65 : (65 : Int32).toInt = 65 := rfl
  have cst70 : (70 : Int32).toInt = 70 := rfl
  have cst97 : (97 : Int32).toInt = 97 := rfl
  have cst102 : (102 : Int32).toInt = 102 := rfl
  obtain ⟨⟨o1, o2⟩, ⟨o3, o4⟩, ⟨o5, o6⟩, ⟨o7, o8⟩, ⟨o9, o10⟩, ⟨o11, o12⟩, o13, hn4⟩ := hinv0
  refine lv_aload_n S.x S.b d_Tok_digit_0 rfl (lv_at hl 0 rfl) ?_
  refine lv_aload_n S.x S.b d_Tok_digit_1 rfl (lv_at hl 0 rfl) ?_
  refine px_get S k_Tok hT hw 0 0 8 (v := .int (f 8)) rfl rfl rfl (by decide) m1_111 d_Tok_digit_2 ?_
  first | refine px_calli (pr := []) (px_runV (As := [.int (f 8)]) (rest := []) S (c_t2_byteAt l D cs h r tp tb g f a (f 8)  (show TokOk (f 7) (f 8) (f 10) (f 11) (f 12) (f 13) (f 17) (a 4) from ⟨⟨o1, o2⟩, ⟨o3, o4⟩, ⟨o5, o6⟩, ⟨o7, o8⟩, ⟨o9, o10⟩, ⟨o11, o12⟩, o13, hn4⟩) _) hT (pr := []) (pcs := [wd_Tok cs h r (fun _ => some tp) f a g, [(tp, .inl (cs 1, 2048, .inl tb))]]) hw px_X.tt (px_recv hT hw 0 0 rfl rfl rfl) m3_186 m3_183 m3_185 ms_1_6 m1_2 q_Tok_byteAt ⟨Nat.le_of_ble_eq_true rfl, Nat.le_of_ble_eq_true rfl⟩ hl.1 rfl (Nat.le_of_ble_eq_true rfl) d_Tok_digit_5 ⟨Nat.le_of_ble_eq_true rfl, Nat.le_of_ble_eq_true rfl⟩) hw hA (fun v2 p1 H locs hp1 hw => ?_) | refine px_calli (pr := []) (px_runV (As := [.int (f 8)]) (rest := []) S (c_t2_byteAt l D cs h r tp tb g f a (f 8)  (show TokOk (f 7) (f 8) (f 10) (f 11) (f 12) (f 13) (f 17) (a 4) from ⟨⟨by first | exact o1 | omega, by first | exact o2 | omega⟩, ⟨by first | exact o3 | omega, by first | exact o4 | omega⟩, ⟨by first | exact o5 | omega, by first | exact o6 | omega⟩, ⟨by first | exact o7 | omega, by first | exact o8 | omega⟩, ⟨by first | exact o9 | omega, by first | exact o10 | omega⟩, ⟨by first | exact o11 | omega, by first | exact o12 | omega⟩, by first | exact o13 | omega, hn4⟩) _) hT (pr := []) (pcs := [wd_Tok cs h r (fun _ => some tp) f a g, [(tp, .inl (cs 1, 2048, .inl tb))]]) hw px_X.tt (px_recv hT hw 0 0 rfl rfl rfl) m3_186 m3_183 m3_185 ms_1_6 m1_2 q_Tok_byteAt ⟨Nat.le_of_ble_eq_true rfl, Nat.le_of_ble_eq_true rfl⟩ hl.1 rfl (Nat.le_of_ble_eq_true rfl) d_Tok_digit_5 ⟨Nat.le_of_ble_eq_true rfl, Nat.le_of_ble_eq_true rfl⟩) hw hA (fun v2 p1 H locs hp1 hw => ?_)
  obtain ⟨rfl, e3, e4, e5, e6, e7⟩ := hp1
  have e3 : -1 ≤ v2.toInt := e3
  have e4 : v2.toInt ≤ 255 := e4
  have e5 : 0 ≤ v2.toInt → 0 ≤ (f 8).toInt ∧ (f 8).toInt < (f 7).toInt := e5
  have e6 : By tb (f 7) (f 8) v2 := e6
  have e7 : R_t2_byteAt tb f (f 8) v2 := e7
  have lv2 := Int32.le_toInt v2
  have uv2 := Int32.toInt_lt v2
  refine lv_istore_n (lv' := [(2, .int v2), (0, .ref h), (1, .int p0)]) S.x S.b d_Tok_digit_8 rfl hl (by decide) rfl (fun ls hl => ?_)
  refine lv_iload_n S.x S.b d_Tok_digit_9 rfl (lv_at hl 0 rfl) ?_
  refine px_calli (pr := [wd_Tok cs h r (fun _ => some tp) f a g, [(tp, .inl (cs 1, 2048, .inl tb))]]) (px_runS (As := [.int v2]) (rest := []) S (c_t2_isDigit l D cs  v2   _) hT (pr := [wd_Tok cs h r (fun _ => some tp) f a g, [(tp, .inl (cs 1, 2048, .inl tb))]]) (pcs := []) hw px_X.tt m3_208 m3_206 m3_207 m1_2 q_Tok_isDigit ⟨Nat.le_of_ble_eq_true rfl, Nat.le_of_ble_eq_true rfl⟩ hl.1 rfl (Nat.le_of_ble_eq_true rfl) d_Tok_digit_10 ⟨Nat.le_of_ble_eq_true rfl, Nat.le_of_ble_eq_true rfl⟩) hw hA (fun v9 p8 H locs hp8 hw => ?_)
  obtain ⟨rfl, e10, e11, e12⟩ := hp8
  have e10 := z_rng e10
  have e11 : v9.toInt = 1 → 48 ≤ v2.toInt := e11
  have e12 : R_t2_isDigit v2 v9 := e12
  have lv9 := Int32.le_toInt v9
  have uv9 := Int32.toInt_lt v9
  refine lv_if_eq (tgt := 21) S.x S.b d_Tok_digit_13 (by decide) (fun c13 => ?_) (fun c13 => ?_)
  · have nc13 : v9.toInt = (0 : Int) := (i_eq (x := v9) (y := 0)).mp c13
    refine lv_iload_n S.x S.b d_Tok_digit_21 rfl (lv_at hl 2 rfl) ?_
    refine lv_bipush (v := 16) S.x S.b d_Tok_digit_22 (by decide) ?_
    refine lv_icmp_ne (tgt := 47) S.x S.b d_Tok_digit_24 (by decide) (fun c15 => ?_) (fun c15 => ?_)
    · have nc15 : ¬ p0.toInt = (16 : Int) := mt (i_eq (x := p0) (y := 16)).mpr c15
      refine lv_iload_n S.x S.b d_Tok_digit_47 rfl (lv_at hl 2 rfl) ?_
      refine lv_bipush (v := 16) S.x S.b d_Tok_digit_48 (by decide) ?_
      refine lv_icmp_ne (tgt := 75) S.x S.b d_Tok_digit_50 (by decide) (fun c17 => ?_) (fun c17 => ?_)
      · have nc17 : ¬ p0.toInt = (16 : Int) := mt (i_eq (x := p0) (y := 16)).mpr c17
        refine lv_iconst (v := (-1)) S.x S.b d_Tok_digit_75 (by decide) ?_
        exact px_iret (v := (-1)) S hr rfl hlk hAe hw (Nat.le_of_ble_eq_true rfl) (Nat.le_of_ble_eq_true rfl) (⟨rfl, (show R_t2_digit tb f p0 (-1 : Int32) from (Or.inl ⟨v2, e7, v9, e12, Or.inl ⟨nc13, Or.inl ⟨nc15, Or.inl ⟨nc17, rfl⟩⟩⟩⟩))⟩) d_Tok_digit_76
      · have nc17 : p0.toInt = (16 : Int) := (i_eq (x := p0) (y := 16)).mp c17
        refine lv_iload_n S.x S.b d_Tok_digit_53 rfl (lv_at hl 0 rfl) ?_
        refine lv_bipush (v := 65) S.x S.b d_Tok_digit_54 (by decide) ?_
        refine lv_icmp_lt (tgt := 75) S.x S.b d_Tok_digit_56 (by decide) (fun c19 => ?_) (fun c19 => ?_)
        · have nc19 : v2.toInt < (65 : Int) := (i_lt (x := v2) (y := 65)).mp c19
          refine lv_iconst (v := (-1)) S.x S.b d_Tok_digit_75 (by decide) ?_
          exact px_iret (v := (-1)) S hr rfl hlk hAe hw (Nat.le_of_ble_eq_true rfl) (Nat.le_of_ble_eq_true rfl) (⟨rfl, (show R_t2_digit tb f p0 (-1 : Int32) from (Or.inl ⟨v2, e7, v9, e12, Or.inl ⟨nc13, Or.inl ⟨nc15, Or.inr ⟨nc17, Or.inl ⟨nc19, rfl⟩⟩⟩⟩⟩))⟩) d_Tok_digit_76
        · have nc19 : ¬ v2.toInt < (65 : Int) := mt (i_lt (x := v2) (y := 65)).mpr c19
          refine lv_iload_n S.x S.b d_Tok_digit_59 rfl (lv_at hl 0 rfl) ?_
          refine lv_bipush (v := 70) S.x S.b d_Tok_digit_60 (by decide) ?_
          refine lv_icmp_gt (tgt := 75) S.x S.b d_Tok_digit_62 (by decide) (fun c21 => ?_) (fun c21 => ?_)
          · have nc21 : (70 : Int) < v2.toInt := (i_lt (x := 70) (y := v2)).mp c21
            refine lv_iconst (v := (-1)) S.x S.b d_Tok_digit_75 (by decide) ?_
            exact px_iret (v := (-1)) S hr rfl hlk hAe hw (Nat.le_of_ble_eq_true rfl) (Nat.le_of_ble_eq_true rfl) (⟨rfl, (show R_t2_digit tb f p0 (-1 : Int32) from (Or.inl ⟨v2, e7, v9, e12, Or.inl ⟨nc13, Or.inl ⟨nc15, Or.inr ⟨nc17, Or.inr ⟨nc19, Or.inl ⟨nc21, rfl⟩⟩⟩⟩⟩⟩))⟩) d_Tok_digit_76
          · have nc21 : ¬ (70 : Int) < v2.toInt := mt (i_lt (x := 70) (y := v2)).mpr c21
            refine lv_iload_n S.x S.b d_Tok_digit_65 rfl (lv_at hl 0 rfl) ?_
            refine lv_bipush (v := 65) S.x S.b d_Tok_digit_66 (by decide) ?_
            refine lv_isub S.x S.b d_Tok_digit_68 ?_
            refine lv_topi (fun z23 ez23 => ?_)
            have tz23 : z23.toInt = (v2.toInt - (65 : Int) + 2147483648) % 4294967296 - 2147483648 := by rw [ez23]; exact i_sub v2 65
            have lz23 := Int32.le_toInt z23
            have uz23 := Int32.toInt_lt z23
            try replace tz23 : z23.toInt = v2.toInt - (65 : Int) := by omega
            refine lv_bipush (v := 10) S.x S.b d_Tok_digit_69 (by decide) ?_
            refine lv_iadd S.x S.b d_Tok_digit_71 ?_
            refine lv_topi (fun z24 ez24 => ?_)
            have tz24 : z24.toInt = (z23.toInt + (10 : Int) + 2147483648) % 4294967296 - 2147483648 := by rw [ez24]; exact i_add z23 10
            have lz24 := Int32.le_toInt z24
            have uz24 := Int32.toInt_lt z24
            try replace tz24 : z24.toInt = z23.toInt + (10 : Int) := by omega
            refine lv_goto (tgt := 76) S.x S.b d_Tok_digit_72 (by decide) ?_
            exact px_iret (v := z24) S hr rfl hlk hAe hw (Nat.le_of_ble_eq_true rfl) (Nat.le_of_ble_eq_true rfl) (⟨rfl, (show R_t2_digit tb f p0 z24 from (Or.inl ⟨v2, e7, v9, e12, Or.inl ⟨nc13, Or.inl ⟨nc15, Or.inr ⟨nc17, Or.inr ⟨nc19, Or.inr ⟨nc21, z23, ez23, z24, ez24, rfl⟩⟩⟩⟩⟩⟩))⟩) d_Tok_digit_76
    · have nc15 : p0.toInt = (16 : Int) := (i_eq (x := p0) (y := 16)).mp c15
      refine lv_iload_n S.x S.b d_Tok_digit_27 rfl (lv_at hl 0 rfl) ?_
      refine lv_bipush (v := 97) S.x S.b d_Tok_digit_28 (by decide) ?_
      refine lv_icmp_lt (tgt := 47) S.x S.b d_Tok_digit_30 (by decide) (fun c25 => ?_) (fun c25 => ?_)
      · have nc25 : v2.toInt < (97 : Int) := (i_lt (x := v2) (y := 97)).mp c25
        refine lv_iload_n S.x S.b d_Tok_digit_47 rfl (lv_at hl 2 rfl) ?_
        refine lv_bipush (v := 16) S.x S.b d_Tok_digit_48 (by decide) ?_
        refine lv_icmp_ne (tgt := 75) S.x S.b d_Tok_digit_50 (by decide) (fun c27 => ?_) (fun c27 => ?_)
        · have nc27 : ¬ p0.toInt = (16 : Int) := mt (i_eq (x := p0) (y := 16)).mpr c27
          refine lv_iconst (v := (-1)) S.x S.b d_Tok_digit_75 (by decide) ?_
          exact px_iret (v := (-1)) S hr rfl hlk hAe hw (Nat.le_of_ble_eq_true rfl) (Nat.le_of_ble_eq_true rfl) (⟨rfl, (show R_t2_digit tb f p0 (-1 : Int32) from (Or.inl ⟨v2, e7, v9, e12, Or.inl ⟨nc13, Or.inr ⟨nc15, Or.inl ⟨nc25, Or.inl ⟨nc27, rfl⟩⟩⟩⟩⟩))⟩) d_Tok_digit_76
        · have nc27 : p0.toInt = (16 : Int) := (i_eq (x := p0) (y := 16)).mp c27
          refine lv_iload_n S.x S.b d_Tok_digit_53 rfl (lv_at hl 0 rfl) ?_
          refine lv_bipush (v := 65) S.x S.b d_Tok_digit_54 (by decide) ?_
          refine lv_icmp_lt (tgt := 75) S.x S.b d_Tok_digit_56 (by decide) (fun c29 => ?_) (fun c29 => ?_)
          · have nc29 : v2.toInt < (65 : Int) := (i_lt (x := v2) (y := 65)).mp c29
            refine lv_iconst (v := (-1)) S.x S.b d_Tok_digit_75 (by decide) ?_
            exact px_iret (v := (-1)) S hr rfl hlk hAe hw (Nat.le_of_ble_eq_true rfl) (Nat.le_of_ble_eq_true rfl) (⟨rfl, (show R_t2_digit tb f p0 (-1 : Int32) from (Or.inl ⟨v2, e7, v9, e12, Or.inl ⟨nc13, Or.inr ⟨nc15, Or.inl ⟨nc25, Or.inr ⟨nc27, Or.inl ⟨nc29, rfl⟩⟩⟩⟩⟩⟩))⟩) d_Tok_digit_76
          · have nc29 : ¬ v2.toInt < (65 : Int) := mt (i_lt (x := v2) (y := 65)).mpr c29
            refine lv_iload_n S.x S.b d_Tok_digit_59 rfl (lv_at hl 0 rfl) ?_
            refine lv_bipush (v := 70) S.x S.b d_Tok_digit_60 (by decide) ?_
            refine lv_icmp_gt (tgt := 75) S.x S.b d_Tok_digit_62 (by decide) (fun c31 => ?_) (fun c31 => ?_)
            · have nc31 : (70 : Int) < v2.toInt := (i_lt (x := 70) (y := v2)).mp c31
              refine lv_iconst (v := (-1)) S.x S.b d_Tok_digit_75 (by decide) ?_
              exact px_iret (v := (-1)) S hr rfl hlk hAe hw (Nat.le_of_ble_eq_true rfl) (Nat.le_of_ble_eq_true rfl) (⟨rfl, (show R_t2_digit tb f p0 (-1 : Int32) from (Or.inl ⟨v2, e7, v9, e12, Or.inl ⟨nc13, Or.inr ⟨nc15, Or.inl ⟨nc25, Or.inr ⟨nc27, Or.inr ⟨nc29, Or.inl ⟨nc31, rfl⟩⟩⟩⟩⟩⟩⟩))⟩) d_Tok_digit_76
            · have nc31 : ¬ (70 : Int) < v2.toInt := mt (i_lt (x := 70) (y := v2)).mpr c31
              refine lv_iload_n S.x S.b d_Tok_digit_65 rfl (lv_at hl 0 rfl) ?_
              refine lv_bipush (v := 65) S.x S.b d_Tok_digit_66 (by decide) ?_
              refine lv_isub S.x S.b d_Tok_digit_68 ?_
              refine lv_topi (fun z33 ez33 => ?_)
              have tz33 : z33.toInt = (v2.toInt - (65 : Int) + 2147483648) % 4294967296 - 2147483648 := by rw [ez33]; exact i_sub v2 65
              have lz33 := Int32.le_toInt z33
              have uz33 := Int32.toInt_lt z33
              try replace tz33 : z33.toInt = v2.toInt - (65 : Int) := by omega
              refine lv_bipush (v := 10) S.x S.b d_Tok_digit_69 (by decide) ?_
              refine lv_iadd S.x S.b d_Tok_digit_71 ?_
              refine lv_topi (fun z34 ez34 => ?_)
              have tz34 : z34.toInt = (z33.toInt + (10 : Int) + 2147483648) % 4294967296 - 2147483648 := by rw [ez34]; exact i_add z33 10
              have lz34 := Int32.le_toInt z34
              have uz34 := Int32.toInt_lt z34
              try replace tz34 : z34.toInt = z33.toInt + (10 : Int) := by omega
              refine lv_goto (tgt := 76) S.x S.b d_Tok_digit_72 (by decide) ?_
              exact px_iret (v := z34) S hr rfl hlk hAe hw (Nat.le_of_ble_eq_true rfl) (Nat.le_of_ble_eq_true rfl) (⟨rfl, (show R_t2_digit tb f p0 z34 from (Or.inl ⟨v2, e7, v9, e12, Or.inl ⟨nc13, Or.inr ⟨nc15, Or.inl ⟨nc25, Or.inr ⟨nc27, Or.inr ⟨nc29, Or.inr ⟨nc31, z33, ez33, z34, ez34, rfl⟩⟩⟩⟩⟩⟩⟩))⟩) d_Tok_digit_76
      · have nc25 : ¬ v2.toInt < (97 : Int) := mt (i_lt (x := v2) (y := 97)).mpr c25
        refine lv_iload_n S.x S.b d_Tok_digit_33 rfl (lv_at hl 0 rfl) ?_
        refine lv_bipush (v := 102) S.x S.b d_Tok_digit_34 (by decide) ?_
        refine lv_icmp_gt (tgt := 47) S.x S.b d_Tok_digit_36 (by decide) (fun c35 => ?_) (fun c35 => ?_)
        · have nc35 : (102 : Int) < v2.toInt := (i_lt (x := 102) (y := v2)).mp c35
          refine lv_iload_n S.x S.b d_Tok_digit_47 rfl (lv_at hl 2 rfl) ?_
          refine lv_bipush (v := 16) S.x S.b d_Tok_digit_48 (by decide) ?_
          refine lv_icmp_ne (tgt := 75) S.x S.b d_Tok_digit_50 (by decide) (fun c37 => ?_) (fun c37 => ?_)
          · have nc37 : ¬ p0.toInt = (16 : Int) := mt (i_eq (x := p0) (y := 16)).mpr c37
            refine lv_iconst (v := (-1)) S.x S.b d_Tok_digit_75 (by decide) ?_
            exact px_iret (v := (-1)) S hr rfl hlk hAe hw (Nat.le_of_ble_eq_true rfl) (Nat.le_of_ble_eq_true rfl) (⟨rfl, (show R_t2_digit tb f p0 (-1 : Int32) from (Or.inl ⟨v2, e7, v9, e12, Or.inl ⟨nc13, Or.inr ⟨nc15, Or.inr ⟨nc25, Or.inl ⟨nc35, Or.inl ⟨nc37, rfl⟩⟩⟩⟩⟩⟩))⟩) d_Tok_digit_76
          · have nc37 : p0.toInt = (16 : Int) := (i_eq (x := p0) (y := 16)).mp c37
            refine lv_iload_n S.x S.b d_Tok_digit_53 rfl (lv_at hl 0 rfl) ?_
            refine lv_bipush (v := 65) S.x S.b d_Tok_digit_54 (by decide) ?_
            refine lv_icmp_lt (tgt := 75) S.x S.b d_Tok_digit_56 (by decide) (fun c39 => ?_) (fun c39 => ?_)
            · have nc39 : v2.toInt < (65 : Int) := (i_lt (x := v2) (y := 65)).mp c39
              refine lv_iconst (v := (-1)) S.x S.b d_Tok_digit_75 (by decide) ?_
              exact px_iret (v := (-1)) S hr rfl hlk hAe hw (Nat.le_of_ble_eq_true rfl) (Nat.le_of_ble_eq_true rfl) (⟨rfl, (show R_t2_digit tb f p0 (-1 : Int32) from (Or.inl ⟨v2, e7, v9, e12, Or.inl ⟨nc13, Or.inr ⟨nc15, Or.inr ⟨nc25, Or.inl ⟨nc35, Or.inr ⟨nc37, Or.inl ⟨nc39, rfl⟩⟩⟩⟩⟩⟩⟩))⟩) d_Tok_digit_76
            · have nc39 : ¬ v2.toInt < (65 : Int) := mt (i_lt (x := v2) (y := 65)).mpr c39
              refine lv_iload_n S.x S.b d_Tok_digit_59 rfl (lv_at hl 0 rfl) ?_
              refine lv_bipush (v := 70) S.x S.b d_Tok_digit_60 (by decide) ?_
              refine lv_icmp_gt (tgt := 75) S.x S.b d_Tok_digit_62 (by decide) (fun c41 => ?_) (fun c41 => ?_)
              · have nc41 : (70 : Int) < v2.toInt := (i_lt (x := 70) (y := v2)).mp c41
                refine lv_iconst (v := (-1)) S.x S.b d_Tok_digit_75 (by decide) ?_
                exact px_iret (v := (-1)) S hr rfl hlk hAe hw (Nat.le_of_ble_eq_true rfl) (Nat.le_of_ble_eq_true rfl) (⟨rfl, (show R_t2_digit tb f p0 (-1 : Int32) from (Or.inl ⟨v2, e7, v9, e12, Or.inl ⟨nc13, Or.inr ⟨nc15, Or.inr ⟨nc25, Or.inl ⟨nc35, Or.inr ⟨nc37, Or.inr ⟨nc39, Or.inl ⟨nc41, rfl⟩⟩⟩⟩⟩⟩⟩⟩))⟩) d_Tok_digit_76
              · have nc41 : ¬ (70 : Int) < v2.toInt := mt (i_lt (x := 70) (y := v2)).mpr c41
                refine lv_iload_n S.x S.b d_Tok_digit_65 rfl (lv_at hl 0 rfl) ?_
                refine lv_bipush (v := 65) S.x S.b d_Tok_digit_66 (by decide) ?_
                refine lv_isub S.x S.b d_Tok_digit_68 ?_
                refine lv_topi (fun z43 ez43 => ?_)
                have tz43 : z43.toInt = (v2.toInt - (65 : Int) + 2147483648) % 4294967296 - 2147483648 := by rw [ez43]; exact i_sub v2 65
                have lz43 := Int32.le_toInt z43
                have uz43 := Int32.toInt_lt z43
                first | replace tz43 : z43.toInt = v2.toInt - (65 : Int) := (oz_5d034a83b0 nc35 nc41) | try replace tz43 : z43.toInt = v2.toInt - (65 : Int) := by first | exact oz_5d034a83b0 nc35 nc41 | omega
                refine lv_bipush (v := 10) S.x S.b d_Tok_digit_69 (by decide) ?_
                refine lv_iadd S.x S.b d_Tok_digit_71 ?_
                refine lv_topi (fun z44 ez44 => ?_)
                have tz44 : z44.toInt = (z43.toInt + (10 : Int) + 2147483648) % 4294967296 - 2147483648 := by rw [ez44]; exact i_add z43 10
                have lz44 := Int32.le_toInt z44
                have uz44 := Int32.toInt_lt z44
                first | replace tz44 : z44.toInt = z43.toInt + (10 : Int) := (oz_a0de719061 nc35 nc41) | try replace tz44 : z44.toInt = z43.toInt + (10 : Int) := by first | exact oz_a0de719061 nc35 nc41 | omega
                refine lv_goto (tgt := 76) S.x S.b d_Tok_digit_72 (by decide) ?_
                exact px_iret (v := z44) S hr rfl hlk hAe hw (Nat.le_of_ble_eq_true rfl) (Nat.le_of_ble_eq_true rfl) (⟨rfl, (show R_t2_digit tb f p0 z44 from (Or.inl ⟨v2, e7, v9, e12, Or.inl ⟨nc13, Or.inr ⟨nc15, Or.inr ⟨nc25, Or.inl ⟨nc35, Or.inr ⟨nc37, Or.inr ⟨nc39, Or.inr ⟨nc41, z43, ez43, z44, ez44, rfl⟩⟩⟩⟩⟩⟩⟩⟩))⟩) d_Tok_digit_76
        · have nc35 : ¬ (102 : Int) < v2.toInt := mt (i_lt (x := 102) (y := v2)).mpr c35
          refine lv_iload_n S.x S.b d_Tok_digit_39 rfl (lv_at hl 0 rfl) ?_
          refine lv_bipush (v := 97) S.x S.b d_Tok_digit_40 (by decide) ?_
          refine lv_isub S.x S.b d_Tok_digit_42 ?_
          refine lv_topi (fun z45 ez45 => ?_)
          have tz45 : z45.toInt = (v2.toInt - (97 : Int) + 2147483648) % 4294967296 - 2147483648 := by rw [ez45]; exact i_sub v2 97
          have lz45 := Int32.le_toInt z45
          have uz45 := Int32.toInt_lt z45
          try replace tz45 : z45.toInt = v2.toInt - (97 : Int) := by omega
          refine lv_bipush (v := 10) S.x S.b d_Tok_digit_43 (by decide) ?_
          refine lv_iadd S.x S.b d_Tok_digit_45 ?_
          refine lv_topi (fun z46 ez46 => ?_)
          have tz46 : z46.toInt = (z45.toInt + (10 : Int) + 2147483648) % 4294967296 - 2147483648 := by rw [ez46]; exact i_add z45 10
          have lz46 := Int32.le_toInt z46
          have uz46 := Int32.toInt_lt z46
          try replace tz46 : z46.toInt = z45.toInt + (10 : Int) := by omega
          exact px_iret (v := z46) S hr rfl hlk hAe hw (Nat.le_of_ble_eq_true rfl) (Nat.le_of_ble_eq_true rfl) (⟨rfl, (show R_t2_digit tb f p0 z46 from (Or.inl ⟨v2, e7, v9, e12, Or.inl ⟨nc13, Or.inr ⟨nc15, Or.inr ⟨nc25, Or.inr ⟨nc35, z45, ez45, z46, ez46, rfl⟩⟩⟩⟩⟩))⟩) d_Tok_digit_46
  · have nc13 : ¬ v9.toInt = (0 : Int) := mt (i_eq (x := v9) (y := 0)).mpr c13
    refine lv_iload_n S.x S.b d_Tok_digit_16 rfl (lv_at hl 0 rfl) ?_
    refine lv_bipush (v := 48) S.x S.b d_Tok_digit_17 (by decide) ?_
    refine lv_isub S.x S.b d_Tok_digit_19 ?_
    refine lv_topi (fun z47 ez47 => ?_)
    have tz47 : z47.toInt = (v2.toInt - (48 : Int) + 2147483648) % 4294967296 - 2147483648 := by rw [ez47]; exact i_sub v2 48
    have lz47 := Int32.le_toInt z47
    have uz47 := Int32.toInt_lt z47
    try replace tz47 : z47.toInt = v2.toInt - (48 : Int) := by omega
    exact px_iret (v := z47) S hr rfl hlk hAe hw (Nat.le_of_ble_eq_true rfl) (Nat.le_of_ble_eq_true rfl) (⟨rfl, (show R_t2_digit tb f p0 z47 from (Or.inl ⟨v2, e7, v9, e12, Or.inr ⟨nc13, z47, ez47, rfl⟩⟩))⟩) d_Tok_digit_20
set_option maxHeartbeats 4000000 in
set_option maxRecDepth 100000 in
theorem c_t2_sameLetters (l : Launch) (D : va_G) (cs : Nat → ClassId) (h : Nat) (r : Nat → Nat) (tp : Nat) (tb : Nat → Int32) (g : Nat → Nat → Option Nat) (f : Nat → Int32) (a : Nat → Nat → Int32) (p0 p1 p2 : Int32)  (hinv0 : TokOk (f 7) (f 8) (f 10) (f 11) (f 12) (f 13) (f 17) (a 4)) (g0 : 0 ≤ p0.toInt) (g1 : p0.toInt ≤ 1000000) (g2 : 0 ≤ p1.toInt) (g3 : p1.toInt ≤ 1000000) (g4 : 0 ≤ p2.toInt) (g5 : p2.toInt ≤ 1000000) : MetI l y_Tok_sameLetters b_Tok_sameLetters 5 (.boolean) D cs 0 0 (0) (0) [.ref h, .int p0, .int p1, .int p2] [wd_Tok cs h r (fun _ => some tp) f a g, [(tp, .inl (cs 1, 2048, .inl tb))]] (fun _ => True) (fun v ps => (ps = [wd_Tok cs h r (fun _ => some tp) f a g, [(tp, .inl (cs 1, 2048, .inl tb))]]) ∧ (v = 0 ∨ v = 1) ∧ (R_t2_sameLetters a p0 p1 p2 v)) := by
  refine px_enter (by decide) (Nat.le_of_ble_eq_true rfl) ?_
  intro p e s m below meth c A ls hAe S hr hlk hnm hA hT hX hw hl
  have hl : lv_has ls 5 [(0, .ref h), (1, .int p0), (2, .int p1), (3, .int p2)] := hl
  have lp0 := Int32.le_toInt p0
  have up0 := Int32.toInt_lt p0
  have lp1 := Int32.le_toInt p1
  have up1 := Int32.toInt_lt p1
  have lp2 := Int32.le_toInt p2
  have up2 := Int32.toInt_lt p2
  have cst0 : (0 : Int32).toInt = 0 := rfl
  have cst1 : (1 : Int32).toInt = 1 := rfl
  obtain ⟨⟨o1, o2⟩, ⟨o3, o4⟩, ⟨o5, o6⟩, ⟨o7, o8⟩, ⟨o9, o10⟩, ⟨o11, o12⟩, o13, hn4⟩ := hinv0
  have J3 : ∀ (n_3 : Nat)  (x3_4 : Int32) (H : Heap) (locs : List Loc) (ls : Array Slot), (0 ≤ x3_4.toInt) → (x3_4.toInt ≤ p2.toInt) → (K_t2_sameLetters_3 a p0 p1 p2 x3_4) → p2.toInt+1-x3_4.toInt < (n_3 : Int) → pw D A s.heap H locs [wd_Tok cs h r (fun _ => some tp) f a g, [(tp, .inl (cs 1, 2048, .inl tb))]] → lv_has ls 5 [(0, .ref h), (1, .int p0), (2, .int p1), (3, .int p2), (4, .int x3_4)] → W p l e { frames := 0, cells := 0, slots := 0, locals := 0 } s m [.ref h, .int p0, .int p1, .int p2].toArray below meth c H locs 0 0 (MQ below (va_Qi (fun v ps => (ps = [wd_Tok cs h r (fun _ => some tp) f a g, [(tp, .inl (cs 1, 2048, .inl tb))]]) ∧ (v = 0 ∨ v = 1) ∧ (R_t2_sameLetters a p0 p1 p2 v)) (pc_B D (va_A ([wd_Tok cs h r (fun _ => some tp) f a g, [(tp, .inl (cs 1, 2048, .inl tb))]] : List va_W).flatten s.heap.size)) (va_A ([wd_Tok cs h r (fun _ => some tp) f a g, [(tp, .inl (cs 1, 2048, .inl tb))]] : List va_W).flatten s.heap.size)) [.ref h, .int p0, .int p1, .int p2].toArray s 0 0 A) (F0 m 3 ls []) := by
    intro n_3
    induction n_3 with
    | zero =>
      intro x3_4 H locs ls k3_0 k3_1 k3_2 hm hw hl
      have lx3_4 := Int32.le_toInt x3_4
      have ux3_4 := Int32.toInt_lt x3_4
      exact absurd hm (by omega)
    | succ n_3 ih3 =>
      intro x3_4 H locs ls k3_0 k3_1 k3_2 hm hw hl
      have lx3_4 := Int32.le_toInt x3_4
      have ux3_4 := Int32.toInt_lt x3_4
      refine lv_iload S.x S.b d_Tok_sameLetters_3 (lv_at hl 4 rfl) ?_
      refine lv_iload_n S.x S.b d_Tok_sameLetters_5 rfl (lv_at hl 3 rfl) ?_
      refine lv_icmp_ge (tgt := 62) S.x S.b d_Tok_sameLetters_6 (by decide) (fun c1 => ?_) (fun c1 => ?_)
      · have nc1 : p2.toInt ≤ x3_4.toInt := (i_le (x := p2) (y := x3_4)).mp c1
        refine lv_iconst (v := 1) S.x S.b d_Tok_sameLetters_62 (by decide) ?_
        exact px_iret (v := 1) S hr rfl hlk hAe hw (Nat.le_of_ble_eq_true rfl) (Nat.le_of_ble_eq_true rfl) (⟨rfl, (show (1 : Int32) = 0 ∨ (1 : Int32) = 1 from by first | exact Or.inl rfl | exact Or.inr rfl | exact z_or (by omega)), (show R_t2_sameLetters a p0 p1 p2 (1 : Int32) from (k3_2 _ 1 (Or.inr (Or.inl ⟨rfl, x3_4, rfl, rfl, rfl, rfl, rfl, Or.inl ⟨nc1, rfl⟩⟩))))⟩) d_Tok_sameLetters_63
      · have nc1 : ¬ p2.toInt ≤ x3_4.toInt := mt (i_le (x := p2) (y := x3_4)).mpr c1
        refine lv_iload_n S.x S.b d_Tok_sameLetters_9 rfl (lv_at hl 1 rfl) ?_
        refine lv_iload S.x S.b d_Tok_sameLetters_10 (lv_at hl 4 rfl) ?_
        refine lv_iadd S.x S.b d_Tok_sameLetters_12 ?_
        refine lv_topi (fun z3 ez3 => ?_)
        have tz3 : z3.toInt = (p0.toInt + x3_4.toInt + 2147483648) % 4294967296 - 2147483648 := by rw [ez3]; exact i_add p0 x3_4
        have lz3 := Int32.le_toInt z3
        have uz3 := Int32.toInt_lt z3
        try replace tz3 : z3.toInt = p0.toInt + x3_4.toInt := by omega
        refine lv_aload_n S.x S.b d_Tok_sameLetters_13 rfl (lv_at hl 0 rfl) ?_
        refine px_get S k_Tok hT hw 0 0 3 (v := .ref (r 3)) rfl rfl rfl (by decide) m1_106 d_Tok_sameLetters_14 ?_
        refine px_len S hT hw 0 4 2 rfl rfl rfl (v := 2181) rfl d_Tok_sameLetters_17 ?_
        refine lv_icmp_ge (tgt := 54) S.x S.b d_Tok_sameLetters_18 (by decide) (fun c4 => ?_) (fun c4 => ?_)
        · have nc4 : (2181 : Int) ≤ z3.toInt := (i_le (x := 2181) (y := z3)).mp c4
          refine lv_iconst (v := 0) S.x S.b d_Tok_sameLetters_54 (by decide) ?_
          exact px_iret (v := 0) S hr rfl hlk hAe hw (Nat.le_of_ble_eq_true rfl) (Nat.le_of_ble_eq_true rfl) (⟨rfl, (show (0 : Int32) = 0 ∨ (0 : Int32) = 1 from by first | exact Or.inl rfl | exact Or.inr rfl | exact z_or (by omega)), (show R_t2_sameLetters a p0 p1 p2 (0 : Int32) from (k3_2 _ 1 (Or.inr (Or.inl ⟨rfl, x3_4, rfl, rfl, rfl, rfl, rfl, Or.inr ⟨nc1, z3, ez3, Or.inl ⟨nc4, rfl⟩⟩⟩))))⟩) d_Tok_sameLetters_55
        · have nc4 : ¬ (2181 : Int) ≤ z3.toInt := mt (i_le (x := 2181) (y := z3)).mpr c4
          refine lv_iload_n S.x S.b d_Tok_sameLetters_21 rfl (lv_at hl 2 rfl) ?_
          refine lv_iload S.x S.b d_Tok_sameLetters_22 (lv_at hl 4 rfl) ?_
          refine lv_iadd S.x S.b d_Tok_sameLetters_24 ?_
          refine lv_topi (fun z6 ez6 => ?_)
          have tz6 : z6.toInt = (p1.toInt + x3_4.toInt + 2147483648) % 4294967296 - 2147483648 := by rw [ez6]; exact i_add p1 x3_4
          have lz6 := Int32.le_toInt z6
          have uz6 := Int32.toInt_lt z6
          try replace tz6 : z6.toInt = p1.toInt + x3_4.toInt := by omega
          refine lv_aload_n S.x S.b d_Tok_sameLetters_25 rfl (lv_at hl 0 rfl) ?_
          refine px_get S k_Tok hT hw 0 0 3 (v := .ref (r 3)) rfl rfl rfl (by decide) m1_106 d_Tok_sameLetters_26 ?_
          refine px_len S hT hw 0 4 2 rfl rfl rfl (v := 2181) rfl d_Tok_sameLetters_29 ?_
          refine lv_icmp_ge (tgt := 54) S.x S.b d_Tok_sameLetters_30 (by decide) (fun c7 => ?_) (fun c7 => ?_)
          · have nc7 : (2181 : Int) ≤ z6.toInt := (i_le (x := 2181) (y := z6)).mp c7
            refine lv_iconst (v := 0) S.x S.b d_Tok_sameLetters_54 (by decide) ?_
            exact px_iret (v := 0) S hr rfl hlk hAe hw (Nat.le_of_ble_eq_true rfl) (Nat.le_of_ble_eq_true rfl) (⟨rfl, (show (0 : Int32) = 0 ∨ (0 : Int32) = 1 from by first | exact Or.inl rfl | exact Or.inr rfl | exact z_or (by omega)), (show R_t2_sameLetters a p0 p1 p2 (0 : Int32) from (k3_2 _ 1 (Or.inr (Or.inl ⟨rfl, x3_4, rfl, rfl, rfl, rfl, rfl, Or.inr ⟨nc1, z3, ez3, Or.inr ⟨nc4, z6, ez6, Or.inl ⟨nc7, rfl⟩⟩⟩⟩))))⟩) d_Tok_sameLetters_55
          · have nc7 : ¬ (2181 : Int) ≤ z6.toInt := mt (i_le (x := 2181) (y := z6)).mpr c7
            refine lv_aload_n S.x S.b d_Tok_sameLetters_33 rfl (lv_at hl 0 rfl) ?_
            refine px_get S k_Tok hT hw 0 0 3 (v := .ref (r 3)) rfl rfl rfl (by decide) m1_106 d_Tok_sameLetters_34 ?_
            refine lv_iload_n S.x S.b d_Tok_sameLetters_37 rfl (lv_at hl 1 rfl) ?_
            refine lv_iload S.x S.b d_Tok_sameLetters_38 (lv_at hl 4 rfl) ?_
            refine lv_iadd S.x S.b d_Tok_sameLetters_40 ?_
            refine lv_topi (fun z9 ez9 => ?_)
            have tz9 : z9.toInt = (p0.toInt + x3_4.toInt + 2147483648) % 4294967296 - 2147483648 := by rw [ez9]; exact i_add p0 x3_4
            have lz9 := Int32.le_toInt z9
            have uz9 := Int32.toInt_lt z9
            try replace tz9 : z9.toInt = p0.toInt + x3_4.toInt := by omega
            refine px_cald S hT hw 0 4 (n := 2181) (f := (a 3)) rfl (ga_Tok_3 _ _ _ _ _ _ _) (x := z9) (vp_in_iff.mpr (by first | exact oz_04aa1ad5e6 tz9 g0 k3_0 tz3 nc4 | (constructor <;> omega))) d_Tok_sameLetters_41 ?_
            refine lv_topi (fun z10 ez10 => ?_)
            have lz10 := Int32.le_toInt z10
            have uz10 := Int32.toInt_lt z10
            refine lv_aload_n S.x S.b d_Tok_sameLetters_42 rfl (lv_at hl 0 rfl) ?_
            refine px_get S k_Tok hT hw 0 0 3 (v := .ref (r 3)) rfl rfl rfl (by decide) m1_106 d_Tok_sameLetters_43 ?_
            refine lv_iload_n S.x S.b d_Tok_sameLetters_46 rfl (lv_at hl 2 rfl) ?_
            refine lv_iload S.x S.b d_Tok_sameLetters_47 (lv_at hl 4 rfl) ?_
            refine lv_iadd S.x S.b d_Tok_sameLetters_49 ?_
            refine lv_topi (fun z11 ez11 => ?_)
            have tz11 : z11.toInt = (p1.toInt + x3_4.toInt + 2147483648) % 4294967296 - 2147483648 := by rw [ez11]; exact i_add p1 x3_4
            have lz11 := Int32.le_toInt z11
            have uz11 := Int32.toInt_lt z11
            try replace tz11 : z11.toInt = p1.toInt + x3_4.toInt := by omega
            refine px_cald S hT hw 0 4 (n := 2181) (f := (a 3)) rfl (ga_Tok_3 _ _ _ _ _ _ _) (x := z11) (vp_in_iff.mpr (by first | exact oz_04aa1ad5e6 tz11 g2 k3_0 tz6 nc7 | (constructor <;> omega))) d_Tok_sameLetters_50 ?_
            refine lv_topi (fun z12 ez12 => ?_)
            have lz12 := Int32.le_toInt z12
            have uz12 := Int32.toInt_lt z12
            refine lv_icmp_eq (tgt := 56) S.x S.b d_Tok_sameLetters_51 (by decide) (fun c13 => ?_) (fun c13 => ?_)
            · have nc13 : z10.toInt = z12.toInt := (i_eq (x := z10) (y := z12)).mp c13
              obtain ⟨z15, ez15⟩ : ∃ y : Int32, y = x3_4 + 1 := ⟨_, rfl⟩
              have tz15 : z15.toInt = (x3_4.toInt + 1 + 2147483648) % 4294967296 - 2147483648 := by rw [ez15]; exact i_add x3_4 1
              have lz15 := Int32.le_toInt z15
              have uz15 := Int32.toInt_lt z15
              try replace tz15 : z15.toInt = x3_4.toInt + 1 := by omega
              refine lv_iinc (v := z15) (lv' := [(4, .int z15), (0, .ref h), (1, .int p0), (2, .int p1), (3, .int p2)]) S.x S.b d_Tok_sameLetters_56 hl (k := 4) rfl (by rw [ez15]; rfl) (by decide) rfl (fun ls hl => ?_)
              refine lv_goto (tgt := 3) S.x S.b d_Tok_sameLetters_59 (by decide) ?_
              first | exact ih3 z15 _ _ ls (show 0 ≤ z15.toInt from (oz_ae613611c0 tz15 k3_0)) (show z15.toInt ≤ p2.toInt from (oz_b1314744c8 nc1 tz15)) (show K_t2_sameLetters_3 a p0 p1 p2 z15 from (fun y_v k hE => k3_2 y_v (k + 1) (Or.inr (Or.inl ⟨rfl, x3_4, rfl, rfl, rfl, rfl, rfl, Or.inr ⟨nc1, z3, ez3, Or.inr ⟨nc4, z6, ez6, Or.inr ⟨nc7, z9, ez9, z10, ez10, z11, ez11, z12, ez12, Or.inl ⟨nc13, z15, ez15, hE⟩⟩⟩⟩⟩)))) (show p2.toInt+1-z15.toInt < (n_3 : Int) from (oz_a86078dd04 hm tz15)) hw (lv_sub hl [1, 2, 3, 4, 0] rfl) | exact ih3 z15 _ _ ls (show 0 ≤ z15.toInt from by first | exact oz_ae613611c0 tz15 k3_0 | omega) (show z15.toInt ≤ p2.toInt from by first | exact oz_b1314744c8 nc1 tz15 | omega) (show K_t2_sameLetters_3 a p0 p1 p2 z15 from (fun y_v k hE => k3_2 y_v (k + 1) (Or.inr (Or.inl ⟨rfl, x3_4, rfl, rfl, rfl, rfl, rfl, Or.inr ⟨nc1, z3, ez3, Or.inr ⟨nc4, z6, ez6, Or.inr ⟨nc7, z9, ez9, z10, ez10, z11, ez11, z12, ez12, Or.inl ⟨nc13, z15, ez15, hE⟩⟩⟩⟩⟩)))) (show p2.toInt+1-z15.toInt < (n_3 : Int) from by first | exact oz_a86078dd04 hm tz15 | omega) hw (lv_sub hl [1, 2, 3, 4, 0] rfl)
            · have nc13 : ¬ z10.toInt = z12.toInt := mt (i_eq (x := z10) (y := z12)).mpr c13
              refine lv_iconst (v := 0) S.x S.b d_Tok_sameLetters_54 (by decide) ?_
              exact px_iret (v := 0) S hr rfl hlk hAe hw (Nat.le_of_ble_eq_true rfl) (Nat.le_of_ble_eq_true rfl) (⟨rfl, (show (0 : Int32) = 0 ∨ (0 : Int32) = 1 from by first | exact Or.inl rfl | exact Or.inr rfl | exact z_or (by omega)), (show R_t2_sameLetters a p0 p1 p2 (0 : Int32) from (k3_2 _ 1 (Or.inr (Or.inl ⟨rfl, x3_4, rfl, rfl, rfl, rfl, rfl, Or.inr ⟨nc1, z3, ez3, Or.inr ⟨nc4, z6, ez6, Or.inr ⟨nc7, z9, ez9, z10, ez10, z11, ez11, z12, ez12, Or.inr ⟨nc13, rfl⟩⟩⟩⟩⟩))))⟩) d_Tok_sameLetters_55
  refine lv_iconst (v := 0) S.x S.b d_Tok_sameLetters_0 (by decide) ?_
  refine lv_istore (lv' := [(4, .int 0), (0, .ref h), (1, .int p0), (2, .int p1), (3, .int p2)]) S.x S.b d_Tok_sameLetters_1 hl (by decide) rfl (fun ls hl => ?_)
  first | exact J3 ((p2.toInt+1-(0 : Int)).toNat + 1) (0 : Int32) _ _ ls (show 0 ≤ (0 : Int) from oz_5a341f00aa) (show (0 : Int) ≤ p2.toInt from (oz_50c21e157e g4)) (show K_t2_sameLetters_3 a p0 p1 p2 0 from (fun y_v k hE => Exists.intro (k + 1) (Or.inl ⟨rfl, hE⟩))) (show p2.toInt+1-(0 : Int) < ((((p2.toInt+1-(0 : Int)).toNat + 1 : Nat) : Int) : Int) from oz_natlt) hw (lv_sub hl [1, 2, 3, 4, 0] rfl) | exact J3 ((p2.toInt+1-(0 : Int)).toNat + 1) (0 : Int32) _ _ ls (show 0 ≤ (0 : Int) from by first | exact oz_5a341f00aa | omega) (show (0 : Int) ≤ p2.toInt from by first | exact oz_50c21e157e g4 | omega) (show K_t2_sameLetters_3 a p0 p1 p2 0 from (fun y_v k hE => Exists.intro (k + 1) (Or.inl ⟨rfl, hE⟩))) (show p2.toInt+1-(0 : Int) < ((((p2.toInt+1-(0 : Int)).toNat + 1 : Nat) : Int) : Int) from by first | exact oz_natlt | omega) hw (lv_sub hl [1, 2, 3, 4, 0] rfl)
set_option maxHeartbeats 4000000 in
set_option maxRecDepth 100000 in
theorem c_t2_lineEnd (l : Launch) (D : va_G) (cs : Nat → ClassId) (h : Nat) (r : Nat → Nat) (tp : Nat) (tb : Nat → Int32) (g : Nat → Nat → Option Nat) (f : Nat → Int32) (a : Nat → Nat → Int32)  (hinv0 : TokOk (f 7) (f 8) (f 10) (f 11) (f 12) (f 13) (f 17) (a 4)) : MetI l y_Tok_lineEnd b_Tok_lineEnd 2 (.int) D cs 1 21 (0) (0) [.ref h] [wd_Tok cs h r (fun _ => some tp) f a g, [(tp, .inl (cs 1, 2048, .inl tb))]] (fun _ => True) (fun v ps => (ps = [wd_Tok cs h r (fun _ => some tp) f a g, [(tp, .inl (cs 1, 2048, .inl tb))]]) ∧ (0 ≤ v.toInt) ∧ (v.toInt ≤ (f 7).toInt+8) ∧ ((f 8).toInt ≤ (f 7).toInt → (f 8).toInt ≤ v.toInt) ∧ (R_t2_lineEnd tb f v)) := by
  refine px_enter (by decide) (Nat.le_of_ble_eq_true rfl) ?_
  intro p e s m below meth c A ls hAe S hr hlk hnm hA hT hX hw hl
  have hl : lv_has ls 2 [(0, .ref h)] := hl
  have cst10 : (10 : Int32).toInt = 10 := rfl
  obtain ⟨⟨o1, o2⟩, ⟨o3, o4⟩, ⟨o5, o6⟩, ⟨o7, o8⟩, ⟨o9, o10⟩, ⟨o11, o12⟩, o13, hn4⟩ := hinv0
  have J5 : ∀ (n_5 : Nat)  (x5_1 : Int32) (H : Heap) (locs : List Loc) (ls : Array Slot), ((f 8).toInt ≤ x5_1.toInt) → (x5_1.toInt ≤ (f 7).toInt+8) → (K_t2_lineEnd_5 tb f x5_1) → (f 7).toInt+16-x5_1.toInt < (n_5 : Int) → pw D A s.heap H locs [wd_Tok cs h r (fun _ => some tp) f a g, [(tp, .inl (cs 1, 2048, .inl tb))]] → lv_has ls 2 [(0, .ref h), (1, .int x5_1)] → W p l e { frames := 1, cells := 0, slots := 0, locals := 21 } s m [.ref h].toArray below meth c H locs 0 0 (MQ below (va_Qi (fun v ps => (ps = [wd_Tok cs h r (fun _ => some tp) f a g, [(tp, .inl (cs 1, 2048, .inl tb))]]) ∧ (0 ≤ v.toInt) ∧ (v.toInt ≤ (f 7).toInt+8) ∧ ((f 8).toInt ≤ (f 7).toInt → (f 8).toInt ≤ v.toInt) ∧ (R_t2_lineEnd tb f v)) (pc_B D (va_A ([wd_Tok cs h r (fun _ => some tp) f a g, [(tp, .inl (cs 1, 2048, .inl tb))]] : List va_W).flatten s.heap.size)) (va_A ([wd_Tok cs h r (fun _ => some tp) f a g, [(tp, .inl (cs 1, 2048, .inl tb))]] : List va_W).flatten s.heap.size)) [.ref h].toArray s 0 0 A) (F0 m 5 ls []) := by
    intro  n_5
    induction n_5 with
    | zero =>
      intro x5_1 H locs ls k5_0 k5_1 k5_2 hm hw hl
      have lx5_1 := Int32.le_toInt x5_1
      have ux5_1 := Int32.toInt_lt x5_1
      exact absurd hm (by omega)
    | succ n_5 ih5 =>
      intro x5_1 H locs ls k5_0 k5_1 k5_2 hm hw hl
      have lx5_1 := Int32.le_toInt x5_1
      have ux5_1 := Int32.toInt_lt x5_1
      refine lv_iload_n S.x S.b d_Tok_lineEnd_5 rfl (lv_at hl 1 rfl) ?_
      refine lv_aload_n S.x S.b d_Tok_lineEnd_6 rfl (lv_at hl 0 rfl) ?_
      refine px_get S k_Tok hT hw 0 0 7 (v := .int (f 7)) rfl rfl rfl (by decide) m1_110 d_Tok_lineEnd_7 ?_
      refine lv_icmp_ge (tgt := 31) S.x S.b d_Tok_lineEnd_10 (by decide) (fun c1 => ?_) (fun c1 => ?_)
      · have nc1 : (f 7).toInt ≤ x5_1.toInt := (i_le (x := (f 7)) (y := x5_1)).mp c1
        refine lv_aload_n S.x S.b d_Tok_lineEnd_31 rfl (lv_at hl 0 rfl) ?_
        refine px_get S k_Tok hT hw 0 0 7 (v := .int (f 7)) rfl rfl rfl (by decide) m1_110 d_Tok_lineEnd_32 ?_
        first | exact px_iret (v := (f 7)) S hr rfl hlk hAe hw (Nat.le_of_ble_eq_true rfl) (Nat.le_of_ble_eq_true rfl) (⟨rfl, (show 0 ≤ (f 7).toInt from o1), (show (f 7).toInt ≤ (f 7).toInt+8 from oz_9583a53679), (show (f 8).toInt ≤ (f 7).toInt → (f 8).toInt ≤ (f 7).toInt from (fun q9 => q9)), (show R_t2_lineEnd tb f (f 7) from (k5_2 _ 1 (Or.inr (Or.inl ⟨rfl, x5_1, rfl, rfl, rfl, rfl, rfl, Or.inl ⟨nc1, rfl⟩⟩))))⟩) d_Tok_lineEnd_35 | exact px_iret (v := (f 7)) S hr rfl hlk hAe hw (Nat.le_of_ble_eq_true rfl) (Nat.le_of_ble_eq_true rfl) (⟨rfl, (show 0 ≤ (f 7).toInt from by first | exact o1 | omega), (show (f 7).toInt ≤ (f 7).toInt+8 from by first | exact oz_9583a53679 | omega), (show (f 8).toInt ≤ (f 7).toInt → (f 8).toInt ≤ (f 7).toInt from by first | exact fun q9 => q9 | omega), (show R_t2_lineEnd tb f (f 7) from (k5_2 _ 1 (Or.inr (Or.inl ⟨rfl, x5_1, rfl, rfl, rfl, rfl, rfl, Or.inl ⟨nc1, rfl⟩⟩))))⟩) d_Tok_lineEnd_35
      · have nc1 : ¬ (f 7).toInt ≤ x5_1.toInt := mt (i_le (x := (f 7)) (y := x5_1)).mpr c1
        refine lv_aload_n S.x S.b d_Tok_lineEnd_13 rfl (lv_at hl 0 rfl) ?_
        refine lv_iload_n S.x S.b d_Tok_lineEnd_14 rfl (lv_at hl 1 rfl) ?_
        first | refine px_calli (pr := []) (px_runV (As := [.int x5_1]) (rest := []) S (c_t2_byteAt l D cs h r tp tb g f a x5_1  (show TokOk (f 7) (f 8) (f 10) (f 11) (f 12) (f 13) (f 17) (a 4) from ⟨⟨o1, o2⟩, ⟨o3, o4⟩, ⟨o5, o6⟩, ⟨o7, o8⟩, ⟨o9, o10⟩, ⟨o11, o12⟩, o13, hn4⟩) _) hT (pr := []) (pcs := [wd_Tok cs h r (fun _ => some tp) f a g, [(tp, .inl (cs 1, 2048, .inl tb))]]) hw px_X.tt (px_recv hT hw 0 0 rfl rfl rfl) m3_186 m3_183 m3_185 ms_1_6 m1_2 q_Tok_byteAt ⟨Nat.le_of_ble_eq_true rfl, Nat.le_of_ble_eq_true rfl⟩ hl.1 rfl (Nat.le_of_ble_eq_true rfl) d_Tok_lineEnd_15 ⟨Nat.le_of_ble_eq_true rfl, Nat.le_of_ble_eq_true rfl⟩) hw hA (fun v4 p3 H locs hp3 hw => ?_) | refine px_calli (pr := []) (px_runV (As := [.int x5_1]) (rest := []) S (c_t2_byteAt l D cs h r tp tb g f a x5_1  (show TokOk (f 7) (f 8) (f 10) (f 11) (f 12) (f 13) (f 17) (a 4) from ⟨⟨by first | exact o1 | omega, by first | exact o2 | omega⟩, ⟨by first | exact o3 | omega, by first | exact o4 | omega⟩, ⟨by first | exact o5 | omega, by first | exact o6 | omega⟩, ⟨by first | exact o7 | omega, by first | exact o8 | omega⟩, ⟨by first | exact o9 | omega, by first | exact o10 | omega⟩, ⟨by first | exact o11 | omega, by first | exact o12 | omega⟩, by first | exact o13 | omega, hn4⟩) _) hT (pr := []) (pcs := [wd_Tok cs h r (fun _ => some tp) f a g, [(tp, .inl (cs 1, 2048, .inl tb))]]) hw px_X.tt (px_recv hT hw 0 0 rfl rfl rfl) m3_186 m3_183 m3_185 ms_1_6 m1_2 q_Tok_byteAt ⟨Nat.le_of_ble_eq_true rfl, Nat.le_of_ble_eq_true rfl⟩ hl.1 rfl (Nat.le_of_ble_eq_true rfl) d_Tok_lineEnd_15 ⟨Nat.le_of_ble_eq_true rfl, Nat.le_of_ble_eq_true rfl⟩) hw hA (fun v4 p3 H locs hp3 hw => ?_)
        obtain ⟨rfl, e5, e6, e7, e8, e9⟩ := hp3
        have e5 : -1 ≤ v4.toInt := e5
        have e6 : v4.toInt ≤ 255 := e6
        have e7 : 0 ≤ v4.toInt → 0 ≤ x5_1.toInt ∧ x5_1.toInt < (f 7).toInt := e7
        have e8 : By tb (f 7) x5_1 v4 := e8
        have e9 : R_t2_byteAt tb f x5_1 v4 := e9
        have lv4 := Int32.le_toInt v4
        have uv4 := Int32.toInt_lt v4
        refine lv_bipush (v := 10) S.x S.b d_Tok_lineEnd_18 (by decide) ?_
        refine lv_icmp_ne (tgt := 25) S.x S.b d_Tok_lineEnd_20 (by decide) (fun c10 => ?_) (fun c10 => ?_)
        · have nc10 : ¬ v4.toInt = (10 : Int) := mt (i_eq (x := v4) (y := 10)).mpr c10
          obtain ⟨z12, ez12⟩ : ∃ y : Int32, y = x5_1 + 1 := ⟨_, rfl⟩
          have tz12 : z12.toInt = (x5_1.toInt + 1 + 2147483648) % 4294967296 - 2147483648 := by rw [ez12]; exact i_add x5_1 1
          have lz12 := Int32.le_toInt z12
          have uz12 := Int32.toInt_lt z12
          try replace tz12 : z12.toInt = x5_1.toInt + 1 := by omega
          refine lv_iinc (v := z12) (lv' := [(1, .int z12), (0, .ref h)]) S.x S.b d_Tok_lineEnd_25 hl (k := 1) rfl (by rw [ez12]; rfl) (by decide) rfl (fun ls hl => ?_)
          refine lv_goto (tgt := 5) S.x S.b d_Tok_lineEnd_28 (by decide) ?_
          first | exact ih5 z12 _ _ ls (show (f 8).toInt ≤ z12.toInt from (oz_887c409de9 k5_0 tz12)) (show z12.toInt ≤ (f 7).toInt+8 from (oz_1e5ac0e216 nc1 tz12)) (show K_t2_lineEnd_5 tb f z12 from (fun y_v k hE => k5_2 y_v (k + 1) (Or.inr (Or.inl ⟨rfl, x5_1, rfl, rfl, rfl, rfl, rfl, Or.inr ⟨nc1, v4, e9, Or.inl ⟨nc10, z12, ez12, hE⟩⟩⟩)))) (show (f 7).toInt+16-z12.toInt < (n_5 : Int) from (oz_f6c959245f hm tz12)) hw (lv_sub hl [1, 0] rfl) | exact ih5 z12 _ _ ls (show (f 8).toInt ≤ z12.toInt from by first | exact oz_887c409de9 k5_0 tz12 | omega) (show z12.toInt ≤ (f 7).toInt+8 from by first | exact oz_1e5ac0e216 nc1 tz12 | omega) (show K_t2_lineEnd_5 tb f z12 from (fun y_v k hE => k5_2 y_v (k + 1) (Or.inr (Or.inl ⟨rfl, x5_1, rfl, rfl, rfl, rfl, rfl, Or.inr ⟨nc1, v4, e9, Or.inl ⟨nc10, z12, ez12, hE⟩⟩⟩)))) (show (f 7).toInt+16-z12.toInt < (n_5 : Int) from by first | exact oz_f6c959245f hm tz12 | omega) hw (lv_sub hl [1, 0] rfl)
        · have nc10 : v4.toInt = (10 : Int) := (i_eq (x := v4) (y := 10)).mp c10
          refine lv_iload_n S.x S.b d_Tok_lineEnd_23 rfl (lv_at hl 1 rfl) ?_
          first | exact px_iret (v := x5_1) S hr rfl hlk hAe hw (Nat.le_of_ble_eq_true rfl) (Nat.le_of_ble_eq_true rfl) (⟨rfl, (show 0 ≤ x5_1.toInt from (oz_16d7fa9f32 k5_0 o3)), (show x5_1.toInt ≤ (f 7).toInt+8 from k5_1), (show (f 8).toInt ≤ (f 7).toInt → (f 8).toInt ≤ x5_1.toInt from (fun q9 => k5_0)), (show R_t2_lineEnd tb f x5_1 from (k5_2 _ 1 (Or.inr (Or.inl ⟨rfl, x5_1, rfl, rfl, rfl, rfl, rfl, Or.inr ⟨nc1, v4, e9, Or.inr ⟨nc10, rfl⟩⟩⟩))))⟩) d_Tok_lineEnd_24 | exact px_iret (v := x5_1) S hr rfl hlk hAe hw (Nat.le_of_ble_eq_true rfl) (Nat.le_of_ble_eq_true rfl) (⟨rfl, (show 0 ≤ x5_1.toInt from by first | exact oz_16d7fa9f32 k5_0 o3 | omega), (show x5_1.toInt ≤ (f 7).toInt+8 from by first | exact k5_1 | omega), (show (f 8).toInt ≤ (f 7).toInt → (f 8).toInt ≤ x5_1.toInt from by first | exact fun q9 => k5_0 | omega), (show R_t2_lineEnd tb f x5_1 from (k5_2 _ 1 (Or.inr (Or.inl ⟨rfl, x5_1, rfl, rfl, rfl, rfl, rfl, Or.inr ⟨nc1, v4, e9, Or.inr ⟨nc10, rfl⟩⟩⟩))))⟩) d_Tok_lineEnd_24
  refine lv_aload_n S.x S.b d_Tok_lineEnd_0 rfl (lv_at hl 0 rfl) ?_
  refine px_get S k_Tok hT hw 0 0 8 (v := .int (f 8)) rfl rfl rfl (by decide) m1_111 d_Tok_lineEnd_1 ?_
  refine lv_istore_n (lv' := [(1, .int (f 8)), (0, .ref h)]) S.x S.b d_Tok_lineEnd_4 rfl hl (by decide) rfl (fun ls hl => ?_)
  first | exact J5 (((f 7).toInt+16-(f 8).toInt).toNat + 1) (f 8) _ _ ls (show (f 8).toInt ≤ (f 8).toInt from oz_1cb5f934a5) (show (f 8).toInt ≤ (f 7).toInt+8 from (oz_6f0a04008e o4)) (show K_t2_lineEnd_5 tb f (f 8) from (fun y_v k hE => Exists.intro (k + 1) (Or.inl ⟨rfl, hE⟩))) (show (f 7).toInt+16-(f 8).toInt < (((((f 7).toInt+16-(f 8).toInt).toNat + 1 : Nat) : Int) : Int) from oz_natlt) hw (lv_sub hl [1, 0] rfl) | exact J5 (((f 7).toInt+16-(f 8).toInt).toNat + 1) (f 8) _ _ ls (show (f 8).toInt ≤ (f 8).toInt from by first | exact oz_1cb5f934a5 | omega) (show (f 8).toInt ≤ (f 7).toInt+8 from by first | exact oz_6f0a04008e o4 | omega) (show K_t2_lineEnd_5 tb f (f 8) from (fun y_v k hE => Exists.intro (k + 1) (Or.inl ⟨rfl, hE⟩))) (show (f 7).toInt+16-(f 8).toInt < (((((f 7).toInt+16-(f 8).toInt).toNat + 1 : Nat) : Int) : Int) from by first | exact oz_natlt | omega) hw (lv_sub hl [1, 0] rfl)
set_option maxHeartbeats 4000000 in
set_option maxRecDepth 100000 in
theorem c_t2_commentEnd (l : Launch) (D : va_G) (cs : Nat → ClassId) (h : Nat) (r : Nat → Nat) (tp : Nat) (tb : Nat → Int32) (g : Nat → Nat → Option Nat) (f : Nat → Int32) (a : Nat → Nat → Int32)  (hinv0 : TokOk (f 7) (f 8) (f 10) (f 11) (f 12) (f 13) (f 17) (a 4)) : MetI l y_Tok_commentEnd b_Tok_commentEnd 2 (.int) D cs 1 22 (0) (0) [.ref h] [wd_Tok cs h r (fun _ => some tp) f a g, [(tp, .inl (cs 1, 2048, .inl tb))]] (fun _ => True) (fun v ps => (ps = [wd_Tok cs h r (fun _ => some tp) f a g, [(tp, .inl (cs 1, 2048, .inl tb))]]) ∧ (0 ≤ v.toInt) ∧ (v.toInt ≤ (f 7).toInt+8) ∧ ((f 8).toInt ≤ v.toInt) ∧ (R_t2_commentEnd tb f v)) := by
  refine px_enter (by decide) (Nat.le_of_ble_eq_true rfl) ?_
  intro p e s m below meth c A ls hAe S hr hlk hnm hA hT hX hw hl
  have hl : lv_has ls 2 [(0, .ref h)] := hl
  have cst1 : (1 : Int32).toInt = 1 := rfl
  have cst2 : (2 : Int32).toInt = 2 := rfl
  have cst42 : (42 : Int32).toInt = 42 := rfl
  have cst47 : (47 : Int32).toInt = 47 := rfl
  obtain ⟨⟨o1, o2⟩, ⟨o3, o4⟩, ⟨o5, o6⟩, ⟨o7, o8⟩, ⟨o9, o10⟩, ⟨o11, o12⟩, o13, hn4⟩ := hinv0
  have J7 : ∀ (n_7 : Nat)  (x7_1 : Int32) (H : Heap) (locs : List Loc) (ls : Array Slot), ((f 8).toInt ≤ x7_1.toInt) → (x7_1.toInt ≤ (f 7).toInt+10) → (K_t2_commentEnd_7 tb f x7_1) → (f 7).toInt+16-x7_1.toInt < (n_7 : Int) → pw D A s.heap H locs [wd_Tok cs h r (fun _ => some tp) f a g, [(tp, .inl (cs 1, 2048, .inl tb))]] → lv_has ls 2 [(0, .ref h), (1, .int x7_1)] → W p l e { frames := 1, cells := 0, slots := 0, locals := 22 } s m [.ref h].toArray below meth c H locs 0 0 (MQ below (va_Qi (fun v ps => (ps = [wd_Tok cs h r (fun _ => some tp) f a g, [(tp, .inl (cs 1, 2048, .inl tb))]]) ∧ (0 ≤ v.toInt) ∧ (v.toInt ≤ (f 7).toInt+8) ∧ ((f 8).toInt ≤ v.toInt) ∧ (R_t2_commentEnd tb f v)) (pc_B D (va_A ([wd_Tok cs h r (fun _ => some tp) f a g, [(tp, .inl (cs 1, 2048, .inl tb))]] : List va_W).flatten s.heap.size)) (va_A ([wd_Tok cs h r (fun _ => some tp) f a g, [(tp, .inl (cs 1, 2048, .inl tb))]] : List va_W).flatten s.heap.size)) [.ref h].toArray s 0 0 A) (F0 m 7 ls []) := by
    intro  n_7
    induction n_7 with
    | zero =>
      intro x7_1 H locs ls k7_0 k7_1 k7_2 hm hw hl
      have lx7_1 := Int32.le_toInt x7_1
      have ux7_1 := Int32.toInt_lt x7_1
      exact absurd hm (by omega)
    | succ n_7 ih7 =>
      intro x7_1 H locs ls k7_0 k7_1 k7_2 hm hw hl
      have lx7_1 := Int32.le_toInt x7_1
      have ux7_1 := Int32.toInt_lt x7_1
      refine lv_iload_n S.x S.b d_Tok_commentEnd_7 rfl (lv_at hl 1 rfl) ?_
      refine lv_aload_n S.x S.b d_Tok_commentEnd_8 rfl (lv_at hl 0 rfl) ?_
      refine px_get S k_Tok hT hw 0 0 7 (v := .int (f 7)) rfl rfl rfl (by decide) m1_110 d_Tok_commentEnd_9 ?_
      refine lv_iconst (v := 1) S.x S.b d_Tok_commentEnd_12 (by decide) ?_
      refine lv_isub S.x S.b d_Tok_commentEnd_13 ?_
      have lr1 := Int32.le_toInt (f 7)
      have ur1 := Int32.toInt_lt (f 7)
      refine lv_topi (fun z2 ez2 => ?_)
      have tz2 : z2.toInt = ((f 7).toInt - (1 : Int) + 2147483648) % 4294967296 - 2147483648 := by rw [ez2]; exact i_sub (f 7) 1
      have lz2 := Int32.le_toInt z2
      have uz2 := Int32.toInt_lt z2
      try replace tz2 : z2.toInt = (f 7).toInt - (1 : Int) := by omega
      refine lv_icmp_ge (tgt := 49) S.x S.b d_Tok_commentEnd_14 (by decide) (fun c3 => ?_) (fun c3 => ?_)
      · have nc3 : z2.toInt ≤ x7_1.toInt := (i_le (x := z2) (y := x7_1)).mp c3
        refine lv_aload_n S.x S.b d_Tok_commentEnd_49 rfl (lv_at hl 0 rfl) ?_
        refine px_get S k_Tok hT hw 0 0 8 (v := .int (f 8)) rfl rfl rfl (by decide) m1_111 d_Tok_commentEnd_50 ?_
        first | exact px_iret (v := (f 8)) S hr rfl hlk hAe hw (Nat.le_of_ble_eq_true rfl) (Nat.le_of_ble_eq_true rfl) (⟨rfl, (show 0 ≤ (f 8).toInt from o3), (show (f 8).toInt ≤ (f 7).toInt+8 from (oz_6f0a04008e o4)), (show (f 8).toInt ≤ (f 8).toInt from oz_1cb5f934a5), (show R_t2_commentEnd tb f (f 8) from (k7_2 _ 1 (Or.inr (Or.inl ⟨rfl, x7_1, rfl, rfl, rfl, rfl, rfl, z2, ez2, Or.inl ⟨nc3, rfl⟩⟩))))⟩) d_Tok_commentEnd_53 | exact px_iret (v := (f 8)) S hr rfl hlk hAe hw (Nat.le_of_ble_eq_true rfl) (Nat.le_of_ble_eq_true rfl) (⟨rfl, (show 0 ≤ (f 8).toInt from by first | exact o3 | omega), (show (f 8).toInt ≤ (f 7).toInt+8 from by first | exact oz_6f0a04008e o4 | omega), (show (f 8).toInt ≤ (f 8).toInt from by first | exact oz_1cb5f934a5 | omega), (show R_t2_commentEnd tb f (f 8) from (k7_2 _ 1 (Or.inr (Or.inl ⟨rfl, x7_1, rfl, rfl, rfl, rfl, rfl, z2, ez2, Or.inl ⟨nc3, rfl⟩⟩))))⟩) d_Tok_commentEnd_53
      · have nc3 : ¬ z2.toInt ≤ x7_1.toInt := mt (i_le (x := z2) (y := x7_1)).mpr c3
        refine lv_aload_n S.x S.b d_Tok_commentEnd_17 rfl (lv_at hl 0 rfl) ?_
        refine lv_iload_n S.x S.b d_Tok_commentEnd_18 rfl (lv_at hl 1 rfl) ?_
        first | refine px_calli (pr := []) (px_runV (As := [.int x7_1]) (rest := []) S (c_t2_byteAt l D cs h r tp tb g f a x7_1  (show TokOk (f 7) (f 8) (f 10) (f 11) (f 12) (f 13) (f 17) (a 4) from ⟨⟨o1, o2⟩, ⟨o3, o4⟩, ⟨o5, o6⟩, ⟨o7, o8⟩, ⟨o9, o10⟩, ⟨o11, o12⟩, o13, hn4⟩) _) hT (pr := []) (pcs := [wd_Tok cs h r (fun _ => some tp) f a g, [(tp, .inl (cs 1, 2048, .inl tb))]]) hw px_X.tt (px_recv hT hw 0 0 rfl rfl rfl) m3_186 m3_183 m3_185 ms_1_6 m1_2 q_Tok_byteAt ⟨Nat.le_of_ble_eq_true rfl, Nat.le_of_ble_eq_true rfl⟩ hl.1 rfl (Nat.le_of_ble_eq_true rfl) d_Tok_commentEnd_19 ⟨Nat.le_of_ble_eq_true rfl, Nat.le_of_ble_eq_true rfl⟩) hw hA (fun v6 p5 H locs hp5 hw => ?_) | refine px_calli (pr := []) (px_runV (As := [.int x7_1]) (rest := []) S (c_t2_byteAt l D cs h r tp tb g f a x7_1  (show TokOk (f 7) (f 8) (f 10) (f 11) (f 12) (f 13) (f 17) (a 4) from ⟨⟨by first | exact o1 | omega, by first | exact o2 | omega⟩, ⟨by first | exact o3 | omega, by first | exact o4 | omega⟩, ⟨by first | exact o5 | omega, by first | exact o6 | omega⟩, ⟨by first | exact o7 | omega, by first | exact o8 | omega⟩, ⟨by first | exact o9 | omega, by first | exact o10 | omega⟩, ⟨by first | exact o11 | omega, by first | exact o12 | omega⟩, by first | exact o13 | omega, hn4⟩) _) hT (pr := []) (pcs := [wd_Tok cs h r (fun _ => some tp) f a g, [(tp, .inl (cs 1, 2048, .inl tb))]]) hw px_X.tt (px_recv hT hw 0 0 rfl rfl rfl) m3_186 m3_183 m3_185 ms_1_6 m1_2 q_Tok_byteAt ⟨Nat.le_of_ble_eq_true rfl, Nat.le_of_ble_eq_true rfl⟩ hl.1 rfl (Nat.le_of_ble_eq_true rfl) d_Tok_commentEnd_19 ⟨Nat.le_of_ble_eq_true rfl, Nat.le_of_ble_eq_true rfl⟩) hw hA (fun v6 p5 H locs hp5 hw => ?_)
        obtain ⟨rfl, e7, e8, e9, e10, e11⟩ := hp5
        have e7 : -1 ≤ v6.toInt := e7
        have e8 : v6.toInt ≤ 255 := e8
        have e9 : 0 ≤ v6.toInt → 0 ≤ x7_1.toInt ∧ x7_1.toInt < (f 7).toInt := e9
        have e10 : By tb (f 7) x7_1 v6 := e10
        have e11 : R_t2_byteAt tb f x7_1 v6 := e11
        have lv6 := Int32.le_toInt v6
        have uv6 := Int32.toInt_lt v6
        refine lv_bipush (v := 42) S.x S.b d_Tok_commentEnd_22 (by decide) ?_
        refine lv_icmp_ne (tgt := 43) S.x S.b d_Tok_commentEnd_24 (by decide) (fun c12 => ?_) (fun c12 => ?_)
        · have nc12 : ¬ v6.toInt = (42 : Int) := mt (i_eq (x := v6) (y := 42)).mpr c12
          obtain ⟨z14, ez14⟩ : ∃ y : Int32, y = x7_1 + 1 := ⟨_, rfl⟩
          have tz14 : z14.toInt = (x7_1.toInt + 1 + 2147483648) % 4294967296 - 2147483648 := by rw [ez14]; exact i_add x7_1 1
          have lz14 := Int32.le_toInt z14
          have uz14 := Int32.toInt_lt z14
          try replace tz14 : z14.toInt = x7_1.toInt + 1 := by omega
          refine lv_iinc (v := z14) (lv' := [(1, .int z14), (0, .ref h)]) S.x S.b d_Tok_commentEnd_43 hl (k := 1) rfl (by rw [ez14]; rfl) (by decide) rfl (fun ls hl => ?_)
          refine lv_goto (tgt := 7) S.x S.b d_Tok_commentEnd_46 (by decide) ?_
          first | exact ih7 z14 _ _ ls (show (f 8).toInt ≤ z14.toInt from (oz_887c409de9 k7_0 tz14)) (show z14.toInt ≤ (f 7).toInt+10 from (oz_dac6a77683 tz2 tz14 nc3)) (show K_t2_commentEnd_7 tb f z14 from (fun y_v k hE => k7_2 y_v (k + 1) (Or.inr (Or.inl ⟨rfl, x7_1, rfl, rfl, rfl, rfl, rfl, z2, ez2, Or.inr ⟨nc3, v6, e11, Or.inl ⟨nc12, z14, ez14, hE⟩⟩⟩)))) (show (f 7).toInt+16-z14.toInt < (n_7 : Int) from (oz_f6c959245f hm tz14)) hw (lv_sub hl [1, 0] rfl) | exact ih7 z14 _ _ ls (show (f 8).toInt ≤ z14.toInt from by first | exact oz_887c409de9 k7_0 tz14 | omega) (show z14.toInt ≤ (f 7).toInt+10 from by first | exact oz_dac6a77683 tz2 tz14 nc3 | omega) (show K_t2_commentEnd_7 tb f z14 from (fun y_v k hE => k7_2 y_v (k + 1) (Or.inr (Or.inl ⟨rfl, x7_1, rfl, rfl, rfl, rfl, rfl, z2, ez2, Or.inr ⟨nc3, v6, e11, Or.inl ⟨nc12, z14, ez14, hE⟩⟩⟩)))) (show (f 7).toInt+16-z14.toInt < (n_7 : Int) from by first | exact oz_f6c959245f hm tz14 | omega) hw (lv_sub hl [1, 0] rfl)
        · have nc12 : v6.toInt = (42 : Int) := (i_eq (x := v6) (y := 42)).mp c12
          refine lv_aload_n S.x S.b d_Tok_commentEnd_27 rfl (lv_at hl 0 rfl) ?_
          refine lv_iload_n S.x S.b d_Tok_commentEnd_28 rfl (lv_at hl 1 rfl) ?_
          refine lv_iconst (v := 1) S.x S.b d_Tok_commentEnd_29 (by decide) ?_
          refine lv_iadd S.x S.b d_Tok_commentEnd_30 ?_
          refine lv_topi (fun z15 ez15 => ?_)
          have tz15 : z15.toInt = (x7_1.toInt + (1 : Int) + 2147483648) % 4294967296 - 2147483648 := by rw [ez15]; exact i_add x7_1 1
          have lz15 := Int32.le_toInt z15
          have uz15 := Int32.toInt_lt z15
          try replace tz15 : z15.toInt = x7_1.toInt + (1 : Int) := by omega
          first | refine px_calli (pr := []) (px_runV (As := [.int z15]) (rest := []) S (c_t2_byteAt l D cs h r tp tb g f a z15  (show TokOk (f 7) (f 8) (f 10) (f 11) (f 12) (f 13) (f 17) (a 4) from ⟨⟨o1, o2⟩, ⟨o3, o4⟩, ⟨o5, o6⟩, ⟨o7, o8⟩, ⟨o9, o10⟩, ⟨o11, o12⟩, o13, hn4⟩) _) hT (pr := []) (pcs := [wd_Tok cs h r (fun _ => some tp) f a g, [(tp, .inl (cs 1, 2048, .inl tb))]]) hw px_X.tt (px_recv hT hw 0 0 rfl rfl rfl) m3_186 m3_183 m3_185 ms_1_6 m1_2 q_Tok_byteAt ⟨Nat.le_of_ble_eq_true rfl, Nat.le_of_ble_eq_true rfl⟩ hl.1 rfl (Nat.le_of_ble_eq_true rfl) d_Tok_commentEnd_31 ⟨Nat.le_of_ble_eq_true rfl, Nat.le_of_ble_eq_true rfl⟩) hw hA (fun v17 p16 H locs hp16 hw => ?_) | refine px_calli (pr := []) (px_runV (As := [.int z15]) (rest := []) S (c_t2_byteAt l D cs h r tp tb g f a z15  (show TokOk (f 7) (f 8) (f 10) (f 11) (f 12) (f 13) (f 17) (a 4) from ⟨⟨by first | exact o1 | omega, by first | exact o2 | omega⟩, ⟨by first | exact o3 | omega, by first | exact o4 | omega⟩, ⟨by first | exact o5 | omega, by first | exact o6 | omega⟩, ⟨by first | exact o7 | omega, by first | exact o8 | omega⟩, ⟨by first | exact o9 | omega, by first | exact o10 | omega⟩, ⟨by first | exact o11 | omega, by first | exact o12 | omega⟩, by first | exact o13 | omega, hn4⟩) _) hT (pr := []) (pcs := [wd_Tok cs h r (fun _ => some tp) f a g, [(tp, .inl (cs 1, 2048, .inl tb))]]) hw px_X.tt (px_recv hT hw 0 0 rfl rfl rfl) m3_186 m3_183 m3_185 ms_1_6 m1_2 q_Tok_byteAt ⟨Nat.le_of_ble_eq_true rfl, Nat.le_of_ble_eq_true rfl⟩ hl.1 rfl (Nat.le_of_ble_eq_true rfl) d_Tok_commentEnd_31 ⟨Nat.le_of_ble_eq_true rfl, Nat.le_of_ble_eq_true rfl⟩) hw hA (fun v17 p16 H locs hp16 hw => ?_)
          obtain ⟨rfl, e18, e19, e20, e21, e22⟩ := hp16
          have e18 : -1 ≤ v17.toInt := e18
          have e19 : v17.toInt ≤ 255 := e19
          have e20 : 0 ≤ v17.toInt → 0 ≤ z15.toInt ∧ z15.toInt < (f 7).toInt := e20
          have e21 : By tb (f 7) z15 v17 := e21
          have e22 : R_t2_byteAt tb f z15 v17 := e22
          have lv17 := Int32.le_toInt v17
          have uv17 := Int32.toInt_lt v17
          refine lv_bipush (v := 47) S.x S.b d_Tok_commentEnd_34 (by decide) ?_
          refine lv_icmp_ne (tgt := 43) S.x S.b d_Tok_commentEnd_36 (by decide) (fun c23 => ?_) (fun c23 => ?_)
          · have nc23 : ¬ v17.toInt = (47 : Int) := mt (i_eq (x := v17) (y := 47)).mpr c23
            obtain ⟨z25, ez25⟩ : ∃ y : Int32, y = x7_1 + 1 := ⟨_, rfl⟩
            have tz25 : z25.toInt = (x7_1.toInt + 1 + 2147483648) % 4294967296 - 2147483648 := by rw [ez25]; exact i_add x7_1 1
            have lz25 := Int32.le_toInt z25
            have uz25 := Int32.toInt_lt z25
            try replace tz25 : z25.toInt = x7_1.toInt + 1 := by omega
            refine lv_iinc (v := z25) (lv' := [(1, .int z25), (0, .ref h)]) S.x S.b d_Tok_commentEnd_43 hl (k := 1) rfl (by rw [ez25]; rfl) (by decide) rfl (fun ls hl => ?_)
            refine lv_goto (tgt := 7) S.x S.b d_Tok_commentEnd_46 (by decide) ?_
            first | exact ih7 z25 _ _ ls (show (f 8).toInt ≤ z25.toInt from (oz_887c409de9 k7_0 tz25)) (show z25.toInt ≤ (f 7).toInt+10 from (oz_dac6a77683 tz2 tz25 nc3)) (show K_t2_commentEnd_7 tb f z25 from (fun y_v k hE => k7_2 y_v (k + 1) (Or.inr (Or.inl ⟨rfl, x7_1, rfl, rfl, rfl, rfl, rfl, z2, ez2, Or.inr ⟨nc3, v6, e11, Or.inr ⟨nc12, z15, ez15, v17, e22, Or.inl ⟨nc23, z25, ez25, hE⟩⟩⟩⟩)))) (show (f 7).toInt+16-z25.toInt < (n_7 : Int) from (oz_f6c959245f hm tz25)) hw (lv_sub hl [1, 0] rfl) | exact ih7 z25 _ _ ls (show (f 8).toInt ≤ z25.toInt from by first | exact oz_887c409de9 k7_0 tz25 | omega) (show z25.toInt ≤ (f 7).toInt+10 from by first | exact oz_dac6a77683 tz2 tz25 nc3 | omega) (show K_t2_commentEnd_7 tb f z25 from (fun y_v k hE => k7_2 y_v (k + 1) (Or.inr (Or.inl ⟨rfl, x7_1, rfl, rfl, rfl, rfl, rfl, z2, ez2, Or.inr ⟨nc3, v6, e11, Or.inr ⟨nc12, z15, ez15, v17, e22, Or.inl ⟨nc23, z25, ez25, hE⟩⟩⟩⟩)))) (show (f 7).toInt+16-z25.toInt < (n_7 : Int) from by first | exact oz_f6c959245f hm tz25 | omega) hw (lv_sub hl [1, 0] rfl)
          · have nc23 : v17.toInt = (47 : Int) := (i_eq (x := v17) (y := 47)).mp c23
            refine lv_iload_n S.x S.b d_Tok_commentEnd_39 rfl (lv_at hl 1 rfl) ?_
            refine lv_iconst (v := 2) S.x S.b d_Tok_commentEnd_40 (by decide) ?_
            refine lv_iadd S.x S.b d_Tok_commentEnd_41 ?_
            refine lv_topi (fun z26 ez26 => ?_)
            have tz26 : z26.toInt = (x7_1.toInt + (2 : Int) + 2147483648) % 4294967296 - 2147483648 := by rw [ez26]; exact i_add x7_1 2
            have lz26 := Int32.le_toInt z26
            have uz26 := Int32.toInt_lt z26
            try replace tz26 : z26.toInt = x7_1.toInt + (2 : Int) := by omega
            first | exact px_iret (v := z26) S hr rfl hlk hAe hw (Nat.le_of_ble_eq_true rfl) (Nat.le_of_ble_eq_true rfl) (⟨rfl, (show 0 ≤ z26.toInt from (oz_ca2896e4b3 tz26 k7_0 o3)), (show z26.toInt ≤ (f 7).toInt+8 from (oz_8a9d1f933d tz2 tz26 nc3)), (show (f 8).toInt ≤ z26.toInt from (oz_165792c2c4 k7_0 tz26)), (show R_t2_commentEnd tb f z26 from (k7_2 _ 1 (Or.inr (Or.inl ⟨rfl, x7_1, rfl, rfl, rfl, rfl, rfl, z2, ez2, Or.inr ⟨nc3, v6, e11, Or.inr ⟨nc12, z15, ez15, v17, e22, Or.inr ⟨nc23, z26, ez26, rfl⟩⟩⟩⟩))))⟩) d_Tok_commentEnd_42 | exact px_iret (v := z26) S hr rfl hlk hAe hw (Nat.le_of_ble_eq_true rfl) (Nat.le_of_ble_eq_true rfl) (⟨rfl, (show 0 ≤ z26.toInt from by first | exact oz_ca2896e4b3 tz26 k7_0 o3 | omega), (show z26.toInt ≤ (f 7).toInt+8 from by first | exact oz_8a9d1f933d tz2 tz26 nc3 | omega), (show (f 8).toInt ≤ z26.toInt from by first | exact oz_165792c2c4 k7_0 tz26 | omega), (show R_t2_commentEnd tb f z26 from (k7_2 _ 1 (Or.inr (Or.inl ⟨rfl, x7_1, rfl, rfl, rfl, rfl, rfl, z2, ez2, Or.inr ⟨nc3, v6, e11, Or.inr ⟨nc12, z15, ez15, v17, e22, Or.inr ⟨nc23, z26, ez26, rfl⟩⟩⟩⟩))))⟩) d_Tok_commentEnd_42
  refine lv_aload_n S.x S.b d_Tok_commentEnd_0 rfl (lv_at hl 0 rfl) ?_
  refine px_get S k_Tok hT hw 0 0 8 (v := .int (f 8)) rfl rfl rfl (by decide) m1_111 d_Tok_commentEnd_1 ?_
  refine lv_iconst (v := 2) S.x S.b d_Tok_commentEnd_4 (by decide) ?_
  refine lv_iadd S.x S.b d_Tok_commentEnd_5 ?_
  have lr27 := Int32.le_toInt (f 8)
  have ur27 := Int32.toInt_lt (f 8)
  refine lv_topi (fun z28 ez28 => ?_)
  have tz28 : z28.toInt = ((f 8).toInt + (2 : Int) + 2147483648) % 4294967296 - 2147483648 := by rw [ez28]; exact i_add (f 8) 2
  have lz28 := Int32.le_toInt z28
  have uz28 := Int32.toInt_lt z28
  try replace tz28 : z28.toInt = (f 8).toInt + (2 : Int) := by omega
  refine lv_istore_n (lv' := [(1, .int z28), (0, .ref h)]) S.x S.b d_Tok_commentEnd_6 rfl hl (by decide) rfl (fun ls hl => ?_)
  first | exact J7 (((f 7).toInt+16-z28.toInt).toNat + 1) z28 _ _ ls (show (f 8).toInt ≤ z28.toInt from (oz_d20558dcd1 tz28)) (show z28.toInt ≤ (f 7).toInt+10 from (oz_4fa2be0625 o4 tz28)) (show K_t2_commentEnd_7 tb f z28 from (fun y_v k hE => Exists.intro (k + 1) (Or.inl ⟨rfl, z28, ez28, hE⟩))) (show (f 7).toInt+16-z28.toInt < (((((f 7).toInt+16-z28.toInt).toNat + 1 : Nat) : Int) : Int) from oz_natlt) hw (lv_sub hl [1, 0] rfl) | exact J7 (((f 7).toInt+16-z28.toInt).toNat + 1) z28 _ _ ls (show (f 8).toInt ≤ z28.toInt from by first | exact oz_d20558dcd1 tz28 | omega) (show z28.toInt ≤ (f 7).toInt+10 from by first | exact oz_4fa2be0625 o4 tz28 | omega) (show K_t2_commentEnd_7 tb f z28 from (fun y_v k hE => Exists.intro (k + 1) (Or.inl ⟨rfl, z28, ez28, hE⟩))) (show (f 7).toInt+16-z28.toInt < (((((f 7).toInt+16-z28.toInt).toNat + 1 : Nat) : Int) : Int) from by first | exact oz_natlt | omega) hw (lv_sub hl [1, 0] rfl)
set_option maxHeartbeats 4000000 in
set_option maxRecDepth 100000 in
theorem c_t2_skip (l : Launch) (D : va_G) (cs : Nat → ClassId) (h : Nat) (r : Nat → Nat) (tp : Nat) (tb : Nat → Int32) (g : Nat → Nat → Option Nat) (f : Nat → Int32) (a : Nat → Nat → Int32)  (hinv0 : TokOk (f 7) (f 8) (f 10) (f 11) (f 12) (f 13) (f 17) (a 4)) (hq5 : Q5 (a 5)) : MetV l y_Tok_skip b_Tok_skip 5 D cs 2 44 (0) (0) [.ref h] [wd_Tok cs h r (fun _ => some tp) f a g, [(tp, .inl (cs 1, 2048, .inl tb))]] (fun _ => True) (fun ps => ∃ (f' : Nat → Int32) (a' : Nat → Nat → Int32), (ps = [wd_Tok cs h r (fun _ => some tp) f' a' g, [(tp, .inl (cs 1, 2048, .inl tb))]]) ∧ (TokOk (f' 7) (f' 8) (f' 10) (f' 11) (f' 12) (f' 13) (f' 17) (a' 4)) ∧ ((f' 7).toInt = (f 7).toInt) ∧ ((f' 10).toInt = (f 10).toInt) ∧ ((f' 15).toInt = (f 15).toInt) ∧ ((f 8).toInt ≤ (f' 8).toInt) ∧ (Q5 (a' 5)) ∧ (R_t2_skip tb f a f' a')) := by
  refine px_enter (by decide) (Nat.le_of_ble_eq_true rfl) ?_
  intro p e s m below meth c A ls hAe S hr hlk hnm hA hT hX hw hl
  have hl : lv_has ls 5 [(0, .ref h)] := hl
  have cst0 : (0 : Int32).toInt = 0 := rfl
  have cst1 : (1 : Int32).toInt = 1 := rfl
  have cst9 : (9 : Int32).toInt = 9 := rfl
  have cst10 : (10 : Int32).toInt = 10 := rfl
  have cst13 : (13 : Int32).toInt = 13 := rfl
  have cst32 : (32 : Int32).toInt = 32 := rfl
  have cst42 : (42 : Int32).toInt = 42 := rfl
  have cst47 : (47 : Int32).toInt = 47 := rfl
  obtain ⟨⟨o1, o2⟩, ⟨o3, o4⟩, ⟨o5, o6⟩, ⟨o7, o8⟩, ⟨o9, o10⟩, ⟨o11, o12⟩, o13, hn4⟩ := hinv0
  have J4 : ∀ (n_4 : Nat) (f_4 : Nat → Int32) (a_4 : Nat → Nat → Int32) (x4_1 x4_2 : Int32) (H : Heap) (locs : List Loc) (ls : Array Slot), (TokOk (f_4 7) (f_4 8) (f_4 10) (f_4 11) (f_4 12) (f_4 13) (f_4 17) (a_4 4)) → ((f_4 7).toInt = (f 7).toInt) → ((f_4 10).toInt = (f 10).toInt) → ((f_4 15).toInt = (f 15).toInt) → ((f 8).toInt ≤ (f_4 8).toInt) → (0 ≤ x4_2.toInt) → (x4_2.toInt ≤ (f_4 7).toInt+1) → (Q5 (a_4 5)) → (K_t2_skip_4 tb f a f_4 a_4 x4_1 x4_2) → (f_4 7).toInt+2-x4_2.toInt < (n_4 : Int) → pw D A s.heap H locs [wd_Tok cs h r (fun _ => some tp) f_4 a_4 g, [(tp, .inl (cs 1, 2048, .inl tb))]] → lv_has ls 5 [(0, .ref h), (1, .int x4_1), (2, .int x4_2)] → W p l e { frames := 2, cells := 0, slots := 0, locals := 44 } s m [.ref h].toArray below meth c H locs 0 0 (MQ below (va_Qv (fun ps => ∃ (f' : Nat → Int32) (a' : Nat → Nat → Int32), (ps = [wd_Tok cs h r (fun _ => some tp) f' a' g, [(tp, .inl (cs 1, 2048, .inl tb))]]) ∧ (TokOk (f' 7) (f' 8) (f' 10) (f' 11) (f' 12) (f' 13) (f' 17) (a' 4)) ∧ ((f' 7).toInt = (f 7).toInt) ∧ ((f' 10).toInt = (f 10).toInt) ∧ ((f' 15).toInt = (f 15).toInt) ∧ ((f 8).toInt ≤ (f' 8).toInt) ∧ (Q5 (a' 5)) ∧ (R_t2_skip tb f a f' a')) (pc_B D (va_A ([wd_Tok cs h r (fun _ => some tp) f a g, [(tp, .inl (cs 1, 2048, .inl tb))]] : List va_W).flatten s.heap.size)) (va_A ([wd_Tok cs h r (fun _ => some tp) f a g, [(tp, .inl (cs 1, 2048, .inl tb))]] : List va_W).flatten s.heap.size)) [.ref h].toArray s 0 0 A) (F0 m 4 ls []) := by
    intro  n_4
    induction n_4 with
    | zero =>
      intro f_4 a_4 x4_1 x4_2 H locs ls hi4_0 k4_0 k4_1 k4_2 k4_3 k4_4 k4_5 k4_6 k4_7 hm hw hl
      obtain ⟨⟨o1, o2⟩, ⟨o3, o4⟩, ⟨o5, o6⟩, ⟨o7, o8⟩, ⟨o9, o10⟩, ⟨o11, o12⟩, o13, hn4⟩ := hi4_0
      have lx4_1 := Int32.le_toInt x4_1
      have ux4_1 := Int32.toInt_lt x4_1
      have lx4_2 := Int32.le_toInt x4_2
      have ux4_2 := Int32.toInt_lt x4_2
      have hq5 := k4_6
      exact absurd hm (by omega)
    | succ n_4 ih4 =>
      intro f_4 a_4 x4_1 x4_2 H locs ls hi4_0 k4_0 k4_1 k4_2 k4_3 k4_4 k4_5 k4_6 k4_7 hm hw hl
      obtain ⟨⟨o1, o2⟩, ⟨o3, o4⟩, ⟨o5, o6⟩, ⟨o7, o8⟩, ⟨o9, o10⟩, ⟨o11, o12⟩, o13, hn4⟩ := hi4_0
      have lx4_1 := Int32.le_toInt x4_1
      have ux4_1 := Int32.toInt_lt x4_1
      have lx4_2 := Int32.le_toInt x4_2
      have ux4_2 := Int32.toInt_lt x4_2
      have hq5 := k4_6
      refine lv_iload_n S.x S.b d_Tok_skip_4 rfl (lv_at hl 2 rfl) ?_
      refine lv_aload_n S.x S.b d_Tok_skip_5 rfl (lv_at hl 0 rfl) ?_
      refine px_get S k_Tok hT hw 0 0 7 (v := .int (f_4 7)) rfl rfl rfl (by decide) m1_110 d_Tok_skip_6 ?_
      refine lv_icmp_gt (tgt := 150) S.x S.b d_Tok_skip_9 (by decide) (fun c1 => ?_) (fun c1 => ?_)
      · have nc1 : (f_4 7).toInt < x4_2.toInt := (i_lt (x := (f_4 7)) (y := x4_2)).mp c1
        first | exact px_vret S hr hlk hAe hw (Nat.le_of_ble_eq_true rfl) (Nat.le_of_ble_eq_true rfl) (⟨f_4, a_4, rfl, (show TokOk (f_4 7) (f_4 8) (f_4 10) (f_4 11) (f_4 12) (f_4 13) (f_4 17) (a_4 4) from ⟨⟨o1, o2⟩, ⟨o3, o4⟩, ⟨o5, o6⟩, ⟨o7, o8⟩, ⟨o9, o10⟩, ⟨o11, o12⟩, o13, hn4⟩), (show (f_4 7).toInt = (f 7).toInt from k4_0), (show (f_4 10).toInt = (f 10).toInt from k4_1), (show (f_4 15).toInt = (f 15).toInt from k4_2), (show (f 8).toInt ≤ (f_4 8).toInt from k4_3), (show Q5 (a_4 5) from hq5), (show R_t2_skip tb f a f_4 a_4 from (k4_7 _ _ 1 (Or.inr (Or.inl ⟨rfl, x4_1, x4_2, rfl, rfl, rfl, rfl, rfl, Or.inl ⟨nc1, rfl, rfl⟩⟩))))⟩) d_Tok_skip_150 | exact px_vret S hr hlk hAe hw (Nat.le_of_ble_eq_true rfl) (Nat.le_of_ble_eq_true rfl) (⟨f_4, a_4, rfl, (show TokOk (f_4 7) (f_4 8) (f_4 10) (f_4 11) (f_4 12) (f_4 13) (f_4 17) (a_4 4) from ⟨⟨by first | exact o1 | omega, by first | exact o2 | omega⟩, ⟨by first | exact o3 | omega, by first | exact o4 | omega⟩, ⟨by first | exact o5 | omega, by first | exact o6 | omega⟩, ⟨by first | exact o7 | omega, by first | exact o8 | omega⟩, ⟨by first | exact o9 | omega, by first | exact o10 | omega⟩, ⟨by first | exact o11 | omega, by first | exact o12 | omega⟩, by first | exact o13 | omega, hn4⟩), (show (f_4 7).toInt = (f 7).toInt from by first | exact k4_0 | omega), (show (f_4 10).toInt = (f 10).toInt from by first | exact k4_1 | omega), (show (f_4 15).toInt = (f 15).toInt from by first | exact k4_2 | omega), (show (f 8).toInt ≤ (f_4 8).toInt from by first | exact k4_3 | omega), (show Q5 (a_4 5) from hq5), (show R_t2_skip tb f a f_4 a_4 from (k4_7 _ _ 1 (Or.inr (Or.inl ⟨rfl, x4_1, x4_2, rfl, rfl, rfl, rfl, rfl, Or.inl ⟨nc1, rfl, rfl⟩⟩))))⟩) d_Tok_skip_150
      · have nc1 : ¬ (f_4 7).toInt < x4_2.toInt := mt (i_lt (x := (f_4 7)) (y := x4_2)).mpr c1
        refine lv_iload_n S.x S.b d_Tok_skip_12 rfl (lv_at hl 1 rfl) ?_
        refine lv_if_eq (tgt := 150) S.x S.b d_Tok_skip_13 (by decide) (fun c3 => ?_) (fun c3 => ?_)
        · have nc3 : x4_1.toInt = (0 : Int) := (i_eq (x := x4_1) (y := 0)).mp c3
          first | exact px_vret S hr hlk hAe hw (Nat.le_of_ble_eq_true rfl) (Nat.le_of_ble_eq_true rfl) (⟨f_4, a_4, rfl, (show TokOk (f_4 7) (f_4 8) (f_4 10) (f_4 11) (f_4 12) (f_4 13) (f_4 17) (a_4 4) from ⟨⟨o1, o2⟩, ⟨o3, o4⟩, ⟨o5, o6⟩, ⟨o7, o8⟩, ⟨o9, o10⟩, ⟨o11, o12⟩, o13, hn4⟩), (show (f_4 7).toInt = (f 7).toInt from k4_0), (show (f_4 10).toInt = (f 10).toInt from k4_1), (show (f_4 15).toInt = (f 15).toInt from k4_2), (show (f 8).toInt ≤ (f_4 8).toInt from k4_3), (show Q5 (a_4 5) from hq5), (show R_t2_skip tb f a f_4 a_4 from (k4_7 _ _ 1 (Or.inr (Or.inl ⟨rfl, x4_1, x4_2, rfl, rfl, rfl, rfl, rfl, Or.inr ⟨nc1, Or.inl ⟨nc3, rfl, rfl⟩⟩⟩))))⟩) d_Tok_skip_150 | exact px_vret S hr hlk hAe hw (Nat.le_of_ble_eq_true rfl) (Nat.le_of_ble_eq_true rfl) (⟨f_4, a_4, rfl, (show TokOk (f_4 7) (f_4 8) (f_4 10) (f_4 11) (f_4 12) (f_4 13) (f_4 17) (a_4 4) from ⟨⟨by first | exact o1 | omega, by first | exact o2 | omega⟩, ⟨by first | exact o3 | omega, by first | exact o4 | omega⟩, ⟨by first | exact o5 | omega, by first | exact o6 | omega⟩, ⟨by first | exact o7 | omega, by first | exact o8 | omega⟩, ⟨by first | exact o9 | omega, by first | exact o10 | omega⟩, ⟨by first | exact o11 | omega, by first | exact o12 | omega⟩, by first | exact o13 | omega, hn4⟩), (show (f_4 7).toInt = (f 7).toInt from by first | exact k4_0 | omega), (show (f_4 10).toInt = (f 10).toInt from by first | exact k4_1 | omega), (show (f_4 15).toInt = (f 15).toInt from by first | exact k4_2 | omega), (show (f 8).toInt ≤ (f_4 8).toInt from by first | exact k4_3 | omega), (show Q5 (a_4 5) from hq5), (show R_t2_skip tb f a f_4 a_4 from (k4_7 _ _ 1 (Or.inr (Or.inl ⟨rfl, x4_1, x4_2, rfl, rfl, rfl, rfl, rfl, Or.inr ⟨nc1, Or.inl ⟨nc3, rfl, rfl⟩⟩⟩))))⟩) d_Tok_skip_150
        · have nc3 : ¬ x4_1.toInt = (0 : Int) := mt (i_eq (x := x4_1) (y := 0)).mpr c3
          refine lv_aload_n S.x S.b d_Tok_skip_16 rfl (lv_at hl 0 rfl) ?_
          refine lv_aload_n S.x S.b d_Tok_skip_17 rfl (lv_at hl 0 rfl) ?_
          refine px_get S k_Tok hT hw 0 0 8 (v := .int (f_4 8)) rfl rfl rfl (by decide) m1_111 d_Tok_skip_18 ?_
          first | refine px_calli (pr := []) (px_runV (As := [.int (f_4 8)]) (rest := []) S (c_t2_byteAt l D cs h r tp tb g f_4 a_4 (f_4 8)  (show TokOk (f_4 7) (f_4 8) (f_4 10) (f_4 11) (f_4 12) (f_4 13) (f_4 17) (a_4 4) from ⟨⟨o1, o2⟩, ⟨o3, o4⟩, ⟨o5, o6⟩, ⟨o7, o8⟩, ⟨o9, o10⟩, ⟨o11, o12⟩, o13, hn4⟩) _) hT (pr := []) (pcs := [wd_Tok cs h r (fun _ => some tp) f_4 a_4 g, [(tp, .inl (cs 1, 2048, .inl tb))]]) hw px_X.tt (px_recv hT hw 0 0 rfl rfl rfl) m3_186 m3_183 m3_185 ms_1_6 m1_2 q_Tok_byteAt ⟨Nat.le_of_ble_eq_true rfl, Nat.le_of_ble_eq_true rfl⟩ hl.1 rfl (Nat.le_of_ble_eq_true rfl) d_Tok_skip_21 ⟨Nat.le_of_ble_eq_true rfl, Nat.le_of_ble_eq_true rfl⟩) hw hA (fun v6 p5 H locs hp5 hw => ?_) | refine px_calli (pr := []) (px_runV (As := [.int (f_4 8)]) (rest := []) S (c_t2_byteAt l D cs h r tp tb g f_4 a_4 (f_4 8)  (show TokOk (f_4 7) (f_4 8) (f_4 10) (f_4 11) (f_4 12) (f_4 13) (f_4 17) (a_4 4) from ⟨⟨by first | exact o1 | omega, by first | exact o2 | omega⟩, ⟨by first | exact o3 | omega, by first | exact o4 | omega⟩, ⟨by first | exact o5 | omega, by first | exact o6 | omega⟩, ⟨by first | exact o7 | omega, by first | exact o8 | omega⟩, ⟨by first | exact o9 | omega, by first | exact o10 | omega⟩, ⟨by first | exact o11 | omega, by first | exact o12 | omega⟩, by first | exact o13 | omega, hn4⟩) _) hT (pr := []) (pcs := [wd_Tok cs h r (fun _ => some tp) f_4 a_4 g, [(tp, .inl (cs 1, 2048, .inl tb))]]) hw px_X.tt (px_recv hT hw 0 0 rfl rfl rfl) m3_186 m3_183 m3_185 ms_1_6 m1_2 q_Tok_byteAt ⟨Nat.le_of_ble_eq_true rfl, Nat.le_of_ble_eq_true rfl⟩ hl.1 rfl (Nat.le_of_ble_eq_true rfl) d_Tok_skip_21 ⟨Nat.le_of_ble_eq_true rfl, Nat.le_of_ble_eq_true rfl⟩) hw hA (fun v6 p5 H locs hp5 hw => ?_)
          obtain ⟨rfl, e7, e8, e9, e10, e11⟩ := hp5
          have e7 : -1 ≤ v6.toInt := e7
          have e8 : v6.toInt ≤ 255 := e8
          have e9 : 0 ≤ v6.toInt → 0 ≤ (f_4 8).toInt ∧ (f_4 8).toInt < (f_4 7).toInt := e9
          have e10 : By tb (f_4 7) (f_4 8) v6 := e10
          have e11 : R_t2_byteAt tb f_4 (f_4 8) v6 := e11
          have lv6 := Int32.le_toInt v6
          have uv6 := Int32.toInt_lt v6
          refine lv_istore_n (lv' := [(3, .int v6), (0, .ref h), (1, .int x4_1), (2, .int x4_2)]) S.x S.b d_Tok_skip_24 rfl hl (by decide) rfl (fun ls hl => ?_)
          refine lv_aload_n S.x S.b d_Tok_skip_25 rfl (lv_at hl 1 rfl) ?_
          refine px_get S k_Tok hT hw 0 0 8 (v := .int (f_4 8)) rfl rfl rfl (by decide) m1_111 d_Tok_skip_26 ?_
          refine lv_istore (lv' := [(4, .int (f_4 8)), (3, .int v6), (0, .ref h), (1, .int x4_1), (2, .int x4_2)]) S.x S.b d_Tok_skip_29 hl (by decide) rfl (fun ls hl => ?_)
          refine lv_iload_n S.x S.b d_Tok_skip_31 rfl (lv_at hl 1 rfl) ?_
          refine lv_bipush (v := 32) S.x S.b d_Tok_skip_32 (by decide) ?_
          refine lv_icmp_eq (tgt := 55) S.x S.b d_Tok_skip_34 (by decide) (fun c12 => ?_) (fun c12 => ?_)
          · have nc12 : v6.toInt = (32 : Int) := (i_eq (x := v6) (y := 32)).mp c12
            refine lv_aload_n S.x S.b d_Tok_skip_55 rfl (lv_at hl 2 rfl) ?_
            refine px_get S k_Tok hT hw 0 0 8 (v := .int (f_4 8)) rfl rfl rfl (by decide) m1_111 d_Tok_skip_56 ?_
            refine lv_iconst (v := 1) S.x S.b d_Tok_skip_59 (by decide) ?_
            refine lv_iadd S.x S.b d_Tok_skip_60 ?_
            have lr14 := Int32.le_toInt (f_4 8)
            have ur14 := Int32.toInt_lt (f_4 8)
            refine lv_topi (fun z15 ez15 => ?_)
            have tz15 : z15.toInt = ((f_4 8).toInt + (1 : Int) + 2147483648) % 4294967296 - 2147483648 := by rw [ez15]; exact i_add (f_4 8) 1
            have lz15 := Int32.le_toInt z15
            have uz15 := Int32.toInt_lt z15
            try replace tz15 : z15.toInt = (f_4 8).toInt + (1 : Int) := by omega
            refine lv_istore (lv' := [(4, .int z15), (3, .int v6), (0, .ref h), (1, .int x4_1), (2, .int x4_2)]) S.x S.b d_Tok_skip_61 hl (by decide) rfl (fun ls hl => ?_)
            refine lv_goto (tgt := 123) S.x S.b d_Tok_skip_63 (by decide) ?_
            refine lv_iload S.x S.b d_Tok_skip_123 (lv_at hl 0 rfl) ?_
            refine lv_aload_n S.x S.b d_Tok_skip_125 rfl (lv_at hl 2 rfl) ?_
            refine px_get S k_Tok hT hw 0 0 8 (v := .int (f_4 8)) rfl rfl rfl (by decide) m1_111 d_Tok_skip_126 ?_
            refine lv_icmp_le (tgt := 136) S.x S.b d_Tok_skip_129 (by decide) (fun c16 => ?_) (fun c16 => ?_)
            · have nc16 : z15.toInt ≤ (f_4 8).toInt := (i_le (x := z15) (y := (f_4 8))).mp c16
              refine lv_iconst (v := 0) S.x S.b d_Tok_skip_136 (by decide) ?_
              refine lv_istore_n (lv' := [(1, .int 0), (4, .int z15), (3, .int v6), (0, .ref h), (2, .int x4_2)]) S.x S.b d_Tok_skip_137 rfl hl (by decide) rfl (fun ls hl => ?_)
              refine lv_aload_n S.x S.b d_Tok_skip_138 rfl (lv_at hl 3 rfl) ?_
              refine lv_iload S.x S.b d_Tok_skip_139 (lv_at hl 1 rfl) ?_
              refine px_put S k_Tok hT hw 0 0 8 rfl rfl (by decide) m1_111 rfl rfl rfl (Nat.le_of_ble_eq_true rfl) d_Tok_skip_141 (w' := wd_Tok cs h r (fun _ => some tp) (upd f_4 8 z15) a_4 g) (ps' := [wd_Tok cs h r (fun _ => some tp) (upd f_4 8 z15) a_4 g, [(tp, .inl (cs 1, 2048, .inl tb))]]) rfl rfl (fun H locs hw => ?_)
              obtain ⟨z18, ez18⟩ : ∃ y : Int32, y = x4_2 + 1 := ⟨_, rfl⟩
              have tz18 : z18.toInt = (x4_2.toInt + 1 + 2147483648) % 4294967296 - 2147483648 := by rw [ez18]; exact i_add x4_2 1
              have lz18 := Int32.le_toInt z18
              have uz18 := Int32.toInt_lt z18
              first | replace tz18 : z18.toInt = x4_2.toInt + 1 := (oz_d0a3671be7 tz15 nc16) | try replace tz18 : z18.toInt = x4_2.toInt + 1 := by first | exact oz_d0a3671be7 tz15 nc16 | omega
              refine lv_iinc (v := z18) (lv' := [(2, .int z18), (1, .int 0), (4, .int z15), (3, .int v6), (0, .ref h)]) S.x S.b d_Tok_skip_144 hl (k := 4) rfl (by rw [ez18]; rfl) (by decide) rfl (fun ls hl => ?_)
              refine lv_goto (tgt := 4) S.x S.b d_Tok_skip_147 (by decide) ?_
              first | exact ih4 (upd f_4 8 z15) a_4 (0 : Int32) z18 _ _ ls (show TokOk (f_4 7) z15 (f_4 10) (f_4 11) (f_4 12) (f_4 13) (f_4 17) (a_4 4) from ⟨⟨o1, o2⟩, ⟨(oz_b3b25f0e49 tz15 o3), (oz_f1d1298f6f tz15 nc16)⟩, ⟨o5, o6⟩, ⟨o7, o8⟩, ⟨o9, o10⟩, ⟨o11, o12⟩, o13, hn4⟩) (show (f_4 7).toInt = (f 7).toInt from k4_0) (show (f_4 10).toInt = (f 10).toInt from k4_1) (show (f_4 15).toInt = (f 15).toInt from k4_2) (show (f 8).toInt ≤ z15.toInt from (oz_df4877b868 k4_3 tz15)) (show 0 ≤ z18.toInt from (oz_ae613611c0 tz18 k4_4)) (show z18.toInt ≤ (f_4 7).toInt+1 from (oz_42d443b05b tz15 nc16)) (show Q5 (a_4 5) from hq5) (show K_t2_skip_4 tb f a (upd f_4 8 z15) a_4 0 z18 from (fun y_f0 y_f1 k hE => k4_7 y_f0 y_f1 (k + 1) (Or.inr (Or.inl ⟨rfl, x4_1, x4_2, rfl, rfl, rfl, rfl, rfl, Or.inr ⟨nc1, Or.inr ⟨nc3, v6, e11, Or.inl ⟨nc12, z15, ez15, Or.inl ⟨nc16, z18, ez18, hE⟩⟩⟩⟩⟩)))) (show (f_4 7).toInt+2-z18.toInt < (n_4 : Int) from (oz_ea2b3b93d5 tz15 nc16)) hw (lv_sub hl [4, 1, 0] rfl) | exact ih4 (upd f_4 8 z15) a_4 (0 : Int32) z18 _ _ ls (show TokOk (f_4 7) z15 (f_4 10) (f_4 11) (f_4 12) (f_4 13) (f_4 17) (a_4 4) from ⟨⟨by first | exact o1 | omega, by first | exact o2 | omega⟩, ⟨by first | exact oz_b3b25f0e49 tz15 o3 | omega, by first | exact oz_f1d1298f6f tz15 nc16 | omega⟩, ⟨by first | exact o5 | omega, by first | exact o6 | omega⟩, ⟨by first | exact o7 | omega, by first | exact o8 | omega⟩, ⟨by first | exact o9 | omega, by first | exact o10 | omega⟩, ⟨by first | exact o11 | omega, by first | exact o12 | omega⟩, by first | exact o13 | omega, hn4⟩) (show (f_4 7).toInt = (f 7).toInt from by first | exact k4_0 | omega) (show (f_4 10).toInt = (f 10).toInt from by first | exact k4_1 | omega) (show (f_4 15).toInt = (f 15).toInt from by first | exact k4_2 | omega) (show (f 8).toInt ≤ z15.toInt from by first | exact oz_df4877b868 k4_3 tz15 | omega) (show 0 ≤ z18.toInt from by first | exact oz_ae613611c0 tz18 k4_4 | omega) (show z18.toInt ≤ (f_4 7).toInt+1 from by first | exact oz_42d443b05b tz15 nc16 | omega) (show Q5 (a_4 5) from hq5) (show K_t2_skip_4 tb f a (upd f_4 8 z15) a_4 0 z18 from (fun y_f0 y_f1 k hE => k4_7 y_f0 y_f1 (k + 1) (Or.inr (Or.inl ⟨rfl, x4_1, x4_2, rfl, rfl, rfl, rfl, rfl, Or.inr ⟨nc1, Or.inr ⟨nc3, v6, e11, Or.inl ⟨nc12, z15, ez15, Or.inl ⟨nc16, z18, ez18, hE⟩⟩⟩⟩⟩)))) (show (f_4 7).toInt+2-z18.toInt < (n_4 : Int) from by first | exact oz_ea2b3b93d5 tz15 nc16 | omega) hw (lv_sub hl [4, 1, 0] rfl)
            · have nc16 : ¬ z15.toInt ≤ (f_4 8).toInt := mt (i_le (x := z15) (y := (f_4 8))).mpr c16
              refine lv_iconst (v := 1) S.x S.b d_Tok_skip_132 (by decide) ?_
              refine lv_goto (tgt := 137) S.x S.b d_Tok_skip_133 (by decide) ?_
              refine lv_istore_n (lv' := [(1, .int 1), (4, .int z15), (3, .int v6), (0, .ref h), (2, .int x4_2)]) S.x S.b d_Tok_skip_137 rfl hl (by decide) rfl (fun ls hl => ?_)
              refine lv_aload_n S.x S.b d_Tok_skip_138 rfl (lv_at hl 3 rfl) ?_
              refine lv_iload S.x S.b d_Tok_skip_139 (lv_at hl 1 rfl) ?_
              refine px_put S k_Tok hT hw 0 0 8 rfl rfl (by decide) m1_111 rfl rfl rfl (Nat.le_of_ble_eq_true rfl) d_Tok_skip_141 (w' := wd_Tok cs h r (fun _ => some tp) (upd f_4 8 z15) a_4 g) (ps' := [wd_Tok cs h r (fun _ => some tp) (upd f_4 8 z15) a_4 g, [(tp, .inl (cs 1, 2048, .inl tb))]]) rfl rfl (fun H locs hw => ?_)
              obtain ⟨z19, ez19⟩ : ∃ y : Int32, y = x4_2 + 1 := ⟨_, rfl⟩
              have tz19 : z19.toInt = (x4_2.toInt + 1 + 2147483648) % 4294967296 - 2147483648 := by rw [ez19]; exact i_add x4_2 1
              have lz19 := Int32.le_toInt z19
              have uz19 := Int32.toInt_lt z19
              try replace tz19 : z19.toInt = x4_2.toInt + 1 := by omega
              refine lv_iinc (v := z19) (lv' := [(2, .int z19), (1, .int 1), (4, .int z15), (3, .int v6), (0, .ref h)]) S.x S.b d_Tok_skip_144 hl (k := 4) rfl (by rw [ez19]; rfl) (by decide) rfl (fun ls hl => ?_)
              refine lv_goto (tgt := 4) S.x S.b d_Tok_skip_147 (by decide) ?_
              first | exact ih4 (upd f_4 8 z15) a_4 (1 : Int32) z19 _ _ ls (show TokOk (f_4 7) z15 (f_4 10) (f_4 11) (f_4 12) (f_4 13) (f_4 17) (a_4 4) from ⟨⟨o1, o2⟩, ⟨(oz_8c8b3d3770 nc16 o3), (oz_447bfbda56 tz15 nc12 e9)⟩, ⟨o5, o6⟩, ⟨o7, o8⟩, ⟨o9, o10⟩, ⟨o11, o12⟩, o13, hn4⟩) (show (f_4 7).toInt = (f 7).toInt from k4_0) (show (f_4 10).toInt = (f 10).toInt from k4_1) (show (f_4 15).toInt = (f 15).toInt from k4_2) (show (f 8).toInt ≤ z15.toInt from (oz_fbfdb238f4 k4_3 nc16)) (show 0 ≤ z19.toInt from (oz_ae613611c0 tz19 k4_4)) (show z19.toInt ≤ (f_4 7).toInt+1 from (oz_0c5335350d nc1 tz19)) (show Q5 (a_4 5) from hq5) (show K_t2_skip_4 tb f a (upd f_4 8 z15) a_4 1 z19 from (fun y_f0 y_f1 k hE => k4_7 y_f0 y_f1 (k + 1) (Or.inr (Or.inl ⟨rfl, x4_1, x4_2, rfl, rfl, rfl, rfl, rfl, Or.inr ⟨nc1, Or.inr ⟨nc3, v6, e11, Or.inl ⟨nc12, z15, ez15, Or.inr ⟨nc16, z19, ez19, hE⟩⟩⟩⟩⟩)))) (show (f_4 7).toInt+2-z19.toInt < (n_4 : Int) from (oz_1a25760b21 hm tz19)) hw (lv_sub hl [4, 1, 0] rfl) | exact ih4 (upd f_4 8 z15) a_4 (1 : Int32) z19 _ _ ls (show TokOk (f_4 7) z15 (f_4 10) (f_4 11) (f_4 12) (f_4 13) (f_4 17) (a_4 4) from ⟨⟨by first | exact o1 | omega, by first | exact o2 | omega⟩, ⟨by first | exact oz_8c8b3d3770 nc16 o3 | omega, by first | exact oz_447bfbda56 tz15 nc12 e9 | omega⟩, ⟨by first | exact o5 | omega, by first | exact o6 | omega⟩, ⟨by first | exact o7 | omega, by first | exact o8 | omega⟩, ⟨by first | exact o9 | omega, by first | exact o10 | omega⟩, ⟨by first | exact o11 | omega, by first | exact o12 | omega⟩, by first | exact o13 | omega, hn4⟩) (show (f_4 7).toInt = (f 7).toInt from by first | exact k4_0 | omega) (show (f_4 10).toInt = (f 10).toInt from by first | exact k4_1 | omega) (show (f_4 15).toInt = (f 15).toInt from by first | exact k4_2 | omega) (show (f 8).toInt ≤ z15.toInt from by first | exact oz_fbfdb238f4 k4_3 nc16 | omega) (show 0 ≤ z19.toInt from by first | exact oz_ae613611c0 tz19 k4_4 | omega) (show z19.toInt ≤ (f_4 7).toInt+1 from by first | exact oz_0c5335350d nc1 tz19 | omega) (show Q5 (a_4 5) from hq5) (show K_t2_skip_4 tb f a (upd f_4 8 z15) a_4 1 z19 from (fun y_f0 y_f1 k hE => k4_7 y_f0 y_f1 (k + 1) (Or.inr (Or.inl ⟨rfl, x4_1, x4_2, rfl, rfl, rfl, rfl, rfl, Or.inr ⟨nc1, Or.inr ⟨nc3, v6, e11, Or.inl ⟨nc12, z15, ez15, Or.inr ⟨nc16, z19, ez19, hE⟩⟩⟩⟩⟩)))) (show (f_4 7).toInt+2-z19.toInt < (n_4 : Int) from by first | exact oz_1a25760b21 hm tz19 | omega) hw (lv_sub hl [4, 1, 0] rfl)
          · have nc12 : ¬ v6.toInt = (32 : Int) := mt (i_eq (x := v6) (y := 32)).mpr c12
            refine lv_iload_n S.x S.b d_Tok_skip_37 rfl (lv_at hl 1 rfl) ?_
            refine lv_bipush (v := 9) S.x S.b d_Tok_skip_38 (by decide) ?_
            refine lv_icmp_eq (tgt := 55) S.x S.b d_Tok_skip_40 (by decide) (fun c20 => ?_) (fun c20 => ?_)
            · have nc20 : v6.toInt = (9 : Int) := (i_eq (x := v6) (y := 9)).mp c20
              refine lv_aload_n S.x S.b d_Tok_skip_55 rfl (lv_at hl 2 rfl) ?_
              refine px_get S k_Tok hT hw 0 0 8 (v := .int (f_4 8)) rfl rfl rfl (by decide) m1_111 d_Tok_skip_56 ?_
              refine lv_iconst (v := 1) S.x S.b d_Tok_skip_59 (by decide) ?_
              refine lv_iadd S.x S.b d_Tok_skip_60 ?_
              have lr22 := Int32.le_toInt (f_4 8)
              have ur22 := Int32.toInt_lt (f_4 8)
              refine lv_topi (fun z23 ez23 => ?_)
              have tz23 : z23.toInt = ((f_4 8).toInt + (1 : Int) + 2147483648) % 4294967296 - 2147483648 := by rw [ez23]; exact i_add (f_4 8) 1
              have lz23 := Int32.le_toInt z23
              have uz23 := Int32.toInt_lt z23
              try replace tz23 : z23.toInt = (f_4 8).toInt + (1 : Int) := by omega
              refine lv_istore (lv' := [(4, .int z23), (3, .int v6), (0, .ref h), (1, .int x4_1), (2, .int x4_2)]) S.x S.b d_Tok_skip_61 hl (by decide) rfl (fun ls hl => ?_)
              refine lv_goto (tgt := 123) S.x S.b d_Tok_skip_63 (by decide) ?_
              refine lv_iload S.x S.b d_Tok_skip_123 (lv_at hl 0 rfl) ?_
              refine lv_aload_n S.x S.b d_Tok_skip_125 rfl (lv_at hl 2 rfl) ?_
              refine px_get S k_Tok hT hw 0 0 8 (v := .int (f_4 8)) rfl rfl rfl (by decide) m1_111 d_Tok_skip_126 ?_
              refine lv_icmp_le (tgt := 136) S.x S.b d_Tok_skip_129 (by decide) (fun c24 => ?_) (fun c24 => ?_)
              · have nc24 : z23.toInt ≤ (f_4 8).toInt := (i_le (x := z23) (y := (f_4 8))).mp c24
                refine lv_iconst (v := 0) S.x S.b d_Tok_skip_136 (by decide) ?_
                refine lv_istore_n (lv' := [(1, .int 0), (4, .int z23), (3, .int v6), (0, .ref h), (2, .int x4_2)]) S.x S.b d_Tok_skip_137 rfl hl (by decide) rfl (fun ls hl => ?_)
                refine lv_aload_n S.x S.b d_Tok_skip_138 rfl (lv_at hl 3 rfl) ?_
                refine lv_iload S.x S.b d_Tok_skip_139 (lv_at hl 1 rfl) ?_
                refine px_put S k_Tok hT hw 0 0 8 rfl rfl (by decide) m1_111 rfl rfl rfl (Nat.le_of_ble_eq_true rfl) d_Tok_skip_141 (w' := wd_Tok cs h r (fun _ => some tp) (upd f_4 8 z23) a_4 g) (ps' := [wd_Tok cs h r (fun _ => some tp) (upd f_4 8 z23) a_4 g, [(tp, .inl (cs 1, 2048, .inl tb))]]) rfl rfl (fun H locs hw => ?_)
                obtain ⟨z26, ez26⟩ : ∃ y : Int32, y = x4_2 + 1 := ⟨_, rfl⟩
                have tz26 : z26.toInt = (x4_2.toInt + 1 + 2147483648) % 4294967296 - 2147483648 := by rw [ez26]; exact i_add x4_2 1
                have lz26 := Int32.le_toInt z26
                have uz26 := Int32.toInt_lt z26
                first | replace tz26 : z26.toInt = x4_2.toInt + 1 := (oz_d0a3671be7 tz23 nc24) | try replace tz26 : z26.toInt = x4_2.toInt + 1 := by first | exact oz_d0a3671be7 tz23 nc24 | omega
                refine lv_iinc (v := z26) (lv' := [(2, .int z26), (1, .int 0), (4, .int z23), (3, .int v6), (0, .ref h)]) S.x S.b d_Tok_skip_144 hl (k := 4) rfl (by rw [ez26]; rfl) (by decide) rfl (fun ls hl => ?_)
                refine lv_goto (tgt := 4) S.x S.b d_Tok_skip_147 (by decide) ?_
                first | exact ih4 (upd f_4 8 z23) a_4 (0 : Int32) z26 _ _ ls (show TokOk (f_4 7) z23 (f_4 10) (f_4 11) (f_4 12) (f_4 13) (f_4 17) (a_4 4) from ⟨⟨o1, o2⟩, ⟨(oz_b3b25f0e49 tz23 o3), (oz_f1d1298f6f tz23 nc24)⟩, ⟨o5, o6⟩, ⟨o7, o8⟩, ⟨o9, o10⟩, ⟨o11, o12⟩, o13, hn4⟩) (show (f_4 7).toInt = (f 7).toInt from k4_0) (show (f_4 10).toInt = (f 10).toInt from k4_1) (show (f_4 15).toInt = (f 15).toInt from k4_2) (show (f 8).toInt ≤ z23.toInt from (oz_df4877b868 k4_3 tz23)) (show 0 ≤ z26.toInt from (oz_ae613611c0 tz26 k4_4)) (show z26.toInt ≤ (f_4 7).toInt+1 from (oz_42d443b05b tz23 nc24)) (show Q5 (a_4 5) from hq5) (show K_t2_skip_4 tb f a (upd f_4 8 z23) a_4 0 z26 from (fun y_f0 y_f1 k hE => k4_7 y_f0 y_f1 (k + 1) (Or.inr (Or.inl ⟨rfl, x4_1, x4_2, rfl, rfl, rfl, rfl, rfl, Or.inr ⟨nc1, Or.inr ⟨nc3, v6, e11, Or.inr ⟨nc12, Or.inl ⟨nc20, z23, ez23, Or.inl ⟨nc24, z26, ez26, hE⟩⟩⟩⟩⟩⟩)))) (show (f_4 7).toInt+2-z26.toInt < (n_4 : Int) from (oz_ea2b3b93d5 tz23 nc24)) hw (lv_sub hl [4, 1, 0] rfl) | exact ih4 (upd f_4 8 z23) a_4 (0 : Int32) z26 _ _ ls (show TokOk (f_4 7) z23 (f_4 10) (f_4 11) (f_4 12) (f_4 13) (f_4 17) (a_4 4) from ⟨⟨by first | exact o1 | omega, by first | exact o2 | omega⟩, ⟨by first | exact oz_b3b25f0e49 tz23 o3 | omega, by first | exact oz_f1d1298f6f tz23 nc24 | omega⟩, ⟨by first | exact o5 | omega, by first | exact o6 | omega⟩, ⟨by first | exact o7 | omega, by first | exact o8 | omega⟩, ⟨by first | exact o9 | omega, by first | exact o10 | omega⟩, ⟨by first | exact o11 | omega, by first | exact o12 | omega⟩, by first | exact o13 | omega, hn4⟩) (show (f_4 7).toInt = (f 7).toInt from by first | exact k4_0 | omega) (show (f_4 10).toInt = (f 10).toInt from by first | exact k4_1 | omega) (show (f_4 15).toInt = (f 15).toInt from by first | exact k4_2 | omega) (show (f 8).toInt ≤ z23.toInt from by first | exact oz_df4877b868 k4_3 tz23 | omega) (show 0 ≤ z26.toInt from by first | exact oz_ae613611c0 tz26 k4_4 | omega) (show z26.toInt ≤ (f_4 7).toInt+1 from by first | exact oz_42d443b05b tz23 nc24 | omega) (show Q5 (a_4 5) from hq5) (show K_t2_skip_4 tb f a (upd f_4 8 z23) a_4 0 z26 from (fun y_f0 y_f1 k hE => k4_7 y_f0 y_f1 (k + 1) (Or.inr (Or.inl ⟨rfl, x4_1, x4_2, rfl, rfl, rfl, rfl, rfl, Or.inr ⟨nc1, Or.inr ⟨nc3, v6, e11, Or.inr ⟨nc12, Or.inl ⟨nc20, z23, ez23, Or.inl ⟨nc24, z26, ez26, hE⟩⟩⟩⟩⟩⟩)))) (show (f_4 7).toInt+2-z26.toInt < (n_4 : Int) from by first | exact oz_ea2b3b93d5 tz23 nc24 | omega) hw (lv_sub hl [4, 1, 0] rfl)
              · have nc24 : ¬ z23.toInt ≤ (f_4 8).toInt := mt (i_le (x := z23) (y := (f_4 8))).mpr c24
                refine lv_iconst (v := 1) S.x S.b d_Tok_skip_132 (by decide) ?_
                refine lv_goto (tgt := 137) S.x S.b d_Tok_skip_133 (by decide) ?_
                refine lv_istore_n (lv' := [(1, .int 1), (4, .int z23), (3, .int v6), (0, .ref h), (2, .int x4_2)]) S.x S.b d_Tok_skip_137 rfl hl (by decide) rfl (fun ls hl => ?_)
                refine lv_aload_n S.x S.b d_Tok_skip_138 rfl (lv_at hl 3 rfl) ?_
                refine lv_iload S.x S.b d_Tok_skip_139 (lv_at hl 1 rfl) ?_
                refine px_put S k_Tok hT hw 0 0 8 rfl rfl (by decide) m1_111 rfl rfl rfl (Nat.le_of_ble_eq_true rfl) d_Tok_skip_141 (w' := wd_Tok cs h r (fun _ => some tp) (upd f_4 8 z23) a_4 g) (ps' := [wd_Tok cs h r (fun _ => some tp) (upd f_4 8 z23) a_4 g, [(tp, .inl (cs 1, 2048, .inl tb))]]) rfl rfl (fun H locs hw => ?_)
                obtain ⟨z27, ez27⟩ : ∃ y : Int32, y = x4_2 + 1 := ⟨_, rfl⟩
                have tz27 : z27.toInt = (x4_2.toInt + 1 + 2147483648) % 4294967296 - 2147483648 := by rw [ez27]; exact i_add x4_2 1
                have lz27 := Int32.le_toInt z27
                have uz27 := Int32.toInt_lt z27
                try replace tz27 : z27.toInt = x4_2.toInt + 1 := by omega
                refine lv_iinc (v := z27) (lv' := [(2, .int z27), (1, .int 1), (4, .int z23), (3, .int v6), (0, .ref h)]) S.x S.b d_Tok_skip_144 hl (k := 4) rfl (by rw [ez27]; rfl) (by decide) rfl (fun ls hl => ?_)
                refine lv_goto (tgt := 4) S.x S.b d_Tok_skip_147 (by decide) ?_
                first | exact ih4 (upd f_4 8 z23) a_4 (1 : Int32) z27 _ _ ls (show TokOk (f_4 7) z23 (f_4 10) (f_4 11) (f_4 12) (f_4 13) (f_4 17) (a_4 4) from ⟨⟨o1, o2⟩, ⟨(oz_8c8b3d3770 nc24 o3), (oz_f86517a702 tz23 nc20 e9)⟩, ⟨o5, o6⟩, ⟨o7, o8⟩, ⟨o9, o10⟩, ⟨o11, o12⟩, o13, hn4⟩) (show (f_4 7).toInt = (f 7).toInt from k4_0) (show (f_4 10).toInt = (f 10).toInt from k4_1) (show (f_4 15).toInt = (f 15).toInt from k4_2) (show (f 8).toInt ≤ z23.toInt from (oz_fbfdb238f4 k4_3 nc24)) (show 0 ≤ z27.toInt from (oz_ae613611c0 tz27 k4_4)) (show z27.toInt ≤ (f_4 7).toInt+1 from (oz_0c5335350d nc1 tz27)) (show Q5 (a_4 5) from hq5) (show K_t2_skip_4 tb f a (upd f_4 8 z23) a_4 1 z27 from (fun y_f0 y_f1 k hE => k4_7 y_f0 y_f1 (k + 1) (Or.inr (Or.inl ⟨rfl, x4_1, x4_2, rfl, rfl, rfl, rfl, rfl, Or.inr ⟨nc1, Or.inr ⟨nc3, v6, e11, Or.inr ⟨nc12, Or.inl ⟨nc20, z23, ez23, Or.inr ⟨nc24, z27, ez27, hE⟩⟩⟩⟩⟩⟩)))) (show (f_4 7).toInt+2-z27.toInt < (n_4 : Int) from (oz_1a25760b21 hm tz27)) hw (lv_sub hl [4, 1, 0] rfl) | exact ih4 (upd f_4 8 z23) a_4 (1 : Int32) z27 _ _ ls (show TokOk (f_4 7) z23 (f_4 10) (f_4 11) (f_4 12) (f_4 13) (f_4 17) (a_4 4) from ⟨⟨by first | exact o1 | omega, by first | exact o2 | omega⟩, ⟨by first | exact oz_8c8b3d3770 nc24 o3 | omega, by first | exact oz_f86517a702 tz23 nc20 e9 | omega⟩, ⟨by first | exact o5 | omega, by first | exact o6 | omega⟩, ⟨by first | exact o7 | omega, by first | exact o8 | omega⟩, ⟨by first | exact o9 | omega, by first | exact o10 | omega⟩, ⟨by first | exact o11 | omega, by first | exact o12 | omega⟩, by first | exact o13 | omega, hn4⟩) (show (f_4 7).toInt = (f 7).toInt from by first | exact k4_0 | omega) (show (f_4 10).toInt = (f 10).toInt from by first | exact k4_1 | omega) (show (f_4 15).toInt = (f 15).toInt from by first | exact k4_2 | omega) (show (f 8).toInt ≤ z23.toInt from by first | exact oz_fbfdb238f4 k4_3 nc24 | omega) (show 0 ≤ z27.toInt from by first | exact oz_ae613611c0 tz27 k4_4 | omega) (show z27.toInt ≤ (f_4 7).toInt+1 from by first | exact oz_0c5335350d nc1 tz27 | omega) (show Q5 (a_4 5) from hq5) (show K_t2_skip_4 tb f a (upd f_4 8 z23) a_4 1 z27 from (fun y_f0 y_f1 k hE => k4_7 y_f0 y_f1 (k + 1) (Or.inr (Or.inl ⟨rfl, x4_1, x4_2, rfl, rfl, rfl, rfl, rfl, Or.inr ⟨nc1, Or.inr ⟨nc3, v6, e11, Or.inr ⟨nc12, Or.inl ⟨nc20, z23, ez23, Or.inr ⟨nc24, z27, ez27, hE⟩⟩⟩⟩⟩⟩)))) (show (f_4 7).toInt+2-z27.toInt < (n_4 : Int) from by first | exact oz_1a25760b21 hm tz27 | omega) hw (lv_sub hl [4, 1, 0] rfl)
            · have nc20 : ¬ v6.toInt = (9 : Int) := mt (i_eq (x := v6) (y := 9)).mpr c20
              refine lv_iload_n S.x S.b d_Tok_skip_43 rfl (lv_at hl 1 rfl) ?_
              refine lv_bipush (v := 10) S.x S.b d_Tok_skip_44 (by decide) ?_
              refine lv_icmp_eq (tgt := 55) S.x S.b d_Tok_skip_46 (by decide) (fun c28 => ?_) (fun c28 => ?_)
              · have nc28 : v6.toInt = (10 : Int) := (i_eq (x := v6) (y := 10)).mp c28
                refine lv_aload_n S.x S.b d_Tok_skip_55 rfl (lv_at hl 2 rfl) ?_
                refine px_get S k_Tok hT hw 0 0 8 (v := .int (f_4 8)) rfl rfl rfl (by decide) m1_111 d_Tok_skip_56 ?_
                refine lv_iconst (v := 1) S.x S.b d_Tok_skip_59 (by decide) ?_
                refine lv_iadd S.x S.b d_Tok_skip_60 ?_
                have lr30 := Int32.le_toInt (f_4 8)
                have ur30 := Int32.toInt_lt (f_4 8)
                refine lv_topi (fun z31 ez31 => ?_)
                have tz31 : z31.toInt = ((f_4 8).toInt + (1 : Int) + 2147483648) % 4294967296 - 2147483648 := by rw [ez31]; exact i_add (f_4 8) 1
                have lz31 := Int32.le_toInt z31
                have uz31 := Int32.toInt_lt z31
                try replace tz31 : z31.toInt = (f_4 8).toInt + (1 : Int) := by omega
                refine lv_istore (lv' := [(4, .int z31), (3, .int v6), (0, .ref h), (1, .int x4_1), (2, .int x4_2)]) S.x S.b d_Tok_skip_61 hl (by decide) rfl (fun ls hl => ?_)
                refine lv_goto (tgt := 123) S.x S.b d_Tok_skip_63 (by decide) ?_
                refine lv_iload S.x S.b d_Tok_skip_123 (lv_at hl 0 rfl) ?_
                refine lv_aload_n S.x S.b d_Tok_skip_125 rfl (lv_at hl 2 rfl) ?_
                refine px_get S k_Tok hT hw 0 0 8 (v := .int (f_4 8)) rfl rfl rfl (by decide) m1_111 d_Tok_skip_126 ?_
                refine lv_icmp_le (tgt := 136) S.x S.b d_Tok_skip_129 (by decide) (fun c32 => ?_) (fun c32 => ?_)
                · have nc32 : z31.toInt ≤ (f_4 8).toInt := (i_le (x := z31) (y := (f_4 8))).mp c32
                  refine lv_iconst (v := 0) S.x S.b d_Tok_skip_136 (by decide) ?_
                  refine lv_istore_n (lv' := [(1, .int 0), (4, .int z31), (3, .int v6), (0, .ref h), (2, .int x4_2)]) S.x S.b d_Tok_skip_137 rfl hl (by decide) rfl (fun ls hl => ?_)
                  refine lv_aload_n S.x S.b d_Tok_skip_138 rfl (lv_at hl 3 rfl) ?_
                  refine lv_iload S.x S.b d_Tok_skip_139 (lv_at hl 1 rfl) ?_
                  refine px_put S k_Tok hT hw 0 0 8 rfl rfl (by decide) m1_111 rfl rfl rfl (Nat.le_of_ble_eq_true rfl) d_Tok_skip_141 (w' := wd_Tok cs h r (fun _ => some tp) (upd f_4 8 z31) a_4 g) (ps' := [wd_Tok cs h r (fun _ => some tp) (upd f_4 8 z31) a_4 g, [(tp, .inl (cs 1, 2048, .inl tb))]]) rfl rfl (fun H locs hw => ?_)
                  obtain ⟨z34, ez34⟩ : ∃ y : Int32, y = x4_2 + 1 := ⟨_, rfl⟩
                  have tz34 : z34.toInt = (x4_2.toInt + 1 + 2147483648) % 4294967296 - 2147483648 := by rw [ez34]; exact i_add x4_2 1
                  have lz34 := Int32.le_toInt z34
                  have uz34 := Int32.toInt_lt z34
                  first | replace tz34 : z34.toInt = x4_2.toInt + 1 := (oz_d0a3671be7 tz31 nc32) | try replace tz34 : z34.toInt = x4_2.toInt + 1 := by first | exact oz_d0a3671be7 tz31 nc32 | omega
                  refine lv_iinc (v := z34) (lv' := [(2, .int z34), (1, .int 0), (4, .int z31), (3, .int v6), (0, .ref h)]) S.x S.b d_Tok_skip_144 hl (k := 4) rfl (by rw [ez34]; rfl) (by decide) rfl (fun ls hl => ?_)
                  refine lv_goto (tgt := 4) S.x S.b d_Tok_skip_147 (by decide) ?_
                  first | exact ih4 (upd f_4 8 z31) a_4 (0 : Int32) z34 _ _ ls (show TokOk (f_4 7) z31 (f_4 10) (f_4 11) (f_4 12) (f_4 13) (f_4 17) (a_4 4) from ⟨⟨o1, o2⟩, ⟨(oz_b3b25f0e49 tz31 o3), (oz_f1d1298f6f tz31 nc32)⟩, ⟨o5, o6⟩, ⟨o7, o8⟩, ⟨o9, o10⟩, ⟨o11, o12⟩, o13, hn4⟩) (show (f_4 7).toInt = (f 7).toInt from k4_0) (show (f_4 10).toInt = (f 10).toInt from k4_1) (show (f_4 15).toInt = (f 15).toInt from k4_2) (show (f 8).toInt ≤ z31.toInt from (oz_df4877b868 k4_3 tz31)) (show 0 ≤ z34.toInt from (oz_ae613611c0 tz34 k4_4)) (show z34.toInt ≤ (f_4 7).toInt+1 from (oz_42d443b05b tz31 nc32)) (show Q5 (a_4 5) from hq5) (show K_t2_skip_4 tb f a (upd f_4 8 z31) a_4 0 z34 from (fun y_f0 y_f1 k hE => k4_7 y_f0 y_f1 (k + 1) (Or.inr (Or.inl ⟨rfl, x4_1, x4_2, rfl, rfl, rfl, rfl, rfl, Or.inr ⟨nc1, Or.inr ⟨nc3, v6, e11, Or.inr ⟨nc12, Or.inr ⟨nc20, Or.inl ⟨nc28, z31, ez31, Or.inl ⟨nc32, z34, ez34, hE⟩⟩⟩⟩⟩⟩⟩)))) (show (f_4 7).toInt+2-z34.toInt < (n_4 : Int) from (oz_ea2b3b93d5 tz31 nc32)) hw (lv_sub hl [4, 1, 0] rfl) | exact ih4 (upd f_4 8 z31) a_4 (0 : Int32) z34 _ _ ls (show TokOk (f_4 7) z31 (f_4 10) (f_4 11) (f_4 12) (f_4 13) (f_4 17) (a_4 4) from ⟨⟨by first | exact o1 | omega, by first | exact o2 | omega⟩, ⟨by first | exact oz_b3b25f0e49 tz31 o3 | omega, by first | exact oz_f1d1298f6f tz31 nc32 | omega⟩, ⟨by first | exact o5 | omega, by first | exact o6 | omega⟩, ⟨by first | exact o7 | omega, by first | exact o8 | omega⟩, ⟨by first | exact o9 | omega, by first | exact o10 | omega⟩, ⟨by first | exact o11 | omega, by first | exact o12 | omega⟩, by first | exact o13 | omega, hn4⟩) (show (f_4 7).toInt = (f 7).toInt from by first | exact k4_0 | omega) (show (f_4 10).toInt = (f 10).toInt from by first | exact k4_1 | omega) (show (f_4 15).toInt = (f 15).toInt from by first | exact k4_2 | omega) (show (f 8).toInt ≤ z31.toInt from by first | exact oz_df4877b868 k4_3 tz31 | omega) (show 0 ≤ z34.toInt from by first | exact oz_ae613611c0 tz34 k4_4 | omega) (show z34.toInt ≤ (f_4 7).toInt+1 from by first | exact oz_42d443b05b tz31 nc32 | omega) (show Q5 (a_4 5) from hq5) (show K_t2_skip_4 tb f a (upd f_4 8 z31) a_4 0 z34 from (fun y_f0 y_f1 k hE => k4_7 y_f0 y_f1 (k + 1) (Or.inr (Or.inl ⟨rfl, x4_1, x4_2, rfl, rfl, rfl, rfl, rfl, Or.inr ⟨nc1, Or.inr ⟨nc3, v6, e11, Or.inr ⟨nc12, Or.inr ⟨nc20, Or.inl ⟨nc28, z31, ez31, Or.inl ⟨nc32, z34, ez34, hE⟩⟩⟩⟩⟩⟩⟩)))) (show (f_4 7).toInt+2-z34.toInt < (n_4 : Int) from by first | exact oz_ea2b3b93d5 tz31 nc32 | omega) hw (lv_sub hl [4, 1, 0] rfl)
                · have nc32 : ¬ z31.toInt ≤ (f_4 8).toInt := mt (i_le (x := z31) (y := (f_4 8))).mpr c32
                  refine lv_iconst (v := 1) S.x S.b d_Tok_skip_132 (by decide) ?_
                  refine lv_goto (tgt := 137) S.x S.b d_Tok_skip_133 (by decide) ?_
                  refine lv_istore_n (lv' := [(1, .int 1), (4, .int z31), (3, .int v6), (0, .ref h), (2, .int x4_2)]) S.x S.b d_Tok_skip_137 rfl hl (by decide) rfl (fun ls hl => ?_)
                  refine lv_aload_n S.x S.b d_Tok_skip_138 rfl (lv_at hl 3 rfl) ?_
                  refine lv_iload S.x S.b d_Tok_skip_139 (lv_at hl 1 rfl) ?_
                  refine px_put S k_Tok hT hw 0 0 8 rfl rfl (by decide) m1_111 rfl rfl rfl (Nat.le_of_ble_eq_true rfl) d_Tok_skip_141 (w' := wd_Tok cs h r (fun _ => some tp) (upd f_4 8 z31) a_4 g) (ps' := [wd_Tok cs h r (fun _ => some tp) (upd f_4 8 z31) a_4 g, [(tp, .inl (cs 1, 2048, .inl tb))]]) rfl rfl (fun H locs hw => ?_)
                  obtain ⟨z35, ez35⟩ : ∃ y : Int32, y = x4_2 + 1 := ⟨_, rfl⟩
                  have tz35 : z35.toInt = (x4_2.toInt + 1 + 2147483648) % 4294967296 - 2147483648 := by rw [ez35]; exact i_add x4_2 1
                  have lz35 := Int32.le_toInt z35
                  have uz35 := Int32.toInt_lt z35
                  try replace tz35 : z35.toInt = x4_2.toInt + 1 := by omega
                  refine lv_iinc (v := z35) (lv' := [(2, .int z35), (1, .int 1), (4, .int z31), (3, .int v6), (0, .ref h)]) S.x S.b d_Tok_skip_144 hl (k := 4) rfl (by rw [ez35]; rfl) (by decide) rfl (fun ls hl => ?_)
                  refine lv_goto (tgt := 4) S.x S.b d_Tok_skip_147 (by decide) ?_
                  first | exact ih4 (upd f_4 8 z31) a_4 (1 : Int32) z35 _ _ ls (show TokOk (f_4 7) z31 (f_4 10) (f_4 11) (f_4 12) (f_4 13) (f_4 17) (a_4 4) from ⟨⟨o1, o2⟩, ⟨(oz_8c8b3d3770 nc32 o3), (oz_c84fafa606 tz31 nc28 e9)⟩, ⟨o5, o6⟩, ⟨o7, o8⟩, ⟨o9, o10⟩, ⟨o11, o12⟩, o13, hn4⟩) (show (f_4 7).toInt = (f 7).toInt from k4_0) (show (f_4 10).toInt = (f 10).toInt from k4_1) (show (f_4 15).toInt = (f 15).toInt from k4_2) (show (f 8).toInt ≤ z31.toInt from (oz_fbfdb238f4 k4_3 nc32)) (show 0 ≤ z35.toInt from (oz_ae613611c0 tz35 k4_4)) (show z35.toInt ≤ (f_4 7).toInt+1 from (oz_0c5335350d nc1 tz35)) (show Q5 (a_4 5) from hq5) (show K_t2_skip_4 tb f a (upd f_4 8 z31) a_4 1 z35 from (fun y_f0 y_f1 k hE => k4_7 y_f0 y_f1 (k + 1) (Or.inr (Or.inl ⟨rfl, x4_1, x4_2, rfl, rfl, rfl, rfl, rfl, Or.inr ⟨nc1, Or.inr ⟨nc3, v6, e11, Or.inr ⟨nc12, Or.inr ⟨nc20, Or.inl ⟨nc28, z31, ez31, Or.inr ⟨nc32, z35, ez35, hE⟩⟩⟩⟩⟩⟩⟩)))) (show (f_4 7).toInt+2-z35.toInt < (n_4 : Int) from (oz_1a25760b21 hm tz35)) hw (lv_sub hl [4, 1, 0] rfl) | exact ih4 (upd f_4 8 z31) a_4 (1 : Int32) z35 _ _ ls (show TokOk (f_4 7) z31 (f_4 10) (f_4 11) (f_4 12) (f_4 13) (f_4 17) (a_4 4) from ⟨⟨by first | exact o1 | omega, by first | exact o2 | omega⟩, ⟨by first | exact oz_8c8b3d3770 nc32 o3 | omega, by first | exact oz_c84fafa606 tz31 nc28 e9 | omega⟩, ⟨by first | exact o5 | omega, by first | exact o6 | omega⟩, ⟨by first | exact o7 | omega, by first | exact o8 | omega⟩, ⟨by first | exact o9 | omega, by first | exact o10 | omega⟩, ⟨by first | exact o11 | omega, by first | exact o12 | omega⟩, by first | exact o13 | omega, hn4⟩) (show (f_4 7).toInt = (f 7).toInt from by first | exact k4_0 | omega) (show (f_4 10).toInt = (f 10).toInt from by first | exact k4_1 | omega) (show (f_4 15).toInt = (f 15).toInt from by first | exact k4_2 | omega) (show (f 8).toInt ≤ z31.toInt from by first | exact oz_fbfdb238f4 k4_3 nc32 | omega) (show 0 ≤ z35.toInt from by first | exact oz_ae613611c0 tz35 k4_4 | omega) (show z35.toInt ≤ (f_4 7).toInt+1 from by first | exact oz_0c5335350d nc1 tz35 | omega) (show Q5 (a_4 5) from hq5) (show K_t2_skip_4 tb f a (upd f_4 8 z31) a_4 1 z35 from (fun y_f0 y_f1 k hE => k4_7 y_f0 y_f1 (k + 1) (Or.inr (Or.inl ⟨rfl, x4_1, x4_2, rfl, rfl, rfl, rfl, rfl, Or.inr ⟨nc1, Or.inr ⟨nc3, v6, e11, Or.inr ⟨nc12, Or.inr ⟨nc20, Or.inl ⟨nc28, z31, ez31, Or.inr ⟨nc32, z35, ez35, hE⟩⟩⟩⟩⟩⟩⟩)))) (show (f_4 7).toInt+2-z35.toInt < (n_4 : Int) from by first | exact oz_1a25760b21 hm tz35 | omega) hw (lv_sub hl [4, 1, 0] rfl)
              · have nc28 : ¬ v6.toInt = (10 : Int) := mt (i_eq (x := v6) (y := 10)).mpr c28
                refine lv_iload_n S.x S.b d_Tok_skip_49 rfl (lv_at hl 1 rfl) ?_
                refine lv_bipush (v := 13) S.x S.b d_Tok_skip_50 (by decide) ?_
                refine lv_icmp_ne (tgt := 66) S.x S.b d_Tok_skip_52 (by decide) (fun c36 => ?_) (fun c36 => ?_)
                · have nc36 : ¬ v6.toInt = (13 : Int) := mt (i_eq (x := v6) (y := 13)).mpr c36
                  refine lv_iload_n S.x S.b d_Tok_skip_66 rfl (lv_at hl 1 rfl) ?_
                  refine lv_bipush (v := 47) S.x S.b d_Tok_skip_67 (by decide) ?_
                  refine lv_icmp_ne (tgt := 96) S.x S.b d_Tok_skip_69 (by decide) (fun c38 => ?_) (fun c38 => ?_)
                  · have nc38 : ¬ v6.toInt = (47 : Int) := mt (i_eq (x := v6) (y := 47)).mpr c38
                    refine lv_iload_n S.x S.b d_Tok_skip_96 rfl (lv_at hl 1 rfl) ?_
                    refine lv_bipush (v := 47) S.x S.b d_Tok_skip_97 (by decide) ?_
                    refine lv_icmp_ne (tgt := 123) S.x S.b d_Tok_skip_99 (by decide) (fun c40 => ?_) (fun c40 => ?_)
                    · have nc40 : ¬ v6.toInt = (47 : Int) := mt (i_eq (x := v6) (y := 47)).mpr c40
                      refine lv_iload S.x S.b d_Tok_skip_123 (lv_at hl 0 rfl) ?_
                      refine lv_aload_n S.x S.b d_Tok_skip_125 rfl (lv_at hl 2 rfl) ?_
                      refine px_get S k_Tok hT hw 0 0 8 (v := .int (f_4 8)) rfl rfl rfl (by decide) m1_111 d_Tok_skip_126 ?_
                      refine lv_icmp_le (tgt := 136) S.x S.b d_Tok_skip_129 (by decide) (fun c42 => ?_) (fun c42 => ?_)
                      · have nc42 : (f_4 8).toInt ≤ (f_4 8).toInt := (i_le (x := (f_4 8)) (y := (f_4 8))).mp c42
                        refine lv_iconst (v := 0) S.x S.b d_Tok_skip_136 (by decide) ?_
                        refine lv_istore_n (lv' := [(1, .int 0), (4, .int (f_4 8)), (3, .int v6), (0, .ref h), (2, .int x4_2)]) S.x S.b d_Tok_skip_137 rfl hl (by decide) rfl (fun ls hl => ?_)
                        refine lv_aload_n S.x S.b d_Tok_skip_138 rfl (lv_at hl 3 rfl) ?_
                        refine lv_iload S.x S.b d_Tok_skip_139 (lv_at hl 1 rfl) ?_
                        refine px_put S k_Tok hT hw 0 0 8 rfl rfl (by decide) m1_111 rfl rfl rfl (Nat.le_of_ble_eq_true rfl) d_Tok_skip_141 (w' := wd_Tok cs h r (fun _ => some tp) (upd f_4 8 (f_4 8)) a_4 g) (ps' := [wd_Tok cs h r (fun _ => some tp) (upd f_4 8 (f_4 8)) a_4 g, [(tp, .inl (cs 1, 2048, .inl tb))]]) rfl rfl (fun H locs hw => ?_)
                        obtain ⟨z44, ez44⟩ : ∃ y : Int32, y = x4_2 + 1 := ⟨_, rfl⟩
                        have tz44 : z44.toInt = (x4_2.toInt + 1 + 2147483648) % 4294967296 - 2147483648 := by rw [ez44]; exact i_add x4_2 1
                        have lz44 := Int32.le_toInt z44
                        have uz44 := Int32.toInt_lt z44
                        try replace tz44 : z44.toInt = x4_2.toInt + 1 := by omega
                        refine lv_iinc (v := z44) (lv' := [(2, .int z44), (1, .int 0), (4, .int (f_4 8)), (3, .int v6), (0, .ref h)]) S.x S.b d_Tok_skip_144 hl (k := 4) rfl (by rw [ez44]; rfl) (by decide) rfl (fun ls hl => ?_)
                        refine lv_goto (tgt := 4) S.x S.b d_Tok_skip_147 (by decide) ?_
                        first | exact ih4 (upd f_4 8 (f_4 8)) a_4 (0 : Int32) z44 _ _ ls (show TokOk (f_4 7) (f_4 8) (f_4 10) (f_4 11) (f_4 12) (f_4 13) (f_4 17) (a_4 4) from ⟨⟨o1, o2⟩, ⟨o3, o4⟩, ⟨o5, o6⟩, ⟨o7, o8⟩, ⟨o9, o10⟩, ⟨o11, o12⟩, o13, hn4⟩) (show (f_4 7).toInt = (f 7).toInt from k4_0) (show (f_4 10).toInt = (f 10).toInt from k4_1) (show (f_4 15).toInt = (f 15).toInt from k4_2) (show (f 8).toInt ≤ (f_4 8).toInt from k4_3) (show 0 ≤ z44.toInt from (oz_ae613611c0 tz44 k4_4)) (show z44.toInt ≤ (f_4 7).toInt+1 from (oz_0c5335350d nc1 tz44)) (show Q5 (a_4 5) from hq5) (show K_t2_skip_4 tb f a (upd f_4 8 (f_4 8)) a_4 0 z44 from (fun y_f0 y_f1 k hE => k4_7 y_f0 y_f1 (k + 1) (Or.inr (Or.inl ⟨rfl, x4_1, x4_2, rfl, rfl, rfl, rfl, rfl, Or.inr ⟨nc1, Or.inr ⟨nc3, v6, e11, Or.inr ⟨nc12, Or.inr ⟨nc20, Or.inr ⟨nc28, Or.inl ⟨nc36, Or.inl ⟨nc38, Or.inl ⟨nc40, Or.inl ⟨nc42, z44, ez44, hE⟩⟩⟩⟩⟩⟩⟩⟩⟩⟩)))) (show (f_4 7).toInt+2-z44.toInt < (n_4 : Int) from (oz_1a25760b21 hm tz44)) hw (lv_sub hl [4, 1, 0] rfl) | exact ih4 (upd f_4 8 (f_4 8)) a_4 (0 : Int32) z44 _ _ ls (show TokOk (f_4 7) (f_4 8) (f_4 10) (f_4 11) (f_4 12) (f_4 13) (f_4 17) (a_4 4) from ⟨⟨by first | exact o1 | omega, by first | exact o2 | omega⟩, ⟨by first | exact o3 | omega, by first | exact o4 | omega⟩, ⟨by first | exact o5 | omega, by first | exact o6 | omega⟩, ⟨by first | exact o7 | omega, by first | exact o8 | omega⟩, ⟨by first | exact o9 | omega, by first | exact o10 | omega⟩, ⟨by first | exact o11 | omega, by first | exact o12 | omega⟩, by first | exact o13 | omega, hn4⟩) (show (f_4 7).toInt = (f 7).toInt from by first | exact k4_0 | omega) (show (f_4 10).toInt = (f 10).toInt from by first | exact k4_1 | omega) (show (f_4 15).toInt = (f 15).toInt from by first | exact k4_2 | omega) (show (f 8).toInt ≤ (f_4 8).toInt from by first | exact k4_3 | omega) (show 0 ≤ z44.toInt from by first | exact oz_ae613611c0 tz44 k4_4 | omega) (show z44.toInt ≤ (f_4 7).toInt+1 from by first | exact oz_0c5335350d nc1 tz44 | omega) (show Q5 (a_4 5) from hq5) (show K_t2_skip_4 tb f a (upd f_4 8 (f_4 8)) a_4 0 z44 from (fun y_f0 y_f1 k hE => k4_7 y_f0 y_f1 (k + 1) (Or.inr (Or.inl ⟨rfl, x4_1, x4_2, rfl, rfl, rfl, rfl, rfl, Or.inr ⟨nc1, Or.inr ⟨nc3, v6, e11, Or.inr ⟨nc12, Or.inr ⟨nc20, Or.inr ⟨nc28, Or.inl ⟨nc36, Or.inl ⟨nc38, Or.inl ⟨nc40, Or.inl ⟨nc42, z44, ez44, hE⟩⟩⟩⟩⟩⟩⟩⟩⟩⟩)))) (show (f_4 7).toInt+2-z44.toInt < (n_4 : Int) from by first | exact oz_1a25760b21 hm tz44 | omega) hw (lv_sub hl [4, 1, 0] rfl)
                      · have nc42 : ¬ (f_4 8).toInt ≤ (f_4 8).toInt := mt (i_le (x := (f_4 8)) (y := (f_4 8))).mpr c42
                        refine lv_iconst (v := 1) S.x S.b d_Tok_skip_132 (by decide) ?_
                        refine lv_goto (tgt := 137) S.x S.b d_Tok_skip_133 (by decide) ?_
                        refine lv_istore_n (lv' := [(1, .int 1), (4, .int (f_4 8)), (3, .int v6), (0, .ref h), (2, .int x4_2)]) S.x S.b d_Tok_skip_137 rfl hl (by decide) rfl (fun ls hl => ?_)
                        refine lv_aload_n S.x S.b d_Tok_skip_138 rfl (lv_at hl 3 rfl) ?_
                        refine lv_iload S.x S.b d_Tok_skip_139 (lv_at hl 1 rfl) ?_
                        refine px_put S k_Tok hT hw 0 0 8 rfl rfl (by decide) m1_111 rfl rfl rfl (Nat.le_of_ble_eq_true rfl) d_Tok_skip_141 (w' := wd_Tok cs h r (fun _ => some tp) (upd f_4 8 (f_4 8)) a_4 g) (ps' := [wd_Tok cs h r (fun _ => some tp) (upd f_4 8 (f_4 8)) a_4 g, [(tp, .inl (cs 1, 2048, .inl tb))]]) rfl rfl (fun H locs hw => ?_)
                        obtain ⟨z45, ez45⟩ : ∃ y : Int32, y = x4_2 + 1 := ⟨_, rfl⟩
                        have tz45 : z45.toInt = (x4_2.toInt + 1 + 2147483648) % 4294967296 - 2147483648 := by rw [ez45]; exact i_add x4_2 1
                        have lz45 := Int32.le_toInt z45
                        have uz45 := Int32.toInt_lt z45
                        try replace tz45 : z45.toInt = x4_2.toInt + 1 := by omega
                        refine lv_iinc (v := z45) (lv' := [(2, .int z45), (1, .int 1), (4, .int (f_4 8)), (3, .int v6), (0, .ref h)]) S.x S.b d_Tok_skip_144 hl (k := 4) rfl (by rw [ez45]; rfl) (by decide) rfl (fun ls hl => ?_)
                        refine lv_goto (tgt := 4) S.x S.b d_Tok_skip_147 (by decide) ?_
                        first | exact ih4 (upd f_4 8 (f_4 8)) a_4 (1 : Int32) z45 _ _ ls (show TokOk (f_4 7) (f_4 8) (f_4 10) (f_4 11) (f_4 12) (f_4 13) (f_4 17) (a_4 4) from ⟨⟨o1, o2⟩, ⟨o3, o4⟩, ⟨o5, o6⟩, ⟨o7, o8⟩, ⟨o9, o10⟩, ⟨o11, o12⟩, o13, hn4⟩) (show (f_4 7).toInt = (f 7).toInt from k4_0) (show (f_4 10).toInt = (f 10).toInt from k4_1) (show (f_4 15).toInt = (f 15).toInt from k4_2) (show (f 8).toInt ≤ (f_4 8).toInt from k4_3) (show 0 ≤ z45.toInt from (oz_ae613611c0 tz45 k4_4)) (show z45.toInt ≤ (f_4 7).toInt+1 from (oz_0c5335350d nc1 tz45)) (show Q5 (a_4 5) from hq5) (show K_t2_skip_4 tb f a (upd f_4 8 (f_4 8)) a_4 1 z45 from (fun y_f0 y_f1 k hE => k4_7 y_f0 y_f1 (k + 1) (Or.inr (Or.inl ⟨rfl, x4_1, x4_2, rfl, rfl, rfl, rfl, rfl, Or.inr ⟨nc1, Or.inr ⟨nc3, v6, e11, Or.inr ⟨nc12, Or.inr ⟨nc20, Or.inr ⟨nc28, Or.inl ⟨nc36, Or.inl ⟨nc38, Or.inl ⟨nc40, Or.inr ⟨nc42, z45, ez45, hE⟩⟩⟩⟩⟩⟩⟩⟩⟩⟩)))) (show (f_4 7).toInt+2-z45.toInt < (n_4 : Int) from (oz_1a25760b21 hm tz45)) hw (lv_sub hl [4, 1, 0] rfl) | exact ih4 (upd f_4 8 (f_4 8)) a_4 (1 : Int32) z45 _ _ ls (show TokOk (f_4 7) (f_4 8) (f_4 10) (f_4 11) (f_4 12) (f_4 13) (f_4 17) (a_4 4) from ⟨⟨by first | exact o1 | omega, by first | exact o2 | omega⟩, ⟨by first | exact o3 | omega, by first | exact o4 | omega⟩, ⟨by first | exact o5 | omega, by first | exact o6 | omega⟩, ⟨by first | exact o7 | omega, by first | exact o8 | omega⟩, ⟨by first | exact o9 | omega, by first | exact o10 | omega⟩, ⟨by first | exact o11 | omega, by first | exact o12 | omega⟩, by first | exact o13 | omega, hn4⟩) (show (f_4 7).toInt = (f 7).toInt from by first | exact k4_0 | omega) (show (f_4 10).toInt = (f 10).toInt from by first | exact k4_1 | omega) (show (f_4 15).toInt = (f 15).toInt from by first | exact k4_2 | omega) (show (f 8).toInt ≤ (f_4 8).toInt from by first | exact k4_3 | omega) (show 0 ≤ z45.toInt from by first | exact oz_ae613611c0 tz45 k4_4 | omega) (show z45.toInt ≤ (f_4 7).toInt+1 from by first | exact oz_0c5335350d nc1 tz45 | omega) (show Q5 (a_4 5) from hq5) (show K_t2_skip_4 tb f a (upd f_4 8 (f_4 8)) a_4 1 z45 from (fun y_f0 y_f1 k hE => k4_7 y_f0 y_f1 (k + 1) (Or.inr (Or.inl ⟨rfl, x4_1, x4_2, rfl, rfl, rfl, rfl, rfl, Or.inr ⟨nc1, Or.inr ⟨nc3, v6, e11, Or.inr ⟨nc12, Or.inr ⟨nc20, Or.inr ⟨nc28, Or.inl ⟨nc36, Or.inl ⟨nc38, Or.inl ⟨nc40, Or.inr ⟨nc42, z45, ez45, hE⟩⟩⟩⟩⟩⟩⟩⟩⟩⟩)))) (show (f_4 7).toInt+2-z45.toInt < (n_4 : Int) from by first | exact oz_1a25760b21 hm tz45 | omega) hw (lv_sub hl [4, 1, 0] rfl)
                    · have nc40 : v6.toInt = (47 : Int) := (i_eq (x := v6) (y := 47)).mp c40
                      refine lv_aload_n S.x S.b d_Tok_skip_102 rfl (lv_at hl 2 rfl) ?_
                      refine lv_aload_n S.x S.b d_Tok_skip_103 rfl (lv_at hl 2 rfl) ?_
                      refine px_get S k_Tok hT hw 0 0 8 (v := .int (f_4 8)) rfl rfl rfl (by decide) m1_111 d_Tok_skip_104 ?_
                      refine lv_iconst (v := 1) S.x S.b d_Tok_skip_107 (by decide) ?_
                      refine lv_iadd S.x S.b d_Tok_skip_108 ?_
                      have lr46 := Int32.le_toInt (f_4 8)
                      have ur46 := Int32.toInt_lt (f_4 8)
                      refine lv_topi (fun z47 ez47 => ?_)
                      have tz47 : z47.toInt = ((f_4 8).toInt + (1 : Int) + 2147483648) % 4294967296 - 2147483648 := by rw [ez47]; exact i_add (f_4 8) 1
                      have lz47 := Int32.le_toInt z47
                      have uz47 := Int32.toInt_lt z47
                      try replace tz47 : z47.toInt = (f_4 8).toInt + (1 : Int) := by omega
                      first | refine px_calli (pr := []) (px_runV (As := [.int z47]) (rest := []) S (c_t2_byteAt l D cs h r tp tb g f_4 a_4 z47  (show TokOk (f_4 7) (f_4 8) (f_4 10) (f_4 11) (f_4 12) (f_4 13) (f_4 17) (a_4 4) from ⟨⟨o1, o2⟩, ⟨o3, o4⟩, ⟨o5, o6⟩, ⟨o7, o8⟩, ⟨o9, o10⟩, ⟨o11, o12⟩, o13, hn4⟩) _) hT (pr := []) (pcs := [wd_Tok cs h r (fun _ => some tp) f_4 a_4 g, [(tp, .inl (cs 1, 2048, .inl tb))]]) hw px_X.tt (px_recv hT hw 0 0 rfl rfl rfl) m3_186 m3_183 m3_185 ms_1_6 m1_2 q_Tok_byteAt ⟨Nat.le_of_ble_eq_true rfl, Nat.le_of_ble_eq_true rfl⟩ hl.1 rfl (Nat.le_of_ble_eq_true rfl) d_Tok_skip_109 ⟨Nat.le_of_ble_eq_true rfl, Nat.le_of_ble_eq_true rfl⟩) hw hA (fun v49 p48 H locs hp48 hw => ?_) | refine px_calli (pr := []) (px_runV (As := [.int z47]) (rest := []) S (c_t2_byteAt l D cs h r tp tb g f_4 a_4 z47  (show TokOk (f_4 7) (f_4 8) (f_4 10) (f_4 11) (f_4 12) (f_4 13) (f_4 17) (a_4 4) from ⟨⟨by first | exact o1 | omega, by first | exact o2 | omega⟩, ⟨by first | exact o3 | omega, by first | exact o4 | omega⟩, ⟨by first | exact o5 | omega, by first | exact o6 | omega⟩, ⟨by first | exact o7 | omega, by first | exact o8 | omega⟩, ⟨by first | exact o9 | omega, by first | exact o10 | omega⟩, ⟨by first | exact o11 | omega, by first | exact o12 | omega⟩, by first | exact o13 | omega, hn4⟩) _) hT (pr := []) (pcs := [wd_Tok cs h r (fun _ => some tp) f_4 a_4 g, [(tp, .inl (cs 1, 2048, .inl tb))]]) hw px_X.tt (px_recv hT hw 0 0 rfl rfl rfl) m3_186 m3_183 m3_185 ms_1_6 m1_2 q_Tok_byteAt ⟨Nat.le_of_ble_eq_true rfl, Nat.le_of_ble_eq_true rfl⟩ hl.1 rfl (Nat.le_of_ble_eq_true rfl) d_Tok_skip_109 ⟨Nat.le_of_ble_eq_true rfl, Nat.le_of_ble_eq_true rfl⟩) hw hA (fun v49 p48 H locs hp48 hw => ?_)
                      obtain ⟨rfl, e50, e51, e52, e53, e54⟩ := hp48
                      have e50 : -1 ≤ v49.toInt := e50
                      have e51 : v49.toInt ≤ 255 := e51
                      have e52 : 0 ≤ v49.toInt → 0 ≤ z47.toInt ∧ z47.toInt < (f_4 7).toInt := e52
                      have e53 : By tb (f_4 7) z47 v49 := e53
                      have e54 : R_t2_byteAt tb f_4 z47 v49 := e54
                      have lv49 := Int32.le_toInt v49
                      have uv49 := Int32.toInt_lt v49
                      refine lv_bipush (v := 42) S.x S.b d_Tok_skip_112 (by decide) ?_
                      refine lv_icmp_ne (tgt := 123) S.x S.b d_Tok_skip_114 (by decide) (fun c55 => ?_) (fun c55 => ?_)
                      · have nc55 : ¬ v49.toInt = (42 : Int) := mt (i_eq (x := v49) (y := 42)).mpr c55
                        refine lv_iload S.x S.b d_Tok_skip_123 (lv_at hl 0 rfl) ?_
                        refine lv_aload_n S.x S.b d_Tok_skip_125 rfl (lv_at hl 2 rfl) ?_
                        refine px_get S k_Tok hT hw 0 0 8 (v := .int (f_4 8)) rfl rfl rfl (by decide) m1_111 d_Tok_skip_126 ?_
                        refine lv_icmp_le (tgt := 136) S.x S.b d_Tok_skip_129 (by decide) (fun c57 => ?_) (fun c57 => ?_)
                        · have nc57 : (f_4 8).toInt ≤ (f_4 8).toInt := (i_le (x := (f_4 8)) (y := (f_4 8))).mp c57
                          refine lv_iconst (v := 0) S.x S.b d_Tok_skip_136 (by decide) ?_
                          refine lv_istore_n (lv' := [(1, .int 0), (4, .int (f_4 8)), (3, .int v6), (0, .ref h), (2, .int x4_2)]) S.x S.b d_Tok_skip_137 rfl hl (by decide) rfl (fun ls hl => ?_)
                          refine lv_aload_n S.x S.b d_Tok_skip_138 rfl (lv_at hl 3 rfl) ?_
                          refine lv_iload S.x S.b d_Tok_skip_139 (lv_at hl 1 rfl) ?_
                          refine px_put S k_Tok hT hw 0 0 8 rfl rfl (by decide) m1_111 rfl rfl rfl (Nat.le_of_ble_eq_true rfl) d_Tok_skip_141 (w' := wd_Tok cs h r (fun _ => some tp) (upd f_4 8 (f_4 8)) a_4 g) (ps' := [wd_Tok cs h r (fun _ => some tp) (upd f_4 8 (f_4 8)) a_4 g, [(tp, .inl (cs 1, 2048, .inl tb))]]) rfl rfl (fun H locs hw => ?_)
                          obtain ⟨z59, ez59⟩ : ∃ y : Int32, y = x4_2 + 1 := ⟨_, rfl⟩
                          have tz59 : z59.toInt = (x4_2.toInt + 1 + 2147483648) % 4294967296 - 2147483648 := by rw [ez59]; exact i_add x4_2 1
                          have lz59 := Int32.le_toInt z59
                          have uz59 := Int32.toInt_lt z59
                          try replace tz59 : z59.toInt = x4_2.toInt + 1 := by omega
                          refine lv_iinc (v := z59) (lv' := [(2, .int z59), (1, .int 0), (4, .int (f_4 8)), (3, .int v6), (0, .ref h)]) S.x S.b d_Tok_skip_144 hl (k := 4) rfl (by rw [ez59]; rfl) (by decide) rfl (fun ls hl => ?_)
                          refine lv_goto (tgt := 4) S.x S.b d_Tok_skip_147 (by decide) ?_
                          first | exact ih4 (upd f_4 8 (f_4 8)) a_4 (0 : Int32) z59 _ _ ls (show TokOk (f_4 7) (f_4 8) (f_4 10) (f_4 11) (f_4 12) (f_4 13) (f_4 17) (a_4 4) from ⟨⟨o1, o2⟩, ⟨o3, o4⟩, ⟨o5, o6⟩, ⟨o7, o8⟩, ⟨o9, o10⟩, ⟨o11, o12⟩, o13, hn4⟩) (show (f_4 7).toInt = (f 7).toInt from k4_0) (show (f_4 10).toInt = (f 10).toInt from k4_1) (show (f_4 15).toInt = (f 15).toInt from k4_2) (show (f 8).toInt ≤ (f_4 8).toInt from k4_3) (show 0 ≤ z59.toInt from (oz_ae613611c0 tz59 k4_4)) (show z59.toInt ≤ (f_4 7).toInt+1 from (oz_0c5335350d nc1 tz59)) (show Q5 (a_4 5) from hq5) (show K_t2_skip_4 tb f a (upd f_4 8 (f_4 8)) a_4 0 z59 from (fun y_f0 y_f1 k hE => k4_7 y_f0 y_f1 (k + 1) (Or.inr (Or.inl ⟨rfl, x4_1, x4_2, rfl, rfl, rfl, rfl, rfl, Or.inr ⟨nc1, Or.inr ⟨nc3, v6, e11, Or.inr ⟨nc12, Or.inr ⟨nc20, Or.inr ⟨nc28, Or.inl ⟨nc36, Or.inl ⟨nc38, Or.inr ⟨nc40, z47, ez47, v49, e54, Or.inl ⟨nc55, Or.inl ⟨nc57, z59, ez59, hE⟩⟩⟩⟩⟩⟩⟩⟩⟩⟩⟩)))) (show (f_4 7).toInt+2-z59.toInt < (n_4 : Int) from (oz_1a25760b21 hm tz59)) hw (lv_sub hl [4, 1, 0] rfl) | exact ih4 (upd f_4 8 (f_4 8)) a_4 (0 : Int32) z59 _ _ ls (show TokOk (f_4 7) (f_4 8) (f_4 10) (f_4 11) (f_4 12) (f_4 13) (f_4 17) (a_4 4) from ⟨⟨by first | exact o1 | omega, by first | exact o2 | omega⟩, ⟨by first | exact o3 | omega, by first | exact o4 | omega⟩, ⟨by first | exact o5 | omega, by first | exact o6 | omega⟩, ⟨by first | exact o7 | omega, by first | exact o8 | omega⟩, ⟨by first | exact o9 | omega, by first | exact o10 | omega⟩, ⟨by first | exact o11 | omega, by first | exact o12 | omega⟩, by first | exact o13 | omega, hn4⟩) (show (f_4 7).toInt = (f 7).toInt from by first | exact k4_0 | omega) (show (f_4 10).toInt = (f 10).toInt from by first | exact k4_1 | omega) (show (f_4 15).toInt = (f 15).toInt from by first | exact k4_2 | omega) (show (f 8).toInt ≤ (f_4 8).toInt from by first | exact k4_3 | omega) (show 0 ≤ z59.toInt from by first | exact oz_ae613611c0 tz59 k4_4 | omega) (show z59.toInt ≤ (f_4 7).toInt+1 from by first | exact oz_0c5335350d nc1 tz59 | omega) (show Q5 (a_4 5) from hq5) (show K_t2_skip_4 tb f a (upd f_4 8 (f_4 8)) a_4 0 z59 from (fun y_f0 y_f1 k hE => k4_7 y_f0 y_f1 (k + 1) (Or.inr (Or.inl ⟨rfl, x4_1, x4_2, rfl, rfl, rfl, rfl, rfl, Or.inr ⟨nc1, Or.inr ⟨nc3, v6, e11, Or.inr ⟨nc12, Or.inr ⟨nc20, Or.inr ⟨nc28, Or.inl ⟨nc36, Or.inl ⟨nc38, Or.inr ⟨nc40, z47, ez47, v49, e54, Or.inl ⟨nc55, Or.inl ⟨nc57, z59, ez59, hE⟩⟩⟩⟩⟩⟩⟩⟩⟩⟩⟩)))) (show (f_4 7).toInt+2-z59.toInt < (n_4 : Int) from by first | exact oz_1a25760b21 hm tz59 | omega) hw (lv_sub hl [4, 1, 0] rfl)
                        · have nc57 : ¬ (f_4 8).toInt ≤ (f_4 8).toInt := mt (i_le (x := (f_4 8)) (y := (f_4 8))).mpr c57
                          refine lv_iconst (v := 1) S.x S.b d_Tok_skip_132 (by decide) ?_
                          refine lv_goto (tgt := 137) S.x S.b d_Tok_skip_133 (by decide) ?_
                          refine lv_istore_n (lv' := [(1, .int 1), (4, .int (f_4 8)), (3, .int v6), (0, .ref h), (2, .int x4_2)]) S.x S.b d_Tok_skip_137 rfl hl (by decide) rfl (fun ls hl => ?_)
                          refine lv_aload_n S.x S.b d_Tok_skip_138 rfl (lv_at hl 3 rfl) ?_
                          refine lv_iload S.x S.b d_Tok_skip_139 (lv_at hl 1 rfl) ?_
                          refine px_put S k_Tok hT hw 0 0 8 rfl rfl (by decide) m1_111 rfl rfl rfl (Nat.le_of_ble_eq_true rfl) d_Tok_skip_141 (w' := wd_Tok cs h r (fun _ => some tp) (upd f_4 8 (f_4 8)) a_4 g) (ps' := [wd_Tok cs h r (fun _ => some tp) (upd f_4 8 (f_4 8)) a_4 g, [(tp, .inl (cs 1, 2048, .inl tb))]]) rfl rfl (fun H locs hw => ?_)
                          obtain ⟨z60, ez60⟩ : ∃ y : Int32, y = x4_2 + 1 := ⟨_, rfl⟩
                          have tz60 : z60.toInt = (x4_2.toInt + 1 + 2147483648) % 4294967296 - 2147483648 := by rw [ez60]; exact i_add x4_2 1
                          have lz60 := Int32.le_toInt z60
                          have uz60 := Int32.toInt_lt z60
                          try replace tz60 : z60.toInt = x4_2.toInt + 1 := by omega
                          refine lv_iinc (v := z60) (lv' := [(2, .int z60), (1, .int 1), (4, .int (f_4 8)), (3, .int v6), (0, .ref h)]) S.x S.b d_Tok_skip_144 hl (k := 4) rfl (by rw [ez60]; rfl) (by decide) rfl (fun ls hl => ?_)
                          refine lv_goto (tgt := 4) S.x S.b d_Tok_skip_147 (by decide) ?_
                          first | exact ih4 (upd f_4 8 (f_4 8)) a_4 (1 : Int32) z60 _ _ ls (show TokOk (f_4 7) (f_4 8) (f_4 10) (f_4 11) (f_4 12) (f_4 13) (f_4 17) (a_4 4) from ⟨⟨o1, o2⟩, ⟨o3, o4⟩, ⟨o5, o6⟩, ⟨o7, o8⟩, ⟨o9, o10⟩, ⟨o11, o12⟩, o13, hn4⟩) (show (f_4 7).toInt = (f 7).toInt from k4_0) (show (f_4 10).toInt = (f 10).toInt from k4_1) (show (f_4 15).toInt = (f 15).toInt from k4_2) (show (f 8).toInt ≤ (f_4 8).toInt from k4_3) (show 0 ≤ z60.toInt from (oz_ae613611c0 tz60 k4_4)) (show z60.toInt ≤ (f_4 7).toInt+1 from (oz_0c5335350d nc1 tz60)) (show Q5 (a_4 5) from hq5) (show K_t2_skip_4 tb f a (upd f_4 8 (f_4 8)) a_4 1 z60 from (fun y_f0 y_f1 k hE => k4_7 y_f0 y_f1 (k + 1) (Or.inr (Or.inl ⟨rfl, x4_1, x4_2, rfl, rfl, rfl, rfl, rfl, Or.inr ⟨nc1, Or.inr ⟨nc3, v6, e11, Or.inr ⟨nc12, Or.inr ⟨nc20, Or.inr ⟨nc28, Or.inl ⟨nc36, Or.inl ⟨nc38, Or.inr ⟨nc40, z47, ez47, v49, e54, Or.inl ⟨nc55, Or.inr ⟨nc57, z60, ez60, hE⟩⟩⟩⟩⟩⟩⟩⟩⟩⟩⟩)))) (show (f_4 7).toInt+2-z60.toInt < (n_4 : Int) from (oz_1a25760b21 hm tz60)) hw (lv_sub hl [4, 1, 0] rfl) | exact ih4 (upd f_4 8 (f_4 8)) a_4 (1 : Int32) z60 _ _ ls (show TokOk (f_4 7) (f_4 8) (f_4 10) (f_4 11) (f_4 12) (f_4 13) (f_4 17) (a_4 4) from ⟨⟨by first | exact o1 | omega, by first | exact o2 | omega⟩, ⟨by first | exact o3 | omega, by first | exact o4 | omega⟩, ⟨by first | exact o5 | omega, by first | exact o6 | omega⟩, ⟨by first | exact o7 | omega, by first | exact o8 | omega⟩, ⟨by first | exact o9 | omega, by first | exact o10 | omega⟩, ⟨by first | exact o11 | omega, by first | exact o12 | omega⟩, by first | exact o13 | omega, hn4⟩) (show (f_4 7).toInt = (f 7).toInt from by first | exact k4_0 | omega) (show (f_4 10).toInt = (f 10).toInt from by first | exact k4_1 | omega) (show (f_4 15).toInt = (f 15).toInt from by first | exact k4_2 | omega) (show (f 8).toInt ≤ (f_4 8).toInt from by first | exact k4_3 | omega) (show 0 ≤ z60.toInt from by first | exact oz_ae613611c0 tz60 k4_4 | omega) (show z60.toInt ≤ (f_4 7).toInt+1 from by first | exact oz_0c5335350d nc1 tz60 | omega) (show Q5 (a_4 5) from hq5) (show K_t2_skip_4 tb f a (upd f_4 8 (f_4 8)) a_4 1 z60 from (fun y_f0 y_f1 k hE => k4_7 y_f0 y_f1 (k + 1) (Or.inr (Or.inl ⟨rfl, x4_1, x4_2, rfl, rfl, rfl, rfl, rfl, Or.inr ⟨nc1, Or.inr ⟨nc3, v6, e11, Or.inr ⟨nc12, Or.inr ⟨nc20, Or.inr ⟨nc28, Or.inl ⟨nc36, Or.inl ⟨nc38, Or.inr ⟨nc40, z47, ez47, v49, e54, Or.inl ⟨nc55, Or.inr ⟨nc57, z60, ez60, hE⟩⟩⟩⟩⟩⟩⟩⟩⟩⟩⟩)))) (show (f_4 7).toInt+2-z60.toInt < (n_4 : Int) from by first | exact oz_1a25760b21 hm tz60 | omega) hw (lv_sub hl [4, 1, 0] rfl)
                      · have nc55 : v49.toInt = (42 : Int) := (i_eq (x := v49) (y := 42)).mp c55
                        refine lv_aload_n S.x S.b d_Tok_skip_117 rfl (lv_at hl 2 rfl) ?_
                        first | refine px_calli (pr := []) (px_runV (As := []) (rest := []) S (c_t2_commentEnd l D cs h r tp tb g f_4 a_4   (show TokOk (f_4 7) (f_4 8) (f_4 10) (f_4 11) (f_4 12) (f_4 13) (f_4 17) (a_4 4) from ⟨⟨o1, o2⟩, ⟨o3, o4⟩, ⟨o5, o6⟩, ⟨o7, o8⟩, ⟨o9, o10⟩, ⟨o11, o12⟩, o13, hn4⟩) _) hT (pr := []) (pcs := [wd_Tok cs h r (fun _ => some tp) f_4 a_4 g, [(tp, .inl (cs 1, 2048, .inl tb))]]) hw px_X.tt (px_recv hT hw 0 0 rfl rfl rfl) m3_194 m3_191 m3_193 ms_1_8 m1_2 q_Tok_commentEnd ⟨Nat.le_of_ble_eq_true rfl, Nat.le_of_ble_eq_true rfl⟩ hl.1 rfl (Nat.le_of_ble_eq_true rfl) d_Tok_skip_118 ⟨Nat.le_of_ble_eq_true rfl, Nat.le_of_ble_eq_true rfl⟩) hw hA (fun v62 p61 H locs hp61 hw => ?_) | refine px_calli (pr := []) (px_runV (As := []) (rest := []) S (c_t2_commentEnd l D cs h r tp tb g f_4 a_4   (show TokOk (f_4 7) (f_4 8) (f_4 10) (f_4 11) (f_4 12) (f_4 13) (f_4 17) (a_4 4) from ⟨⟨by first | exact o1 | omega, by first | exact o2 | omega⟩, ⟨by first | exact o3 | omega, by first | exact o4 | omega⟩, ⟨by first | exact o5 | omega, by first | exact o6 | omega⟩, ⟨by first | exact o7 | omega, by first | exact o8 | omega⟩, ⟨by first | exact o9 | omega, by first | exact o10 | omega⟩, ⟨by first | exact o11 | omega, by first | exact o12 | omega⟩, by first | exact o13 | omega, hn4⟩) _) hT (pr := []) (pcs := [wd_Tok cs h r (fun _ => some tp) f_4 a_4 g, [(tp, .inl (cs 1, 2048, .inl tb))]]) hw px_X.tt (px_recv hT hw 0 0 rfl rfl rfl) m3_194 m3_191 m3_193 ms_1_8 m1_2 q_Tok_commentEnd ⟨Nat.le_of_ble_eq_true rfl, Nat.le_of_ble_eq_true rfl⟩ hl.1 rfl (Nat.le_of_ble_eq_true rfl) d_Tok_skip_118 ⟨Nat.le_of_ble_eq_true rfl, Nat.le_of_ble_eq_true rfl⟩) hw hA (fun v62 p61 H locs hp61 hw => ?_)
                        obtain ⟨rfl, e63, e64, e65, e66⟩ := hp61
                        have e63 : 0 ≤ v62.toInt := e63
                        have e64 : v62.toInt ≤ (f_4 7).toInt+8 := e64
                        have e65 : (f_4 8).toInt ≤ v62.toInt := e65
                        have e66 : R_t2_commentEnd tb f_4 v62 := e66
                        have lv62 := Int32.le_toInt v62
                        have uv62 := Int32.toInt_lt v62
                        refine lv_istore (lv' := [(4, .int v62), (3, .int v6), (0, .ref h), (1, .int x4_1), (2, .int x4_2)]) S.x S.b d_Tok_skip_121 hl (by decide) rfl (fun ls hl => ?_)
                        refine lv_iload S.x S.b d_Tok_skip_123 (lv_at hl 0 rfl) ?_
                        refine lv_aload_n S.x S.b d_Tok_skip_125 rfl (lv_at hl 2 rfl) ?_
                        refine px_get S k_Tok hT hw 0 0 8 (v := .int (f_4 8)) rfl rfl rfl (by decide) m1_111 d_Tok_skip_126 ?_
                        refine lv_icmp_le (tgt := 136) S.x S.b d_Tok_skip_129 (by decide) (fun c67 => ?_) (fun c67 => ?_)
                        · have nc67 : v62.toInt ≤ (f_4 8).toInt := (i_le (x := v62) (y := (f_4 8))).mp c67
                          refine lv_iconst (v := 0) S.x S.b d_Tok_skip_136 (by decide) ?_
                          refine lv_istore_n (lv' := [(1, .int 0), (4, .int v62), (3, .int v6), (0, .ref h), (2, .int x4_2)]) S.x S.b d_Tok_skip_137 rfl hl (by decide) rfl (fun ls hl => ?_)
                          refine lv_aload_n S.x S.b d_Tok_skip_138 rfl (lv_at hl 3 rfl) ?_
                          refine lv_iload S.x S.b d_Tok_skip_139 (lv_at hl 1 rfl) ?_
                          refine px_put S k_Tok hT hw 0 0 8 rfl rfl (by decide) m1_111 rfl rfl rfl (Nat.le_of_ble_eq_true rfl) d_Tok_skip_141 (w' := wd_Tok cs h r (fun _ => some tp) (upd f_4 8 v62) a_4 g) (ps' := [wd_Tok cs h r (fun _ => some tp) (upd f_4 8 v62) a_4 g, [(tp, .inl (cs 1, 2048, .inl tb))]]) rfl rfl (fun H locs hw => ?_)
                          obtain ⟨z69, ez69⟩ : ∃ y : Int32, y = x4_2 + 1 := ⟨_, rfl⟩
                          have tz69 : z69.toInt = (x4_2.toInt + 1 + 2147483648) % 4294967296 - 2147483648 := by rw [ez69]; exact i_add x4_2 1
                          have lz69 := Int32.le_toInt z69
                          have uz69 := Int32.toInt_lt z69
                          try replace tz69 : z69.toInt = x4_2.toInt + 1 := by omega
                          refine lv_iinc (v := z69) (lv' := [(2, .int z69), (1, .int 0), (4, .int v62), (3, .int v6), (0, .ref h)]) S.x S.b d_Tok_skip_144 hl (k := 4) rfl (by rw [ez69]; rfl) (by decide) rfl (fun ls hl => ?_)
                          refine lv_goto (tgt := 4) S.x S.b d_Tok_skip_147 (by decide) ?_
                          first | exact ih4 (upd f_4 8 v62) a_4 (0 : Int32) z69 _ _ ls (show TokOk (f_4 7) v62 (f_4 10) (f_4 11) (f_4 12) (f_4 13) (f_4 17) (a_4 4) from ⟨⟨o1, o2⟩, ⟨e63, (oz_8908a45630 e64)⟩, ⟨o5, o6⟩, ⟨o7, o8⟩, ⟨o9, o10⟩, ⟨o11, o12⟩, o13, hn4⟩) (show (f_4 7).toInt = (f 7).toInt from k4_0) (show (f_4 10).toInt = (f 10).toInt from k4_1) (show (f_4 15).toInt = (f 15).toInt from k4_2) (show (f 8).toInt ≤ v62.toInt from (oz_be764f19f0 k4_3 e65)) (show 0 ≤ z69.toInt from (oz_ae613611c0 tz69 k4_4)) (show z69.toInt ≤ (f_4 7).toInt+1 from (oz_0c5335350d nc1 tz69)) (show Q5 (a_4 5) from hq5) (show K_t2_skip_4 tb f a (upd f_4 8 v62) a_4 0 z69 from (fun y_f0 y_f1 k hE => k4_7 y_f0 y_f1 (k + 1) (Or.inr (Or.inl ⟨rfl, x4_1, x4_2, rfl, rfl, rfl, rfl, rfl, Or.inr ⟨nc1, Or.inr ⟨nc3, v6, e11, Or.inr ⟨nc12, Or.inr ⟨nc20, Or.inr ⟨nc28, Or.inl ⟨nc36, Or.inl ⟨nc38, Or.inr ⟨nc40, z47, ez47, v49, e54, Or.inr ⟨nc55, v62, e66, Or.inl ⟨nc67, z69, ez69, hE⟩⟩⟩⟩⟩⟩⟩⟩⟩⟩⟩)))) (show (f_4 7).toInt+2-z69.toInt < (n_4 : Int) from (oz_1a25760b21 hm tz69)) hw (lv_sub hl [4, 1, 0] rfl) | exact ih4 (upd f_4 8 v62) a_4 (0 : Int32) z69 _ _ ls (show TokOk (f_4 7) v62 (f_4 10) (f_4 11) (f_4 12) (f_4 13) (f_4 17) (a_4 4) from ⟨⟨by first | exact o1 | omega, by first | exact o2 | omega⟩, ⟨by first | exact e63 | omega, by first | exact oz_8908a45630 e64 | omega⟩, ⟨by first | exact o5 | omega, by first | exact o6 | omega⟩, ⟨by first | exact o7 | omega, by first | exact o8 | omega⟩, ⟨by first | exact o9 | omega, by first | exact o10 | omega⟩, ⟨by first | exact o11 | omega, by first | exact o12 | omega⟩, by first | exact o13 | omega, hn4⟩) (show (f_4 7).toInt = (f 7).toInt from by first | exact k4_0 | omega) (show (f_4 10).toInt = (f 10).toInt from by first | exact k4_1 | omega) (show (f_4 15).toInt = (f 15).toInt from by first | exact k4_2 | omega) (show (f 8).toInt ≤ v62.toInt from by first | exact oz_be764f19f0 k4_3 e65 | omega) (show 0 ≤ z69.toInt from by first | exact oz_ae613611c0 tz69 k4_4 | omega) (show z69.toInt ≤ (f_4 7).toInt+1 from by first | exact oz_0c5335350d nc1 tz69 | omega) (show Q5 (a_4 5) from hq5) (show K_t2_skip_4 tb f a (upd f_4 8 v62) a_4 0 z69 from (fun y_f0 y_f1 k hE => k4_7 y_f0 y_f1 (k + 1) (Or.inr (Or.inl ⟨rfl, x4_1, x4_2, rfl, rfl, rfl, rfl, rfl, Or.inr ⟨nc1, Or.inr ⟨nc3, v6, e11, Or.inr ⟨nc12, Or.inr ⟨nc20, Or.inr ⟨nc28, Or.inl ⟨nc36, Or.inl ⟨nc38, Or.inr ⟨nc40, z47, ez47, v49, e54, Or.inr ⟨nc55, v62, e66, Or.inl ⟨nc67, z69, ez69, hE⟩⟩⟩⟩⟩⟩⟩⟩⟩⟩⟩)))) (show (f_4 7).toInt+2-z69.toInt < (n_4 : Int) from by first | exact oz_1a25760b21 hm tz69 | omega) hw (lv_sub hl [4, 1, 0] rfl)
                        · have nc67 : ¬ v62.toInt ≤ (f_4 8).toInt := mt (i_le (x := v62) (y := (f_4 8))).mpr c67
                          refine lv_iconst (v := 1) S.x S.b d_Tok_skip_132 (by decide) ?_
                          refine lv_goto (tgt := 137) S.x S.b d_Tok_skip_133 (by decide) ?_
                          refine lv_istore_n (lv' := [(1, .int 1), (4, .int v62), (3, .int v6), (0, .ref h), (2, .int x4_2)]) S.x S.b d_Tok_skip_137 rfl hl (by decide) rfl (fun ls hl => ?_)
                          refine lv_aload_n S.x S.b d_Tok_skip_138 rfl (lv_at hl 3 rfl) ?_
                          refine lv_iload S.x S.b d_Tok_skip_139 (lv_at hl 1 rfl) ?_
                          refine px_put S k_Tok hT hw 0 0 8 rfl rfl (by decide) m1_111 rfl rfl rfl (Nat.le_of_ble_eq_true rfl) d_Tok_skip_141 (w' := wd_Tok cs h r (fun _ => some tp) (upd f_4 8 v62) a_4 g) (ps' := [wd_Tok cs h r (fun _ => some tp) (upd f_4 8 v62) a_4 g, [(tp, .inl (cs 1, 2048, .inl tb))]]) rfl rfl (fun H locs hw => ?_)
                          obtain ⟨z70, ez70⟩ : ∃ y : Int32, y = x4_2 + 1 := ⟨_, rfl⟩
                          have tz70 : z70.toInt = (x4_2.toInt + 1 + 2147483648) % 4294967296 - 2147483648 := by rw [ez70]; exact i_add x4_2 1
                          have lz70 := Int32.le_toInt z70
                          have uz70 := Int32.toInt_lt z70
                          try replace tz70 : z70.toInt = x4_2.toInt + 1 := by omega
                          refine lv_iinc (v := z70) (lv' := [(2, .int z70), (1, .int 1), (4, .int v62), (3, .int v6), (0, .ref h)]) S.x S.b d_Tok_skip_144 hl (k := 4) rfl (by rw [ez70]; rfl) (by decide) rfl (fun ls hl => ?_)
                          refine lv_goto (tgt := 4) S.x S.b d_Tok_skip_147 (by decide) ?_
                          first | exact ih4 (upd f_4 8 v62) a_4 (1 : Int32) z70 _ _ ls (show TokOk (f_4 7) v62 (f_4 10) (f_4 11) (f_4 12) (f_4 13) (f_4 17) (a_4 4) from ⟨⟨o1, o2⟩, ⟨e63, (oz_8908a45630 e64)⟩, ⟨o5, o6⟩, ⟨o7, o8⟩, ⟨o9, o10⟩, ⟨o11, o12⟩, o13, hn4⟩) (show (f_4 7).toInt = (f 7).toInt from k4_0) (show (f_4 10).toInt = (f 10).toInt from k4_1) (show (f_4 15).toInt = (f 15).toInt from k4_2) (show (f 8).toInt ≤ v62.toInt from (oz_fbfdb238f4 k4_3 nc67)) (show 0 ≤ z70.toInt from (oz_ae613611c0 tz70 k4_4)) (show z70.toInt ≤ (f_4 7).toInt+1 from (oz_0c5335350d nc1 tz70)) (show Q5 (a_4 5) from hq5) (show K_t2_skip_4 tb f a (upd f_4 8 v62) a_4 1 z70 from (fun y_f0 y_f1 k hE => k4_7 y_f0 y_f1 (k + 1) (Or.inr (Or.inl ⟨rfl, x4_1, x4_2, rfl, rfl, rfl, rfl, rfl, Or.inr ⟨nc1, Or.inr ⟨nc3, v6, e11, Or.inr ⟨nc12, Or.inr ⟨nc20, Or.inr ⟨nc28, Or.inl ⟨nc36, Or.inl ⟨nc38, Or.inr ⟨nc40, z47, ez47, v49, e54, Or.inr ⟨nc55, v62, e66, Or.inr ⟨nc67, z70, ez70, hE⟩⟩⟩⟩⟩⟩⟩⟩⟩⟩⟩)))) (show (f_4 7).toInt+2-z70.toInt < (n_4 : Int) from (oz_1a25760b21 hm tz70)) hw (lv_sub hl [4, 1, 0] rfl) | exact ih4 (upd f_4 8 v62) a_4 (1 : Int32) z70 _ _ ls (show TokOk (f_4 7) v62 (f_4 10) (f_4 11) (f_4 12) (f_4 13) (f_4 17) (a_4 4) from ⟨⟨by first | exact o1 | omega, by first | exact o2 | omega⟩, ⟨by first | exact e63 | omega, by first | exact oz_8908a45630 e64 | omega⟩, ⟨by first | exact o5 | omega, by first | exact o6 | omega⟩, ⟨by first | exact o7 | omega, by first | exact o8 | omega⟩, ⟨by first | exact o9 | omega, by first | exact o10 | omega⟩, ⟨by first | exact o11 | omega, by first | exact o12 | omega⟩, by first | exact o13 | omega, hn4⟩) (show (f_4 7).toInt = (f 7).toInt from by first | exact k4_0 | omega) (show (f_4 10).toInt = (f 10).toInt from by first | exact k4_1 | omega) (show (f_4 15).toInt = (f 15).toInt from by first | exact k4_2 | omega) (show (f 8).toInt ≤ v62.toInt from by first | exact oz_fbfdb238f4 k4_3 nc67 | omega) (show 0 ≤ z70.toInt from by first | exact oz_ae613611c0 tz70 k4_4 | omega) (show z70.toInt ≤ (f_4 7).toInt+1 from by first | exact oz_0c5335350d nc1 tz70 | omega) (show Q5 (a_4 5) from hq5) (show K_t2_skip_4 tb f a (upd f_4 8 v62) a_4 1 z70 from (fun y_f0 y_f1 k hE => k4_7 y_f0 y_f1 (k + 1) (Or.inr (Or.inl ⟨rfl, x4_1, x4_2, rfl, rfl, rfl, rfl, rfl, Or.inr ⟨nc1, Or.inr ⟨nc3, v6, e11, Or.inr ⟨nc12, Or.inr ⟨nc20, Or.inr ⟨nc28, Or.inl ⟨nc36, Or.inl ⟨nc38, Or.inr ⟨nc40, z47, ez47, v49, e54, Or.inr ⟨nc55, v62, e66, Or.inr ⟨nc67, z70, ez70, hE⟩⟩⟩⟩⟩⟩⟩⟩⟩⟩⟩)))) (show (f_4 7).toInt+2-z70.toInt < (n_4 : Int) from by first | exact oz_1a25760b21 hm tz70 | omega) hw (lv_sub hl [4, 1, 0] rfl)
                  · have nc38 : v6.toInt = (47 : Int) := (i_eq (x := v6) (y := 47)).mp c38
                    refine lv_aload_n S.x S.b d_Tok_skip_72 rfl (lv_at hl 2 rfl) ?_
                    refine lv_aload_n S.x S.b d_Tok_skip_73 rfl (lv_at hl 2 rfl) ?_
                    refine px_get S k_Tok hT hw 0 0 8 (v := .int (f_4 8)) rfl rfl rfl (by decide) m1_111 d_Tok_skip_74 ?_
                    refine lv_iconst (v := 1) S.x S.b d_Tok_skip_77 (by decide) ?_
                    refine lv_iadd S.x S.b d_Tok_skip_78 ?_
                    have lr71 := Int32.le_toInt (f_4 8)
                    have ur71 := Int32.toInt_lt (f_4 8)
                    refine lv_topi (fun z72 ez72 => ?_)
                    have tz72 : z72.toInt = ((f_4 8).toInt + (1 : Int) + 2147483648) % 4294967296 - 2147483648 := by rw [ez72]; exact i_add (f_4 8) 1
                    have lz72 := Int32.le_toInt z72
                    have uz72 := Int32.toInt_lt z72
                    try replace tz72 : z72.toInt = (f_4 8).toInt + (1 : Int) := by omega
                    first | refine px_calli (pr := []) (px_runV (As := [.int z72]) (rest := []) S (c_t2_byteAt l D cs h r tp tb g f_4 a_4 z72  (show TokOk (f_4 7) (f_4 8) (f_4 10) (f_4 11) (f_4 12) (f_4 13) (f_4 17) (a_4 4) from ⟨⟨o1, o2⟩, ⟨o3, o4⟩, ⟨o5, o6⟩, ⟨o7, o8⟩, ⟨o9, o10⟩, ⟨o11, o12⟩, o13, hn4⟩) _) hT (pr := []) (pcs := [wd_Tok cs h r (fun _ => some tp) f_4 a_4 g, [(tp, .inl (cs 1, 2048, .inl tb))]]) hw px_X.tt (px_recv hT hw 0 0 rfl rfl rfl) m3_186 m3_183 m3_185 ms_1_6 m1_2 q_Tok_byteAt ⟨Nat.le_of_ble_eq_true rfl, Nat.le_of_ble_eq_true rfl⟩ hl.1 rfl (Nat.le_of_ble_eq_true rfl) d_Tok_skip_79 ⟨Nat.le_of_ble_eq_true rfl, Nat.le_of_ble_eq_true rfl⟩) hw hA (fun v74 p73 H locs hp73 hw => ?_) | refine px_calli (pr := []) (px_runV (As := [.int z72]) (rest := []) S (c_t2_byteAt l D cs h r tp tb g f_4 a_4 z72  (show TokOk (f_4 7) (f_4 8) (f_4 10) (f_4 11) (f_4 12) (f_4 13) (f_4 17) (a_4 4) from ⟨⟨by first | exact o1 | omega, by first | exact o2 | omega⟩, ⟨by first | exact o3 | omega, by first | exact o4 | omega⟩, ⟨by first | exact o5 | omega, by first | exact o6 | omega⟩, ⟨by first | exact o7 | omega, by first | exact o8 | omega⟩, ⟨by first | exact o9 | omega, by first | exact o10 | omega⟩, ⟨by first | exact o11 | omega, by first | exact o12 | omega⟩, by first | exact o13 | omega, hn4⟩) _) hT (pr := []) (pcs := [wd_Tok cs h r (fun _ => some tp) f_4 a_4 g, [(tp, .inl (cs 1, 2048, .inl tb))]]) hw px_X.tt (px_recv hT hw 0 0 rfl rfl rfl) m3_186 m3_183 m3_185 ms_1_6 m1_2 q_Tok_byteAt ⟨Nat.le_of_ble_eq_true rfl, Nat.le_of_ble_eq_true rfl⟩ hl.1 rfl (Nat.le_of_ble_eq_true rfl) d_Tok_skip_79 ⟨Nat.le_of_ble_eq_true rfl, Nat.le_of_ble_eq_true rfl⟩) hw hA (fun v74 p73 H locs hp73 hw => ?_)
                    obtain ⟨rfl, e75, e76, e77, e78, e79⟩ := hp73
                    have e75 : -1 ≤ v74.toInt := e75
                    have e76 : v74.toInt ≤ 255 := e76
                    have e77 : 0 ≤ v74.toInt → 0 ≤ z72.toInt ∧ z72.toInt < (f_4 7).toInt := e77
                    have e78 : By tb (f_4 7) z72 v74 := e78
                    have e79 : R_t2_byteAt tb f_4 z72 v74 := e79
                    have lv74 := Int32.le_toInt v74
                    have uv74 := Int32.toInt_lt v74
                    refine lv_bipush (v := 47) S.x S.b d_Tok_skip_82 (by decide) ?_
                    refine lv_icmp_ne (tgt := 96) S.x S.b d_Tok_skip_84 (by decide) (fun c80 => ?_) (fun c80 => ?_)
                    · have nc80 : ¬ v74.toInt = (47 : Int) := mt (i_eq (x := v74) (y := 47)).mpr c80
                      refine lv_iload_n S.x S.b d_Tok_skip_96 rfl (lv_at hl 1 rfl) ?_
                      refine lv_bipush (v := 47) S.x S.b d_Tok_skip_97 (by decide) ?_
                      refine lv_icmp_ne (tgt := 123) S.x S.b d_Tok_skip_99 (by decide) (fun c82 => ?_) (fun c82 => ?_)
                      · have nc82 : ¬ v6.toInt = (47 : Int) := mt (i_eq (x := v6) (y := 47)).mpr c82
                        refine lv_iload S.x S.b d_Tok_skip_123 (lv_at hl 0 rfl) ?_
                        refine lv_aload_n S.x S.b d_Tok_skip_125 rfl (lv_at hl 2 rfl) ?_
                        refine px_get S k_Tok hT hw 0 0 8 (v := .int (f_4 8)) rfl rfl rfl (by decide) m1_111 d_Tok_skip_126 ?_
                        refine lv_icmp_le (tgt := 136) S.x S.b d_Tok_skip_129 (by decide) (fun c84 => ?_) (fun c84 => ?_)
                        · have nc84 : (f_4 8).toInt ≤ (f_4 8).toInt := (i_le (x := (f_4 8)) (y := (f_4 8))).mp c84
                          refine lv_iconst (v := 0) S.x S.b d_Tok_skip_136 (by decide) ?_
                          refine lv_istore_n (lv' := [(1, .int 0), (4, .int (f_4 8)), (3, .int v6), (0, .ref h), (2, .int x4_2)]) S.x S.b d_Tok_skip_137 rfl hl (by decide) rfl (fun ls hl => ?_)
                          refine lv_aload_n S.x S.b d_Tok_skip_138 rfl (lv_at hl 3 rfl) ?_
                          refine lv_iload S.x S.b d_Tok_skip_139 (lv_at hl 1 rfl) ?_
                          refine px_put S k_Tok hT hw 0 0 8 rfl rfl (by decide) m1_111 rfl rfl rfl (Nat.le_of_ble_eq_true rfl) d_Tok_skip_141 (w' := wd_Tok cs h r (fun _ => some tp) (upd f_4 8 (f_4 8)) a_4 g) (ps' := [wd_Tok cs h r (fun _ => some tp) (upd f_4 8 (f_4 8)) a_4 g, [(tp, .inl (cs 1, 2048, .inl tb))]]) rfl rfl (fun H locs hw => ?_)
                          obtain ⟨z86, ez86⟩ : ∃ y : Int32, y = x4_2 + 1 := ⟨_, rfl⟩
                          have tz86 : z86.toInt = (x4_2.toInt + 1 + 2147483648) % 4294967296 - 2147483648 := by rw [ez86]; exact i_add x4_2 1
                          have lz86 := Int32.le_toInt z86
                          have uz86 := Int32.toInt_lt z86
                          try replace tz86 : z86.toInt = x4_2.toInt + 1 := by omega
                          refine lv_iinc (v := z86) (lv' := [(2, .int z86), (1, .int 0), (4, .int (f_4 8)), (3, .int v6), (0, .ref h)]) S.x S.b d_Tok_skip_144 hl (k := 4) rfl (by rw [ez86]; rfl) (by decide) rfl (fun ls hl => ?_)
                          refine lv_goto (tgt := 4) S.x S.b d_Tok_skip_147 (by decide) ?_
                          first | exact ih4 (upd f_4 8 (f_4 8)) a_4 (0 : Int32) z86 _ _ ls (show TokOk (f_4 7) (f_4 8) (f_4 10) (f_4 11) (f_4 12) (f_4 13) (f_4 17) (a_4 4) from ⟨⟨o1, o2⟩, ⟨o3, o4⟩, ⟨o5, o6⟩, ⟨o7, o8⟩, ⟨o9, o10⟩, ⟨o11, o12⟩, o13, hn4⟩) (show (f_4 7).toInt = (f 7).toInt from k4_0) (show (f_4 10).toInt = (f 10).toInt from k4_1) (show (f_4 15).toInt = (f 15).toInt from k4_2) (show (f 8).toInt ≤ (f_4 8).toInt from k4_3) (show 0 ≤ z86.toInt from (oz_ae613611c0 tz86 k4_4)) (show z86.toInt ≤ (f_4 7).toInt+1 from (oz_0c5335350d nc1 tz86)) (show Q5 (a_4 5) from hq5) (show K_t2_skip_4 tb f a (upd f_4 8 (f_4 8)) a_4 0 z86 from (fun y_f0 y_f1 k hE => k4_7 y_f0 y_f1 (k + 1) (Or.inr (Or.inl ⟨rfl, x4_1, x4_2, rfl, rfl, rfl, rfl, rfl, Or.inr ⟨nc1, Or.inr ⟨nc3, v6, e11, Or.inr ⟨nc12, Or.inr ⟨nc20, Or.inr ⟨nc28, Or.inl ⟨nc36, Or.inr ⟨nc38, z72, ez72, v74, e79, Or.inl ⟨nc80, Or.inl ⟨nc82, Or.inl ⟨nc84, z86, ez86, hE⟩⟩⟩⟩⟩⟩⟩⟩⟩⟩⟩)))) (show (f_4 7).toInt+2-z86.toInt < (n_4 : Int) from (oz_1a25760b21 hm tz86)) hw (lv_sub hl [4, 1, 0] rfl) | exact ih4 (upd f_4 8 (f_4 8)) a_4 (0 : Int32) z86 _ _ ls (show TokOk (f_4 7) (f_4 8) (f_4 10) (f_4 11) (f_4 12) (f_4 13) (f_4 17) (a_4 4) from ⟨⟨by first | exact o1 | omega, by first | exact o2 | omega⟩, ⟨by first | exact o3 | omega, by first | exact o4 | omega⟩, ⟨by first | exact o5 | omega, by first | exact o6 | omega⟩, ⟨by first | exact o7 | omega, by first | exact o8 | omega⟩, ⟨by first | exact o9 | omega, by first | exact o10 | omega⟩, ⟨by first | exact o11 | omega, by first | exact o12 | omega⟩, by first | exact o13 | omega, hn4⟩) (show (f_4 7).toInt = (f 7).toInt from by first | exact k4_0 | omega) (show (f_4 10).toInt = (f 10).toInt from by first | exact k4_1 | omega) (show (f_4 15).toInt = (f 15).toInt from by first | exact k4_2 | omega) (show (f 8).toInt ≤ (f_4 8).toInt from by first | exact k4_3 | omega) (show 0 ≤ z86.toInt from by first | exact oz_ae613611c0 tz86 k4_4 | omega) (show z86.toInt ≤ (f_4 7).toInt+1 from by first | exact oz_0c5335350d nc1 tz86 | omega) (show Q5 (a_4 5) from hq5) (show K_t2_skip_4 tb f a (upd f_4 8 (f_4 8)) a_4 0 z86 from (fun y_f0 y_f1 k hE => k4_7 y_f0 y_f1 (k + 1) (Or.inr (Or.inl ⟨rfl, x4_1, x4_2, rfl, rfl, rfl, rfl, rfl, Or.inr ⟨nc1, Or.inr ⟨nc3, v6, e11, Or.inr ⟨nc12, Or.inr ⟨nc20, Or.inr ⟨nc28, Or.inl ⟨nc36, Or.inr ⟨nc38, z72, ez72, v74, e79, Or.inl ⟨nc80, Or.inl ⟨nc82, Or.inl ⟨nc84, z86, ez86, hE⟩⟩⟩⟩⟩⟩⟩⟩⟩⟩⟩)))) (show (f_4 7).toInt+2-z86.toInt < (n_4 : Int) from by first | exact oz_1a25760b21 hm tz86 | omega) hw (lv_sub hl [4, 1, 0] rfl)
                        · have nc84 : ¬ (f_4 8).toInt ≤ (f_4 8).toInt := mt (i_le (x := (f_4 8)) (y := (f_4 8))).mpr c84
                          refine lv_iconst (v := 1) S.x S.b d_Tok_skip_132 (by decide) ?_
                          refine lv_goto (tgt := 137) S.x S.b d_Tok_skip_133 (by decide) ?_
                          refine lv_istore_n (lv' := [(1, .int 1), (4, .int (f_4 8)), (3, .int v6), (0, .ref h), (2, .int x4_2)]) S.x S.b d_Tok_skip_137 rfl hl (by decide) rfl (fun ls hl => ?_)
                          refine lv_aload_n S.x S.b d_Tok_skip_138 rfl (lv_at hl 3 rfl) ?_
                          refine lv_iload S.x S.b d_Tok_skip_139 (lv_at hl 1 rfl) ?_
                          refine px_put S k_Tok hT hw 0 0 8 rfl rfl (by decide) m1_111 rfl rfl rfl (Nat.le_of_ble_eq_true rfl) d_Tok_skip_141 (w' := wd_Tok cs h r (fun _ => some tp) (upd f_4 8 (f_4 8)) a_4 g) (ps' := [wd_Tok cs h r (fun _ => some tp) (upd f_4 8 (f_4 8)) a_4 g, [(tp, .inl (cs 1, 2048, .inl tb))]]) rfl rfl (fun H locs hw => ?_)
                          obtain ⟨z87, ez87⟩ : ∃ y : Int32, y = x4_2 + 1 := ⟨_, rfl⟩
                          have tz87 : z87.toInt = (x4_2.toInt + 1 + 2147483648) % 4294967296 - 2147483648 := by rw [ez87]; exact i_add x4_2 1
                          have lz87 := Int32.le_toInt z87
                          have uz87 := Int32.toInt_lt z87
                          try replace tz87 : z87.toInt = x4_2.toInt + 1 := by omega
                          refine lv_iinc (v := z87) (lv' := [(2, .int z87), (1, .int 1), (4, .int (f_4 8)), (3, .int v6), (0, .ref h)]) S.x S.b d_Tok_skip_144 hl (k := 4) rfl (by rw [ez87]; rfl) (by decide) rfl (fun ls hl => ?_)
                          refine lv_goto (tgt := 4) S.x S.b d_Tok_skip_147 (by decide) ?_
                          first | exact ih4 (upd f_4 8 (f_4 8)) a_4 (1 : Int32) z87 _ _ ls (show TokOk (f_4 7) (f_4 8) (f_4 10) (f_4 11) (f_4 12) (f_4 13) (f_4 17) (a_4 4) from ⟨⟨o1, o2⟩, ⟨o3, o4⟩, ⟨o5, o6⟩, ⟨o7, o8⟩, ⟨o9, o10⟩, ⟨o11, o12⟩, o13, hn4⟩) (show (f_4 7).toInt = (f 7).toInt from k4_0) (show (f_4 10).toInt = (f 10).toInt from k4_1) (show (f_4 15).toInt = (f 15).toInt from k4_2) (show (f 8).toInt ≤ (f_4 8).toInt from k4_3) (show 0 ≤ z87.toInt from (oz_ae613611c0 tz87 k4_4)) (show z87.toInt ≤ (f_4 7).toInt+1 from (oz_0c5335350d nc1 tz87)) (show Q5 (a_4 5) from hq5) (show K_t2_skip_4 tb f a (upd f_4 8 (f_4 8)) a_4 1 z87 from (fun y_f0 y_f1 k hE => k4_7 y_f0 y_f1 (k + 1) (Or.inr (Or.inl ⟨rfl, x4_1, x4_2, rfl, rfl, rfl, rfl, rfl, Or.inr ⟨nc1, Or.inr ⟨nc3, v6, e11, Or.inr ⟨nc12, Or.inr ⟨nc20, Or.inr ⟨nc28, Or.inl ⟨nc36, Or.inr ⟨nc38, z72, ez72, v74, e79, Or.inl ⟨nc80, Or.inl ⟨nc82, Or.inr ⟨nc84, z87, ez87, hE⟩⟩⟩⟩⟩⟩⟩⟩⟩⟩⟩)))) (show (f_4 7).toInt+2-z87.toInt < (n_4 : Int) from (oz_1a25760b21 hm tz87)) hw (lv_sub hl [4, 1, 0] rfl) | exact ih4 (upd f_4 8 (f_4 8)) a_4 (1 : Int32) z87 _ _ ls (show TokOk (f_4 7) (f_4 8) (f_4 10) (f_4 11) (f_4 12) (f_4 13) (f_4 17) (a_4 4) from ⟨⟨by first | exact o1 | omega, by first | exact o2 | omega⟩, ⟨by first | exact o3 | omega, by first | exact o4 | omega⟩, ⟨by first | exact o5 | omega, by first | exact o6 | omega⟩, ⟨by first | exact o7 | omega, by first | exact o8 | omega⟩, ⟨by first | exact o9 | omega, by first | exact o10 | omega⟩, ⟨by first | exact o11 | omega, by first | exact o12 | omega⟩, by first | exact o13 | omega, hn4⟩) (show (f_4 7).toInt = (f 7).toInt from by first | exact k4_0 | omega) (show (f_4 10).toInt = (f 10).toInt from by first | exact k4_1 | omega) (show (f_4 15).toInt = (f 15).toInt from by first | exact k4_2 | omega) (show (f 8).toInt ≤ (f_4 8).toInt from by first | exact k4_3 | omega) (show 0 ≤ z87.toInt from by first | exact oz_ae613611c0 tz87 k4_4 | omega) (show z87.toInt ≤ (f_4 7).toInt+1 from by first | exact oz_0c5335350d nc1 tz87 | omega) (show Q5 (a_4 5) from hq5) (show K_t2_skip_4 tb f a (upd f_4 8 (f_4 8)) a_4 1 z87 from (fun y_f0 y_f1 k hE => k4_7 y_f0 y_f1 (k + 1) (Or.inr (Or.inl ⟨rfl, x4_1, x4_2, rfl, rfl, rfl, rfl, rfl, Or.inr ⟨nc1, Or.inr ⟨nc3, v6, e11, Or.inr ⟨nc12, Or.inr ⟨nc20, Or.inr ⟨nc28, Or.inl ⟨nc36, Or.inr ⟨nc38, z72, ez72, v74, e79, Or.inl ⟨nc80, Or.inl ⟨nc82, Or.inr ⟨nc84, z87, ez87, hE⟩⟩⟩⟩⟩⟩⟩⟩⟩⟩⟩)))) (show (f_4 7).toInt+2-z87.toInt < (n_4 : Int) from by first | exact oz_1a25760b21 hm tz87 | omega) hw (lv_sub hl [4, 1, 0] rfl)
                      · have nc82 : v6.toInt = (47 : Int) := (i_eq (x := v6) (y := 47)).mp c82
                        refine lv_aload_n S.x S.b d_Tok_skip_102 rfl (lv_at hl 2 rfl) ?_
                        refine lv_aload_n S.x S.b d_Tok_skip_103 rfl (lv_at hl 2 rfl) ?_
                        refine px_get S k_Tok hT hw 0 0 8 (v := .int (f_4 8)) rfl rfl rfl (by decide) m1_111 d_Tok_skip_104 ?_
                        refine lv_iconst (v := 1) S.x S.b d_Tok_skip_107 (by decide) ?_
                        refine lv_iadd S.x S.b d_Tok_skip_108 ?_
                        have lr88 := Int32.le_toInt (f_4 8)
                        have ur88 := Int32.toInt_lt (f_4 8)
                        refine lv_topi (fun z89 ez89 => ?_)
                        have tz89 : z89.toInt = ((f_4 8).toInt + (1 : Int) + 2147483648) % 4294967296 - 2147483648 := by rw [ez89]; exact i_add (f_4 8) 1
                        have lz89 := Int32.le_toInt z89
                        have uz89 := Int32.toInt_lt z89
                        try replace tz89 : z89.toInt = (f_4 8).toInt + (1 : Int) := by omega
                        first | refine px_calli (pr := []) (px_runV (As := [.int z89]) (rest := []) S (c_t2_byteAt l D cs h r tp tb g f_4 a_4 z89  (show TokOk (f_4 7) (f_4 8) (f_4 10) (f_4 11) (f_4 12) (f_4 13) (f_4 17) (a_4 4) from ⟨⟨o1, o2⟩, ⟨o3, o4⟩, ⟨o5, o6⟩, ⟨o7, o8⟩, ⟨o9, o10⟩, ⟨o11, o12⟩, o13, hn4⟩) _) hT (pr := []) (pcs := [wd_Tok cs h r (fun _ => some tp) f_4 a_4 g, [(tp, .inl (cs 1, 2048, .inl tb))]]) hw px_X.tt (px_recv hT hw 0 0 rfl rfl rfl) m3_186 m3_183 m3_185 ms_1_6 m1_2 q_Tok_byteAt ⟨Nat.le_of_ble_eq_true rfl, Nat.le_of_ble_eq_true rfl⟩ hl.1 rfl (Nat.le_of_ble_eq_true rfl) d_Tok_skip_109 ⟨Nat.le_of_ble_eq_true rfl, Nat.le_of_ble_eq_true rfl⟩) hw hA (fun v91 p90 H locs hp90 hw => ?_) | refine px_calli (pr := []) (px_runV (As := [.int z89]) (rest := []) S (c_t2_byteAt l D cs h r tp tb g f_4 a_4 z89  (show TokOk (f_4 7) (f_4 8) (f_4 10) (f_4 11) (f_4 12) (f_4 13) (f_4 17) (a_4 4) from ⟨⟨by first | exact o1 | omega, by first | exact o2 | omega⟩, ⟨by first | exact o3 | omega, by first | exact o4 | omega⟩, ⟨by first | exact o5 | omega, by first | exact o6 | omega⟩, ⟨by first | exact o7 | omega, by first | exact o8 | omega⟩, ⟨by first | exact o9 | omega, by first | exact o10 | omega⟩, ⟨by first | exact o11 | omega, by first | exact o12 | omega⟩, by first | exact o13 | omega, hn4⟩) _) hT (pr := []) (pcs := [wd_Tok cs h r (fun _ => some tp) f_4 a_4 g, [(tp, .inl (cs 1, 2048, .inl tb))]]) hw px_X.tt (px_recv hT hw 0 0 rfl rfl rfl) m3_186 m3_183 m3_185 ms_1_6 m1_2 q_Tok_byteAt ⟨Nat.le_of_ble_eq_true rfl, Nat.le_of_ble_eq_true rfl⟩ hl.1 rfl (Nat.le_of_ble_eq_true rfl) d_Tok_skip_109 ⟨Nat.le_of_ble_eq_true rfl, Nat.le_of_ble_eq_true rfl⟩) hw hA (fun v91 p90 H locs hp90 hw => ?_)
                        obtain ⟨rfl, e92, e93, e94, e95, e96⟩ := hp90
                        have e92 : -1 ≤ v91.toInt := e92
                        have e93 : v91.toInt ≤ 255 := e93
                        have e94 : 0 ≤ v91.toInt → 0 ≤ z89.toInt ∧ z89.toInt < (f_4 7).toInt := e94
                        have e95 : By tb (f_4 7) z89 v91 := e95
                        have e96 : R_t2_byteAt tb f_4 z89 v91 := e96
                        have lv91 := Int32.le_toInt v91
                        have uv91 := Int32.toInt_lt v91
                        refine lv_bipush (v := 42) S.x S.b d_Tok_skip_112 (by decide) ?_
                        refine lv_icmp_ne (tgt := 123) S.x S.b d_Tok_skip_114 (by decide) (fun c97 => ?_) (fun c97 => ?_)
                        · have nc97 : ¬ v91.toInt = (42 : Int) := mt (i_eq (x := v91) (y := 42)).mpr c97
                          refine lv_iload S.x S.b d_Tok_skip_123 (lv_at hl 0 rfl) ?_
                          refine lv_aload_n S.x S.b d_Tok_skip_125 rfl (lv_at hl 2 rfl) ?_
                          refine px_get S k_Tok hT hw 0 0 8 (v := .int (f_4 8)) rfl rfl rfl (by decide) m1_111 d_Tok_skip_126 ?_
                          refine lv_icmp_le (tgt := 136) S.x S.b d_Tok_skip_129 (by decide) (fun c99 => ?_) (fun c99 => ?_)
                          · have nc99 : (f_4 8).toInt ≤ (f_4 8).toInt := (i_le (x := (f_4 8)) (y := (f_4 8))).mp c99
                            refine lv_iconst (v := 0) S.x S.b d_Tok_skip_136 (by decide) ?_
                            refine lv_istore_n (lv' := [(1, .int 0), (4, .int (f_4 8)), (3, .int v6), (0, .ref h), (2, .int x4_2)]) S.x S.b d_Tok_skip_137 rfl hl (by decide) rfl (fun ls hl => ?_)
                            refine lv_aload_n S.x S.b d_Tok_skip_138 rfl (lv_at hl 3 rfl) ?_
                            refine lv_iload S.x S.b d_Tok_skip_139 (lv_at hl 1 rfl) ?_
                            refine px_put S k_Tok hT hw 0 0 8 rfl rfl (by decide) m1_111 rfl rfl rfl (Nat.le_of_ble_eq_true rfl) d_Tok_skip_141 (w' := wd_Tok cs h r (fun _ => some tp) (upd f_4 8 (f_4 8)) a_4 g) (ps' := [wd_Tok cs h r (fun _ => some tp) (upd f_4 8 (f_4 8)) a_4 g, [(tp, .inl (cs 1, 2048, .inl tb))]]) rfl rfl (fun H locs hw => ?_)
                            obtain ⟨z101, ez101⟩ : ∃ y : Int32, y = x4_2 + 1 := ⟨_, rfl⟩
                            have tz101 : z101.toInt = (x4_2.toInt + 1 + 2147483648) % 4294967296 - 2147483648 := by rw [ez101]; exact i_add x4_2 1
                            have lz101 := Int32.le_toInt z101
                            have uz101 := Int32.toInt_lt z101
                            try replace tz101 : z101.toInt = x4_2.toInt + 1 := by omega
                            refine lv_iinc (v := z101) (lv' := [(2, .int z101), (1, .int 0), (4, .int (f_4 8)), (3, .int v6), (0, .ref h)]) S.x S.b d_Tok_skip_144 hl (k := 4) rfl (by rw [ez101]; rfl) (by decide) rfl (fun ls hl => ?_)
                            refine lv_goto (tgt := 4) S.x S.b d_Tok_skip_147 (by decide) ?_
                            first | exact ih4 (upd f_4 8 (f_4 8)) a_4 (0 : Int32) z101 _ _ ls (show TokOk (f_4 7) (f_4 8) (f_4 10) (f_4 11) (f_4 12) (f_4 13) (f_4 17) (a_4 4) from ⟨⟨o1, o2⟩, ⟨o3, o4⟩, ⟨o5, o6⟩, ⟨o7, o8⟩, ⟨o9, o10⟩, ⟨o11, o12⟩, o13, hn4⟩) (show (f_4 7).toInt = (f 7).toInt from k4_0) (show (f_4 10).toInt = (f 10).toInt from k4_1) (show (f_4 15).toInt = (f 15).toInt from k4_2) (show (f 8).toInt ≤ (f_4 8).toInt from k4_3) (show 0 ≤ z101.toInt from (oz_ae613611c0 tz101 k4_4)) (show z101.toInt ≤ (f_4 7).toInt+1 from (oz_0c5335350d nc1 tz101)) (show Q5 (a_4 5) from hq5) (show K_t2_skip_4 tb f a (upd f_4 8 (f_4 8)) a_4 0 z101 from (fun y_f0 y_f1 k hE => k4_7 y_f0 y_f1 (k + 1) (Or.inr (Or.inl ⟨rfl, x4_1, x4_2, rfl, rfl, rfl, rfl, rfl, Or.inr ⟨nc1, Or.inr ⟨nc3, v6, e11, Or.inr ⟨nc12, Or.inr ⟨nc20, Or.inr ⟨nc28, Or.inl ⟨nc36, Or.inr ⟨nc38, z72, ez72, v74, e79, Or.inl ⟨nc80, Or.inr ⟨nc82, z89, ez89, v91, e96, Or.inl ⟨nc97, Or.inl ⟨nc99, z101, ez101, hE⟩⟩⟩⟩⟩⟩⟩⟩⟩⟩⟩⟩)))) (show (f_4 7).toInt+2-z101.toInt < (n_4 : Int) from (oz_1a25760b21 hm tz101)) hw (lv_sub hl [4, 1, 0] rfl) | exact ih4 (upd f_4 8 (f_4 8)) a_4 (0 : Int32) z101 _ _ ls (show TokOk (f_4 7) (f_4 8) (f_4 10) (f_4 11) (f_4 12) (f_4 13) (f_4 17) (a_4 4) from ⟨⟨by first | exact o1 | omega, by first | exact o2 | omega⟩, ⟨by first | exact o3 | omega, by first | exact o4 | omega⟩, ⟨by first | exact o5 | omega, by first | exact o6 | omega⟩, ⟨by first | exact o7 | omega, by first | exact o8 | omega⟩, ⟨by first | exact o9 | omega, by first | exact o10 | omega⟩, ⟨by first | exact o11 | omega, by first | exact o12 | omega⟩, by first | exact o13 | omega, hn4⟩) (show (f_4 7).toInt = (f 7).toInt from by first | exact k4_0 | omega) (show (f_4 10).toInt = (f 10).toInt from by first | exact k4_1 | omega) (show (f_4 15).toInt = (f 15).toInt from by first | exact k4_2 | omega) (show (f 8).toInt ≤ (f_4 8).toInt from by first | exact k4_3 | omega) (show 0 ≤ z101.toInt from by first | exact oz_ae613611c0 tz101 k4_4 | omega) (show z101.toInt ≤ (f_4 7).toInt+1 from by first | exact oz_0c5335350d nc1 tz101 | omega) (show Q5 (a_4 5) from hq5) (show K_t2_skip_4 tb f a (upd f_4 8 (f_4 8)) a_4 0 z101 from (fun y_f0 y_f1 k hE => k4_7 y_f0 y_f1 (k + 1) (Or.inr (Or.inl ⟨rfl, x4_1, x4_2, rfl, rfl, rfl, rfl, rfl, Or.inr ⟨nc1, Or.inr ⟨nc3, v6, e11, Or.inr ⟨nc12, Or.inr ⟨nc20, Or.inr ⟨nc28, Or.inl ⟨nc36, Or.inr ⟨nc38, z72, ez72, v74, e79, Or.inl ⟨nc80, Or.inr ⟨nc82, z89, ez89, v91, e96, Or.inl ⟨nc97, Or.inl ⟨nc99, z101, ez101, hE⟩⟩⟩⟩⟩⟩⟩⟩⟩⟩⟩⟩)))) (show (f_4 7).toInt+2-z101.toInt < (n_4 : Int) from by first | exact oz_1a25760b21 hm tz101 | omega) hw (lv_sub hl [4, 1, 0] rfl)
                          · have nc99 : ¬ (f_4 8).toInt ≤ (f_4 8).toInt := mt (i_le (x := (f_4 8)) (y := (f_4 8))).mpr c99
                            refine lv_iconst (v := 1) S.x S.b d_Tok_skip_132 (by decide) ?_
                            refine lv_goto (tgt := 137) S.x S.b d_Tok_skip_133 (by decide) ?_
                            refine lv_istore_n (lv' := [(1, .int 1), (4, .int (f_4 8)), (3, .int v6), (0, .ref h), (2, .int x4_2)]) S.x S.b d_Tok_skip_137 rfl hl (by decide) rfl (fun ls hl => ?_)
                            refine lv_aload_n S.x S.b d_Tok_skip_138 rfl (lv_at hl 3 rfl) ?_
                            refine lv_iload S.x S.b d_Tok_skip_139 (lv_at hl 1 rfl) ?_
                            refine px_put S k_Tok hT hw 0 0 8 rfl rfl (by decide) m1_111 rfl rfl rfl (Nat.le_of_ble_eq_true rfl) d_Tok_skip_141 (w' := wd_Tok cs h r (fun _ => some tp) (upd f_4 8 (f_4 8)) a_4 g) (ps' := [wd_Tok cs h r (fun _ => some tp) (upd f_4 8 (f_4 8)) a_4 g, [(tp, .inl (cs 1, 2048, .inl tb))]]) rfl rfl (fun H locs hw => ?_)
                            obtain ⟨z102, ez102⟩ : ∃ y : Int32, y = x4_2 + 1 := ⟨_, rfl⟩
                            have tz102 : z102.toInt = (x4_2.toInt + 1 + 2147483648) % 4294967296 - 2147483648 := by rw [ez102]; exact i_add x4_2 1
                            have lz102 := Int32.le_toInt z102
                            have uz102 := Int32.toInt_lt z102
                            try replace tz102 : z102.toInt = x4_2.toInt + 1 := by omega
                            refine lv_iinc (v := z102) (lv' := [(2, .int z102), (1, .int 1), (4, .int (f_4 8)), (3, .int v6), (0, .ref h)]) S.x S.b d_Tok_skip_144 hl (k := 4) rfl (by rw [ez102]; rfl) (by decide) rfl (fun ls hl => ?_)
                            refine lv_goto (tgt := 4) S.x S.b d_Tok_skip_147 (by decide) ?_
                            first | exact ih4 (upd f_4 8 (f_4 8)) a_4 (1 : Int32) z102 _ _ ls (show TokOk (f_4 7) (f_4 8) (f_4 10) (f_4 11) (f_4 12) (f_4 13) (f_4 17) (a_4 4) from ⟨⟨o1, o2⟩, ⟨o3, o4⟩, ⟨o5, o6⟩, ⟨o7, o8⟩, ⟨o9, o10⟩, ⟨o11, o12⟩, o13, hn4⟩) (show (f_4 7).toInt = (f 7).toInt from k4_0) (show (f_4 10).toInt = (f 10).toInt from k4_1) (show (f_4 15).toInt = (f 15).toInt from k4_2) (show (f 8).toInt ≤ (f_4 8).toInt from k4_3) (show 0 ≤ z102.toInt from (oz_ae613611c0 tz102 k4_4)) (show z102.toInt ≤ (f_4 7).toInt+1 from (oz_0c5335350d nc1 tz102)) (show Q5 (a_4 5) from hq5) (show K_t2_skip_4 tb f a (upd f_4 8 (f_4 8)) a_4 1 z102 from (fun y_f0 y_f1 k hE => k4_7 y_f0 y_f1 (k + 1) (Or.inr (Or.inl ⟨rfl, x4_1, x4_2, rfl, rfl, rfl, rfl, rfl, Or.inr ⟨nc1, Or.inr ⟨nc3, v6, e11, Or.inr ⟨nc12, Or.inr ⟨nc20, Or.inr ⟨nc28, Or.inl ⟨nc36, Or.inr ⟨nc38, z72, ez72, v74, e79, Or.inl ⟨nc80, Or.inr ⟨nc82, z89, ez89, v91, e96, Or.inl ⟨nc97, Or.inr ⟨nc99, z102, ez102, hE⟩⟩⟩⟩⟩⟩⟩⟩⟩⟩⟩⟩)))) (show (f_4 7).toInt+2-z102.toInt < (n_4 : Int) from (oz_1a25760b21 hm tz102)) hw (lv_sub hl [4, 1, 0] rfl) | exact ih4 (upd f_4 8 (f_4 8)) a_4 (1 : Int32) z102 _ _ ls (show TokOk (f_4 7) (f_4 8) (f_4 10) (f_4 11) (f_4 12) (f_4 13) (f_4 17) (a_4 4) from ⟨⟨by first | exact o1 | omega, by first | exact o2 | omega⟩, ⟨by first | exact o3 | omega, by first | exact o4 | omega⟩, ⟨by first | exact o5 | omega, by first | exact o6 | omega⟩, ⟨by first | exact o7 | omega, by first | exact o8 | omega⟩, ⟨by first | exact o9 | omega, by first | exact o10 | omega⟩, ⟨by first | exact o11 | omega, by first | exact o12 | omega⟩, by first | exact o13 | omega, hn4⟩) (show (f_4 7).toInt = (f 7).toInt from by first | exact k4_0 | omega) (show (f_4 10).toInt = (f 10).toInt from by first | exact k4_1 | omega) (show (f_4 15).toInt = (f 15).toInt from by first | exact k4_2 | omega) (show (f 8).toInt ≤ (f_4 8).toInt from by first | exact k4_3 | omega) (show 0 ≤ z102.toInt from by first | exact oz_ae613611c0 tz102 k4_4 | omega) (show z102.toInt ≤ (f_4 7).toInt+1 from by first | exact oz_0c5335350d nc1 tz102 | omega) (show Q5 (a_4 5) from hq5) (show K_t2_skip_4 tb f a (upd f_4 8 (f_4 8)) a_4 1 z102 from (fun y_f0 y_f1 k hE => k4_7 y_f0 y_f1 (k + 1) (Or.inr (Or.inl ⟨rfl, x4_1, x4_2, rfl, rfl, rfl, rfl, rfl, Or.inr ⟨nc1, Or.inr ⟨nc3, v6, e11, Or.inr ⟨nc12, Or.inr ⟨nc20, Or.inr ⟨nc28, Or.inl ⟨nc36, Or.inr ⟨nc38, z72, ez72, v74, e79, Or.inl ⟨nc80, Or.inr ⟨nc82, z89, ez89, v91, e96, Or.inl ⟨nc97, Or.inr ⟨nc99, z102, ez102, hE⟩⟩⟩⟩⟩⟩⟩⟩⟩⟩⟩⟩)))) (show (f_4 7).toInt+2-z102.toInt < (n_4 : Int) from by first | exact oz_1a25760b21 hm tz102 | omega) hw (lv_sub hl [4, 1, 0] rfl)
                        · have nc97 : v91.toInt = (42 : Int) := (i_eq (x := v91) (y := 42)).mp c97
                          refine lv_aload_n S.x S.b d_Tok_skip_117 rfl (lv_at hl 2 rfl) ?_
                          first | refine px_calli (pr := []) (px_runV (As := []) (rest := []) S (c_t2_commentEnd l D cs h r tp tb g f_4 a_4   (show TokOk (f_4 7) (f_4 8) (f_4 10) (f_4 11) (f_4 12) (f_4 13) (f_4 17) (a_4 4) from ⟨⟨o1, o2⟩, ⟨o3, o4⟩, ⟨o5, o6⟩, ⟨o7, o8⟩, ⟨o9, o10⟩, ⟨o11, o12⟩, o13, hn4⟩) _) hT (pr := []) (pcs := [wd_Tok cs h r (fun _ => some tp) f_4 a_4 g, [(tp, .inl (cs 1, 2048, .inl tb))]]) hw px_X.tt (px_recv hT hw 0 0 rfl rfl rfl) m3_194 m3_191 m3_193 ms_1_8 m1_2 q_Tok_commentEnd ⟨Nat.le_of_ble_eq_true rfl, Nat.le_of_ble_eq_true rfl⟩ hl.1 rfl (Nat.le_of_ble_eq_true rfl) d_Tok_skip_118 ⟨Nat.le_of_ble_eq_true rfl, Nat.le_of_ble_eq_true rfl⟩) hw hA (fun v104 p103 H locs hp103 hw => ?_) | refine px_calli (pr := []) (px_runV (As := []) (rest := []) S (c_t2_commentEnd l D cs h r tp tb g f_4 a_4   (show TokOk (f_4 7) (f_4 8) (f_4 10) (f_4 11) (f_4 12) (f_4 13) (f_4 17) (a_4 4) from ⟨⟨by first | exact o1 | omega, by first | exact o2 | omega⟩, ⟨by first | exact o3 | omega, by first | exact o4 | omega⟩, ⟨by first | exact o5 | omega, by first | exact o6 | omega⟩, ⟨by first | exact o7 | omega, by first | exact o8 | omega⟩, ⟨by first | exact o9 | omega, by first | exact o10 | omega⟩, ⟨by first | exact o11 | omega, by first | exact o12 | omega⟩, by first | exact o13 | omega, hn4⟩) _) hT (pr := []) (pcs := [wd_Tok cs h r (fun _ => some tp) f_4 a_4 g, [(tp, .inl (cs 1, 2048, .inl tb))]]) hw px_X.tt (px_recv hT hw 0 0 rfl rfl rfl) m3_194 m3_191 m3_193 ms_1_8 m1_2 q_Tok_commentEnd ⟨Nat.le_of_ble_eq_true rfl, Nat.le_of_ble_eq_true rfl⟩ hl.1 rfl (Nat.le_of_ble_eq_true rfl) d_Tok_skip_118 ⟨Nat.le_of_ble_eq_true rfl, Nat.le_of_ble_eq_true rfl⟩) hw hA (fun v104 p103 H locs hp103 hw => ?_)
                          obtain ⟨rfl, e105, e106, e107, e108⟩ := hp103
                          have e105 : 0 ≤ v104.toInt := e105
                          have e106 : v104.toInt ≤ (f_4 7).toInt+8 := e106
                          have e107 : (f_4 8).toInt ≤ v104.toInt := e107
                          have e108 : R_t2_commentEnd tb f_4 v104 := e108
                          have lv104 := Int32.le_toInt v104
                          have uv104 := Int32.toInt_lt v104
                          refine lv_istore (lv' := [(4, .int v104), (3, .int v6), (0, .ref h), (1, .int x4_1), (2, .int x4_2)]) S.x S.b d_Tok_skip_121 hl (by decide) rfl (fun ls hl => ?_)
                          refine lv_iload S.x S.b d_Tok_skip_123 (lv_at hl 0 rfl) ?_
                          refine lv_aload_n S.x S.b d_Tok_skip_125 rfl (lv_at hl 2 rfl) ?_
                          refine px_get S k_Tok hT hw 0 0 8 (v := .int (f_4 8)) rfl rfl rfl (by decide) m1_111 d_Tok_skip_126 ?_
                          refine lv_icmp_le (tgt := 136) S.x S.b d_Tok_skip_129 (by decide) (fun c109 => ?_) (fun c109 => ?_)
                          · have nc109 : v104.toInt ≤ (f_4 8).toInt := (i_le (x := v104) (y := (f_4 8))).mp c109
                            refine lv_iconst (v := 0) S.x S.b d_Tok_skip_136 (by decide) ?_
                            refine lv_istore_n (lv' := [(1, .int 0), (4, .int v104), (3, .int v6), (0, .ref h), (2, .int x4_2)]) S.x S.b d_Tok_skip_137 rfl hl (by decide) rfl (fun ls hl => ?_)
                            refine lv_aload_n S.x S.b d_Tok_skip_138 rfl (lv_at hl 3 rfl) ?_
                            refine lv_iload S.x S.b d_Tok_skip_139 (lv_at hl 1 rfl) ?_
                            refine px_put S k_Tok hT hw 0 0 8 rfl rfl (by decide) m1_111 rfl rfl rfl (Nat.le_of_ble_eq_true rfl) d_Tok_skip_141 (w' := wd_Tok cs h r (fun _ => some tp) (upd f_4 8 v104) a_4 g) (ps' := [wd_Tok cs h r (fun _ => some tp) (upd f_4 8 v104) a_4 g, [(tp, .inl (cs 1, 2048, .inl tb))]]) rfl rfl (fun H locs hw => ?_)
                            obtain ⟨z111, ez111⟩ : ∃ y : Int32, y = x4_2 + 1 := ⟨_, rfl⟩
                            have tz111 : z111.toInt = (x4_2.toInt + 1 + 2147483648) % 4294967296 - 2147483648 := by rw [ez111]; exact i_add x4_2 1
                            have lz111 := Int32.le_toInt z111
                            have uz111 := Int32.toInt_lt z111
                            try replace tz111 : z111.toInt = x4_2.toInt + 1 := by omega
                            refine lv_iinc (v := z111) (lv' := [(2, .int z111), (1, .int 0), (4, .int v104), (3, .int v6), (0, .ref h)]) S.x S.b d_Tok_skip_144 hl (k := 4) rfl (by rw [ez111]; rfl) (by decide) rfl (fun ls hl => ?_)
                            refine lv_goto (tgt := 4) S.x S.b d_Tok_skip_147 (by decide) ?_
                            first | exact ih4 (upd f_4 8 v104) a_4 (0 : Int32) z111 _ _ ls (show TokOk (f_4 7) v104 (f_4 10) (f_4 11) (f_4 12) (f_4 13) (f_4 17) (a_4 4) from ⟨⟨o1, o2⟩, ⟨e105, (oz_8908a45630 e106)⟩, ⟨o5, o6⟩, ⟨o7, o8⟩, ⟨o9, o10⟩, ⟨o11, o12⟩, o13, hn4⟩) (show (f_4 7).toInt = (f 7).toInt from k4_0) (show (f_4 10).toInt = (f 10).toInt from k4_1) (show (f_4 15).toInt = (f 15).toInt from k4_2) (show (f 8).toInt ≤ v104.toInt from (oz_be764f19f0 k4_3 e107)) (show 0 ≤ z111.toInt from (oz_ae613611c0 tz111 k4_4)) (show z111.toInt ≤ (f_4 7).toInt+1 from (oz_0c5335350d nc1 tz111)) (show Q5 (a_4 5) from hq5) (show K_t2_skip_4 tb f a (upd f_4 8 v104) a_4 0 z111 from (fun y_f0 y_f1 k hE => k4_7 y_f0 y_f1 (k + 1) (Or.inr (Or.inl ⟨rfl, x4_1, x4_2, rfl, rfl, rfl, rfl, rfl, Or.inr ⟨nc1, Or.inr ⟨nc3, v6, e11, Or.inr ⟨nc12, Or.inr ⟨nc20, Or.inr ⟨nc28, Or.inl ⟨nc36, Or.inr ⟨nc38, z72, ez72, v74, e79, Or.inl ⟨nc80, Or.inr ⟨nc82, z89, ez89, v91, e96, Or.inr ⟨nc97, v104, e108, Or.inl ⟨nc109, z111, ez111, hE⟩⟩⟩⟩⟩⟩⟩⟩⟩⟩⟩⟩)))) (show (f_4 7).toInt+2-z111.toInt < (n_4 : Int) from (oz_1a25760b21 hm tz111)) hw (lv_sub hl [4, 1, 0] rfl) | exact ih4 (upd f_4 8 v104) a_4 (0 : Int32) z111 _ _ ls (show TokOk (f_4 7) v104 (f_4 10) (f_4 11) (f_4 12) (f_4 13) (f_4 17) (a_4 4) from ⟨⟨by first | exact o1 | omega, by first | exact o2 | omega⟩, ⟨by first | exact e105 | omega, by first | exact oz_8908a45630 e106 | omega⟩, ⟨by first | exact o5 | omega, by first | exact o6 | omega⟩, ⟨by first | exact o7 | omega, by first | exact o8 | omega⟩, ⟨by first | exact o9 | omega, by first | exact o10 | omega⟩, ⟨by first | exact o11 | omega, by first | exact o12 | omega⟩, by first | exact o13 | omega, hn4⟩) (show (f_4 7).toInt = (f 7).toInt from by first | exact k4_0 | omega) (show (f_4 10).toInt = (f 10).toInt from by first | exact k4_1 | omega) (show (f_4 15).toInt = (f 15).toInt from by first | exact k4_2 | omega) (show (f 8).toInt ≤ v104.toInt from by first | exact oz_be764f19f0 k4_3 e107 | omega) (show 0 ≤ z111.toInt from by first | exact oz_ae613611c0 tz111 k4_4 | omega) (show z111.toInt ≤ (f_4 7).toInt+1 from by first | exact oz_0c5335350d nc1 tz111 | omega) (show Q5 (a_4 5) from hq5) (show K_t2_skip_4 tb f a (upd f_4 8 v104) a_4 0 z111 from (fun y_f0 y_f1 k hE => k4_7 y_f0 y_f1 (k + 1) (Or.inr (Or.inl ⟨rfl, x4_1, x4_2, rfl, rfl, rfl, rfl, rfl, Or.inr ⟨nc1, Or.inr ⟨nc3, v6, e11, Or.inr ⟨nc12, Or.inr ⟨nc20, Or.inr ⟨nc28, Or.inl ⟨nc36, Or.inr ⟨nc38, z72, ez72, v74, e79, Or.inl ⟨nc80, Or.inr ⟨nc82, z89, ez89, v91, e96, Or.inr ⟨nc97, v104, e108, Or.inl ⟨nc109, z111, ez111, hE⟩⟩⟩⟩⟩⟩⟩⟩⟩⟩⟩⟩)))) (show (f_4 7).toInt+2-z111.toInt < (n_4 : Int) from by first | exact oz_1a25760b21 hm tz111 | omega) hw (lv_sub hl [4, 1, 0] rfl)
                          · have nc109 : ¬ v104.toInt ≤ (f_4 8).toInt := mt (i_le (x := v104) (y := (f_4 8))).mpr c109
                            refine lv_iconst (v := 1) S.x S.b d_Tok_skip_132 (by decide) ?_
                            refine lv_goto (tgt := 137) S.x S.b d_Tok_skip_133 (by decide) ?_
                            refine lv_istore_n (lv' := [(1, .int 1), (4, .int v104), (3, .int v6), (0, .ref h), (2, .int x4_2)]) S.x S.b d_Tok_skip_137 rfl hl (by decide) rfl (fun ls hl => ?_)
                            refine lv_aload_n S.x S.b d_Tok_skip_138 rfl (lv_at hl 3 rfl) ?_
                            refine lv_iload S.x S.b d_Tok_skip_139 (lv_at hl 1 rfl) ?_
                            refine px_put S k_Tok hT hw 0 0 8 rfl rfl (by decide) m1_111 rfl rfl rfl (Nat.le_of_ble_eq_true rfl) d_Tok_skip_141 (w' := wd_Tok cs h r (fun _ => some tp) (upd f_4 8 v104) a_4 g) (ps' := [wd_Tok cs h r (fun _ => some tp) (upd f_4 8 v104) a_4 g, [(tp, .inl (cs 1, 2048, .inl tb))]]) rfl rfl (fun H locs hw => ?_)
                            obtain ⟨z112, ez112⟩ : ∃ y : Int32, y = x4_2 + 1 := ⟨_, rfl⟩
                            have tz112 : z112.toInt = (x4_2.toInt + 1 + 2147483648) % 4294967296 - 2147483648 := by rw [ez112]; exact i_add x4_2 1
                            have lz112 := Int32.le_toInt z112
                            have uz112 := Int32.toInt_lt z112
                            try replace tz112 : z112.toInt = x4_2.toInt + 1 := by omega
                            refine lv_iinc (v := z112) (lv' := [(2, .int z112), (1, .int 1), (4, .int v104), (3, .int v6), (0, .ref h)]) S.x S.b d_Tok_skip_144 hl (k := 4) rfl (by rw [ez112]; rfl) (by decide) rfl (fun ls hl => ?_)
                            refine lv_goto (tgt := 4) S.x S.b d_Tok_skip_147 (by decide) ?_
                            first | exact ih4 (upd f_4 8 v104) a_4 (1 : Int32) z112 _ _ ls (show TokOk (f_4 7) v104 (f_4 10) (f_4 11) (f_4 12) (f_4 13) (f_4 17) (a_4 4) from ⟨⟨o1, o2⟩, ⟨e105, (oz_8908a45630 e106)⟩, ⟨o5, o6⟩, ⟨o7, o8⟩, ⟨o9, o10⟩, ⟨o11, o12⟩, o13, hn4⟩) (show (f_4 7).toInt = (f 7).toInt from k4_0) (show (f_4 10).toInt = (f 10).toInt from k4_1) (show (f_4 15).toInt = (f 15).toInt from k4_2) (show (f 8).toInt ≤ v104.toInt from (oz_fbfdb238f4 k4_3 nc109)) (show 0 ≤ z112.toInt from (oz_ae613611c0 tz112 k4_4)) (show z112.toInt ≤ (f_4 7).toInt+1 from (oz_0c5335350d nc1 tz112)) (show Q5 (a_4 5) from hq5) (show K_t2_skip_4 tb f a (upd f_4 8 v104) a_4 1 z112 from (fun y_f0 y_f1 k hE => k4_7 y_f0 y_f1 (k + 1) (Or.inr (Or.inl ⟨rfl, x4_1, x4_2, rfl, rfl, rfl, rfl, rfl, Or.inr ⟨nc1, Or.inr ⟨nc3, v6, e11, Or.inr ⟨nc12, Or.inr ⟨nc20, Or.inr ⟨nc28, Or.inl ⟨nc36, Or.inr ⟨nc38, z72, ez72, v74, e79, Or.inl ⟨nc80, Or.inr ⟨nc82, z89, ez89, v91, e96, Or.inr ⟨nc97, v104, e108, Or.inr ⟨nc109, z112, ez112, hE⟩⟩⟩⟩⟩⟩⟩⟩⟩⟩⟩⟩)))) (show (f_4 7).toInt+2-z112.toInt < (n_4 : Int) from (oz_1a25760b21 hm tz112)) hw (lv_sub hl [4, 1, 0] rfl) | exact ih4 (upd f_4 8 v104) a_4 (1 : Int32) z112 _ _ ls (show TokOk (f_4 7) v104 (f_4 10) (f_4 11) (f_4 12) (f_4 13) (f_4 17) (a_4 4) from ⟨⟨by first | exact o1 | omega, by first | exact o2 | omega⟩, ⟨by first | exact e105 | omega, by first | exact oz_8908a45630 e106 | omega⟩, ⟨by first | exact o5 | omega, by first | exact o6 | omega⟩, ⟨by first | exact o7 | omega, by first | exact o8 | omega⟩, ⟨by first | exact o9 | omega, by first | exact o10 | omega⟩, ⟨by first | exact o11 | omega, by first | exact o12 | omega⟩, by first | exact o13 | omega, hn4⟩) (show (f_4 7).toInt = (f 7).toInt from by first | exact k4_0 | omega) (show (f_4 10).toInt = (f 10).toInt from by first | exact k4_1 | omega) (show (f_4 15).toInt = (f 15).toInt from by first | exact k4_2 | omega) (show (f 8).toInt ≤ v104.toInt from by first | exact oz_fbfdb238f4 k4_3 nc109 | omega) (show 0 ≤ z112.toInt from by first | exact oz_ae613611c0 tz112 k4_4 | omega) (show z112.toInt ≤ (f_4 7).toInt+1 from by first | exact oz_0c5335350d nc1 tz112 | omega) (show Q5 (a_4 5) from hq5) (show K_t2_skip_4 tb f a (upd f_4 8 v104) a_4 1 z112 from (fun y_f0 y_f1 k hE => k4_7 y_f0 y_f1 (k + 1) (Or.inr (Or.inl ⟨rfl, x4_1, x4_2, rfl, rfl, rfl, rfl, rfl, Or.inr ⟨nc1, Or.inr ⟨nc3, v6, e11, Or.inr ⟨nc12, Or.inr ⟨nc20, Or.inr ⟨nc28, Or.inl ⟨nc36, Or.inr ⟨nc38, z72, ez72, v74, e79, Or.inl ⟨nc80, Or.inr ⟨nc82, z89, ez89, v91, e96, Or.inr ⟨nc97, v104, e108, Or.inr ⟨nc109, z112, ez112, hE⟩⟩⟩⟩⟩⟩⟩⟩⟩⟩⟩⟩)))) (show (f_4 7).toInt+2-z112.toInt < (n_4 : Int) from by first | exact oz_1a25760b21 hm tz112 | omega) hw (lv_sub hl [4, 1, 0] rfl)
                    · have nc80 : v74.toInt = (47 : Int) := (i_eq (x := v74) (y := 47)).mp c80
                      refine lv_aload_n S.x S.b d_Tok_skip_87 rfl (lv_at hl 2 rfl) ?_
                      first | refine px_calli (pr := []) (px_runV (As := []) (rest := []) S (c_t2_lineEnd l D cs h r tp tb g f_4 a_4   (show TokOk (f_4 7) (f_4 8) (f_4 10) (f_4 11) (f_4 12) (f_4 13) (f_4 17) (a_4 4) from ⟨⟨o1, o2⟩, ⟨o3, o4⟩, ⟨o5, o6⟩, ⟨o7, o8⟩, ⟨o9, o10⟩, ⟨o11, o12⟩, o13, hn4⟩) _) hT (pr := []) (pcs := [wd_Tok cs h r (fun _ => some tp) f_4 a_4 g, [(tp, .inl (cs 1, 2048, .inl tb))]]) hw px_X.tt (px_recv hT hw 0 0 rfl rfl rfl) m3_190 m3_187 m3_189 ms_1_7 m1_2 q_Tok_lineEnd ⟨Nat.le_of_ble_eq_true rfl, Nat.le_of_ble_eq_true rfl⟩ hl.1 rfl (Nat.le_of_ble_eq_true rfl) d_Tok_skip_88 ⟨Nat.le_of_ble_eq_true rfl, Nat.le_of_ble_eq_true rfl⟩) hw hA (fun v114 p113 H locs hp113 hw => ?_) | refine px_calli (pr := []) (px_runV (As := []) (rest := []) S (c_t2_lineEnd l D cs h r tp tb g f_4 a_4   (show TokOk (f_4 7) (f_4 8) (f_4 10) (f_4 11) (f_4 12) (f_4 13) (f_4 17) (a_4 4) from ⟨⟨by first | exact o1 | omega, by first | exact o2 | omega⟩, ⟨by first | exact o3 | omega, by first | exact o4 | omega⟩, ⟨by first | exact o5 | omega, by first | exact o6 | omega⟩, ⟨by first | exact o7 | omega, by first | exact o8 | omega⟩, ⟨by first | exact o9 | omega, by first | exact o10 | omega⟩, ⟨by first | exact o11 | omega, by first | exact o12 | omega⟩, by first | exact o13 | omega, hn4⟩) _) hT (pr := []) (pcs := [wd_Tok cs h r (fun _ => some tp) f_4 a_4 g, [(tp, .inl (cs 1, 2048, .inl tb))]]) hw px_X.tt (px_recv hT hw 0 0 rfl rfl rfl) m3_190 m3_187 m3_189 ms_1_7 m1_2 q_Tok_lineEnd ⟨Nat.le_of_ble_eq_true rfl, Nat.le_of_ble_eq_true rfl⟩ hl.1 rfl (Nat.le_of_ble_eq_true rfl) d_Tok_skip_88 ⟨Nat.le_of_ble_eq_true rfl, Nat.le_of_ble_eq_true rfl⟩) hw hA (fun v114 p113 H locs hp113 hw => ?_)
                      obtain ⟨rfl, e115, e116, e117, e118⟩ := hp113
                      have e115 : 0 ≤ v114.toInt := e115
                      have e116 : v114.toInt ≤ (f_4 7).toInt+8 := e116
                      have e117 : (f_4 8).toInt ≤ (f_4 7).toInt → (f_4 8).toInt ≤ v114.toInt := e117
                      have e118 : R_t2_lineEnd tb f_4 v114 := e118
                      have lv114 := Int32.le_toInt v114
                      have uv114 := Int32.toInt_lt v114
                      refine lv_istore (lv' := [(4, .int v114), (3, .int v6), (0, .ref h), (1, .int x4_1), (2, .int x4_2)]) S.x S.b d_Tok_skip_91 hl (by decide) rfl (fun ls hl => ?_)
                      refine lv_goto (tgt := 123) S.x S.b d_Tok_skip_93 (by decide) ?_
                      refine lv_iload S.x S.b d_Tok_skip_123 (lv_at hl 0 rfl) ?_
                      refine lv_aload_n S.x S.b d_Tok_skip_125 rfl (lv_at hl 2 rfl) ?_
                      refine px_get S k_Tok hT hw 0 0 8 (v := .int (f_4 8)) rfl rfl rfl (by decide) m1_111 d_Tok_skip_126 ?_
                      refine lv_icmp_le (tgt := 136) S.x S.b d_Tok_skip_129 (by decide) (fun c119 => ?_) (fun c119 => ?_)
                      · have nc119 : v114.toInt ≤ (f_4 8).toInt := (i_le (x := v114) (y := (f_4 8))).mp c119
                        refine lv_iconst (v := 0) S.x S.b d_Tok_skip_136 (by decide) ?_
                        refine lv_istore_n (lv' := [(1, .int 0), (4, .int v114), (3, .int v6), (0, .ref h), (2, .int x4_2)]) S.x S.b d_Tok_skip_137 rfl hl (by decide) rfl (fun ls hl => ?_)
                        refine lv_aload_n S.x S.b d_Tok_skip_138 rfl (lv_at hl 3 rfl) ?_
                        refine lv_iload S.x S.b d_Tok_skip_139 (lv_at hl 1 rfl) ?_
                        refine px_put S k_Tok hT hw 0 0 8 rfl rfl (by decide) m1_111 rfl rfl rfl (Nat.le_of_ble_eq_true rfl) d_Tok_skip_141 (w' := wd_Tok cs h r (fun _ => some tp) (upd f_4 8 v114) a_4 g) (ps' := [wd_Tok cs h r (fun _ => some tp) (upd f_4 8 v114) a_4 g, [(tp, .inl (cs 1, 2048, .inl tb))]]) rfl rfl (fun H locs hw => ?_)
                        obtain ⟨z121, ez121⟩ : ∃ y : Int32, y = x4_2 + 1 := ⟨_, rfl⟩
                        have tz121 : z121.toInt = (x4_2.toInt + 1 + 2147483648) % 4294967296 - 2147483648 := by rw [ez121]; exact i_add x4_2 1
                        have lz121 := Int32.le_toInt z121
                        have uz121 := Int32.toInt_lt z121
                        try replace tz121 : z121.toInt = x4_2.toInt + 1 := by omega
                        refine lv_iinc (v := z121) (lv' := [(2, .int z121), (1, .int 0), (4, .int v114), (3, .int v6), (0, .ref h)]) S.x S.b d_Tok_skip_144 hl (k := 4) rfl (by rw [ez121]; rfl) (by decide) rfl (fun ls hl => ?_)
                        refine lv_goto (tgt := 4) S.x S.b d_Tok_skip_147 (by decide) ?_
                        first | exact ih4 (upd f_4 8 v114) a_4 (0 : Int32) z121 _ _ ls (show TokOk (f_4 7) v114 (f_4 10) (f_4 11) (f_4 12) (f_4 13) (f_4 17) (a_4 4) from ⟨⟨o1, o2⟩, ⟨e115, (oz_8908a45630 e116)⟩, ⟨o5, o6⟩, ⟨o7, o8⟩, ⟨o9, o10⟩, ⟨o11, o12⟩, o13, hn4⟩) (show (f_4 7).toInt = (f 7).toInt from k4_0) (show (f_4 10).toInt = (f 10).toInt from k4_1) (show (f_4 15).toInt = (f 15).toInt from k4_2) (show (f 8).toInt ≤ v114.toInt from (oz_95d7c919dd k4_3 tz72 nc80 e77 e117)) (show 0 ≤ z121.toInt from (oz_ae613611c0 tz121 k4_4)) (show z121.toInt ≤ (f_4 7).toInt+1 from (oz_0c5335350d nc1 tz121)) (show Q5 (a_4 5) from hq5) (show K_t2_skip_4 tb f a (upd f_4 8 v114) a_4 0 z121 from (fun y_f0 y_f1 k hE => k4_7 y_f0 y_f1 (k + 1) (Or.inr (Or.inl ⟨rfl, x4_1, x4_2, rfl, rfl, rfl, rfl, rfl, Or.inr ⟨nc1, Or.inr ⟨nc3, v6, e11, Or.inr ⟨nc12, Or.inr ⟨nc20, Or.inr ⟨nc28, Or.inl ⟨nc36, Or.inr ⟨nc38, z72, ez72, v74, e79, Or.inr ⟨nc80, v114, e118, Or.inl ⟨nc119, z121, ez121, hE⟩⟩⟩⟩⟩⟩⟩⟩⟩⟩)))) (show (f_4 7).toInt+2-z121.toInt < (n_4 : Int) from (oz_1a25760b21 hm tz121)) hw (lv_sub hl [4, 1, 0] rfl) | exact ih4 (upd f_4 8 v114) a_4 (0 : Int32) z121 _ _ ls (show TokOk (f_4 7) v114 (f_4 10) (f_4 11) (f_4 12) (f_4 13) (f_4 17) (a_4 4) from ⟨⟨by first | exact o1 | omega, by first | exact o2 | omega⟩, ⟨by first | exact e115 | omega, by first | exact oz_8908a45630 e116 | omega⟩, ⟨by first | exact o5 | omega, by first | exact o6 | omega⟩, ⟨by first | exact o7 | omega, by first | exact o8 | omega⟩, ⟨by first | exact o9 | omega, by first | exact o10 | omega⟩, ⟨by first | exact o11 | omega, by first | exact o12 | omega⟩, by first | exact o13 | omega, hn4⟩) (show (f_4 7).toInt = (f 7).toInt from by first | exact k4_0 | omega) (show (f_4 10).toInt = (f 10).toInt from by first | exact k4_1 | omega) (show (f_4 15).toInt = (f 15).toInt from by first | exact k4_2 | omega) (show (f 8).toInt ≤ v114.toInt from by first | exact oz_95d7c919dd k4_3 tz72 nc80 e77 e117 | omega) (show 0 ≤ z121.toInt from by first | exact oz_ae613611c0 tz121 k4_4 | omega) (show z121.toInt ≤ (f_4 7).toInt+1 from by first | exact oz_0c5335350d nc1 tz121 | omega) (show Q5 (a_4 5) from hq5) (show K_t2_skip_4 tb f a (upd f_4 8 v114) a_4 0 z121 from (fun y_f0 y_f1 k hE => k4_7 y_f0 y_f1 (k + 1) (Or.inr (Or.inl ⟨rfl, x4_1, x4_2, rfl, rfl, rfl, rfl, rfl, Or.inr ⟨nc1, Or.inr ⟨nc3, v6, e11, Or.inr ⟨nc12, Or.inr ⟨nc20, Or.inr ⟨nc28, Or.inl ⟨nc36, Or.inr ⟨nc38, z72, ez72, v74, e79, Or.inr ⟨nc80, v114, e118, Or.inl ⟨nc119, z121, ez121, hE⟩⟩⟩⟩⟩⟩⟩⟩⟩⟩)))) (show (f_4 7).toInt+2-z121.toInt < (n_4 : Int) from by first | exact oz_1a25760b21 hm tz121 | omega) hw (lv_sub hl [4, 1, 0] rfl)
                      · have nc119 : ¬ v114.toInt ≤ (f_4 8).toInt := mt (i_le (x := v114) (y := (f_4 8))).mpr c119
                        refine lv_iconst (v := 1) S.x S.b d_Tok_skip_132 (by decide) ?_
                        refine lv_goto (tgt := 137) S.x S.b d_Tok_skip_133 (by decide) ?_
                        refine lv_istore_n (lv' := [(1, .int 1), (4, .int v114), (3, .int v6), (0, .ref h), (2, .int x4_2)]) S.x S.b d_Tok_skip_137 rfl hl (by decide) rfl (fun ls hl => ?_)
                        refine lv_aload_n S.x S.b d_Tok_skip_138 rfl (lv_at hl 3 rfl) ?_
                        refine lv_iload S.x S.b d_Tok_skip_139 (lv_at hl 1 rfl) ?_
                        refine px_put S k_Tok hT hw 0 0 8 rfl rfl (by decide) m1_111 rfl rfl rfl (Nat.le_of_ble_eq_true rfl) d_Tok_skip_141 (w' := wd_Tok cs h r (fun _ => some tp) (upd f_4 8 v114) a_4 g) (ps' := [wd_Tok cs h r (fun _ => some tp) (upd f_4 8 v114) a_4 g, [(tp, .inl (cs 1, 2048, .inl tb))]]) rfl rfl (fun H locs hw => ?_)
                        obtain ⟨z122, ez122⟩ : ∃ y : Int32, y = x4_2 + 1 := ⟨_, rfl⟩
                        have tz122 : z122.toInt = (x4_2.toInt + 1 + 2147483648) % 4294967296 - 2147483648 := by rw [ez122]; exact i_add x4_2 1
                        have lz122 := Int32.le_toInt z122
                        have uz122 := Int32.toInt_lt z122
                        try replace tz122 : z122.toInt = x4_2.toInt + 1 := by omega
                        refine lv_iinc (v := z122) (lv' := [(2, .int z122), (1, .int 1), (4, .int v114), (3, .int v6), (0, .ref h)]) S.x S.b d_Tok_skip_144 hl (k := 4) rfl (by rw [ez122]; rfl) (by decide) rfl (fun ls hl => ?_)
                        refine lv_goto (tgt := 4) S.x S.b d_Tok_skip_147 (by decide) ?_
                        first | exact ih4 (upd f_4 8 v114) a_4 (1 : Int32) z122 _ _ ls (show TokOk (f_4 7) v114 (f_4 10) (f_4 11) (f_4 12) (f_4 13) (f_4 17) (a_4 4) from ⟨⟨o1, o2⟩, ⟨e115, (oz_8908a45630 e116)⟩, ⟨o5, o6⟩, ⟨o7, o8⟩, ⟨o9, o10⟩, ⟨o11, o12⟩, o13, hn4⟩) (show (f_4 7).toInt = (f 7).toInt from k4_0) (show (f_4 10).toInt = (f 10).toInt from k4_1) (show (f_4 15).toInt = (f 15).toInt from k4_2) (show (f 8).toInt ≤ v114.toInt from (oz_fbfdb238f4 k4_3 nc119)) (show 0 ≤ z122.toInt from (oz_ae613611c0 tz122 k4_4)) (show z122.toInt ≤ (f_4 7).toInt+1 from (oz_0c5335350d nc1 tz122)) (show Q5 (a_4 5) from hq5) (show K_t2_skip_4 tb f a (upd f_4 8 v114) a_4 1 z122 from (fun y_f0 y_f1 k hE => k4_7 y_f0 y_f1 (k + 1) (Or.inr (Or.inl ⟨rfl, x4_1, x4_2, rfl, rfl, rfl, rfl, rfl, Or.inr ⟨nc1, Or.inr ⟨nc3, v6, e11, Or.inr ⟨nc12, Or.inr ⟨nc20, Or.inr ⟨nc28, Or.inl ⟨nc36, Or.inr ⟨nc38, z72, ez72, v74, e79, Or.inr ⟨nc80, v114, e118, Or.inr ⟨nc119, z122, ez122, hE⟩⟩⟩⟩⟩⟩⟩⟩⟩⟩)))) (show (f_4 7).toInt+2-z122.toInt < (n_4 : Int) from (oz_1a25760b21 hm tz122)) hw (lv_sub hl [4, 1, 0] rfl) | exact ih4 (upd f_4 8 v114) a_4 (1 : Int32) z122 _ _ ls (show TokOk (f_4 7) v114 (f_4 10) (f_4 11) (f_4 12) (f_4 13) (f_4 17) (a_4 4) from ⟨⟨by first | exact o1 | omega, by first | exact o2 | omega⟩, ⟨by first | exact e115 | omega, by first | exact oz_8908a45630 e116 | omega⟩, ⟨by first | exact o5 | omega, by first | exact o6 | omega⟩, ⟨by first | exact o7 | omega, by first | exact o8 | omega⟩, ⟨by first | exact o9 | omega, by first | exact o10 | omega⟩, ⟨by first | exact o11 | omega, by first | exact o12 | omega⟩, by first | exact o13 | omega, hn4⟩) (show (f_4 7).toInt = (f 7).toInt from by first | exact k4_0 | omega) (show (f_4 10).toInt = (f 10).toInt from by first | exact k4_1 | omega) (show (f_4 15).toInt = (f 15).toInt from by first | exact k4_2 | omega) (show (f 8).toInt ≤ v114.toInt from by first | exact oz_fbfdb238f4 k4_3 nc119 | omega) (show 0 ≤ z122.toInt from by first | exact oz_ae613611c0 tz122 k4_4 | omega) (show z122.toInt ≤ (f_4 7).toInt+1 from by first | exact oz_0c5335350d nc1 tz122 | omega) (show Q5 (a_4 5) from hq5) (show K_t2_skip_4 tb f a (upd f_4 8 v114) a_4 1 z122 from (fun y_f0 y_f1 k hE => k4_7 y_f0 y_f1 (k + 1) (Or.inr (Or.inl ⟨rfl, x4_1, x4_2, rfl, rfl, rfl, rfl, rfl, Or.inr ⟨nc1, Or.inr ⟨nc3, v6, e11, Or.inr ⟨nc12, Or.inr ⟨nc20, Or.inr ⟨nc28, Or.inl ⟨nc36, Or.inr ⟨nc38, z72, ez72, v74, e79, Or.inr ⟨nc80, v114, e118, Or.inr ⟨nc119, z122, ez122, hE⟩⟩⟩⟩⟩⟩⟩⟩⟩⟩)))) (show (f_4 7).toInt+2-z122.toInt < (n_4 : Int) from by first | exact oz_1a25760b21 hm tz122 | omega) hw (lv_sub hl [4, 1, 0] rfl)
                · have nc36 : v6.toInt = (13 : Int) := (i_eq (x := v6) (y := 13)).mp c36
                  refine lv_aload_n S.x S.b d_Tok_skip_55 rfl (lv_at hl 2 rfl) ?_
                  refine px_get S k_Tok hT hw 0 0 8 (v := .int (f_4 8)) rfl rfl rfl (by decide) m1_111 d_Tok_skip_56 ?_
                  refine lv_iconst (v := 1) S.x S.b d_Tok_skip_59 (by decide) ?_
                  refine lv_iadd S.x S.b d_Tok_skip_60 ?_
                  have lr123 := Int32.le_toInt (f_4 8)
                  have ur123 := Int32.toInt_lt (f_4 8)
                  refine lv_topi (fun z124 ez124 => ?_)
                  have tz124 : z124.toInt = ((f_4 8).toInt + (1 : Int) + 2147483648) % 4294967296 - 2147483648 := by rw [ez124]; exact i_add (f_4 8) 1
                  have lz124 := Int32.le_toInt z124
                  have uz124 := Int32.toInt_lt z124
                  try replace tz124 : z124.toInt = (f_4 8).toInt + (1 : Int) := by omega
                  refine lv_istore (lv' := [(4, .int z124), (3, .int v6), (0, .ref h), (1, .int x4_1), (2, .int x4_2)]) S.x S.b d_Tok_skip_61 hl (by decide) rfl (fun ls hl => ?_)
                  refine lv_goto (tgt := 123) S.x S.b d_Tok_skip_63 (by decide) ?_
                  refine lv_iload S.x S.b d_Tok_skip_123 (lv_at hl 0 rfl) ?_
                  refine lv_aload_n S.x S.b d_Tok_skip_125 rfl (lv_at hl 2 rfl) ?_
                  refine px_get S k_Tok hT hw 0 0 8 (v := .int (f_4 8)) rfl rfl rfl (by decide) m1_111 d_Tok_skip_126 ?_
                  refine lv_icmp_le (tgt := 136) S.x S.b d_Tok_skip_129 (by decide) (fun c125 => ?_) (fun c125 => ?_)
                  · have nc125 : z124.toInt ≤ (f_4 8).toInt := (i_le (x := z124) (y := (f_4 8))).mp c125
                    refine lv_iconst (v := 0) S.x S.b d_Tok_skip_136 (by decide) ?_
                    refine lv_istore_n (lv' := [(1, .int 0), (4, .int z124), (3, .int v6), (0, .ref h), (2, .int x4_2)]) S.x S.b d_Tok_skip_137 rfl hl (by decide) rfl (fun ls hl => ?_)
                    refine lv_aload_n S.x S.b d_Tok_skip_138 rfl (lv_at hl 3 rfl) ?_
                    refine lv_iload S.x S.b d_Tok_skip_139 (lv_at hl 1 rfl) ?_
                    refine px_put S k_Tok hT hw 0 0 8 rfl rfl (by decide) m1_111 rfl rfl rfl (Nat.le_of_ble_eq_true rfl) d_Tok_skip_141 (w' := wd_Tok cs h r (fun _ => some tp) (upd f_4 8 z124) a_4 g) (ps' := [wd_Tok cs h r (fun _ => some tp) (upd f_4 8 z124) a_4 g, [(tp, .inl (cs 1, 2048, .inl tb))]]) rfl rfl (fun H locs hw => ?_)
                    obtain ⟨z127, ez127⟩ : ∃ y : Int32, y = x4_2 + 1 := ⟨_, rfl⟩
                    have tz127 : z127.toInt = (x4_2.toInt + 1 + 2147483648) % 4294967296 - 2147483648 := by rw [ez127]; exact i_add x4_2 1
                    have lz127 := Int32.le_toInt z127
                    have uz127 := Int32.toInt_lt z127
                    first | replace tz127 : z127.toInt = x4_2.toInt + 1 := (oz_d0a3671be7 tz124 nc125) | try replace tz127 : z127.toInt = x4_2.toInt + 1 := by first | exact oz_d0a3671be7 tz124 nc125 | omega
                    refine lv_iinc (v := z127) (lv' := [(2, .int z127), (1, .int 0), (4, .int z124), (3, .int v6), (0, .ref h)]) S.x S.b d_Tok_skip_144 hl (k := 4) rfl (by rw [ez127]; rfl) (by decide) rfl (fun ls hl => ?_)
                    refine lv_goto (tgt := 4) S.x S.b d_Tok_skip_147 (by decide) ?_
                    first | exact ih4 (upd f_4 8 z124) a_4 (0 : Int32) z127 _ _ ls (show TokOk (f_4 7) z124 (f_4 10) (f_4 11) (f_4 12) (f_4 13) (f_4 17) (a_4 4) from ⟨⟨o1, o2⟩, ⟨(oz_b3b25f0e49 tz124 o3), (oz_f1d1298f6f tz124 nc125)⟩, ⟨o5, o6⟩, ⟨o7, o8⟩, ⟨o9, o10⟩, ⟨o11, o12⟩, o13, hn4⟩) (show (f_4 7).toInt = (f 7).toInt from k4_0) (show (f_4 10).toInt = (f 10).toInt from k4_1) (show (f_4 15).toInt = (f 15).toInt from k4_2) (show (f 8).toInt ≤ z124.toInt from (oz_df4877b868 k4_3 tz124)) (show 0 ≤ z127.toInt from (oz_ae613611c0 tz127 k4_4)) (show z127.toInt ≤ (f_4 7).toInt+1 from (oz_42d443b05b tz124 nc125)) (show Q5 (a_4 5) from hq5) (show K_t2_skip_4 tb f a (upd f_4 8 z124) a_4 0 z127 from (fun y_f0 y_f1 k hE => k4_7 y_f0 y_f1 (k + 1) (Or.inr (Or.inl ⟨rfl, x4_1, x4_2, rfl, rfl, rfl, rfl, rfl, Or.inr ⟨nc1, Or.inr ⟨nc3, v6, e11, Or.inr ⟨nc12, Or.inr ⟨nc20, Or.inr ⟨nc28, Or.inr ⟨nc36, z124, ez124, Or.inl ⟨nc125, z127, ez127, hE⟩⟩⟩⟩⟩⟩⟩⟩)))) (show (f_4 7).toInt+2-z127.toInt < (n_4 : Int) from (oz_ea2b3b93d5 tz124 nc125)) hw (lv_sub hl [4, 1, 0] rfl) | exact ih4 (upd f_4 8 z124) a_4 (0 : Int32) z127 _ _ ls (show TokOk (f_4 7) z124 (f_4 10) (f_4 11) (f_4 12) (f_4 13) (f_4 17) (a_4 4) from ⟨⟨by first | exact o1 | omega, by first | exact o2 | omega⟩, ⟨by first | exact oz_b3b25f0e49 tz124 o3 | omega, by first | exact oz_f1d1298f6f tz124 nc125 | omega⟩, ⟨by first | exact o5 | omega, by first | exact o6 | omega⟩, ⟨by first | exact o7 | omega, by first | exact o8 | omega⟩, ⟨by first | exact o9 | omega, by first | exact o10 | omega⟩, ⟨by first | exact o11 | omega, by first | exact o12 | omega⟩, by first | exact o13 | omega, hn4⟩) (show (f_4 7).toInt = (f 7).toInt from by first | exact k4_0 | omega) (show (f_4 10).toInt = (f 10).toInt from by first | exact k4_1 | omega) (show (f_4 15).toInt = (f 15).toInt from by first | exact k4_2 | omega) (show (f 8).toInt ≤ z124.toInt from by first | exact oz_df4877b868 k4_3 tz124 | omega) (show 0 ≤ z127.toInt from by first | exact oz_ae613611c0 tz127 k4_4 | omega) (show z127.toInt ≤ (f_4 7).toInt+1 from by first | exact oz_42d443b05b tz124 nc125 | omega) (show Q5 (a_4 5) from hq5) (show K_t2_skip_4 tb f a (upd f_4 8 z124) a_4 0 z127 from (fun y_f0 y_f1 k hE => k4_7 y_f0 y_f1 (k + 1) (Or.inr (Or.inl ⟨rfl, x4_1, x4_2, rfl, rfl, rfl, rfl, rfl, Or.inr ⟨nc1, Or.inr ⟨nc3, v6, e11, Or.inr ⟨nc12, Or.inr ⟨nc20, Or.inr ⟨nc28, Or.inr ⟨nc36, z124, ez124, Or.inl ⟨nc125, z127, ez127, hE⟩⟩⟩⟩⟩⟩⟩⟩)))) (show (f_4 7).toInt+2-z127.toInt < (n_4 : Int) from by first | exact oz_ea2b3b93d5 tz124 nc125 | omega) hw (lv_sub hl [4, 1, 0] rfl)
                  · have nc125 : ¬ z124.toInt ≤ (f_4 8).toInt := mt (i_le (x := z124) (y := (f_4 8))).mpr c125
                    refine lv_iconst (v := 1) S.x S.b d_Tok_skip_132 (by decide) ?_
                    refine lv_goto (tgt := 137) S.x S.b d_Tok_skip_133 (by decide) ?_
                    refine lv_istore_n (lv' := [(1, .int 1), (4, .int z124), (3, .int v6), (0, .ref h), (2, .int x4_2)]) S.x S.b d_Tok_skip_137 rfl hl (by decide) rfl (fun ls hl => ?_)
                    refine lv_aload_n S.x S.b d_Tok_skip_138 rfl (lv_at hl 3 rfl) ?_
                    refine lv_iload S.x S.b d_Tok_skip_139 (lv_at hl 1 rfl) ?_
                    refine px_put S k_Tok hT hw 0 0 8 rfl rfl (by decide) m1_111 rfl rfl rfl (Nat.le_of_ble_eq_true rfl) d_Tok_skip_141 (w' := wd_Tok cs h r (fun _ => some tp) (upd f_4 8 z124) a_4 g) (ps' := [wd_Tok cs h r (fun _ => some tp) (upd f_4 8 z124) a_4 g, [(tp, .inl (cs 1, 2048, .inl tb))]]) rfl rfl (fun H locs hw => ?_)
                    obtain ⟨z128, ez128⟩ : ∃ y : Int32, y = x4_2 + 1 := ⟨_, rfl⟩
                    have tz128 : z128.toInt = (x4_2.toInt + 1 + 2147483648) % 4294967296 - 2147483648 := by rw [ez128]; exact i_add x4_2 1
                    have lz128 := Int32.le_toInt z128
                    have uz128 := Int32.toInt_lt z128
                    try replace tz128 : z128.toInt = x4_2.toInt + 1 := by omega
                    refine lv_iinc (v := z128) (lv' := [(2, .int z128), (1, .int 1), (4, .int z124), (3, .int v6), (0, .ref h)]) S.x S.b d_Tok_skip_144 hl (k := 4) rfl (by rw [ez128]; rfl) (by decide) rfl (fun ls hl => ?_)
                    refine lv_goto (tgt := 4) S.x S.b d_Tok_skip_147 (by decide) ?_
                    first | exact ih4 (upd f_4 8 z124) a_4 (1 : Int32) z128 _ _ ls (show TokOk (f_4 7) z124 (f_4 10) (f_4 11) (f_4 12) (f_4 13) (f_4 17) (a_4 4) from ⟨⟨o1, o2⟩, ⟨(oz_8c8b3d3770 nc125 o3), (oz_9626c71e54 tz124 nc36 e9)⟩, ⟨o5, o6⟩, ⟨o7, o8⟩, ⟨o9, o10⟩, ⟨o11, o12⟩, o13, hn4⟩) (show (f_4 7).toInt = (f 7).toInt from k4_0) (show (f_4 10).toInt = (f 10).toInt from k4_1) (show (f_4 15).toInt = (f 15).toInt from k4_2) (show (f 8).toInt ≤ z124.toInt from (oz_fbfdb238f4 k4_3 nc125)) (show 0 ≤ z128.toInt from (oz_ae613611c0 tz128 k4_4)) (show z128.toInt ≤ (f_4 7).toInt+1 from (oz_0c5335350d nc1 tz128)) (show Q5 (a_4 5) from hq5) (show K_t2_skip_4 tb f a (upd f_4 8 z124) a_4 1 z128 from (fun y_f0 y_f1 k hE => k4_7 y_f0 y_f1 (k + 1) (Or.inr (Or.inl ⟨rfl, x4_1, x4_2, rfl, rfl, rfl, rfl, rfl, Or.inr ⟨nc1, Or.inr ⟨nc3, v6, e11, Or.inr ⟨nc12, Or.inr ⟨nc20, Or.inr ⟨nc28, Or.inr ⟨nc36, z124, ez124, Or.inr ⟨nc125, z128, ez128, hE⟩⟩⟩⟩⟩⟩⟩⟩)))) (show (f_4 7).toInt+2-z128.toInt < (n_4 : Int) from (oz_1a25760b21 hm tz128)) hw (lv_sub hl [4, 1, 0] rfl) | exact ih4 (upd f_4 8 z124) a_4 (1 : Int32) z128 _ _ ls (show TokOk (f_4 7) z124 (f_4 10) (f_4 11) (f_4 12) (f_4 13) (f_4 17) (a_4 4) from ⟨⟨by first | exact o1 | omega, by first | exact o2 | omega⟩, ⟨by first | exact oz_8c8b3d3770 nc125 o3 | omega, by first | exact oz_9626c71e54 tz124 nc36 e9 | omega⟩, ⟨by first | exact o5 | omega, by first | exact o6 | omega⟩, ⟨by first | exact o7 | omega, by first | exact o8 | omega⟩, ⟨by first | exact o9 | omega, by first | exact o10 | omega⟩, ⟨by first | exact o11 | omega, by first | exact o12 | omega⟩, by first | exact o13 | omega, hn4⟩) (show (f_4 7).toInt = (f 7).toInt from by first | exact k4_0 | omega) (show (f_4 10).toInt = (f 10).toInt from by first | exact k4_1 | omega) (show (f_4 15).toInt = (f 15).toInt from by first | exact k4_2 | omega) (show (f 8).toInt ≤ z124.toInt from by first | exact oz_fbfdb238f4 k4_3 nc125 | omega) (show 0 ≤ z128.toInt from by first | exact oz_ae613611c0 tz128 k4_4 | omega) (show z128.toInt ≤ (f_4 7).toInt+1 from by first | exact oz_0c5335350d nc1 tz128 | omega) (show Q5 (a_4 5) from hq5) (show K_t2_skip_4 tb f a (upd f_4 8 z124) a_4 1 z128 from (fun y_f0 y_f1 k hE => k4_7 y_f0 y_f1 (k + 1) (Or.inr (Or.inl ⟨rfl, x4_1, x4_2, rfl, rfl, rfl, rfl, rfl, Or.inr ⟨nc1, Or.inr ⟨nc3, v6, e11, Or.inr ⟨nc12, Or.inr ⟨nc20, Or.inr ⟨nc28, Or.inr ⟨nc36, z124, ez124, Or.inr ⟨nc125, z128, ez128, hE⟩⟩⟩⟩⟩⟩⟩⟩)))) (show (f_4 7).toInt+2-z128.toInt < (n_4 : Int) from by first | exact oz_1a25760b21 hm tz128 | omega) hw (lv_sub hl [4, 1, 0] rfl)
  refine lv_iconst (v := 1) S.x S.b d_Tok_skip_0 (by decide) ?_
  refine lv_istore_n (lv' := [(1, .int 1), (0, .ref h)]) S.x S.b d_Tok_skip_1 rfl hl (by decide) rfl (fun ls hl => ?_)
  refine lv_iconst (v := 0) S.x S.b d_Tok_skip_2 (by decide) ?_
  refine lv_istore_n (lv' := [(2, .int 0), (1, .int 1), (0, .ref h)]) S.x S.b d_Tok_skip_3 rfl hl (by decide) rfl (fun ls hl => ?_)
  first | exact J4 (((f 7).toInt+2-(0 : Int)).toNat + 1) f a (1 : Int32) (0 : Int32) _ _ ls (show TokOk (f 7) (f 8) (f 10) (f 11) (f 12) (f 13) (f 17) (a 4) from ⟨⟨o1, o2⟩, ⟨o3, o4⟩, ⟨o5, o6⟩, ⟨o7, o8⟩, ⟨o9, o10⟩, ⟨o11, o12⟩, o13, hn4⟩) (show (f 7).toInt = (f 7).toInt from rfl) (show (f 10).toInt = (f 10).toInt from rfl) (show (f 15).toInt = (f 15).toInt from rfl) (show (f 8).toInt ≤ (f 8).toInt from oz_1cb5f934a5) (show 0 ≤ (0 : Int) from oz_5a341f00aa) (show (0 : Int) ≤ (f 7).toInt+1 from (oz_86d3cb77db o1)) (show Q5 (a 5) from hq5) (show K_t2_skip_4 tb f a f a 1 0 from (fun y_f0 y_f1 k hE => Exists.intro (k + 1) (Or.inl ⟨rfl, hE⟩))) (show (f 7).toInt+2-(0 : Int) < (((((f 7).toInt+2-(0 : Int)).toNat + 1 : Nat) : Int) : Int) from oz_natlt) hw (lv_sub hl [2, 1, 0] rfl) | exact J4 (((f 7).toInt+2-(0 : Int)).toNat + 1) f a (1 : Int32) (0 : Int32) _ _ ls (show TokOk (f 7) (f 8) (f 10) (f 11) (f 12) (f 13) (f 17) (a 4) from ⟨⟨by first | exact o1 | omega, by first | exact o2 | omega⟩, ⟨by first | exact o3 | omega, by first | exact o4 | omega⟩, ⟨by first | exact o5 | omega, by first | exact o6 | omega⟩, ⟨by first | exact o7 | omega, by first | exact o8 | omega⟩, ⟨by first | exact o9 | omega, by first | exact o10 | omega⟩, ⟨by first | exact o11 | omega, by first | exact o12 | omega⟩, by first | exact o13 | omega, hn4⟩) (show (f 7).toInt = (f 7).toInt from rfl) (show (f 10).toInt = (f 10).toInt from rfl) (show (f 15).toInt = (f 15).toInt from rfl) (show (f 8).toInt ≤ (f 8).toInt from by first | exact oz_1cb5f934a5 | omega) (show 0 ≤ (0 : Int) from by first | exact oz_5a341f00aa | omega) (show (0 : Int) ≤ (f 7).toInt+1 from by first | exact oz_86d3cb77db o1 | omega) (show Q5 (a 5) from hq5) (show K_t2_skip_4 tb f a f a 1 0 from (fun y_f0 y_f1 k hE => Exists.intro (k + 1) (Or.inl ⟨rfl, hE⟩))) (show (f 7).toInt+2-(0 : Int) < (((((f 7).toInt+2-(0 : Int)).toNat + 1 : Nat) : Int) : Int) from by first | exact oz_natlt | omega) hw (lv_sub hl [2, 1, 0] rfl)
set_option maxHeartbeats 4000000 in
set_option maxRecDepth 100000 in
theorem c_t2_quotedAt (l : Launch) (D : va_G) (cs : Nat → ClassId) (h : Nat) (r : Nat → Nat) (tp : Nat) (tb : Nat → Int32) (g : Nat → Nat → Option Nat) (f : Nat → Int32) (a : Nat → Nat → Int32) (p0 p1 : Int32)  (hinv0 : TokOk (f 7) (f 8) (f 10) (f 11) (f 12) (f 13) (f 17) (a 4)) (g0 : p1.toInt ≤ 100) : MetI l y_Tok_quotedAt b_Tok_quotedAt 5 (.int) D cs 1 22 (0) (0) [.ref h, .int p0, .int p1] [wd_Tok cs h r (fun _ => some tp) f a g, [(tp, .inl (cs 1, 2048, .inl tb))]] (fun _ => True) (fun v ps => (ps = [wd_Tok cs h r (fun _ => some tp) f a g, [(tp, .inl (cs 1, 2048, .inl tb))]]) ∧ (-1 ≤ v.toInt) ∧ (v.toInt ≤ 200) ∧ (0 ≤ v.toInt → 0 ≤ p0.toInt ∧ p0.toInt < (f 7).toInt) ∧ (R_t2_quotedAt tb f p0 p1 v)) := by
  refine px_enter (by decide) (Nat.le_of_ble_eq_true rfl) ?_
  intro p e s m below meth c A ls hAe S hr hlk hnm hA hT hX hw hl
  have hl : lv_has ls 5 [(0, .ref h), (1, .int p0), (2, .int p1)] := hl
  have lp0 := Int32.le_toInt p0
  have up0 := Int32.toInt_lt p0
  have lp1 := Int32.le_toInt p1
  have up1 := Int32.toInt_lt p1
  have cstm1 : ((-1) : Int32).toInt = (-1) := rfl
  have cst0 : (0 : Int32).toInt = 0 := rfl
  have cst1 : (1 : Int32).toInt = 1 := rfl
  have cst10 : (10 : Int32).toInt = 10 := rfl
  have cst32 : (32 : Int32).toInt = 32 := rfl
  have cst48 : (48 : Int32).toInt = 48 := rfl
  have cst92 : (92 : Int32).toInt = 92 := rfl
  have cst110 : (110 : Int32).toInt = 110 := rfl
  have cst126 : (126 : Int32).toInt = 126 := rfl
  obtain ⟨⟨o1, o2⟩, ⟨o3, o4⟩, ⟨o5, o6⟩, ⟨o7, o8⟩, ⟨o9, o10⟩, ⟨o11, o12⟩, o13, hn4⟩ := hinv0
  refine lv_aload_n S.x S.b d_Tok_quotedAt_0 rfl (lv_at hl 0 rfl) ?_
  refine lv_iload_n S.x S.b d_Tok_quotedAt_1 rfl (lv_at hl 1 rfl) ?_
  first | refine px_calli (pr := []) (px_runV (As := [.int p0]) (rest := []) S (c_t2_byteAt l D cs h r tp tb g f a p0  (show TokOk (f 7) (f 8) (f 10) (f 11) (f 12) (f 13) (f 17) (a 4) from ⟨⟨o1, o2⟩, ⟨o3, o4⟩, ⟨o5, o6⟩, ⟨o7, o8⟩, ⟨o9, o10⟩, ⟨o11, o12⟩, o13, hn4⟩) _) hT (pr := []) (pcs := [wd_Tok cs h r (fun _ => some tp) f a g, [(tp, .inl (cs 1, 2048, .inl tb))]]) hw px_X.tt (px_recv hT hw 0 0 rfl rfl rfl) m3_186 m3_183 m3_185 ms_1_6 m1_2 q_Tok_byteAt ⟨Nat.le_of_ble_eq_true rfl, Nat.le_of_ble_eq_true rfl⟩ hl.1 rfl (Nat.le_of_ble_eq_true rfl) d_Tok_quotedAt_2 ⟨Nat.le_of_ble_eq_true rfl, Nat.le_of_ble_eq_true rfl⟩) hw hA (fun v2 p1 H locs hp1 hw => ?_) | refine px_calli (pr := []) (px_runV (As := [.int p0]) (rest := []) S (c_t2_byteAt l D cs h r tp tb g f a p0  (show TokOk (f 7) (f 8) (f 10) (f 11) (f 12) (f 13) (f 17) (a 4) from ⟨⟨by first | exact o1 | omega, by first | exact o2 | omega⟩, ⟨by first | exact o3 | omega, by first | exact o4 | omega⟩, ⟨by first | exact o5 | omega, by first | exact o6 | omega⟩, ⟨by first | exact o7 | omega, by first | exact o8 | omega⟩, ⟨by first | exact o9 | omega, by first | exact o10 | omega⟩, ⟨by first | exact o11 | omega, by first | exact o12 | omega⟩, by first | exact o13 | omega, hn4⟩) _) hT (pr := []) (pcs := [wd_Tok cs h r (fun _ => some tp) f a g, [(tp, .inl (cs 1, 2048, .inl tb))]]) hw px_X.tt (px_recv hT hw 0 0 rfl rfl rfl) m3_186 m3_183 m3_185 ms_1_6 m1_2 q_Tok_byteAt ⟨Nat.le_of_ble_eq_true rfl, Nat.le_of_ble_eq_true rfl⟩ hl.1 rfl (Nat.le_of_ble_eq_true rfl) d_Tok_quotedAt_2 ⟨Nat.le_of_ble_eq_true rfl, Nat.le_of_ble_eq_true rfl⟩) hw hA (fun v2 p1 H locs hp1 hw => ?_)
  obtain ⟨rfl, e3, e4, e5, e6, e7⟩ := hp1
  have e3 : -1 ≤ v2.toInt := e3
  have e4 : v2.toInt ≤ 255 := e4
  have e5 : 0 ≤ v2.toInt → 0 ≤ p0.toInt ∧ p0.toInt < (f 7).toInt := e5
  have e6 : By tb (f 7) p0 v2 := e6
  have e7 : R_t2_byteAt tb f p0 v2 := e7
  have lv2 := Int32.le_toInt v2
  have uv2 := Int32.toInt_lt v2
  refine lv_istore_n (lv' := [(3, .int v2), (0, .ref h), (1, .int p0), (2, .int p1)]) S.x S.b d_Tok_quotedAt_5 rfl hl (by decide) rfl (fun ls hl => ?_)
  refine lv_iload_n S.x S.b d_Tok_quotedAt_6 rfl (lv_at hl 0 rfl) ?_
  refine lv_bipush (v := 92) S.x S.b d_Tok_quotedAt_7 (by decide) ?_
  refine lv_icmp_ne (tgt := 60) S.x S.b d_Tok_quotedAt_9 (by decide) (fun c8 => ?_) (fun c8 => ?_)
  · have nc8 : ¬ v2.toInt = (92 : Int) := mt (i_eq (x := v2) (y := 92)).mpr c8
    refine lv_iload_n S.x S.b d_Tok_quotedAt_60 rfl (lv_at hl 0 rfl) ?_
    refine lv_bipush (v := 32) S.x S.b d_Tok_quotedAt_61 (by decide) ?_
    refine lv_icmp_lt (tgt := 81) S.x S.b d_Tok_quotedAt_63 (by decide) (fun c10 => ?_) (fun c10 => ?_)
    · have nc10 : v2.toInt < (32 : Int) := (i_lt (x := v2) (y := 32)).mp c10
      refine lv_iconst (v := (-1)) S.x S.b d_Tok_quotedAt_81 (by decide) ?_
      first | exact px_iret (v := (-1)) S hr rfl hlk hAe hw (Nat.le_of_ble_eq_true rfl) (Nat.le_of_ble_eq_true rfl) (⟨rfl, (show -1 ≤ (-1 : Int) from oz_268d846349), (show (-1 : Int) ≤ 200 from oz_6c4facbc71), (show 0 ≤ (-1 : Int) → 0 ≤ p0.toInt ∧ p0.toInt < (f 7).toInt from by omega), (show R_t2_quotedAt tb f p0 p1 (-1 : Int32) from (Or.inl ⟨v2, e7, Or.inl ⟨nc8, Or.inl ⟨nc10, rfl⟩⟩⟩))⟩) d_Tok_quotedAt_82 | exact px_iret (v := (-1)) S hr rfl hlk hAe hw (Nat.le_of_ble_eq_true rfl) (Nat.le_of_ble_eq_true rfl) (⟨rfl, (show -1 ≤ (-1 : Int) from by first | exact oz_268d846349 | omega), (show (-1 : Int) ≤ 200 from by first | exact oz_6c4facbc71 | omega), (show 0 ≤ (-1 : Int) → 0 ≤ p0.toInt ∧ p0.toInt < (f 7).toInt from by omega), (show R_t2_quotedAt tb f p0 p1 (-1 : Int32) from (Or.inl ⟨v2, e7, Or.inl ⟨nc8, Or.inl ⟨nc10, rfl⟩⟩⟩))⟩) d_Tok_quotedAt_82
    · have nc10 : ¬ v2.toInt < (32 : Int) := mt (i_lt (x := v2) (y := 32)).mpr c10
      refine lv_iload_n S.x S.b d_Tok_quotedAt_66 rfl (lv_at hl 0 rfl) ?_
      refine lv_bipush (v := 126) S.x S.b d_Tok_quotedAt_67 (by decide) ?_
      refine lv_icmp_gt (tgt := 81) S.x S.b d_Tok_quotedAt_69 (by decide) (fun c12 => ?_) (fun c12 => ?_)
      · have nc12 : (126 : Int) < v2.toInt := (i_lt (x := 126) (y := v2)).mp c12
        refine lv_iconst (v := (-1)) S.x S.b d_Tok_quotedAt_81 (by decide) ?_
        first | exact px_iret (v := (-1)) S hr rfl hlk hAe hw (Nat.le_of_ble_eq_true rfl) (Nat.le_of_ble_eq_true rfl) (⟨rfl, (show -1 ≤ (-1 : Int) from oz_268d846349), (show (-1 : Int) ≤ 200 from oz_6c4facbc71), (show 0 ≤ (-1 : Int) → 0 ≤ p0.toInt ∧ p0.toInt < (f 7).toInt from by omega), (show R_t2_quotedAt tb f p0 p1 (-1 : Int32) from (Or.inl ⟨v2, e7, Or.inl ⟨nc8, Or.inr ⟨nc10, Or.inl ⟨nc12, rfl⟩⟩⟩⟩))⟩) d_Tok_quotedAt_82 | exact px_iret (v := (-1)) S hr rfl hlk hAe hw (Nat.le_of_ble_eq_true rfl) (Nat.le_of_ble_eq_true rfl) (⟨rfl, (show -1 ≤ (-1 : Int) from by first | exact oz_268d846349 | omega), (show (-1 : Int) ≤ 200 from by first | exact oz_6c4facbc71 | omega), (show 0 ≤ (-1 : Int) → 0 ≤ p0.toInt ∧ p0.toInt < (f 7).toInt from by omega), (show R_t2_quotedAt tb f p0 p1 (-1 : Int32) from (Or.inl ⟨v2, e7, Or.inl ⟨nc8, Or.inr ⟨nc10, Or.inl ⟨nc12, rfl⟩⟩⟩⟩))⟩) d_Tok_quotedAt_82
      · have nc12 : ¬ (126 : Int) < v2.toInt := mt (i_lt (x := 126) (y := v2)).mpr c12
        refine lv_iload_n S.x S.b d_Tok_quotedAt_72 rfl (lv_at hl 0 rfl) ?_
        refine lv_iload_n S.x S.b d_Tok_quotedAt_73 rfl (lv_at hl 3 rfl) ?_
        refine lv_icmp_eq (tgt := 81) S.x S.b d_Tok_quotedAt_74 (by decide) (fun c14 => ?_) (fun c14 => ?_)
        · have nc14 : v2.toInt = p1.toInt := (i_eq (x := v2) (y := p1)).mp c14
          refine lv_iconst (v := (-1)) S.x S.b d_Tok_quotedAt_81 (by decide) ?_
          first | exact px_iret (v := (-1)) S hr rfl hlk hAe hw (Nat.le_of_ble_eq_true rfl) (Nat.le_of_ble_eq_true rfl) (⟨rfl, (show -1 ≤ (-1 : Int) from oz_268d846349), (show (-1 : Int) ≤ 200 from oz_6c4facbc71), (show 0 ≤ (-1 : Int) → 0 ≤ p0.toInt ∧ p0.toInt < (f 7).toInt from by omega), (show R_t2_quotedAt tb f p0 p1 (-1 : Int32) from (Or.inl ⟨v2, e7, Or.inl ⟨nc8, Or.inr ⟨nc10, Or.inr ⟨nc12, Or.inl ⟨nc14, rfl⟩⟩⟩⟩⟩))⟩) d_Tok_quotedAt_82 | exact px_iret (v := (-1)) S hr rfl hlk hAe hw (Nat.le_of_ble_eq_true rfl) (Nat.le_of_ble_eq_true rfl) (⟨rfl, (show -1 ≤ (-1 : Int) from by first | exact oz_268d846349 | omega), (show (-1 : Int) ≤ 200 from by first | exact oz_6c4facbc71 | omega), (show 0 ≤ (-1 : Int) → 0 ≤ p0.toInt ∧ p0.toInt < (f 7).toInt from by omega), (show R_t2_quotedAt tb f p0 p1 (-1 : Int32) from (Or.inl ⟨v2, e7, Or.inl ⟨nc8, Or.inr ⟨nc10, Or.inr ⟨nc12, Or.inl ⟨nc14, rfl⟩⟩⟩⟩⟩))⟩) d_Tok_quotedAt_82
        · have nc14 : ¬ v2.toInt = p1.toInt := mt (i_eq (x := v2) (y := p1)).mpr c14
          refine lv_iload_n S.x S.b d_Tok_quotedAt_77 rfl (lv_at hl 0 rfl) ?_
          refine lv_goto (tgt := 82) S.x S.b d_Tok_quotedAt_78 (by decide) ?_
          first | exact px_iret (v := v2) S hr rfl hlk hAe hw (Nat.le_of_ble_eq_true rfl) (Nat.le_of_ble_eq_true rfl) (⟨rfl, (show -1 ≤ v2.toInt from e3), (show v2.toInt ≤ 200 from (oz_81847fae50 nc12)), (show 0 ≤ v2.toInt → 0 ≤ p0.toInt ∧ p0.toInt < (f 7).toInt from e5), (show R_t2_quotedAt tb f p0 p1 v2 from (Or.inl ⟨v2, e7, Or.inl ⟨nc8, Or.inr ⟨nc10, Or.inr ⟨nc12, Or.inr ⟨nc14, rfl⟩⟩⟩⟩⟩))⟩) d_Tok_quotedAt_82 | exact px_iret (v := v2) S hr rfl hlk hAe hw (Nat.le_of_ble_eq_true rfl) (Nat.le_of_ble_eq_true rfl) (⟨rfl, (show -1 ≤ v2.toInt from by first | exact e3 | omega), (show v2.toInt ≤ 200 from by first | exact oz_81847fae50 nc12 | omega), (show 0 ≤ v2.toInt → 0 ≤ p0.toInt ∧ p0.toInt < (f 7).toInt from by first | exact e5 | omega), (show R_t2_quotedAt tb f p0 p1 v2 from (Or.inl ⟨v2, e7, Or.inl ⟨nc8, Or.inr ⟨nc10, Or.inr ⟨nc12, Or.inr ⟨nc14, rfl⟩⟩⟩⟩⟩))⟩) d_Tok_quotedAt_82
  · have nc8 : v2.toInt = (92 : Int) := (i_eq (x := v2) (y := 92)).mp c8
    refine lv_aload_n S.x S.b d_Tok_quotedAt_12 rfl (lv_at hl 1 rfl) ?_
    refine lv_iload_n S.x S.b d_Tok_quotedAt_13 rfl (lv_at hl 2 rfl) ?_
    refine lv_iconst (v := 1) S.x S.b d_Tok_quotedAt_14 (by decide) ?_
    refine lv_iadd S.x S.b d_Tok_quotedAt_15 ?_
    refine lv_topi (fun z16 ez16 => ?_)
    have tz16 : z16.toInt = (p0.toInt + (1 : Int) + 2147483648) % 4294967296 - 2147483648 := by rw [ez16]; exact i_add p0 1
    have lz16 := Int32.le_toInt z16
    have uz16 := Int32.toInt_lt z16
    try replace tz16 : z16.toInt = p0.toInt + (1 : Int) := by omega
    first | refine px_calli (pr := []) (px_runV (As := [.int z16]) (rest := []) S (c_t2_byteAt l D cs h r tp tb g f a z16  (show TokOk (f 7) (f 8) (f 10) (f 11) (f 12) (f 13) (f 17) (a 4) from ⟨⟨o1, o2⟩, ⟨o3, o4⟩, ⟨o5, o6⟩, ⟨o7, o8⟩, ⟨o9, o10⟩, ⟨o11, o12⟩, o13, hn4⟩) _) hT (pr := []) (pcs := [wd_Tok cs h r (fun _ => some tp) f a g, [(tp, .inl (cs 1, 2048, .inl tb))]]) hw px_X.tt (px_recv hT hw 0 0 rfl rfl rfl) m3_186 m3_183 m3_185 ms_1_6 m1_2 q_Tok_byteAt ⟨Nat.le_of_ble_eq_true rfl, Nat.le_of_ble_eq_true rfl⟩ hl.1 rfl (Nat.le_of_ble_eq_true rfl) d_Tok_quotedAt_16 ⟨Nat.le_of_ble_eq_true rfl, Nat.le_of_ble_eq_true rfl⟩) hw hA (fun v18 p17 H locs hp17 hw => ?_) | refine px_calli (pr := []) (px_runV (As := [.int z16]) (rest := []) S (c_t2_byteAt l D cs h r tp tb g f a z16  (show TokOk (f 7) (f 8) (f 10) (f 11) (f 12) (f 13) (f 17) (a 4) from ⟨⟨by first | exact o1 | omega, by first | exact o2 | omega⟩, ⟨by first | exact o3 | omega, by first | exact o4 | omega⟩, ⟨by first | exact o5 | omega, by first | exact o6 | omega⟩, ⟨by first | exact o7 | omega, by first | exact o8 | omega⟩, ⟨by first | exact o9 | omega, by first | exact o10 | omega⟩, ⟨by first | exact o11 | omega, by first | exact o12 | omega⟩, by first | exact o13 | omega, hn4⟩) _) hT (pr := []) (pcs := [wd_Tok cs h r (fun _ => some tp) f a g, [(tp, .inl (cs 1, 2048, .inl tb))]]) hw px_X.tt (px_recv hT hw 0 0 rfl rfl rfl) m3_186 m3_183 m3_185 ms_1_6 m1_2 q_Tok_byteAt ⟨Nat.le_of_ble_eq_true rfl, Nat.le_of_ble_eq_true rfl⟩ hl.1 rfl (Nat.le_of_ble_eq_true rfl) d_Tok_quotedAt_16 ⟨Nat.le_of_ble_eq_true rfl, Nat.le_of_ble_eq_true rfl⟩) hw hA (fun v18 p17 H locs hp17 hw => ?_)
    obtain ⟨rfl, e19, e20, e21, e22, e23⟩ := hp17
    have e19 : -1 ≤ v18.toInt := e19
    have e20 : v18.toInt ≤ 255 := e20
    have e21 : 0 ≤ v18.toInt → 0 ≤ z16.toInt ∧ z16.toInt < (f 7).toInt := e21
    have e22 : By tb (f 7) z16 v18 := e22
    have e23 : R_t2_byteAt tb f z16 v18 := e23
    have lv18 := Int32.le_toInt v18
    have uv18 := Int32.toInt_lt v18
    refine lv_istore (lv' := [(4, .int v18), (3, .int v2), (0, .ref h), (1, .int p0), (2, .int p1)]) S.x S.b d_Tok_quotedAt_19 hl (by decide) rfl (fun ls hl => ?_)
    refine lv_iload S.x S.b d_Tok_quotedAt_21 (lv_at hl 0 rfl) ?_
    refine lv_bipush (v := 110) S.x S.b d_Tok_quotedAt_23 (by decide) ?_
    refine lv_icmp_ne (tgt := 31) S.x S.b d_Tok_quotedAt_25 (by decide) (fun c24 => ?_) (fun c24 => ?_)
    · have nc24 : ¬ v18.toInt = (110 : Int) := mt (i_eq (x := v18) (y := 110)).mpr c24
      refine lv_iload S.x S.b d_Tok_quotedAt_31 (lv_at hl 0 rfl) ?_
      refine lv_bipush (v := 48) S.x S.b d_Tok_quotedAt_33 (by decide) ?_
      refine lv_icmp_ne (tgt := 40) S.x S.b d_Tok_quotedAt_35 (by decide) (fun c26 => ?_) (fun c26 => ?_)
      · have nc26 : ¬ v18.toInt = (48 : Int) := mt (i_eq (x := v18) (y := 48)).mpr c26
        refine lv_iload S.x S.b d_Tok_quotedAt_40 (lv_at hl 0 rfl) ?_
        refine lv_iload_n S.x S.b d_Tok_quotedAt_42 rfl (lv_at hl 4 rfl) ?_
        refine lv_icmp_eq (tgt := 53) S.x S.b d_Tok_quotedAt_43 (by decide) (fun c28 => ?_) (fun c28 => ?_)
        · have nc28 : v18.toInt = p1.toInt := (i_eq (x := v18) (y := p1)).mp c28
          refine lv_iload S.x S.b d_Tok_quotedAt_53 (lv_at hl 0 rfl) ?_
          refine lv_goto (tgt := 59) S.x S.b d_Tok_quotedAt_55 (by decide) ?_
          first | exact px_iret (v := v18) S hr rfl hlk hAe hw (Nat.le_of_ble_eq_true rfl) (Nat.le_of_ble_eq_true rfl) (⟨rfl, (show -1 ≤ v18.toInt from e19), (show v18.toInt ≤ 200 from (oz_242b92e872 nc28 g0)), (show 0 ≤ v18.toInt → 0 ≤ p0.toInt ∧ p0.toInt < (f 7).toInt from (fun q9 => oz_b5a98028f4 nc8 e5)), (show R_t2_quotedAt tb f p0 p1 v18 from (Or.inl ⟨v2, e7, Or.inr ⟨nc8, z16, ez16, v18, e23, Or.inl ⟨nc24, Or.inl ⟨nc26, Or.inl ⟨nc28, rfl⟩⟩⟩⟩⟩))⟩) d_Tok_quotedAt_59 | exact px_iret (v := v18) S hr rfl hlk hAe hw (Nat.le_of_ble_eq_true rfl) (Nat.le_of_ble_eq_true rfl) (⟨rfl, (show -1 ≤ v18.toInt from by first | exact e19 | omega), (show v18.toInt ≤ 200 from by first | exact oz_242b92e872 nc28 g0 | omega), (show 0 ≤ v18.toInt → 0 ≤ p0.toInt ∧ p0.toInt < (f 7).toInt from by first | exact fun q9 => oz_b5a98028f4 nc8 e5 | omega), (show R_t2_quotedAt tb f p0 p1 v18 from (Or.inl ⟨v2, e7, Or.inr ⟨nc8, z16, ez16, v18, e23, Or.inl ⟨nc24, Or.inl ⟨nc26, Or.inl ⟨nc28, rfl⟩⟩⟩⟩⟩))⟩) d_Tok_quotedAt_59
        · have nc28 : ¬ v18.toInt = p1.toInt := mt (i_eq (x := v18) (y := p1)).mpr c28
          refine lv_iload S.x S.b d_Tok_quotedAt_46 (lv_at hl 0 rfl) ?_
          refine lv_bipush (v := 92) S.x S.b d_Tok_quotedAt_48 (by decide) ?_
          refine lv_icmp_ne (tgt := 58) S.x S.b d_Tok_quotedAt_50 (by decide) (fun c30 => ?_) (fun c30 => ?_)
          · have nc30 : ¬ v18.toInt = (92 : Int) := mt (i_eq (x := v18) (y := 92)).mpr c30
            refine lv_iconst (v := (-1)) S.x S.b d_Tok_quotedAt_58 (by decide) ?_
            first | exact px_iret (v := (-1)) S hr rfl hlk hAe hw (Nat.le_of_ble_eq_true rfl) (Nat.le_of_ble_eq_true rfl) (⟨rfl, (show -1 ≤ (-1 : Int) from oz_268d846349), (show (-1 : Int) ≤ 200 from oz_6c4facbc71), (show 0 ≤ (-1 : Int) → 0 ≤ p0.toInt ∧ p0.toInt < (f 7).toInt from by omega), (show R_t2_quotedAt tb f p0 p1 (-1 : Int32) from (Or.inl ⟨v2, e7, Or.inr ⟨nc8, z16, ez16, v18, e23, Or.inl ⟨nc24, Or.inl ⟨nc26, Or.inr ⟨nc28, Or.inl ⟨nc30, rfl⟩⟩⟩⟩⟩⟩))⟩) d_Tok_quotedAt_59 | exact px_iret (v := (-1)) S hr rfl hlk hAe hw (Nat.le_of_ble_eq_true rfl) (Nat.le_of_ble_eq_true rfl) (⟨rfl, (show -1 ≤ (-1 : Int) from by first | exact oz_268d846349 | omega), (show (-1 : Int) ≤ 200 from by first | exact oz_6c4facbc71 | omega), (show 0 ≤ (-1 : Int) → 0 ≤ p0.toInt ∧ p0.toInt < (f 7).toInt from by omega), (show R_t2_quotedAt tb f p0 p1 (-1 : Int32) from (Or.inl ⟨v2, e7, Or.inr ⟨nc8, z16, ez16, v18, e23, Or.inl ⟨nc24, Or.inl ⟨nc26, Or.inr ⟨nc28, Or.inl ⟨nc30, rfl⟩⟩⟩⟩⟩⟩))⟩) d_Tok_quotedAt_59
          · have nc30 : v18.toInt = (92 : Int) := (i_eq (x := v18) (y := 92)).mp c30
            refine lv_iload S.x S.b d_Tok_quotedAt_53 (lv_at hl 0 rfl) ?_
            refine lv_goto (tgt := 59) S.x S.b d_Tok_quotedAt_55 (by decide) ?_
            first | exact px_iret (v := v18) S hr rfl hlk hAe hw (Nat.le_of_ble_eq_true rfl) (Nat.le_of_ble_eq_true rfl) (⟨rfl, (show -1 ≤ v18.toInt from e19), (show v18.toInt ≤ 200 from (oz_649850f1a1 nc30)), (show 0 ≤ v18.toInt → 0 ≤ p0.toInt ∧ p0.toInt < (f 7).toInt from (fun q9 => oz_5d7574dca0 nc8 e5 tz16 nc30 e21)), (show R_t2_quotedAt tb f p0 p1 v18 from (Or.inl ⟨v2, e7, Or.inr ⟨nc8, z16, ez16, v18, e23, Or.inl ⟨nc24, Or.inl ⟨nc26, Or.inr ⟨nc28, Or.inr ⟨nc30, rfl⟩⟩⟩⟩⟩⟩))⟩) d_Tok_quotedAt_59 | exact px_iret (v := v18) S hr rfl hlk hAe hw (Nat.le_of_ble_eq_true rfl) (Nat.le_of_ble_eq_true rfl) (⟨rfl, (show -1 ≤ v18.toInt from by first | exact e19 | omega), (show v18.toInt ≤ 200 from by first | exact oz_649850f1a1 nc30 | omega), (show 0 ≤ v18.toInt → 0 ≤ p0.toInt ∧ p0.toInt < (f 7).toInt from by first | exact fun q9 => oz_5d7574dca0 nc8 e5 tz16 nc30 e21 | omega), (show R_t2_quotedAt tb f p0 p1 v18 from (Or.inl ⟨v2, e7, Or.inr ⟨nc8, z16, ez16, v18, e23, Or.inl ⟨nc24, Or.inl ⟨nc26, Or.inr ⟨nc28, Or.inr ⟨nc30, rfl⟩⟩⟩⟩⟩⟩))⟩) d_Tok_quotedAt_59
      · have nc26 : v18.toInt = (48 : Int) := (i_eq (x := v18) (y := 48)).mp c26
        refine lv_iconst (v := 0) S.x S.b d_Tok_quotedAt_38 (by decide) ?_
        first | exact px_iret (v := 0) S hr rfl hlk hAe hw (Nat.le_of_ble_eq_true rfl) (Nat.le_of_ble_eq_true rfl) (⟨rfl, (show -1 ≤ (0 : Int) from oz_247129bdec), (show (0 : Int) ≤ 200 from oz_de5f2c4db3), (show 0 ≤ (0 : Int) → 0 ≤ p0.toInt ∧ p0.toInt < (f 7).toInt from by omega), (show R_t2_quotedAt tb f p0 p1 (0 : Int32) from (Or.inl ⟨v2, e7, Or.inr ⟨nc8, z16, ez16, v18, e23, Or.inl ⟨nc24, Or.inr ⟨nc26, rfl⟩⟩⟩⟩))⟩) d_Tok_quotedAt_39 | exact px_iret (v := 0) S hr rfl hlk hAe hw (Nat.le_of_ble_eq_true rfl) (Nat.le_of_ble_eq_true rfl) (⟨rfl, (show -1 ≤ (0 : Int) from by first | exact oz_247129bdec | omega), (show (0 : Int) ≤ 200 from by first | exact oz_de5f2c4db3 | omega), (show 0 ≤ (0 : Int) → 0 ≤ p0.toInt ∧ p0.toInt < (f 7).toInt from by omega), (show R_t2_quotedAt tb f p0 p1 (0 : Int32) from (Or.inl ⟨v2, e7, Or.inr ⟨nc8, z16, ez16, v18, e23, Or.inl ⟨nc24, Or.inr ⟨nc26, rfl⟩⟩⟩⟩))⟩) d_Tok_quotedAt_39
    · have nc24 : v18.toInt = (110 : Int) := (i_eq (x := v18) (y := 110)).mp c24
      refine lv_bipush (v := 10) S.x S.b d_Tok_quotedAt_28 (by decide) ?_
      first | exact px_iret (v := 10) S hr rfl hlk hAe hw (Nat.le_of_ble_eq_true rfl) (Nat.le_of_ble_eq_true rfl) (⟨rfl, (show -1 ≤ (10 : Int) from oz_9dd6b69423), (show (10 : Int) ≤ 200 from oz_69aaa2966f), (show 0 ≤ (10 : Int) → 0 ≤ p0.toInt ∧ p0.toInt < (f 7).toInt from by omega), (show R_t2_quotedAt tb f p0 p1 (10 : Int32) from (Or.inl ⟨v2, e7, Or.inr ⟨nc8, z16, ez16, v18, e23, Or.inr ⟨nc24, rfl⟩⟩⟩))⟩) d_Tok_quotedAt_30 | exact px_iret (v := 10) S hr rfl hlk hAe hw (Nat.le_of_ble_eq_true rfl) (Nat.le_of_ble_eq_true rfl) (⟨rfl, (show -1 ≤ (10 : Int) from by first | exact oz_9dd6b69423 | omega), (show (10 : Int) ≤ 200 from by first | exact oz_69aaa2966f | omega), (show 0 ≤ (10 : Int) → 0 ≤ p0.toInt ∧ p0.toInt < (f 7).toInt from by omega), (show R_t2_quotedAt tb f p0 p1 (10 : Int32) from (Or.inl ⟨v2, e7, Or.inr ⟨nc8, z16, ez16, v18, e23, Or.inr ⟨nc24, rfl⟩⟩⟩))⟩) d_Tok_quotedAt_30
set_option maxHeartbeats 4000000 in
set_option maxRecDepth 100000 in
theorem c_t2_intern (l : Launch) (D : va_G) (cs : Nat → ClassId) (h : Nat) (r : Nat → Nat) (tp : Nat) (tb : Nat → Int32) (g : Nat → Nat → Option Nat) (f : Nat → Int32) (a : Nat → Nat → Int32) (p0 p1 : Int32)  (hinv0 : TokOk (f 7) (f 8) (f 10) (f 11) (f 12) (f 13) (f 17) (a 4)) (g0 : 0 ≤ p0.toInt) (g1 : p0.toInt ≤ 1000 + 24 * ((f 11).toInt - 1)) (g2 : 0 ≤ p1.toInt) (g3 : p1.toInt ≤ 24) (hq5 : Q5 (a 5)) : MetI l y_Tok_intern b_Tok_intern 5 (.int) D cs 1 30 (0) (0) [.ref h, .int p0, .int p1] [wd_Tok cs h r (fun _ => some tp) f a g, [(tp, .inl (cs 1, 2048, .inl tb))]] (fun _ => True) (fun v ps => ∃ (f' : Nat → Int32) (a' : Nat → Nat → Int32), (ps = [wd_Tok cs h r (fun _ => some tp) f' a' g, [(tp, .inl (cs 1, 2048, .inl tb))]]) ∧ (TokOk (f' 7) (f' 8) (f' 10) (f' 11) (f' 12) (f' 13) (f' 17) (a' 4)) ∧ ((f' 7).toInt = (f 7).toInt) ∧ ((f' 10).toInt = (f 10).toInt) ∧ ((f' 15).toInt = (f 15).toInt) ∧ ((f' 8).toInt = (f 8).toInt) ∧ (Q5 (a' 5)) ∧ (R_t2_intern p0 p1 f a f' a' v)) := by
  refine px_enter (by decide) (Nat.le_of_ble_eq_true rfl) ?_
  intro p e s m below meth c A ls hAe S hr hlk hnm hA hT hX hw hl
  have hl : lv_has ls 5 [(0, .ref h), (1, .int p0), (2, .int p1)] := hl
  have lp0 := Int32.le_toInt p0
  have up0 := Int32.toInt_lt p0
  have lp1 := Int32.le_toInt p1
  have up1 := Int32.toInt_lt p1
  have cst0 : (0 : Int32).toInt = 0 := rfl
  have cst1 : (1 : Int32).toInt = 1 := rfl
  obtain ⟨⟨o1, o2⟩, ⟨o3, o4⟩, ⟨o5, o6⟩, ⟨o7, o8⟩, ⟨o9, o10⟩, ⟨o11, o12⟩, o13, hn4⟩ := hinv0
  have J5 : ∀ (n_5 : Nat) (f_5 : Nat → Int32) (a_5 : Nat → Nat → Int32) (x5_3 x5_4 : Int32) (H : Heap) (locs : List Loc) (ls : Array Slot), (TokOk (f_5 7) (f_5 8) (f_5 10) (f_5 11) (f_5 12) (f_5 13) (f_5 17) (a_5 4)) → ((f_5 7).toInt = (f 7).toInt) → ((f_5 10).toInt = (f 10).toInt) → ((f_5 15).toInt = (f 15).toInt) → ((f_5 8).toInt = (f 8).toInt) → ((f_5 11).toInt = (f 11).toInt) → (0 ≤ x5_3.toInt) → (x5_3.toInt ≤ 100000) → (0 ≤ x5_4.toInt) → (x5_4.toInt ≤ (f_5 11).toInt) → (Q5 (a_5 5)) → (K_t2_intern_5 p0 p1 f a f_5 a_5 x5_3 x5_4) → (f_5 11).toInt+1-x5_4.toInt < (n_5 : Int) → pw D A s.heap H locs [wd_Tok cs h r (fun _ => some tp) f_5 a_5 g, [(tp, .inl (cs 1, 2048, .inl tb))]] → lv_has ls 5 [(0, .ref h), (1, .int p0), (2, .int p1), (3, .int x5_3), (4, .int x5_4)] → W p l e { frames := 1, cells := 0, slots := 0, locals := 30 } s m [.ref h, .int p0, .int p1].toArray below meth c H locs 0 0 (MQ below (va_Qi (fun v ps => ∃ (f' : Nat → Int32) (a' : Nat → Nat → Int32), (ps = [wd_Tok cs h r (fun _ => some tp) f' a' g, [(tp, .inl (cs 1, 2048, .inl tb))]]) ∧ (TokOk (f' 7) (f' 8) (f' 10) (f' 11) (f' 12) (f' 13) (f' 17) (a' 4)) ∧ ((f' 7).toInt = (f 7).toInt) ∧ ((f' 10).toInt = (f 10).toInt) ∧ ((f' 15).toInt = (f 15).toInt) ∧ ((f' 8).toInt = (f 8).toInt) ∧ (Q5 (a' 5)) ∧ (R_t2_intern p0 p1 f a f' a' v)) (pc_B D (va_A ([wd_Tok cs h r (fun _ => some tp) f a g, [(tp, .inl (cs 1, 2048, .inl tb))]] : List va_W).flatten s.heap.size)) (va_A ([wd_Tok cs h r (fun _ => some tp) f a g, [(tp, .inl (cs 1, 2048, .inl tb))]] : List va_W).flatten s.heap.size)) [.ref h, .int p0, .int p1].toArray s 0 0 A) (F0 m 5 ls []) := by
    intro  n_5
    induction n_5 with
    | zero =>
      intro f_5 a_5 x5_3 x5_4 H locs ls hi5_0 k5_0 k5_1 k5_2 k5_3 k5_4 k5_5 k5_6 k5_7 k5_8 k5_9 k5_10 hm hw hl
      obtain ⟨⟨o1, o2⟩, ⟨o3, o4⟩, ⟨o5, o6⟩, ⟨o7, o8⟩, ⟨o9, o10⟩, ⟨o11, o12⟩, o13, hn4⟩ := hi5_0
      have lx5_3 := Int32.le_toInt x5_3
      have ux5_3 := Int32.toInt_lt x5_3
      have lx5_4 := Int32.le_toInt x5_4
      have ux5_4 := Int32.toInt_lt x5_4
      have hq5 := k5_9
      exact absurd hm (by omega)
    | succ n_5 ih5 =>
      intro f_5 a_5 x5_3 x5_4 H locs ls hi5_0 k5_0 k5_1 k5_2 k5_3 k5_4 k5_5 k5_6 k5_7 k5_8 k5_9 k5_10 hm hw hl
      obtain ⟨⟨o1, o2⟩, ⟨o3, o4⟩, ⟨o5, o6⟩, ⟨o7, o8⟩, ⟨o9, o10⟩, ⟨o11, o12⟩, o13, hn4⟩ := hi5_0
      have lx5_3 := Int32.le_toInt x5_3
      have ux5_3 := Int32.toInt_lt x5_3
      have lx5_4 := Int32.le_toInt x5_4
      have ux5_4 := Int32.toInt_lt x5_4
      have hq5 := k5_9
      refine lv_iload S.x S.b d_Tok_intern_5 (lv_at hl 4 rfl) ?_
      refine lv_aload_n S.x S.b d_Tok_intern_7 rfl (lv_at hl 0 rfl) ?_
      refine px_get S k_Tok hT hw 0 0 11 (v := .int (f_5 11)) rfl rfl rfl (by decide) m1_114 d_Tok_intern_8 ?_
      refine lv_icmp_ge (tgt := 54) S.x S.b d_Tok_intern_11 (by decide) (fun c1 => ?_) (fun c1 => ?_)
      · have nc1 : (f_5 11).toInt ≤ x5_4.toInt := (i_le (x := (f_5 11)) (y := x5_4)).mp c1
        refine lv_aload_n S.x S.b d_Tok_intern_54 rfl (lv_at hl 0 rfl) ?_
        refine px_get S k_Tok hT hw 0 0 11 (v := .int (f_5 11)) rfl rfl rfl (by decide) m1_114 d_Tok_intern_55 ?_
        refine lv_aload_n S.x S.b d_Tok_intern_58 rfl (lv_at hl 0 rfl) ?_
        refine px_get S k_Tok hT hw 0 0 4 (v := .ref (r 4)) rfl rfl rfl (by decide) m1_107 d_Tok_intern_59 ?_
        refine px_len S hT hw 0 5 0 rfl rfl rfl (v := 2074) rfl d_Tok_intern_62 ?_
        refine lv_icmp_ge (tgt := 88) S.x S.b d_Tok_intern_63 (by decide) (fun c3 => ?_) (fun c3 => ?_)
        · have nc3 : (2074 : Int) ≤ (f_5 11).toInt := (i_le (x := 2074) (y := (f_5 11))).mp c3
          refine lv_aload_n S.x S.b d_Tok_intern_88 rfl (lv_at hl 0 rfl) ?_
          refine px_get S k_Tok hT hw 0 0 11 (v := .int (f_5 11)) rfl rfl rfl (by decide) m1_114 d_Tok_intern_89 ?_
          refine lv_iconst (v := 1) S.x S.b d_Tok_intern_92 (by decide) ?_
          refine lv_isub S.x S.b d_Tok_intern_93 ?_
          have lr5 := Int32.le_toInt (f_5 11)
          have ur5 := Int32.toInt_lt (f_5 11)
          refine lv_topi (fun z6 ez6 => ?_)
          have tz6 : z6.toInt = ((f_5 11).toInt - (1 : Int) + 2147483648) % 4294967296 - 2147483648 := by rw [ez6]; exact i_sub (f_5 11) 1
          have lz6 := Int32.le_toInt z6
          have uz6 := Int32.toInt_lt z6
          try replace tz6 : z6.toInt = (f_5 11).toInt - (1 : Int) := by omega
          first | exact px_iret (v := z6) S hr rfl hlk hAe hw (Nat.le_of_ble_eq_true rfl) (Nat.le_of_ble_eq_true rfl) (⟨f_5, a_5, rfl, (show TokOk (f_5 7) (f_5 8) (f_5 10) (f_5 11) (f_5 12) (f_5 13) (f_5 17) (a_5 4) from ⟨⟨o1, o2⟩, ⟨o3, o4⟩, ⟨o5, o6⟩, ⟨o7, o8⟩, ⟨o9, o10⟩, ⟨o11, o12⟩, o13, hn4⟩), (show (f_5 7).toInt = (f 7).toInt from k5_0), (show (f_5 10).toInt = (f 10).toInt from k5_1), (show (f_5 15).toInt = (f 15).toInt from k5_2), (show (f_5 8).toInt = (f 8).toInt from k5_3), (show Q5 (a_5 5) from hq5), (show R_t2_intern p0 p1 f a f_5 a_5 z6 from (k5_10 _ _ _ 1 (Or.inr (Or.inl ⟨rfl, x5_3, x5_4, rfl, rfl, rfl, rfl, rfl, Or.inl ⟨nc1, Or.inl ⟨nc3, z6, ez6, rfl, rfl, rfl⟩⟩⟩))))⟩) d_Tok_intern_94 | exact px_iret (v := z6) S hr rfl hlk hAe hw (Nat.le_of_ble_eq_true rfl) (Nat.le_of_ble_eq_true rfl) (⟨f_5, a_5, rfl, (show TokOk (f_5 7) (f_5 8) (f_5 10) (f_5 11) (f_5 12) (f_5 13) (f_5 17) (a_5 4) from ⟨⟨by first | exact o1 | omega, by first | exact o2 | omega⟩, ⟨by first | exact o3 | omega, by first | exact o4 | omega⟩, ⟨by first | exact o5 | omega, by first | exact o6 | omega⟩, ⟨by first | exact o7 | omega, by first | exact o8 | omega⟩, ⟨by first | exact o9 | omega, by first | exact o10 | omega⟩, ⟨by first | exact o11 | omega, by first | exact o12 | omega⟩, by first | exact o13 | omega, hn4⟩), (show (f_5 7).toInt = (f 7).toInt from by first | exact k5_0 | omega), (show (f_5 10).toInt = (f 10).toInt from by first | exact k5_1 | omega), (show (f_5 15).toInt = (f 15).toInt from by first | exact k5_2 | omega), (show (f_5 8).toInt = (f 8).toInt from by first | exact k5_3 | omega), (show Q5 (a_5 5) from hq5), (show R_t2_intern p0 p1 f a f_5 a_5 z6 from (k5_10 _ _ _ 1 (Or.inr (Or.inl ⟨rfl, x5_3, x5_4, rfl, rfl, rfl, rfl, rfl, Or.inl ⟨nc1, Or.inl ⟨nc3, z6, ez6, rfl, rfl, rfl⟩⟩⟩))))⟩) d_Tok_intern_94
        · have nc3 : ¬ (2074 : Int) ≤ (f_5 11).toInt := mt (i_le (x := 2074) (y := (f_5 11))).mpr c3
          refine lv_aload_n S.x S.b d_Tok_intern_66 rfl (lv_at hl 0 rfl) ?_
          refine px_get S k_Tok hT hw 0 0 4 (v := .ref (r 4)) rfl rfl rfl (by decide) m1_107 d_Tok_intern_67 ?_
          refine lv_aload_n S.x S.b d_Tok_intern_70 rfl (lv_at hl 0 rfl) ?_
          refine px_get S k_Tok hT hw 0 0 11 (v := .int (f_5 11)) rfl rfl rfl (by decide) m1_114 d_Tok_intern_71 ?_
          refine lv_iload_n S.x S.b d_Tok_intern_74 rfl (lv_at hl 1 rfl) ?_
          refine lv_iload_n S.x S.b d_Tok_intern_75 rfl (lv_at hl 2 rfl) ?_
          refine lv_iadd S.x S.b d_Tok_intern_76 ?_
          refine lv_topi (fun z7 ez7 => ?_)
          have tz7 : z7.toInt = (p0.toInt + p1.toInt + 2147483648) % 4294967296 - 2147483648 := by rw [ez7]; exact i_add p0 p1
          have lz7 := Int32.le_toInt z7
          have uz7 := Int32.toInt_lt z7
          try replace tz7 : z7.toInt = p0.toInt + p1.toInt := by omega
          refine px_iast S hT hw 0 5 (n := 2074) (f := (a_5 4)) (x := (f_5 11)) (y := z7) rfl (ga_Tok_4 _ _ _ _ _ _ _) (vp_in_iff.mpr (by constructor <;> omega)) d_Tok_intern_77 (w' := wd_Tok cs h r (fun _ => some tp) f_5 (va_up a_5 4 (upd (a_5 4) (f_5 11).toNatClampNeg z7)) g) (ps' := [wd_Tok cs h r (fun _ => some tp) f_5 (va_up a_5 4 (upd (a_5 4) (f_5 11).toNatClampNeg z7)) g, [(tp, .inl (cs 1, 2048, .inl tb))]]) (sa_Tok_4 _ _ _ _ _ _ _ _) rfl (fun H locs hw => ?_)
          have hn4 := n4_up hn4 (x := (f_5 11)) (z := z7) (by omega) (by omega) (by omega)
          refine lv_aload_n S.x S.b d_Tok_intern_78 rfl (lv_at hl 0 rfl) ?_
          refine lv_dup S.x S.b d_Tok_intern_79 rfl ?_
          refine px_get S k_Tok hT hw 0 0 11 (v := .int (f_5 11)) rfl rfl rfl (by decide) m1_114 d_Tok_intern_80 ?_
          refine lv_iconst (v := 1) S.x S.b d_Tok_intern_83 (by decide) ?_
          refine lv_iadd S.x S.b d_Tok_intern_84 ?_
          have lr8 := Int32.le_toInt (f_5 11)
          have ur8 := Int32.toInt_lt (f_5 11)
          refine lv_topi (fun z9 ez9 => ?_)
          have tz9 : z9.toInt = ((f_5 11).toInt + (1 : Int) + 2147483648) % 4294967296 - 2147483648 := by rw [ez9]; exact i_add (f_5 11) 1
          have lz9 := Int32.le_toInt z9
          have uz9 := Int32.toInt_lt z9
          try replace tz9 : z9.toInt = (f_5 11).toInt + (1 : Int) := by omega
          refine px_put S k_Tok hT hw 0 0 11 rfl rfl (by decide) m1_114 rfl rfl rfl (Nat.le_of_ble_eq_true rfl) d_Tok_intern_85 (w' := wd_Tok cs h r (fun _ => some tp) (upd f_5 11 z9) (va_up a_5 4 (upd (a_5 4) (f_5 11).toNatClampNeg z7)) g) (ps' := [wd_Tok cs h r (fun _ => some tp) (upd f_5 11 z9) (va_up a_5 4 (upd (a_5 4) (f_5 11).toNatClampNeg z7)) g, [(tp, .inl (cs 1, 2048, .inl tb))]]) rfl rfl (fun H locs hw => ?_)
          refine lv_aload_n S.x S.b d_Tok_intern_88 rfl (lv_at hl 0 rfl) ?_
          refine px_get S k_Tok hT hw 0 0 11 (v := .int z9) rfl rfl rfl (by decide) m1_114 d_Tok_intern_89 ?_
          refine lv_iconst (v := 1) S.x S.b d_Tok_intern_92 (by decide) ?_
          refine lv_isub S.x S.b d_Tok_intern_93 ?_
          refine lv_topi (fun z10 ez10 => ?_)
          have tz10 : z10.toInt = (z9.toInt - (1 : Int) + 2147483648) % 4294967296 - 2147483648 := by rw [ez10]; exact i_sub z9 1
          have lz10 := Int32.le_toInt z10
          have uz10 := Int32.toInt_lt z10
          try replace tz10 : z10.toInt = z9.toInt - (1 : Int) := by omega
          first | exact px_iret (v := z10) S hr rfl hlk hAe hw (Nat.le_of_ble_eq_true rfl) (Nat.le_of_ble_eq_true rfl) (⟨(upd f_5 11 z9), (va_up a_5 4 (upd (a_5 4) (f_5 11).toNatClampNeg z7)), rfl, (show TokOk (f_5 7) (f_5 8) (f_5 10) z9 (f_5 12) (f_5 13) (f_5 17) ((va_up a_5 4 (upd (a_5 4) (f_5 11).toNatClampNeg z7)) 4) from ⟨⟨o1, o2⟩, ⟨o3, o4⟩, ⟨o5, o6⟩, ⟨(oz_a2ef7ae5fe tz9 o7), (oz_b0fcc062c9 tz9 nc3)⟩, ⟨o9, o10⟩, ⟨o11, o12⟩, o13, (by rw [va_up_s]; exact hn4)⟩), (show (f_5 7).toInt = (f 7).toInt from k5_0), (show (f_5 10).toInt = (f 10).toInt from k5_1), (show (f_5 15).toInt = (f 15).toInt from k5_2), (show (f_5 8).toInt = (f 8).toInt from k5_3), (show Q5 ((va_up a_5 4 (upd (a_5 4) (f_5 11).toNatClampNeg z7)) 5) from (by rw [va_up_n (by decide)]; exact hq5)), (show R_t2_intern p0 p1 f a (upd f_5 11 z9) (va_up a_5 4 (upd (a_5 4) (f_5 11).toNatClampNeg z7)) z10 from (k5_10 _ _ _ 1 (Or.inr (Or.inl ⟨rfl, x5_3, x5_4, rfl, rfl, rfl, rfl, rfl, Or.inl ⟨nc1, Or.inr ⟨nc3, z7, ez7, z9, ez9, z10, ez10, rfl, rfl, rfl⟩⟩⟩))))⟩) d_Tok_intern_94 | exact px_iret (v := z10) S hr rfl hlk hAe hw (Nat.le_of_ble_eq_true rfl) (Nat.le_of_ble_eq_true rfl) (⟨(upd f_5 11 z9), (va_up a_5 4 (upd (a_5 4) (f_5 11).toNatClampNeg z7)), rfl, (show TokOk (f_5 7) (f_5 8) (f_5 10) z9 (f_5 12) (f_5 13) (f_5 17) ((va_up a_5 4 (upd (a_5 4) (f_5 11).toNatClampNeg z7)) 4) from ⟨⟨by first | exact o1 | omega, by first | exact o2 | omega⟩, ⟨by first | exact o3 | omega, by first | exact o4 | omega⟩, ⟨by first | exact o5 | omega, by first | exact o6 | omega⟩, ⟨by first | exact oz_a2ef7ae5fe tz9 o7 | omega, by first | exact oz_b0fcc062c9 tz9 nc3 | omega⟩, ⟨by first | exact o9 | omega, by first | exact o10 | omega⟩, ⟨by first | exact o11 | omega, by first | exact o12 | omega⟩, by first | exact o13 | omega, (by rw [va_up_s]; exact hn4)⟩), (show (f_5 7).toInt = (f 7).toInt from by first | exact k5_0 | omega), (show (f_5 10).toInt = (f 10).toInt from by first | exact k5_1 | omega), (show (f_5 15).toInt = (f 15).toInt from by first | exact k5_2 | omega), (show (f_5 8).toInt = (f 8).toInt from by first | exact k5_3 | omega), (show Q5 ((va_up a_5 4 (upd (a_5 4) (f_5 11).toNatClampNeg z7)) 5) from (by rw [va_up_n (by decide)]; exact hq5)), (show R_t2_intern p0 p1 f a (upd f_5 11 z9) (va_up a_5 4 (upd (a_5 4) (f_5 11).toNatClampNeg z7)) z10 from (k5_10 _ _ _ 1 (Or.inr (Or.inl ⟨rfl, x5_3, x5_4, rfl, rfl, rfl, rfl, rfl, Or.inl ⟨nc1, Or.inr ⟨nc3, z7, ez7, z9, ez9, z10, ez10, rfl, rfl, rfl⟩⟩⟩))))⟩) d_Tok_intern_94
      · have nc1 : ¬ (f_5 11).toInt ≤ x5_4.toInt := mt (i_le (x := (f_5 11)) (y := x5_4)).mpr c1
        refine lv_aload_n S.x S.b d_Tok_intern_14 rfl (lv_at hl 0 rfl) ?_
        refine px_get S k_Tok hT hw 0 0 4 (v := .ref (r 4)) rfl rfl rfl (by decide) m1_107 d_Tok_intern_15 ?_
        refine lv_iload S.x S.b d_Tok_intern_18 (lv_at hl 4 rfl) ?_
        refine px_iald S hT hw 0 5 (n := 2074) (f := (a_5 4)) rfl (ga_Tok_4 _ _ _ _ _ _ _) (x := x5_4) (vp_in_iff.mpr (by first | exact oz_8ba622097f k5_7 nc1 o8 | (constructor <;> omega))) d_Tok_intern_20 ?_
        refine lv_topi (fun z11 ez11 => ?_)
        have lz11 := Int32.le_toInt z11
        have uz11 := Int32.toInt_lt z11
        have rz11 := n4_at hn4 (x := x5_4) (by omega) ez11
        refine lv_iload_n S.x S.b d_Tok_intern_21 rfl (lv_at hl 3 rfl) ?_
        refine lv_isub S.x S.b d_Tok_intern_22 ?_
        refine lv_topi (fun z12 ez12 => ?_)
        have tz12 : z12.toInt = (z11.toInt - x5_3.toInt + 2147483648) % 4294967296 - 2147483648 := by rw [ez12]; exact i_sub z11 x5_3
        have lz12 := Int32.le_toInt z12
        have uz12 := Int32.toInt_lt z12
        try replace tz12 : z12.toInt = z11.toInt - x5_3.toInt := by omega
        refine lv_iload_n S.x S.b d_Tok_intern_23 rfl (lv_at hl 2 rfl) ?_
        refine lv_icmp_ne (tgt := 40) S.x S.b d_Tok_intern_24 (by decide) (fun c13 => ?_) (fun c13 => ?_)
        · have nc13 : ¬ z12.toInt = p1.toInt := mt (i_eq (x := z12) (y := p1)).mpr c13
          refine lv_aload_n S.x S.b d_Tok_intern_40 rfl (lv_at hl 0 rfl) ?_
          refine px_get S k_Tok hT hw 0 0 4 (v := .ref (r 4)) rfl rfl rfl (by decide) m1_107 d_Tok_intern_41 ?_
          refine lv_iload S.x S.b d_Tok_intern_44 (lv_at hl 4 rfl) ?_
          refine px_iald S hT hw 0 5 (n := 2074) (f := (a_5 4)) rfl (ga_Tok_4 _ _ _ _ _ _ _) (x := x5_4) (vp_in_iff.mpr (by first | exact oz_8ba622097f k5_7 nc1 o8 | (constructor <;> omega))) d_Tok_intern_46 ?_
          refine lv_topi (fun z15 ez15 => ?_)
          have lz15 := Int32.le_toInt z15
          have uz15 := Int32.toInt_lt z15
          have rz15 := n4_at hn4 (x := x5_4) (by omega) ez15
          refine lv_istore_n (lv' := [(3, .int z15), (0, .ref h), (1, .int p0), (2, .int p1), (4, .int x5_4)]) S.x S.b d_Tok_intern_47 rfl hl (by decide) rfl (fun ls hl => ?_)
          obtain ⟨z16, ez16⟩ : ∃ y : Int32, y = x5_4 + 1 := ⟨_, rfl⟩
          have tz16 : z16.toInt = (x5_4.toInt + 1 + 2147483648) % 4294967296 - 2147483648 := by rw [ez16]; exact i_add x5_4 1
          have lz16 := Int32.le_toInt z16
          have uz16 := Int32.toInt_lt z16
          try replace tz16 : z16.toInt = x5_4.toInt + 1 := by omega
          refine lv_iinc (v := z16) (lv' := [(4, .int z16), (3, .int z15), (0, .ref h), (1, .int p0), (2, .int p1)]) S.x S.b d_Tok_intern_48 hl (k := 4) rfl (by rw [ez16]; rfl) (by decide) rfl (fun ls hl => ?_)
          refine lv_goto (tgt := 5) S.x S.b d_Tok_intern_51 (by decide) ?_
          first | exact ih5 f_5 a_5 z15 z16 _ _ ls (show TokOk (f_5 7) (f_5 8) (f_5 10) (f_5 11) (f_5 12) (f_5 13) (f_5 17) (a_5 4) from ⟨⟨o1, o2⟩, ⟨o3, o4⟩, ⟨o5, o6⟩, ⟨o7, o8⟩, ⟨o9, o10⟩, ⟨o11, o12⟩, o13, hn4⟩) (show (f_5 7).toInt = (f 7).toInt from k5_0) (show (f_5 10).toInt = (f 10).toInt from k5_1) (show (f_5 15).toInt = (f 15).toInt from k5_2) (show (f_5 8).toInt = (f 8).toInt from k5_3) (show (f_5 11).toInt = (f 11).toInt from k5_4) (show 0 ≤ z15.toInt from rz15.1) (show z15.toInt ≤ 100000 from (oz_b4306d7374 rz15.2 nc1 o8)) (show 0 ≤ z16.toInt from (oz_ae613611c0 tz16 k5_7)) (show z16.toInt ≤ (f_5 11).toInt from (oz_b1314744c8 nc1 tz16)) (show Q5 (a_5 5) from hq5) (show K_t2_intern_5 p0 p1 f a f_5 a_5 z15 z16 from (fun y_f0 y_f1 y_v k hE => k5_10 y_f0 y_f1 y_v (k + 1) (Or.inr (Or.inl ⟨rfl, x5_3, x5_4, rfl, rfl, rfl, rfl, rfl, Or.inr ⟨nc1, z11, ez11, z12, ez12, Or.inl ⟨nc13, z15, ez15, z16, ez16, hE⟩⟩⟩)))) (show (f_5 11).toInt+1-z16.toInt < (n_5 : Int) from (oz_a86078dd04 hm tz16)) hw (lv_sub hl [2, 3, 4, 1, 0] rfl) | exact ih5 f_5 a_5 z15 z16 _ _ ls (show TokOk (f_5 7) (f_5 8) (f_5 10) (f_5 11) (f_5 12) (f_5 13) (f_5 17) (a_5 4) from ⟨⟨by first | exact o1 | omega, by first | exact o2 | omega⟩, ⟨by first | exact o3 | omega, by first | exact o4 | omega⟩, ⟨by first | exact o5 | omega, by first | exact o6 | omega⟩, ⟨by first | exact o7 | omega, by first | exact o8 | omega⟩, ⟨by first | exact o9 | omega, by first | exact o10 | omega⟩, ⟨by first | exact o11 | omega, by first | exact o12 | omega⟩, by first | exact o13 | omega, hn4⟩) (show (f_5 7).toInt = (f 7).toInt from by first | exact k5_0 | omega) (show (f_5 10).toInt = (f 10).toInt from by first | exact k5_1 | omega) (show (f_5 15).toInt = (f 15).toInt from by first | exact k5_2 | omega) (show (f_5 8).toInt = (f 8).toInt from by first | exact k5_3 | omega) (show (f_5 11).toInt = (f 11).toInt from by first | exact k5_4 | omega) (show 0 ≤ z15.toInt from by first | exact rz15.1 | omega) (show z15.toInt ≤ 100000 from by first | exact oz_b4306d7374 rz15.2 nc1 o8 | omega) (show 0 ≤ z16.toInt from by first | exact oz_ae613611c0 tz16 k5_7 | omega) (show z16.toInt ≤ (f_5 11).toInt from by first | exact oz_b1314744c8 nc1 tz16 | omega) (show Q5 (a_5 5) from hq5) (show K_t2_intern_5 p0 p1 f a f_5 a_5 z15 z16 from (fun y_f0 y_f1 y_v k hE => k5_10 y_f0 y_f1 y_v (k + 1) (Or.inr (Or.inl ⟨rfl, x5_3, x5_4, rfl, rfl, rfl, rfl, rfl, Or.inr ⟨nc1, z11, ez11, z12, ez12, Or.inl ⟨nc13, z15, ez15, z16, ez16, hE⟩⟩⟩)))) (show (f_5 11).toInt+1-z16.toInt < (n_5 : Int) from by first | exact oz_a86078dd04 hm tz16 | omega) hw (lv_sub hl [2, 3, 4, 1, 0] rfl)
        · have nc13 : z12.toInt = p1.toInt := (i_eq (x := z12) (y := p1)).mp c13
          refine lv_aload_n S.x S.b d_Tok_intern_27 rfl (lv_at hl 0 rfl) ?_
          refine lv_iload_n S.x S.b d_Tok_intern_28 rfl (lv_at hl 3 rfl) ?_
          refine lv_iload_n S.x S.b d_Tok_intern_29 rfl (lv_at hl 1 rfl) ?_
          refine lv_iload_n S.x S.b d_Tok_intern_30 rfl (lv_at hl 2 rfl) ?_
          first | refine px_calli (pr := []) (px_runV (As := [.int x5_3, .int p0, .int p1]) (rest := []) S (c_t2_sameLetters l D cs h r tp tb g f_5 a_5 x5_3 p0 p1  (show TokOk (f_5 7) (f_5 8) (f_5 10) (f_5 11) (f_5 12) (f_5 13) (f_5 17) (a_5 4) from ⟨⟨o1, o2⟩, ⟨o3, o4⟩, ⟨o5, o6⟩, ⟨o7, o8⟩, ⟨o9, o10⟩, ⟨o11, o12⟩, o13, hn4⟩) (show 0 ≤ x5_3.toInt from k5_5) (show x5_3.toInt ≤ 1000000 from (oz_4cae13f11a k5_6)) (show 0 ≤ p0.toInt from g0) (show p0.toInt ≤ 1000000 from (oz_1d49980e24 g1 k5_4 o8)) (show 0 ≤ p1.toInt from g2) (show p1.toInt ≤ 1000000 from (oz_e30befe568 g3)) _) hT (pr := []) (pcs := [wd_Tok cs h r (fun _ => some tp) f_5 a_5 g, [(tp, .inl (cs 1, 2048, .inl tb))]]) hw px_X.tt (px_recv hT hw 0 0 rfl rfl rfl) m3_216 m3_213 m3_215 ms_1_12 m1_2 q_Tok_sameLetters ⟨Nat.le_of_ble_eq_true rfl, Nat.le_of_ble_eq_true rfl⟩ hl.1 rfl (Nat.le_of_ble_eq_true rfl) d_Tok_intern_31 ⟨Nat.le_of_ble_eq_true rfl, Nat.le_of_ble_eq_true rfl⟩) hw hA (fun v18 p17 H locs hp17 hw => ?_) | refine px_calli (pr := []) (px_runV (As := [.int x5_3, .int p0, .int p1]) (rest := []) S (c_t2_sameLetters l D cs h r tp tb g f_5 a_5 x5_3 p0 p1  (show TokOk (f_5 7) (f_5 8) (f_5 10) (f_5 11) (f_5 12) (f_5 13) (f_5 17) (a_5 4) from ⟨⟨by first | exact o1 | omega, by first | exact o2 | omega⟩, ⟨by first | exact o3 | omega, by first | exact o4 | omega⟩, ⟨by first | exact o5 | omega, by first | exact o6 | omega⟩, ⟨by first | exact o7 | omega, by first | exact o8 | omega⟩, ⟨by first | exact o9 | omega, by first | exact o10 | omega⟩, ⟨by first | exact o11 | omega, by first | exact o12 | omega⟩, by first | exact o13 | omega, hn4⟩) (show 0 ≤ x5_3.toInt from by first | exact k5_5 | omega) (show x5_3.toInt ≤ 1000000 from by first | exact oz_4cae13f11a k5_6 | omega) (show 0 ≤ p0.toInt from by first | exact g0 | omega) (show p0.toInt ≤ 1000000 from by first | exact oz_1d49980e24 g1 k5_4 o8 | omega) (show 0 ≤ p1.toInt from by first | exact g2 | omega) (show p1.toInt ≤ 1000000 from by first | exact oz_e30befe568 g3 | omega) _) hT (pr := []) (pcs := [wd_Tok cs h r (fun _ => some tp) f_5 a_5 g, [(tp, .inl (cs 1, 2048, .inl tb))]]) hw px_X.tt (px_recv hT hw 0 0 rfl rfl rfl) m3_216 m3_213 m3_215 ms_1_12 m1_2 q_Tok_sameLetters ⟨Nat.le_of_ble_eq_true rfl, Nat.le_of_ble_eq_true rfl⟩ hl.1 rfl (Nat.le_of_ble_eq_true rfl) d_Tok_intern_31 ⟨Nat.le_of_ble_eq_true rfl, Nat.le_of_ble_eq_true rfl⟩) hw hA (fun v18 p17 H locs hp17 hw => ?_)
          obtain ⟨rfl, e19, e20⟩ := hp17
          have e19 := z_rng e19
          have e20 : R_t2_sameLetters a_5 x5_3 p0 p1 v18 := e20
          have lv18 := Int32.le_toInt v18
          have uv18 := Int32.toInt_lt v18
          refine lv_if_eq (tgt := 40) S.x S.b d_Tok_intern_34 (by decide) (fun c21 => ?_) (fun c21 => ?_)
          · have nc21 : v18.toInt = (0 : Int) := (i_eq (x := v18) (y := 0)).mp c21
            refine lv_aload_n S.x S.b d_Tok_intern_40 rfl (lv_at hl 0 rfl) ?_
            refine px_get S k_Tok hT hw 0 0 4 (v := .ref (r 4)) rfl rfl rfl (by decide) m1_107 d_Tok_intern_41 ?_
            refine lv_iload S.x S.b d_Tok_intern_44 (lv_at hl 4 rfl) ?_
            refine px_iald S hT hw 0 5 (n := 2074) (f := (a_5 4)) rfl (ga_Tok_4 _ _ _ _ _ _ _) (x := x5_4) (vp_in_iff.mpr (by first | exact oz_8ba622097f k5_7 nc1 o8 | (constructor <;> omega))) d_Tok_intern_46 ?_
            refine lv_topi (fun z23 ez23 => ?_)
            have lz23 := Int32.le_toInt z23
            have uz23 := Int32.toInt_lt z23
            have rz23 := n4_at hn4 (x := x5_4) (by omega) ez23
            refine lv_istore_n (lv' := [(3, .int z23), (0, .ref h), (1, .int p0), (2, .int p1), (4, .int x5_4)]) S.x S.b d_Tok_intern_47 rfl hl (by decide) rfl (fun ls hl => ?_)
            obtain ⟨z24, ez24⟩ : ∃ y : Int32, y = x5_4 + 1 := ⟨_, rfl⟩
            have tz24 : z24.toInt = (x5_4.toInt + 1 + 2147483648) % 4294967296 - 2147483648 := by rw [ez24]; exact i_add x5_4 1
            have lz24 := Int32.le_toInt z24
            have uz24 := Int32.toInt_lt z24
            try replace tz24 : z24.toInt = x5_4.toInt + 1 := by omega
            refine lv_iinc (v := z24) (lv' := [(4, .int z24), (3, .int z23), (0, .ref h), (1, .int p0), (2, .int p1)]) S.x S.b d_Tok_intern_48 hl (k := 4) rfl (by rw [ez24]; rfl) (by decide) rfl (fun ls hl => ?_)
            refine lv_goto (tgt := 5) S.x S.b d_Tok_intern_51 (by decide) ?_
            first | exact ih5 f_5 a_5 z23 z24 _ _ ls (show TokOk (f_5 7) (f_5 8) (f_5 10) (f_5 11) (f_5 12) (f_5 13) (f_5 17) (a_5 4) from ⟨⟨o1, o2⟩, ⟨o3, o4⟩, ⟨o5, o6⟩, ⟨o7, o8⟩, ⟨o9, o10⟩, ⟨o11, o12⟩, o13, hn4⟩) (show (f_5 7).toInt = (f 7).toInt from k5_0) (show (f_5 10).toInt = (f 10).toInt from k5_1) (show (f_5 15).toInt = (f 15).toInt from k5_2) (show (f_5 8).toInt = (f 8).toInt from k5_3) (show (f_5 11).toInt = (f 11).toInt from k5_4) (show 0 ≤ z23.toInt from rz23.1) (show z23.toInt ≤ 100000 from (oz_b4306d7374 rz23.2 nc1 o8)) (show 0 ≤ z24.toInt from (oz_ae613611c0 tz24 k5_7)) (show z24.toInt ≤ (f_5 11).toInt from (oz_b1314744c8 nc1 tz24)) (show Q5 (a_5 5) from hq5) (show K_t2_intern_5 p0 p1 f a f_5 a_5 z23 z24 from (fun y_f0 y_f1 y_v k hE => k5_10 y_f0 y_f1 y_v (k + 1) (Or.inr (Or.inl ⟨rfl, x5_3, x5_4, rfl, rfl, rfl, rfl, rfl, Or.inr ⟨nc1, z11, ez11, z12, ez12, Or.inr ⟨nc13, v18, e20, Or.inl ⟨nc21, z23, ez23, z24, ez24, hE⟩⟩⟩⟩)))) (show (f_5 11).toInt+1-z24.toInt < (n_5 : Int) from (oz_a86078dd04 hm tz24)) hw (lv_sub hl [2, 3, 4, 1, 0] rfl) | exact ih5 f_5 a_5 z23 z24 _ _ ls (show TokOk (f_5 7) (f_5 8) (f_5 10) (f_5 11) (f_5 12) (f_5 13) (f_5 17) (a_5 4) from ⟨⟨by first | exact o1 | omega, by first | exact o2 | omega⟩, ⟨by first | exact o3 | omega, by first | exact o4 | omega⟩, ⟨by first | exact o5 | omega, by first | exact o6 | omega⟩, ⟨by first | exact o7 | omega, by first | exact o8 | omega⟩, ⟨by first | exact o9 | omega, by first | exact o10 | omega⟩, ⟨by first | exact o11 | omega, by first | exact o12 | omega⟩, by first | exact o13 | omega, hn4⟩) (show (f_5 7).toInt = (f 7).toInt from by first | exact k5_0 | omega) (show (f_5 10).toInt = (f 10).toInt from by first | exact k5_1 | omega) (show (f_5 15).toInt = (f 15).toInt from by first | exact k5_2 | omega) (show (f_5 8).toInt = (f 8).toInt from by first | exact k5_3 | omega) (show (f_5 11).toInt = (f 11).toInt from by first | exact k5_4 | omega) (show 0 ≤ z23.toInt from by first | exact rz23.1 | omega) (show z23.toInt ≤ 100000 from by first | exact oz_b4306d7374 rz23.2 nc1 o8 | omega) (show 0 ≤ z24.toInt from by first | exact oz_ae613611c0 tz24 k5_7 | omega) (show z24.toInt ≤ (f_5 11).toInt from by first | exact oz_b1314744c8 nc1 tz24 | omega) (show Q5 (a_5 5) from hq5) (show K_t2_intern_5 p0 p1 f a f_5 a_5 z23 z24 from (fun y_f0 y_f1 y_v k hE => k5_10 y_f0 y_f1 y_v (k + 1) (Or.inr (Or.inl ⟨rfl, x5_3, x5_4, rfl, rfl, rfl, rfl, rfl, Or.inr ⟨nc1, z11, ez11, z12, ez12, Or.inr ⟨nc13, v18, e20, Or.inl ⟨nc21, z23, ez23, z24, ez24, hE⟩⟩⟩⟩)))) (show (f_5 11).toInt+1-z24.toInt < (n_5 : Int) from by first | exact oz_a86078dd04 hm tz24 | omega) hw (lv_sub hl [2, 3, 4, 1, 0] rfl)
          · have nc21 : ¬ v18.toInt = (0 : Int) := mt (i_eq (x := v18) (y := 0)).mpr c21
            refine lv_iload S.x S.b d_Tok_intern_37 (lv_at hl 4 rfl) ?_
            first | exact px_iret (v := x5_4) S hr rfl hlk hAe hw (Nat.le_of_ble_eq_true rfl) (Nat.le_of_ble_eq_true rfl) (⟨f_5, a_5, rfl, (show TokOk (f_5 7) (f_5 8) (f_5 10) (f_5 11) (f_5 12) (f_5 13) (f_5 17) (a_5 4) from ⟨⟨o1, o2⟩, ⟨o3, o4⟩, ⟨o5, o6⟩, ⟨o7, o8⟩, ⟨o9, o10⟩, ⟨o11, o12⟩, o13, hn4⟩), (show (f_5 7).toInt = (f 7).toInt from k5_0), (show (f_5 10).toInt = (f 10).toInt from k5_1), (show (f_5 15).toInt = (f 15).toInt from k5_2), (show (f_5 8).toInt = (f 8).toInt from k5_3), (show Q5 (a_5 5) from hq5), (show R_t2_intern p0 p1 f a f_5 a_5 x5_4 from (k5_10 _ _ _ 1 (Or.inr (Or.inl ⟨rfl, x5_3, x5_4, rfl, rfl, rfl, rfl, rfl, Or.inr ⟨nc1, z11, ez11, z12, ez12, Or.inr ⟨nc13, v18, e20, Or.inr ⟨nc21, rfl, rfl, rfl⟩⟩⟩⟩))))⟩) d_Tok_intern_39 | exact px_iret (v := x5_4) S hr rfl hlk hAe hw (Nat.le_of_ble_eq_true rfl) (Nat.le_of_ble_eq_true rfl) (⟨f_5, a_5, rfl, (show TokOk (f_5 7) (f_5 8) (f_5 10) (f_5 11) (f_5 12) (f_5 13) (f_5 17) (a_5 4) from ⟨⟨by first | exact o1 | omega, by first | exact o2 | omega⟩, ⟨by first | exact o3 | omega, by first | exact o4 | omega⟩, ⟨by first | exact o5 | omega, by first | exact o6 | omega⟩, ⟨by first | exact o7 | omega, by first | exact o8 | omega⟩, ⟨by first | exact o9 | omega, by first | exact o10 | omega⟩, ⟨by first | exact o11 | omega, by first | exact o12 | omega⟩, by first | exact o13 | omega, hn4⟩), (show (f_5 7).toInt = (f 7).toInt from by first | exact k5_0 | omega), (show (f_5 10).toInt = (f 10).toInt from by first | exact k5_1 | omega), (show (f_5 15).toInt = (f 15).toInt from by first | exact k5_2 | omega), (show (f_5 8).toInt = (f 8).toInt from by first | exact k5_3 | omega), (show Q5 (a_5 5) from hq5), (show R_t2_intern p0 p1 f a f_5 a_5 x5_4 from (k5_10 _ _ _ 1 (Or.inr (Or.inl ⟨rfl, x5_3, x5_4, rfl, rfl, rfl, rfl, rfl, Or.inr ⟨nc1, z11, ez11, z12, ez12, Or.inr ⟨nc13, v18, e20, Or.inr ⟨nc21, rfl, rfl, rfl⟩⟩⟩⟩))))⟩) d_Tok_intern_39
  refine lv_iconst (v := 0) S.x S.b d_Tok_intern_0 (by decide) ?_
  refine lv_istore_n (lv' := [(3, .int 0), (0, .ref h), (1, .int p0), (2, .int p1)]) S.x S.b d_Tok_intern_1 rfl hl (by decide) rfl (fun ls hl => ?_)
  refine lv_iconst (v := 0) S.x S.b d_Tok_intern_2 (by decide) ?_
  refine lv_istore (lv' := [(4, .int 0), (3, .int 0), (0, .ref h), (1, .int p0), (2, .int p1)]) S.x S.b d_Tok_intern_3 hl (by decide) rfl (fun ls hl => ?_)
  first | exact J5 (((f 11).toInt+1-(0 : Int)).toNat + 1) f a (0 : Int32) (0 : Int32) _ _ ls (show TokOk (f 7) (f 8) (f 10) (f 11) (f 12) (f 13) (f 17) (a 4) from ⟨⟨o1, o2⟩, ⟨o3, o4⟩, ⟨o5, o6⟩, ⟨o7, o8⟩, ⟨o9, o10⟩, ⟨o11, o12⟩, o13, hn4⟩) (show (f 7).toInt = (f 7).toInt from rfl) (show (f 10).toInt = (f 10).toInt from rfl) (show (f 15).toInt = (f 15).toInt from rfl) (show (f 8).toInt = (f 8).toInt from rfl) (show (f 11).toInt = (f 11).toInt from rfl) (show 0 ≤ (0 : Int) from oz_5a341f00aa) (show (0 : Int) ≤ 100000 from oz_fd1ecafa56) (show 0 ≤ (0 : Int) from oz_5a341f00aa) (show (0 : Int) ≤ (f 11).toInt from (oz_5e5e39b270 o7)) (show Q5 (a 5) from hq5) (show K_t2_intern_5 p0 p1 f a f a 0 0 from (fun y_f0 y_f1 y_v k hE => Exists.intro (k + 1) (Or.inl ⟨rfl, hE⟩))) (show (f 11).toInt+1-(0 : Int) < (((((f 11).toInt+1-(0 : Int)).toNat + 1 : Nat) : Int) : Int) from oz_natlt) hw (lv_sub hl [2, 3, 4, 1, 0] rfl) | exact J5 (((f 11).toInt+1-(0 : Int)).toNat + 1) f a (0 : Int32) (0 : Int32) _ _ ls (show TokOk (f 7) (f 8) (f 10) (f 11) (f 12) (f 13) (f 17) (a 4) from ⟨⟨by first | exact o1 | omega, by first | exact o2 | omega⟩, ⟨by first | exact o3 | omega, by first | exact o4 | omega⟩, ⟨by first | exact o5 | omega, by first | exact o6 | omega⟩, ⟨by first | exact o7 | omega, by first | exact o8 | omega⟩, ⟨by first | exact o9 | omega, by first | exact o10 | omega⟩, ⟨by first | exact o11 | omega, by first | exact o12 | omega⟩, by first | exact o13 | omega, hn4⟩) (show (f 7).toInt = (f 7).toInt from rfl) (show (f 10).toInt = (f 10).toInt from rfl) (show (f 15).toInt = (f 15).toInt from rfl) (show (f 8).toInt = (f 8).toInt from rfl) (show (f 11).toInt = (f 11).toInt from rfl) (show 0 ≤ (0 : Int) from by first | exact oz_5a341f00aa | omega) (show (0 : Int) ≤ 100000 from by first | exact oz_fd1ecafa56 | omega) (show 0 ≤ (0 : Int) from by first | exact oz_5a341f00aa | omega) (show (0 : Int) ≤ (f 11).toInt from by first | exact oz_5e5e39b270 o7 | omega) (show Q5 (a 5) from hq5) (show K_t2_intern_5 p0 p1 f a f a 0 0 from (fun y_f0 y_f1 y_v k hE => Exists.intro (k + 1) (Or.inl ⟨rfl, hE⟩))) (show (f 11).toInt+1-(0 : Int) < (((((f 11).toInt+1-(0 : Int)).toNat + 1 : Nat) : Int) : Int) from by first | exact oz_natlt | omega) hw (lv_sub hl [2, 3, 4, 1, 0] rfl)
set_option maxHeartbeats 4000000 in
set_option maxRecDepth 100000 in
theorem c_t2_name (l : Launch) (D : va_G) (cs : Nat → ClassId) (h : Nat) (r : Nat → Nat) (tp : Nat) (tb : Nat → Int32) (g : Nat → Nat → Option Nat) (f : Nat → Int32) (a : Nat → Nat → Int32)  (hinv0 : TokOk (f 7) (f 8) (f 10) (f 11) (f 12) (f 13) (f 17) (a 4)) (g0 : (f 8).toInt < (f 7).toInt) (hL : ltr (tb (f 8).toNatClampNeg &&& 255) = 1) (hq5 : Q5 (a 5)) : MetI l y_Tok_name b_Tok_name 4 (.int) D cs 2 60 (0) (0) [.ref h] [wd_Tok cs h r (fun _ => some tp) f a g, [(tp, .inl (cs 1, 2048, .inl tb))]] (fun _ => True) (fun v ps => ∃ (f' : Nat → Int32) (a' : Nat → Nat → Int32), (ps = [wd_Tok cs h r (fun _ => some tp) f' a' g, [(tp, .inl (cs 1, 2048, .inl tb))]]) ∧ (TokOk (f' 7) (f' 8) (f' 10) (f' 11) (f' 12) (f' 13) (f' 17) (a' 4)) ∧ ((f' 7).toInt = (f 7).toInt) ∧ ((f' 10).toInt = (f 10).toInt) ∧ ((f' 15).toInt = (f 15).toInt) ∧ ((f 8).toInt + 1 ≤ (f' 8).toInt) ∧ (Q5 (a' 5)) ∧ (R_t2_name tb f a f' a' v)) := by
  refine px_enter (by decide) (Nat.le_of_ble_eq_true rfl) ?_
  intro p e s m below meth c A ls hAe S hr hlk hnm hA hT hX hw hl
  have hl : lv_has ls 4 [(0, .ref h)] := hl
  have cst0 : (0 : Int32).toInt = 0 := rfl
  have cst1 : (1 : Int32).toInt = 1 := rfl
  have cst15 : (15 : Int32).toInt = 15 := rfl
  have cst16 : (16 : Int32).toInt = 16 := rfl
  have cst19 : (19 : Int32).toInt = 19 := rfl
  have cst24 : (24 : Int32).toInt = 24 := rfl
  obtain ⟨⟨o1, o2⟩, ⟨o3, o4⟩, ⟨o5, o6⟩, ⟨o7, o8⟩, ⟨o9, o10⟩, ⟨o11, o12⟩, o13, hn4⟩ := hinv0
  have J94 : ∀ (f_94 : Nat → Int32) (a_94 : Nat → Nat → Int32) (x94_1 x94_2 : Int32) (H : Heap) (locs : List Loc) (ls : Array Slot), (TokOk (f_94 7) (f_94 8) (f_94 10) (f_94 11) (f_94 12) (f_94 13) (f_94 17) (a_94 4)) → ((f_94 7).toInt = (f 7).toInt) → ((f_94 10).toInt = (f 10).toInt) → ((f_94 15).toInt = (f 15).toInt) → ((f 8).toInt + 1 ≤ (f_94 8).toInt) → ((f_94 8).toInt ≤ (f_94 7).toInt) → (0 ≤ x94_1.toInt) → (x94_1.toInt ≤ 1000 + 24 * ((f_94 11).toInt - 1)) → (0 ≤ x94_2.toInt) → (x94_2.toInt ≤ (f_94 8).toInt) → (Q5 (a_94 5)) → (K_t2_name_94 tb f a f_94 a_94 x94_1 x94_2) → pw D A s.heap H locs [wd_Tok cs h r (fun _ => some tp) f_94 a_94 g, [(tp, .inl (cs 1, 2048, .inl tb))]] → lv_has ls 4 [(0, .ref h), (1, .int x94_1), (2, .int x94_2)] → W p l e { frames := 2, cells := 0, slots := 0, locals := 60 } s m [.ref h].toArray below meth c H locs 0 0 (MQ below (va_Qi (fun v ps => ∃ (f' : Nat → Int32) (a' : Nat → Nat → Int32), (ps = [wd_Tok cs h r (fun _ => some tp) f' a' g, [(tp, .inl (cs 1, 2048, .inl tb))]]) ∧ (TokOk (f' 7) (f' 8) (f' 10) (f' 11) (f' 12) (f' 13) (f' 17) (a' 4)) ∧ ((f' 7).toInt = (f 7).toInt) ∧ ((f' 10).toInt = (f 10).toInt) ∧ ((f' 15).toInt = (f 15).toInt) ∧ ((f 8).toInt + 1 ≤ (f' 8).toInt) ∧ (Q5 (a' 5)) ∧ (R_t2_name tb f a f' a' v)) (pc_B D (va_A ([wd_Tok cs h r (fun _ => some tp) f a g, [(tp, .inl (cs 1, 2048, .inl tb))]] : List va_W).flatten s.heap.size)) (va_A ([wd_Tok cs h r (fun _ => some tp) f a g, [(tp, .inl (cs 1, 2048, .inl tb))]] : List va_W).flatten s.heap.size)) [.ref h].toArray s 0 0 A) (F0 m 94 ls []) := by
    intro f_94 a_94 x94_1 x94_2 H locs ls hi94_0 k94_0 k94_1 k94_2 k94_3 k94_4 k94_5 k94_6 k94_7 k94_8 k94_9 k94_10 hw hl
    obtain ⟨⟨o1, o2⟩, ⟨o3, o4⟩, ⟨o5, o6⟩, ⟨o7, o8⟩, ⟨o9, o10⟩, ⟨o11, o12⟩, o13, hn4⟩ := hi94_0
    have lx94_1 := Int32.le_toInt x94_1
    have ux94_1 := Int32.toInt_lt x94_1
    have lx94_2 := Int32.le_toInt x94_2
    have ux94_2 := Int32.toInt_lt x94_2
    have hq5 := k94_9
    refine lv_iload_n S.x S.b d_Tok_name_94 rfl (lv_at hl 2 rfl) ?_
    refine lv_bipush (v := 24) S.x S.b d_Tok_name_95 (by decide) ?_
    refine lv_icmp_le (tgt := 103) S.x S.b d_Tok_name_97 (by decide) (fun c1 => ?_) (fun c1 => ?_)
    · have nc1 : x94_2.toInt ≤ (24 : Int) := (i_le (x := x94_2) (y := 24)).mp c1
      refine lv_aload_n S.x S.b d_Tok_name_103 rfl (lv_at hl 0 rfl) ?_
      refine lv_aload_n S.x S.b d_Tok_name_104 rfl (lv_at hl 0 rfl) ?_
      refine lv_iload_n S.x S.b d_Tok_name_105 rfl (lv_at hl 1 rfl) ?_
      refine lv_iload_n S.x S.b d_Tok_name_106 rfl (lv_at hl 2 rfl) ?_
      first | refine px_calli (pr := []) (px_runV (As := [.int x94_1, .int x94_2]) (rest := [.ref h]) S (c_t2_intern l D cs h r tp tb g f_94 a_94 x94_1 x94_2  (show TokOk (f_94 7) (f_94 8) (f_94 10) (f_94 11) (f_94 12) (f_94 13) (f_94 17) (a_94 4) from ⟨⟨o1, o2⟩, ⟨o3, o4⟩, ⟨o5, o6⟩, ⟨o7, o8⟩, ⟨o9, o10⟩, ⟨o11, o12⟩, o13, hn4⟩) (show 0 ≤ x94_1.toInt from k94_5) (show x94_1.toInt ≤ 1000 + 24 * ((f_94 11).toInt - 1) from k94_6) (show 0 ≤ x94_2.toInt from k94_7) (show x94_2.toInt ≤ 24 from (oz_86da80c8d4 nc1)) hq5 _) hT (pr := []) (pcs := [wd_Tok cs h r (fun _ => some tp) f_94 a_94 g, [(tp, .inl (cs 1, 2048, .inl tb))]]) hw px_X.tt (px_recv hT hw 0 0 rfl rfl rfl) m3_212 m3_209 m3_211 ms_1_11 m1_2 q_Tok_intern ⟨Nat.le_of_ble_eq_true rfl, Nat.le_of_ble_eq_true rfl⟩ hl.1 rfl (Nat.le_of_ble_eq_true rfl) d_Tok_name_107 ⟨Nat.le_of_ble_eq_true rfl, Nat.le_of_ble_eq_true rfl⟩) hw hA (fun v8 p7 H locs hp7 hw => ?_) | refine px_calli (pr := []) (px_runV (As := [.int x94_1, .int x94_2]) (rest := [.ref h]) S (c_t2_intern l D cs h r tp tb g f_94 a_94 x94_1 x94_2  (show TokOk (f_94 7) (f_94 8) (f_94 10) (f_94 11) (f_94 12) (f_94 13) (f_94 17) (a_94 4) from ⟨⟨by first | exact o1 | omega, by first | exact o2 | omega⟩, ⟨by first | exact o3 | omega, by first | exact o4 | omega⟩, ⟨by first | exact o5 | omega, by first | exact o6 | omega⟩, ⟨by first | exact o7 | omega, by first | exact o8 | omega⟩, ⟨by first | exact o9 | omega, by first | exact o10 | omega⟩, ⟨by first | exact o11 | omega, by first | exact o12 | omega⟩, by first | exact o13 | omega, hn4⟩) (show 0 ≤ x94_1.toInt from by first | exact k94_5 | omega) (show x94_1.toInt ≤ 1000 + 24 * ((f_94 11).toInt - 1) from by first | exact k94_6 | omega) (show 0 ≤ x94_2.toInt from by first | exact k94_7 | omega) (show x94_2.toInt ≤ 24 from by first | exact oz_86da80c8d4 nc1 | omega) hq5 _) hT (pr := []) (pcs := [wd_Tok cs h r (fun _ => some tp) f_94 a_94 g, [(tp, .inl (cs 1, 2048, .inl tb))]]) hw px_X.tt (px_recv hT hw 0 0 rfl rfl rfl) m3_212 m3_209 m3_211 ms_1_11 m1_2 q_Tok_intern ⟨Nat.le_of_ble_eq_true rfl, Nat.le_of_ble_eq_true rfl⟩ hl.1 rfl (Nat.le_of_ble_eq_true rfl) d_Tok_name_107 ⟨Nat.le_of_ble_eq_true rfl, Nat.le_of_ble_eq_true rfl⟩) hw hA (fun v8 p7 H locs hp7 hw => ?_)
      obtain ⟨f5, a6, rfl, h15, e9, e10, e11, e12, e13, e14⟩ := hp7
      obtain ⟨⟨o1, o2⟩, ⟨o3, o4⟩, ⟨o5, o6⟩, ⟨o7, o8⟩, ⟨o9, o10⟩, ⟨o11, o12⟩, o13, hn4⟩ := h15
      have e9 : (f5 7).toInt = (f_94 7).toInt := e9
      have e10 : (f5 10).toInt = (f_94 10).toInt := e10
      have e11 : (f5 15).toInt = (f_94 15).toInt := e11
      have e12 : (f5 8).toInt = (f_94 8).toInt := e12
      have e13 : Q5 (a6 5) := e13
      have hq5 := e13
      have e14 : R_t2_intern x94_1 x94_2 f_94 a_94 f5 a6 v8 := e14
      have lv8 := Int32.le_toInt v8
      have uv8 := Int32.toInt_lt v8
      refine px_put S k_Tok hT hw 0 0 9 rfl rfl (by decide) m1_112 rfl rfl rfl (Nat.le_of_ble_eq_true rfl) d_Tok_name_110 (w' := wd_Tok cs h r (fun _ => some tp) (upd f5 9 v8) a6 g) (ps' := [wd_Tok cs h r (fun _ => some tp) (upd f5 9 v8) a6 g, [(tp, .inl (cs 1, 2048, .inl tb))]]) rfl rfl (fun H locs hw => ?_)
      refine lv_aload_n S.x S.b d_Tok_name_113 rfl (lv_at hl 0 rfl) ?_
      refine px_get S k_Tok hT hw 0 0 9 (v := .int v8) rfl rfl rfl (by decide) m1_112 d_Tok_name_114 ?_
      refine lv_bipush (v := 15) S.x S.b d_Tok_name_117 (by decide) ?_
      refine lv_icmp_ge (tgt := 131) S.x S.b d_Tok_name_119 (by decide) (fun c16 => ?_) (fun c16 => ?_)
      · have nc16 : (15 : Int) ≤ v8.toInt := (i_le (x := 15) (y := v8)).mp c16
        refine lv_bipush (v := 16) S.x S.b d_Tok_name_131 (by decide) ?_
        first | exact px_iret (v := 16) S hr rfl hlk hAe hw (Nat.le_of_ble_eq_true rfl) (Nat.le_of_ble_eq_true rfl) (⟨(upd f5 9 v8), a6, rfl, (show TokOk (f5 7) (f5 8) (f5 10) (f5 11) (f5 12) (f5 13) (f5 17) (a6 4) from ⟨⟨o1, o2⟩, ⟨o3, o4⟩, ⟨o5, o6⟩, ⟨o7, o8⟩, ⟨o9, o10⟩, ⟨o11, o12⟩, o13, hn4⟩), (show (f5 7).toInt = (f 7).toInt from (oz_1687f4cc65 k94_0 e9)), (show (f5 10).toInt = (f 10).toInt from (oz_1687f4cc65 k94_1 e10)), (show (f5 15).toInt = (f 15).toInt from (oz_1687f4cc65 k94_2 e11)), (show (f 8).toInt + 1 ≤ (f5 8).toInt from (oz_213e98d3f1 k94_3 e12)), (show Q5 (a6 5) from hq5), (show R_t2_name tb f a (upd f5 9 v8) a6 (16 : Int32) from (k94_10 _ _ _ 1 (Or.inr (Or.inr (Or.inl ⟨rfl, x94_1, x94_2, rfl, rfl, rfl, rfl, rfl, Or.inl ⟨nc1, f5, a6, v8, e14, Or.inl ⟨nc16, rfl, rfl, rfl⟩⟩⟩)))))⟩) d_Tok_name_133 | exact px_iret (v := 16) S hr rfl hlk hAe hw (Nat.le_of_ble_eq_true rfl) (Nat.le_of_ble_eq_true rfl) (⟨(upd f5 9 v8), a6, rfl, (show TokOk (f5 7) (f5 8) (f5 10) (f5 11) (f5 12) (f5 13) (f5 17) (a6 4) from ⟨⟨by first | exact o1 | omega, by first | exact o2 | omega⟩, ⟨by first | exact o3 | omega, by first | exact o4 | omega⟩, ⟨by first | exact o5 | omega, by first | exact o6 | omega⟩, ⟨by first | exact o7 | omega, by first | exact o8 | omega⟩, ⟨by first | exact o9 | omega, by first | exact o10 | omega⟩, ⟨by first | exact o11 | omega, by first | exact o12 | omega⟩, by first | exact o13 | omega, hn4⟩), (show (f5 7).toInt = (f 7).toInt from by first | exact oz_1687f4cc65 k94_0 e9 | omega), (show (f5 10).toInt = (f 10).toInt from by first | exact oz_1687f4cc65 k94_1 e10 | omega), (show (f5 15).toInt = (f 15).toInt from by first | exact oz_1687f4cc65 k94_2 e11 | omega), (show (f 8).toInt + 1 ≤ (f5 8).toInt from by first | exact oz_213e98d3f1 k94_3 e12 | omega), (show Q5 (a6 5) from hq5), (show R_t2_name tb f a (upd f5 9 v8) a6 (16 : Int32) from (k94_10 _ _ _ 1 (Or.inr (Or.inr (Or.inl ⟨rfl, x94_1, x94_2, rfl, rfl, rfl, rfl, rfl, Or.inl ⟨nc1, f5, a6, v8, e14, Or.inl ⟨nc16, rfl, rfl, rfl⟩⟩⟩)))))⟩) d_Tok_name_133
      · have nc16 : ¬ (15 : Int) ≤ v8.toInt := mt (i_le (x := 15) (y := v8)).mpr c16
        refine lv_aload_n S.x S.b d_Tok_name_122 rfl (lv_at hl 0 rfl) ?_
        refine px_get S k_Tok hT hw 0 0 9 (v := .int v8) rfl rfl rfl (by decide) m1_112 d_Tok_name_123 ?_
        refine lv_iconst (v := 1) S.x S.b d_Tok_name_126 (by decide) ?_
        refine lv_iadd S.x S.b d_Tok_name_127 ?_
        refine lv_topi (fun z18 ez18 => ?_)
        have tz18 : z18.toInt = (v8.toInt + (1 : Int) + 2147483648) % 4294967296 - 2147483648 := by rw [ez18]; exact i_add v8 1
        have lz18 := Int32.le_toInt z18
        have uz18 := Int32.toInt_lt z18
        try replace tz18 : z18.toInt = v8.toInt + (1 : Int) := by omega
        refine lv_goto (tgt := 133) S.x S.b d_Tok_name_128 (by decide) ?_
        first | exact px_iret (v := z18) S hr rfl hlk hAe hw (Nat.le_of_ble_eq_true rfl) (Nat.le_of_ble_eq_true rfl) (⟨(upd f5 9 v8), a6, rfl, (show TokOk (f5 7) (f5 8) (f5 10) (f5 11) (f5 12) (f5 13) (f5 17) (a6 4) from ⟨⟨o1, o2⟩, ⟨o3, o4⟩, ⟨o5, o6⟩, ⟨o7, o8⟩, ⟨o9, o10⟩, ⟨o11, o12⟩, o13, hn4⟩), (show (f5 7).toInt = (f 7).toInt from (oz_1687f4cc65 k94_0 e9)), (show (f5 10).toInt = (f 10).toInt from (oz_1687f4cc65 k94_1 e10)), (show (f5 15).toInt = (f 15).toInt from (oz_1687f4cc65 k94_2 e11)), (show (f 8).toInt + 1 ≤ (f5 8).toInt from (oz_213e98d3f1 k94_3 e12)), (show Q5 (a6 5) from hq5), (show R_t2_name tb f a (upd f5 9 v8) a6 z18 from (k94_10 _ _ _ 1 (Or.inr (Or.inr (Or.inl ⟨rfl, x94_1, x94_2, rfl, rfl, rfl, rfl, rfl, Or.inl ⟨nc1, f5, a6, v8, e14, Or.inr ⟨nc16, z18, ez18, rfl, rfl, rfl⟩⟩⟩)))))⟩) d_Tok_name_133 | exact px_iret (v := z18) S hr rfl hlk hAe hw (Nat.le_of_ble_eq_true rfl) (Nat.le_of_ble_eq_true rfl) (⟨(upd f5 9 v8), a6, rfl, (show TokOk (f5 7) (f5 8) (f5 10) (f5 11) (f5 12) (f5 13) (f5 17) (a6 4) from ⟨⟨by first | exact o1 | omega, by first | exact o2 | omega⟩, ⟨by first | exact o3 | omega, by first | exact o4 | omega⟩, ⟨by first | exact o5 | omega, by first | exact o6 | omega⟩, ⟨by first | exact o7 | omega, by first | exact o8 | omega⟩, ⟨by first | exact o9 | omega, by first | exact o10 | omega⟩, ⟨by first | exact o11 | omega, by first | exact o12 | omega⟩, by first | exact o13 | omega, hn4⟩), (show (f5 7).toInt = (f 7).toInt from by first | exact oz_1687f4cc65 k94_0 e9 | omega), (show (f5 10).toInt = (f 10).toInt from by first | exact oz_1687f4cc65 k94_1 e10 | omega), (show (f5 15).toInt = (f 15).toInt from by first | exact oz_1687f4cc65 k94_2 e11 | omega), (show (f 8).toInt + 1 ≤ (f5 8).toInt from by first | exact oz_213e98d3f1 k94_3 e12 | omega), (show Q5 (a6 5) from hq5), (show R_t2_name tb f a (upd f5 9 v8) a6 z18 from (k94_10 _ _ _ 1 (Or.inr (Or.inr (Or.inl ⟨rfl, x94_1, x94_2, rfl, rfl, rfl, rfl, rfl, Or.inl ⟨nc1, f5, a6, v8, e14, Or.inr ⟨nc16, z18, ez18, rfl, rfl, rfl⟩⟩⟩)))))⟩) d_Tok_name_133
    · have nc1 : ¬ x94_2.toInt ≤ (24 : Int) := mt (i_le (x := x94_2) (y := 24)).mpr c1
      refine lv_bipush (v := 19) S.x S.b d_Tok_name_100 (by decide) ?_
      first | exact px_iret (v := 19) S hr rfl hlk hAe hw (Nat.le_of_ble_eq_true rfl) (Nat.le_of_ble_eq_true rfl) (⟨f_94, a_94, rfl, (show TokOk (f_94 7) (f_94 8) (f_94 10) (f_94 11) (f_94 12) (f_94 13) (f_94 17) (a_94 4) from ⟨⟨o1, o2⟩, ⟨o3, o4⟩, ⟨o5, o6⟩, ⟨o7, o8⟩, ⟨o9, o10⟩, ⟨o11, o12⟩, o13, hn4⟩), (show (f_94 7).toInt = (f 7).toInt from k94_0), (show (f_94 10).toInt = (f 10).toInt from k94_1), (show (f_94 15).toInt = (f 15).toInt from k94_2), (show (f 8).toInt + 1 ≤ (f_94 8).toInt from k94_3), (show Q5 (a_94 5) from hq5), (show R_t2_name tb f a f_94 a_94 (19 : Int32) from (k94_10 _ _ _ 1 (Or.inr (Or.inr (Or.inl ⟨rfl, x94_1, x94_2, rfl, rfl, rfl, rfl, rfl, Or.inr ⟨nc1, rfl, rfl, rfl⟩⟩)))))⟩) d_Tok_name_102 | exact px_iret (v := 19) S hr rfl hlk hAe hw (Nat.le_of_ble_eq_true rfl) (Nat.le_of_ble_eq_true rfl) (⟨f_94, a_94, rfl, (show TokOk (f_94 7) (f_94 8) (f_94 10) (f_94 11) (f_94 12) (f_94 13) (f_94 17) (a_94 4) from ⟨⟨by first | exact o1 | omega, by first | exact o2 | omega⟩, ⟨by first | exact o3 | omega, by first | exact o4 | omega⟩, ⟨by first | exact o5 | omega, by first | exact o6 | omega⟩, ⟨by first | exact o7 | omega, by first | exact o8 | omega⟩, ⟨by first | exact o9 | omega, by first | exact o10 | omega⟩, ⟨by first | exact o11 | omega, by first | exact o12 | omega⟩, by first | exact o13 | omega, hn4⟩), (show (f_94 7).toInt = (f 7).toInt from by first | exact k94_0 | omega), (show (f_94 10).toInt = (f 10).toInt from by first | exact k94_1 | omega), (show (f_94 15).toInt = (f 15).toInt from by first | exact k94_2 | omega), (show (f 8).toInt + 1 ≤ (f_94 8).toInt from by first | exact k94_3 | omega), (show Q5 (a_94 5) from hq5), (show R_t2_name tb f a f_94 a_94 (19 : Int32) from (k94_10 _ _ _ 1 (Or.inr (Or.inr (Or.inl ⟨rfl, x94_1, x94_2, rfl, rfl, rfl, rfl, rfl, Or.inr ⟨nc1, rfl, rfl, rfl⟩⟩)))))⟩) d_Tok_name_102
  have J23 : ∀ (n_23 : Nat) (f_23 : Nat → Int32) (a_23 : Nat → Nat → Int32) (x23_1 x23_2 x23_3 : Int32) (H : Heap) (locs : List Loc) (ls : Array Slot), (TokOk (f_23 7) (f_23 8) (f_23 10) (f_23 11) (f_23 12) (f_23 13) (f_23 17) (a_23 4)) → ((f_23 7).toInt = (f 7).toInt) → ((f_23 10).toInt = (f 10).toInt) → ((f_23 15).toInt = (f 15).toInt) → ((f 8).toInt ≤ (f_23 8).toInt) → ((f_23 8).toInt ≤ (f_23 7).toInt) → (0 ≤ x23_1.toInt) → (x23_1.toInt ≤ 1000 + 24 * ((f_23 11).toInt - 1)) → (0 ≤ x23_2.toInt) → (x23_2.toInt ≤ (f_23 8).toInt) → (Q5 (a_23 5)) → (Nm0 tb (f 8) (f_23 8) x23_3) → (K_t2_name_23 tb f a f_23 a_23 x23_1 x23_2 x23_3) → (f_23 7).toInt+9-(f_23 8).toInt < (n_23 : Int) → pw D A s.heap H locs [wd_Tok cs h r (fun _ => some tp) f_23 a_23 g, [(tp, .inl (cs 1, 2048, .inl tb))]] → lv_has ls 4 [(0, .ref h), (1, .int x23_1), (2, .int x23_2), (3, .int x23_3)] → W p l e { frames := 2, cells := 0, slots := 0, locals := 60 } s m [.ref h].toArray below meth c H locs 0 0 (MQ below (va_Qi (fun v ps => ∃ (f' : Nat → Int32) (a' : Nat → Nat → Int32), (ps = [wd_Tok cs h r (fun _ => some tp) f' a' g, [(tp, .inl (cs 1, 2048, .inl tb))]]) ∧ (TokOk (f' 7) (f' 8) (f' 10) (f' 11) (f' 12) (f' 13) (f' 17) (a' 4)) ∧ ((f' 7).toInt = (f 7).toInt) ∧ ((f' 10).toInt = (f 10).toInt) ∧ ((f' 15).toInt = (f 15).toInt) ∧ ((f 8).toInt + 1 ≤ (f' 8).toInt) ∧ (Q5 (a' 5)) ∧ (R_t2_name tb f a f' a' v)) (pc_B D (va_A ([wd_Tok cs h r (fun _ => some tp) f a g, [(tp, .inl (cs 1, 2048, .inl tb))]] : List va_W).flatten s.heap.size)) (va_A ([wd_Tok cs h r (fun _ => some tp) f a g, [(tp, .inl (cs 1, 2048, .inl tb))]] : List va_W).flatten s.heap.size)) [.ref h].toArray s 0 0 A) (F0 m 23 ls []) := by
    intro  n_23
    induction n_23 with
    | zero =>
      intro f_23 a_23 x23_1 x23_2 x23_3 H locs ls hi23_0 k23_0 k23_1 k23_2 k23_3 k23_4 k23_5 k23_6 k23_7 k23_8 k23_9 k23_10 k23_11 hm hw hl
      obtain ⟨⟨o1, o2⟩, ⟨o3, o4⟩, ⟨o5, o6⟩, ⟨o7, o8⟩, ⟨o9, o10⟩, ⟨o11, o12⟩, o13, hn4⟩ := hi23_0
      have lx23_1 := Int32.le_toInt x23_1
      have ux23_1 := Int32.toInt_lt x23_1
      have lx23_2 := Int32.le_toInt x23_2
      have ux23_2 := Int32.toInt_lt x23_2
      have lx23_3 := Int32.le_toInt x23_3
      have ux23_3 := Int32.toInt_lt x23_3
      have hq5 := k23_9
      have hnm := k23_10
      exact absurd hm (by omega)
    | succ n_23 ih23 =>
      intro f_23 a_23 x23_1 x23_2 x23_3 H locs ls hi23_0 k23_0 k23_1 k23_2 k23_3 k23_4 k23_5 k23_6 k23_7 k23_8 k23_9 k23_10 k23_11 hm hw hl
      obtain ⟨⟨o1, o2⟩, ⟨o3, o4⟩, ⟨o5, o6⟩, ⟨o7, o8⟩, ⟨o9, o10⟩, ⟨o11, o12⟩, o13, hn4⟩ := hi23_0
      have lx23_1 := Int32.le_toInt x23_1
      have ux23_1 := Int32.toInt_lt x23_1
      have lx23_2 := Int32.le_toInt x23_2
      have ux23_2 := Int32.toInt_lt x23_2
      have lx23_3 := Int32.le_toInt x23_3
      have ux23_3 := Int32.toInt_lt x23_3
      have hq5 := k23_9
      have hnm := k23_10
      refine lv_aload_n S.x S.b d_Tok_name_23 rfl (lv_at hl 0 rfl) ?_
      refine px_get S k_Tok hT hw 0 0 8 (v := .int (f_23 8)) rfl rfl rfl (by decide) m1_111 d_Tok_name_24 ?_
      refine lv_aload_n S.x S.b d_Tok_name_27 rfl (lv_at hl 0 rfl) ?_
      refine px_get S k_Tok hT hw 0 0 7 (v := .int (f_23 7)) rfl rfl rfl (by decide) m1_110 d_Tok_name_28 ?_
      refine lv_icmp_ge (tgt := 94) S.x S.b d_Tok_name_31 (by decide) (fun c19 => ?_) (fun c19 => ?_)
      · have nc19 : (f_23 7).toInt ≤ (f_23 8).toInt := (i_le (x := (f_23 7)) (y := (f_23 8))).mp c19
        first | exact J94 f_23 a_23 x23_1 x23_2 _ _ ls (show TokOk (f_23 7) (f_23 8) (f_23 10) (f_23 11) (f_23 12) (f_23 13) (f_23 17) (a_23 4) from ⟨⟨o1, o2⟩, ⟨o3, o4⟩, ⟨o5, o6⟩, ⟨o7, o8⟩, ⟨o9, o10⟩, ⟨o11, o12⟩, o13, hn4⟩) (show (f_23 7).toInt = (f 7).toInt from k23_0) (show (f_23 10).toInt = (f 10).toInt from k23_1) (show (f_23 15).toInt = (f 15).toInt from k23_2) (show (f 8).toInt + 1 ≤ (f_23 8).toInt from (oz_b298d6b515 g0 nc19 k23_0)) (show (f_23 8).toInt ≤ (f_23 7).toInt from k23_4) (show 0 ≤ x23_1.toInt from k23_5) (show x23_1.toInt ≤ 1000 + 24 * ((f_23 11).toInt - 1) from k23_6) (show 0 ≤ x23_2.toInt from k23_7) (show x23_2.toInt ≤ (f_23 8).toInt from k23_8) (show Q5 (a_23 5) from hq5) (show K_t2_name_94 tb f a f_23 a_23 x23_1 x23_2 from (fun y_f0 y_f1 y_v k hE => k23_11 y_f0 y_f1 y_v (k + 1) (Or.inr (Or.inl ⟨rfl, x23_1, x23_2, x23_3, rfl, rfl, rfl, rfl, rfl, Or.inl ⟨nc19, hE⟩⟩)))) hw (lv_sub hl [0, 1, 2] rfl) | exact J94 f_23 a_23 x23_1 x23_2 _ _ ls (show TokOk (f_23 7) (f_23 8) (f_23 10) (f_23 11) (f_23 12) (f_23 13) (f_23 17) (a_23 4) from ⟨⟨by first | exact o1 | omega, by first | exact o2 | omega⟩, ⟨by first | exact o3 | omega, by first | exact o4 | omega⟩, ⟨by first | exact o5 | omega, by first | exact o6 | omega⟩, ⟨by first | exact o7 | omega, by first | exact o8 | omega⟩, ⟨by first | exact o9 | omega, by first | exact o10 | omega⟩, ⟨by first | exact o11 | omega, by first | exact o12 | omega⟩, by first | exact o13 | omega, hn4⟩) (show (f_23 7).toInt = (f 7).toInt from by first | exact k23_0 | omega) (show (f_23 10).toInt = (f 10).toInt from by first | exact k23_1 | omega) (show (f_23 15).toInt = (f 15).toInt from by first | exact k23_2 | omega) (show (f 8).toInt + 1 ≤ (f_23 8).toInt from by first | exact oz_b298d6b515 g0 nc19 k23_0 | omega) (show (f_23 8).toInt ≤ (f_23 7).toInt from by first | exact k23_4 | omega) (show 0 ≤ x23_1.toInt from by first | exact k23_5 | omega) (show x23_1.toInt ≤ 1000 + 24 * ((f_23 11).toInt - 1) from by first | exact k23_6 | omega) (show 0 ≤ x23_2.toInt from by first | exact k23_7 | omega) (show x23_2.toInt ≤ (f_23 8).toInt from by first | exact k23_8 | omega) (show Q5 (a_23 5) from hq5) (show K_t2_name_94 tb f a f_23 a_23 x23_1 x23_2 from (fun y_f0 y_f1 y_v k hE => k23_11 y_f0 y_f1 y_v (k + 1) (Or.inr (Or.inl ⟨rfl, x23_1, x23_2, x23_3, rfl, rfl, rfl, rfl, rfl, Or.inl ⟨nc19, hE⟩⟩)))) hw (lv_sub hl [0, 1, 2] rfl)
      · have nc19 : ¬ (f_23 7).toInt ≤ (f_23 8).toInt := mt (i_le (x := (f_23 7)) (y := (f_23 8))).mpr c19
        refine lv_iload_n S.x S.b d_Tok_name_34 rfl (lv_at hl 3 rfl) ?_
        refine px_calli (pr := [wd_Tok cs h r (fun _ => some tp) f_23 a_23 g, [(tp, .inl (cs 1, 2048, .inl tb))]]) (px_runS (As := [.int x23_3]) (rest := []) S (c_t2_isLetter l D cs  x23_3   _) hT (pr := [wd_Tok cs h r (fun _ => some tp) f_23 a_23 g, [(tp, .inl (cs 1, 2048, .inl tb))]]) (pcs := []) hw px_X.tt m3_201 m3_199 m3_200 m1_2 q_Tok_isLetter ⟨Nat.le_of_ble_eq_true rfl, Nat.le_of_ble_eq_true rfl⟩ hl.1 rfl (Nat.le_of_ble_eq_true rfl) d_Tok_name_35 ⟨Nat.le_of_ble_eq_true rfl, Nat.le_of_ble_eq_true rfl⟩) hw hA (fun v22 p21 H locs hp21 hw => ?_)
        obtain ⟨rfl, e23, e24, e25⟩ := hp21
        have e23 := z_rng e23
        have e24 : IsLt v22 x23_3 := e24
        have e25 : R_t2_isLetter x23_3 v22 := e25
        have lv22 := Int32.le_toInt v22
        have uv22 := Int32.toInt_lt v22
        refine lv_if_ne (tgt := 48) S.x S.b d_Tok_name_38 (by decide) (fun c26 => ?_) (fun c26 => ?_)
        · have nc26 : ¬ v22.toInt = (0 : Int) := mt (i_eq (x := v22) (y := 0)).mpr c26
          refine lv_iload_n S.x S.b d_Tok_name_48 rfl (lv_at hl 1 rfl) ?_
          refine lv_iload_n S.x S.b d_Tok_name_49 rfl (lv_at hl 2 rfl) ?_
          refine lv_iadd S.x S.b d_Tok_name_50 ?_
          refine lv_topi (fun z28 ez28 => ?_)
          have tz28 : z28.toInt = (x23_1.toInt + x23_2.toInt + 2147483648) % 4294967296 - 2147483648 := by rw [ez28]; exact i_add x23_1 x23_2
          have lz28 := Int32.le_toInt z28
          have uz28 := Int32.toInt_lt z28
          try replace tz28 : z28.toInt = x23_1.toInt + x23_2.toInt := by omega
          refine lv_aload_n S.x S.b d_Tok_name_51 rfl (lv_at hl 0 rfl) ?_
          refine px_get S k_Tok hT hw 0 0 3 (v := .ref (r 3)) rfl rfl rfl (by decide) m1_106 d_Tok_name_52 ?_
          refine px_len S hT hw 0 4 2 rfl rfl rfl (v := 2181) rfl d_Tok_name_55 ?_
          refine lv_icmp_ge (tgt := 69) S.x S.b d_Tok_name_56 (by decide) (fun c29 => ?_) (fun c29 => ?_)
          · have nc29 : (2181 : Int) ≤ z28.toInt := (i_le (x := 2181) (y := z28)).mp c29
            obtain ⟨z31, ez31⟩ : ∃ y : Int32, y = x23_2 + 1 := ⟨_, rfl⟩
            have tz31 : z31.toInt = (x23_2.toInt + 1 + 2147483648) % 4294967296 - 2147483648 := by rw [ez31]; exact i_add x23_2 1
            have lz31 := Int32.le_toInt z31
            have uz31 := Int32.toInt_lt z31
            try replace tz31 : z31.toInt = x23_2.toInt + 1 := by omega
            refine lv_iinc (v := z31) (lv' := [(2, .int z31), (0, .ref h), (1, .int x23_1), (3, .int x23_3)]) S.x S.b d_Tok_name_69 hl (k := 2) rfl (by rw [ez31]; rfl) (by decide) rfl (fun ls hl => ?_)
            refine lv_aload_n S.x S.b d_Tok_name_72 rfl (lv_at hl 1 rfl) ?_
            refine lv_dup S.x S.b d_Tok_name_73 rfl ?_
            refine px_get S k_Tok hT hw 0 0 8 (v := .int (f_23 8)) rfl rfl rfl (by decide) m1_111 d_Tok_name_74 ?_
            refine lv_iconst (v := 1) S.x S.b d_Tok_name_77 (by decide) ?_
            refine lv_iadd S.x S.b d_Tok_name_78 ?_
            have lr32 := Int32.le_toInt (f_23 8)
            have ur32 := Int32.toInt_lt (f_23 8)
            refine lv_topi (fun z33 ez33 => ?_)
            have tz33 : z33.toInt = ((f_23 8).toInt + (1 : Int) + 2147483648) % 4294967296 - 2147483648 := by rw [ez33]; exact i_add (f_23 8) 1
            have lz33 := Int32.le_toInt z33
            have uz33 := Int32.toInt_lt z33
            try replace tz33 : z33.toInt = (f_23 8).toInt + (1 : Int) := by omega
            refine px_put S k_Tok hT hw 0 0 8 rfl rfl (by decide) m1_111 rfl rfl rfl (Nat.le_of_ble_eq_true rfl) d_Tok_name_79 (w' := wd_Tok cs h r (fun _ => some tp) (upd f_23 8 z33) a_23 g) (ps' := [wd_Tok cs h r (fun _ => some tp) (upd f_23 8 z33) a_23 g, [(tp, .inl (cs 1, 2048, .inl tb))]]) rfl rfl (fun H locs hw => ?_)
            refine lv_aload_n S.x S.b d_Tok_name_82 rfl (lv_at hl 1 rfl) ?_
            refine lv_aload_n S.x S.b d_Tok_name_83 rfl (lv_at hl 1 rfl) ?_
            refine px_get S k_Tok hT hw 0 0 8 (v := .int z33) rfl rfl rfl (by decide) m1_111 d_Tok_name_84 ?_
            first | refine px_calli (pr := []) (px_runV (As := [.int z33]) (rest := []) S (c_t2_byteAt l D cs h r tp tb g (upd f_23 8 z33) a_23 z33  (show TokOk (f_23 7) z33 (f_23 10) (f_23 11) (f_23 12) (f_23 13) (f_23 17) (a_23 4) from ⟨⟨o1, o2⟩, ⟨(oz_b3b25f0e49 tz33 o3), (oz_b18b803a23 nc19 tz33)⟩, ⟨o5, o6⟩, ⟨o7, o8⟩, ⟨o9, o10⟩, ⟨o11, o12⟩, o13, hn4⟩) _) hT (pr := []) (pcs := [wd_Tok cs h r (fun _ => some tp) (upd f_23 8 z33) a_23 g, [(tp, .inl (cs 1, 2048, .inl tb))]]) hw px_X.tt (px_recv hT hw 0 0 rfl rfl rfl) m3_186 m3_183 m3_185 ms_1_6 m1_2 q_Tok_byteAt ⟨Nat.le_of_ble_eq_true rfl, Nat.le_of_ble_eq_true rfl⟩ hl.1 rfl (Nat.le_of_ble_eq_true rfl) d_Tok_name_87 ⟨Nat.le_of_ble_eq_true rfl, Nat.le_of_ble_eq_true rfl⟩) hw hA (fun v35 p34 H locs hp34 hw => ?_) | refine px_calli (pr := []) (px_runV (As := [.int z33]) (rest := []) S (c_t2_byteAt l D cs h r tp tb g (upd f_23 8 z33) a_23 z33  (show TokOk (f_23 7) z33 (f_23 10) (f_23 11) (f_23 12) (f_23 13) (f_23 17) (a_23 4) from ⟨⟨by first | exact o1 | omega, by first | exact o2 | omega⟩, ⟨by first | exact oz_b3b25f0e49 tz33 o3 | omega, by first | exact oz_b18b803a23 nc19 tz33 | omega⟩, ⟨by first | exact o5 | omega, by first | exact o6 | omega⟩, ⟨by first | exact o7 | omega, by first | exact o8 | omega⟩, ⟨by first | exact o9 | omega, by first | exact o10 | omega⟩, ⟨by first | exact o11 | omega, by first | exact o12 | omega⟩, by first | exact o13 | omega, hn4⟩) _) hT (pr := []) (pcs := [wd_Tok cs h r (fun _ => some tp) (upd f_23 8 z33) a_23 g, [(tp, .inl (cs 1, 2048, .inl tb))]]) hw px_X.tt (px_recv hT hw 0 0 rfl rfl rfl) m3_186 m3_183 m3_185 ms_1_6 m1_2 q_Tok_byteAt ⟨Nat.le_of_ble_eq_true rfl, Nat.le_of_ble_eq_true rfl⟩ hl.1 rfl (Nat.le_of_ble_eq_true rfl) d_Tok_name_87 ⟨Nat.le_of_ble_eq_true rfl, Nat.le_of_ble_eq_true rfl⟩) hw hA (fun v35 p34 H locs hp34 hw => ?_)
            obtain ⟨rfl, e36, e37, e38, e39, e40⟩ := hp34
            have e36 : -1 ≤ v35.toInt := e36
            have e37 : v35.toInt ≤ 255 := e37
            have e38 : 0 ≤ v35.toInt → 0 ≤ z33.toInt ∧ z33.toInt < (f_23 7).toInt := e38
            have e39 : By tb (f_23 7) z33 v35 := e39
            have e40 : R_t2_byteAt tb (upd f_23 8 z33) z33 v35 := e40
            have lv35 := Int32.le_toInt v35
            have uv35 := Int32.toInt_lt v35
            refine lv_istore_n (lv' := [(3, .int v35), (2, .int z31), (0, .ref h), (1, .int x23_1)]) S.x S.b d_Tok_name_90 rfl hl (by decide) rfl (fun ls hl => ?_)
            refine lv_goto (tgt := 23) S.x S.b d_Tok_name_91 (by decide) ?_
            first | exact ih23 (upd f_23 8 z33) a_23 x23_1 z31 v35 _ _ ls (show TokOk (f_23 7) z33 (f_23 10) (f_23 11) (f_23 12) (f_23 13) (f_23 17) (a_23 4) from ⟨⟨o1, o2⟩, ⟨(oz_b3b25f0e49 tz33 o3), (oz_b18b803a23 nc19 tz33)⟩, ⟨o5, o6⟩, ⟨o7, o8⟩, ⟨o9, o10⟩, ⟨o11, o12⟩, o13, hn4⟩) (show (f_23 7).toInt = (f 7).toInt from k23_0) (show (f_23 10).toInt = (f 10).toInt from k23_1) (show (f_23 15).toInt = (f 15).toInt from k23_2) (show (f 8).toInt ≤ z33.toInt from (oz_df4877b868 k23_3 tz33)) (show z33.toInt ≤ (f_23 7).toInt from (oz_7eb37145d2 nc19 tz33)) (show 0 ≤ x23_1.toInt from k23_5) (show x23_1.toInt ≤ 1000 + 24 * ((f_23 11).toInt - 1) from k23_6) (show 0 ≤ z31.toInt from (oz_ae613611c0 tz31 k23_7)) (show z31.toInt ≤ z33.toInt from (oz_122b8b9fb7 tz31 tz33 k23_8)) (show Q5 (a_23 5) from hq5) (show Nm0 tb (f 8) z33 v35 from (by first | (right; exact ⟨rfl, by assumption⟩) | (left; omega) | exact Or.inr ⟨rfl, (show By _ _ _ _ by assumption) (by omega) (by omega)⟩)) (show K_t2_name_23 tb f a (upd f_23 8 z33) a_23 x23_1 z31 v35 from (fun y_f0 y_f1 y_v k hE => k23_11 y_f0 y_f1 y_v (k + 1) (Or.inr (Or.inl ⟨rfl, x23_1, x23_2, x23_3, rfl, rfl, rfl, rfl, rfl, Or.inr ⟨nc19, v22, e25, Or.inl ⟨nc26, z28, ez28, Or.inl ⟨nc29, z31, ez31, z33, ez33, v35, e40, hE⟩⟩⟩⟩)))) (show (f_23 7).toInt+9-z33.toInt < (n_23 : Int) from (oz_c735cfbd81 hm tz33)) hw (lv_sub hl [2, 3, 1, 0] rfl) | exact ih23 (upd f_23 8 z33) a_23 x23_1 z31 v35 _ _ ls (show TokOk (f_23 7) z33 (f_23 10) (f_23 11) (f_23 12) (f_23 13) (f_23 17) (a_23 4) from ⟨⟨by first | exact o1 | omega, by first | exact o2 | omega⟩, ⟨by first | exact oz_b3b25f0e49 tz33 o3 | omega, by first | exact oz_b18b803a23 nc19 tz33 | omega⟩, ⟨by first | exact o5 | omega, by first | exact o6 | omega⟩, ⟨by first | exact o7 | omega, by first | exact o8 | omega⟩, ⟨by first | exact o9 | omega, by first | exact o10 | omega⟩, ⟨by first | exact o11 | omega, by first | exact o12 | omega⟩, by first | exact o13 | omega, hn4⟩) (show (f_23 7).toInt = (f 7).toInt from by first | exact k23_0 | omega) (show (f_23 10).toInt = (f 10).toInt from by first | exact k23_1 | omega) (show (f_23 15).toInt = (f 15).toInt from by first | exact k23_2 | omega) (show (f 8).toInt ≤ z33.toInt from by first | exact oz_df4877b868 k23_3 tz33 | omega) (show z33.toInt ≤ (f_23 7).toInt from by first | exact oz_7eb37145d2 nc19 tz33 | omega) (show 0 ≤ x23_1.toInt from by first | exact k23_5 | omega) (show x23_1.toInt ≤ 1000 + 24 * ((f_23 11).toInt - 1) from by first | exact k23_6 | omega) (show 0 ≤ z31.toInt from by first | exact oz_ae613611c0 tz31 k23_7 | omega) (show z31.toInt ≤ z33.toInt from by first | exact oz_122b8b9fb7 tz31 tz33 k23_8 | omega) (show Q5 (a_23 5) from hq5) (show Nm0 tb (f 8) z33 v35 from (by first | (right; exact ⟨rfl, by assumption⟩) | (left; omega) | exact Or.inr ⟨rfl, (show By _ _ _ _ by assumption) (by omega) (by omega)⟩)) (show K_t2_name_23 tb f a (upd f_23 8 z33) a_23 x23_1 z31 v35 from (fun y_f0 y_f1 y_v k hE => k23_11 y_f0 y_f1 y_v (k + 1) (Or.inr (Or.inl ⟨rfl, x23_1, x23_2, x23_3, rfl, rfl, rfl, rfl, rfl, Or.inr ⟨nc19, v22, e25, Or.inl ⟨nc26, z28, ez28, Or.inl ⟨nc29, z31, ez31, z33, ez33, v35, e40, hE⟩⟩⟩⟩)))) (show (f_23 7).toInt+9-z33.toInt < (n_23 : Int) from by first | exact oz_c735cfbd81 hm tz33 | omega) hw (lv_sub hl [2, 3, 1, 0] rfl)
          · have nc29 : ¬ (2181 : Int) ≤ z28.toInt := mt (i_le (x := 2181) (y := z28)).mpr c29
            refine lv_aload_n S.x S.b d_Tok_name_59 rfl (lv_at hl 0 rfl) ?_
            refine px_get S k_Tok hT hw 0 0 3 (v := .ref (r 3)) rfl rfl rfl (by decide) m1_106 d_Tok_name_60 ?_
            refine lv_iload_n S.x S.b d_Tok_name_63 rfl (lv_at hl 1 rfl) ?_
            refine lv_iload_n S.x S.b d_Tok_name_64 rfl (lv_at hl 2 rfl) ?_
            refine lv_iadd S.x S.b d_Tok_name_65 ?_
            refine lv_topi (fun z41 ez41 => ?_)
            have tz41 : z41.toInt = (x23_1.toInt + x23_2.toInt + 2147483648) % 4294967296 - 2147483648 := by rw [ez41]; exact i_add x23_1 x23_2
            have lz41 := Int32.le_toInt z41
            have uz41 := Int32.toInt_lt z41
            try replace tz41 : z41.toInt = x23_1.toInt + x23_2.toInt := by omega
            refine lv_iload_n S.x S.b d_Tok_name_66 rfl (lv_at hl 3 rfl) ?_
            refine lv_i2c S.x S.b d_Tok_name_67 rfl ?_
            refine lv_topi (fun z42 ez42 => ?_)
            have lz42 := Int32.le_toInt z42
            have uz42 := Int32.toInt_lt z42
            refine px_cast S hT hw 0 4 (n := 2181) (f := (a_23 3)) (x := z41) (y := z42) rfl (ga_Tok_3 _ _ _ _ _ _ _) (vp_in_iff.mpr (by constructor <;> omega)) d_Tok_name_68 (w' := wd_Tok cs h r (fun _ => some tp) f_23 (va_up a_23 3 (upd (a_23 3) z41.toNatClampNeg (vp_nar .char z42))) g) (ps' := [wd_Tok cs h r (fun _ => some tp) f_23 (va_up a_23 3 (upd (a_23 3) z41.toNatClampNeg (vp_nar .char z42))) g, [(tp, .inl (cs 1, 2048, .inl tb))]]) (sa_Tok_3 _ _ _ _ _ _ _ _) rfl (fun H locs hw => ?_)
            obtain ⟨z43, ez43⟩ : ∃ y : Int32, y = x23_2 + 1 := ⟨_, rfl⟩
            have tz43 : z43.toInt = (x23_2.toInt + 1 + 2147483648) % 4294967296 - 2147483648 := by rw [ez43]; exact i_add x23_2 1
            have lz43 := Int32.le_toInt z43
            have uz43 := Int32.toInt_lt z43
            try replace tz43 : z43.toInt = x23_2.toInt + 1 := by omega
            refine lv_iinc (v := z43) (lv' := [(2, .int z43), (0, .ref h), (1, .int x23_1), (3, .int x23_3)]) S.x S.b d_Tok_name_69 hl (k := 2) rfl (by rw [ez43]; rfl) (by decide) rfl (fun ls hl => ?_)
            refine lv_aload_n S.x S.b d_Tok_name_72 rfl (lv_at hl 1 rfl) ?_
            refine lv_dup S.x S.b d_Tok_name_73 rfl ?_
            refine px_get S k_Tok hT hw 0 0 8 (v := .int (f_23 8)) rfl rfl rfl (by decide) m1_111 d_Tok_name_74 ?_
            refine lv_iconst (v := 1) S.x S.b d_Tok_name_77 (by decide) ?_
            refine lv_iadd S.x S.b d_Tok_name_78 ?_
            have lr44 := Int32.le_toInt (f_23 8)
            have ur44 := Int32.toInt_lt (f_23 8)
            refine lv_topi (fun z45 ez45 => ?_)
            have tz45 : z45.toInt = ((f_23 8).toInt + (1 : Int) + 2147483648) % 4294967296 - 2147483648 := by rw [ez45]; exact i_add (f_23 8) 1
            have lz45 := Int32.le_toInt z45
            have uz45 := Int32.toInt_lt z45
            try replace tz45 : z45.toInt = (f_23 8).toInt + (1 : Int) := by omega
            refine px_put S k_Tok hT hw 0 0 8 rfl rfl (by decide) m1_111 rfl rfl rfl (Nat.le_of_ble_eq_true rfl) d_Tok_name_79 (w' := wd_Tok cs h r (fun _ => some tp) (upd f_23 8 z45) (va_up a_23 3 (upd (a_23 3) z41.toNatClampNeg (vp_nar .char z42))) g) (ps' := [wd_Tok cs h r (fun _ => some tp) (upd f_23 8 z45) (va_up a_23 3 (upd (a_23 3) z41.toNatClampNeg (vp_nar .char z42))) g, [(tp, .inl (cs 1, 2048, .inl tb))]]) rfl rfl (fun H locs hw => ?_)
            refine lv_aload_n S.x S.b d_Tok_name_82 rfl (lv_at hl 1 rfl) ?_
            refine lv_aload_n S.x S.b d_Tok_name_83 rfl (lv_at hl 1 rfl) ?_
            refine px_get S k_Tok hT hw 0 0 8 (v := .int z45) rfl rfl rfl (by decide) m1_111 d_Tok_name_84 ?_
            first | refine px_calli (pr := []) (px_runV (As := [.int z45]) (rest := []) S (c_t2_byteAt l D cs h r tp tb g (upd f_23 8 z45) (va_up a_23 3 (upd (a_23 3) z41.toNatClampNeg (vp_nar .char z42))) z45  (show TokOk (f_23 7) z45 (f_23 10) (f_23 11) (f_23 12) (f_23 13) (f_23 17) ((va_up a_23 3 (upd (a_23 3) z41.toNatClampNeg (vp_nar .char z42))) 4) from ⟨⟨o1, o2⟩, ⟨(oz_b3b25f0e49 tz45 o3), (oz_b18b803a23 nc19 tz45)⟩, ⟨o5, o6⟩, ⟨o7, o8⟩, ⟨o9, o10⟩, ⟨o11, o12⟩, o13, (by rw [va_up_n (by decide)]; exact hn4)⟩) _) hT (pr := []) (pcs := [wd_Tok cs h r (fun _ => some tp) (upd f_23 8 z45) (va_up a_23 3 (upd (a_23 3) z41.toNatClampNeg (vp_nar .char z42))) g, [(tp, .inl (cs 1, 2048, .inl tb))]]) hw px_X.tt (px_recv hT hw 0 0 rfl rfl rfl) m3_186 m3_183 m3_185 ms_1_6 m1_2 q_Tok_byteAt ⟨Nat.le_of_ble_eq_true rfl, Nat.le_of_ble_eq_true rfl⟩ hl.1 rfl (Nat.le_of_ble_eq_true rfl) d_Tok_name_87 ⟨Nat.le_of_ble_eq_true rfl, Nat.le_of_ble_eq_true rfl⟩) hw hA (fun v47 p46 H locs hp46 hw => ?_) | refine px_calli (pr := []) (px_runV (As := [.int z45]) (rest := []) S (c_t2_byteAt l D cs h r tp tb g (upd f_23 8 z45) (va_up a_23 3 (upd (a_23 3) z41.toNatClampNeg (vp_nar .char z42))) z45  (show TokOk (f_23 7) z45 (f_23 10) (f_23 11) (f_23 12) (f_23 13) (f_23 17) ((va_up a_23 3 (upd (a_23 3) z41.toNatClampNeg (vp_nar .char z42))) 4) from ⟨⟨by first | exact o1 | omega, by first | exact o2 | omega⟩, ⟨by first | exact oz_b3b25f0e49 tz45 o3 | omega, by first | exact oz_b18b803a23 nc19 tz45 | omega⟩, ⟨by first | exact o5 | omega, by first | exact o6 | omega⟩, ⟨by first | exact o7 | omega, by first | exact o8 | omega⟩, ⟨by first | exact o9 | omega, by first | exact o10 | omega⟩, ⟨by first | exact o11 | omega, by first | exact o12 | omega⟩, by first | exact o13 | omega, (by rw [va_up_n (by decide)]; exact hn4)⟩) _) hT (pr := []) (pcs := [wd_Tok cs h r (fun _ => some tp) (upd f_23 8 z45) (va_up a_23 3 (upd (a_23 3) z41.toNatClampNeg (vp_nar .char z42))) g, [(tp, .inl (cs 1, 2048, .inl tb))]]) hw px_X.tt (px_recv hT hw 0 0 rfl rfl rfl) m3_186 m3_183 m3_185 ms_1_6 m1_2 q_Tok_byteAt ⟨Nat.le_of_ble_eq_true rfl, Nat.le_of_ble_eq_true rfl⟩ hl.1 rfl (Nat.le_of_ble_eq_true rfl) d_Tok_name_87 ⟨Nat.le_of_ble_eq_true rfl, Nat.le_of_ble_eq_true rfl⟩) hw hA (fun v47 p46 H locs hp46 hw => ?_)
            obtain ⟨rfl, e48, e49, e50, e51, e52⟩ := hp46
            have e48 : -1 ≤ v47.toInt := e48
            have e49 : v47.toInt ≤ 255 := e49
            have e50 : 0 ≤ v47.toInt → 0 ≤ z45.toInt ∧ z45.toInt < (f_23 7).toInt := e50
            have e51 : By tb (f_23 7) z45 v47 := e51
            have e52 : R_t2_byteAt tb (upd f_23 8 z45) z45 v47 := e52
            have lv47 := Int32.le_toInt v47
            have uv47 := Int32.toInt_lt v47
            refine lv_istore_n (lv' := [(3, .int v47), (2, .int z43), (0, .ref h), (1, .int x23_1)]) S.x S.b d_Tok_name_90 rfl hl (by decide) rfl (fun ls hl => ?_)
            refine lv_goto (tgt := 23) S.x S.b d_Tok_name_91 (by decide) ?_
            first | exact ih23 (upd f_23 8 z45) (va_up a_23 3 (upd (a_23 3) z41.toNatClampNeg (vp_nar .char z42))) x23_1 z43 v47 _ _ ls (show TokOk (f_23 7) z45 (f_23 10) (f_23 11) (f_23 12) (f_23 13) (f_23 17) ((va_up a_23 3 (upd (a_23 3) z41.toNatClampNeg (vp_nar .char z42))) 4) from ⟨⟨o1, o2⟩, ⟨(oz_b3b25f0e49 tz45 o3), (oz_b18b803a23 nc19 tz45)⟩, ⟨o5, o6⟩, ⟨o7, o8⟩, ⟨o9, o10⟩, ⟨o11, o12⟩, o13, (by rw [va_up_n (by decide)]; exact hn4)⟩) (show (f_23 7).toInt = (f 7).toInt from k23_0) (show (f_23 10).toInt = (f 10).toInt from k23_1) (show (f_23 15).toInt = (f 15).toInt from k23_2) (show (f 8).toInt ≤ z45.toInt from (oz_df4877b868 k23_3 tz45)) (show z45.toInt ≤ (f_23 7).toInt from (oz_7eb37145d2 nc19 tz45)) (show 0 ≤ x23_1.toInt from k23_5) (show x23_1.toInt ≤ 1000 + 24 * ((f_23 11).toInt - 1) from k23_6) (show 0 ≤ z43.toInt from (oz_ae613611c0 tz43 k23_7)) (show z43.toInt ≤ z45.toInt from (oz_122b8b9fb7 tz43 tz45 k23_8)) (show Q5 ((va_up a_23 3 (upd (a_23 3) z41.toNatClampNeg (vp_nar .char z42))) 5) from (by rw [va_up_n (by decide)]; exact hq5)) (show Nm0 tb (f 8) z45 v47 from (by first | (right; exact ⟨rfl, by assumption⟩) | (left; omega) | exact Or.inr ⟨rfl, (show By _ _ _ _ by assumption) (by omega) (by omega)⟩)) (show K_t2_name_23 tb f a (upd f_23 8 z45) (va_up a_23 3 (upd (a_23 3) z41.toNatClampNeg (vp_nar .char z42))) x23_1 z43 v47 from (fun y_f0 y_f1 y_v k hE => k23_11 y_f0 y_f1 y_v (k + 1) (Or.inr (Or.inl ⟨rfl, x23_1, x23_2, x23_3, rfl, rfl, rfl, rfl, rfl, Or.inr ⟨nc19, v22, e25, Or.inl ⟨nc26, z28, ez28, Or.inr ⟨nc29, z41, ez41, z42, ez42, z43, ez43, z45, ez45, v47, e52, hE⟩⟩⟩⟩)))) (show (f_23 7).toInt+9-z45.toInt < (n_23 : Int) from (oz_c735cfbd81 hm tz45)) hw (lv_sub hl [2, 3, 1, 0] rfl) | exact ih23 (upd f_23 8 z45) (va_up a_23 3 (upd (a_23 3) z41.toNatClampNeg (vp_nar .char z42))) x23_1 z43 v47 _ _ ls (show TokOk (f_23 7) z45 (f_23 10) (f_23 11) (f_23 12) (f_23 13) (f_23 17) ((va_up a_23 3 (upd (a_23 3) z41.toNatClampNeg (vp_nar .char z42))) 4) from ⟨⟨by first | exact o1 | omega, by first | exact o2 | omega⟩, ⟨by first | exact oz_b3b25f0e49 tz45 o3 | omega, by first | exact oz_b18b803a23 nc19 tz45 | omega⟩, ⟨by first | exact o5 | omega, by first | exact o6 | omega⟩, ⟨by first | exact o7 | omega, by first | exact o8 | omega⟩, ⟨by first | exact o9 | omega, by first | exact o10 | omega⟩, ⟨by first | exact o11 | omega, by first | exact o12 | omega⟩, by first | exact o13 | omega, (by rw [va_up_n (by decide)]; exact hn4)⟩) (show (f_23 7).toInt = (f 7).toInt from by first | exact k23_0 | omega) (show (f_23 10).toInt = (f 10).toInt from by first | exact k23_1 | omega) (show (f_23 15).toInt = (f 15).toInt from by first | exact k23_2 | omega) (show (f 8).toInt ≤ z45.toInt from by first | exact oz_df4877b868 k23_3 tz45 | omega) (show z45.toInt ≤ (f_23 7).toInt from by first | exact oz_7eb37145d2 nc19 tz45 | omega) (show 0 ≤ x23_1.toInt from by first | exact k23_5 | omega) (show x23_1.toInt ≤ 1000 + 24 * ((f_23 11).toInt - 1) from by first | exact k23_6 | omega) (show 0 ≤ z43.toInt from by first | exact oz_ae613611c0 tz43 k23_7 | omega) (show z43.toInt ≤ z45.toInt from by first | exact oz_122b8b9fb7 tz43 tz45 k23_8 | omega) (show Q5 ((va_up a_23 3 (upd (a_23 3) z41.toNatClampNeg (vp_nar .char z42))) 5) from (by rw [va_up_n (by decide)]; exact hq5)) (show Nm0 tb (f 8) z45 v47 from (by first | (right; exact ⟨rfl, by assumption⟩) | (left; omega) | exact Or.inr ⟨rfl, (show By _ _ _ _ by assumption) (by omega) (by omega)⟩)) (show K_t2_name_23 tb f a (upd f_23 8 z45) (va_up a_23 3 (upd (a_23 3) z41.toNatClampNeg (vp_nar .char z42))) x23_1 z43 v47 from (fun y_f0 y_f1 y_v k hE => k23_11 y_f0 y_f1 y_v (k + 1) (Or.inr (Or.inl ⟨rfl, x23_1, x23_2, x23_3, rfl, rfl, rfl, rfl, rfl, Or.inr ⟨nc19, v22, e25, Or.inl ⟨nc26, z28, ez28, Or.inr ⟨nc29, z41, ez41, z42, ez42, z43, ez43, z45, ez45, v47, e52, hE⟩⟩⟩⟩)))) (show (f_23 7).toInt+9-z45.toInt < (n_23 : Int) from by first | exact oz_c735cfbd81 hm tz45 | omega) hw (lv_sub hl [2, 3, 1, 0] rfl)
        · have nc26 : v22.toInt = (0 : Int) := (i_eq (x := v22) (y := 0)).mp c26
          refine lv_iload_n S.x S.b d_Tok_name_41 rfl (lv_at hl 3 rfl) ?_
          have hgo := Nm0.go hnm hL (by assumption) (by omega)
          refine px_calli (pr := [wd_Tok cs h r (fun _ => some tp) f_23 a_23 g, [(tp, .inl (cs 1, 2048, .inl tb))]]) (px_runS (As := [.int x23_3]) (rest := []) S (c_t2_isDigit l D cs  x23_3   _) hT (pr := [wd_Tok cs h r (fun _ => some tp) f_23 a_23 g, [(tp, .inl (cs 1, 2048, .inl tb))]]) (pcs := []) hw px_X.tt m3_208 m3_206 m3_207 m1_2 q_Tok_isDigit ⟨Nat.le_of_ble_eq_true rfl, Nat.le_of_ble_eq_true rfl⟩ hl.1 rfl (Nat.le_of_ble_eq_true rfl) d_Tok_name_42 ⟨Nat.le_of_ble_eq_true rfl, Nat.le_of_ble_eq_true rfl⟩) hw hA (fun v54 p53 H locs hp53 hw => ?_)
          obtain ⟨rfl, e55, e56, e57⟩ := hp53
          have e55 := z_rng e55
          have e56 : v54.toInt = 1 → 48 ≤ x23_3.toInt := e56
          have e57 : R_t2_isDigit x23_3 v54 := e57
          have lv54 := Int32.le_toInt v54
          have uv54 := Int32.toInt_lt v54
          refine lv_if_eq (tgt := 94) S.x S.b d_Tok_name_45 (by decide) (fun c58 => ?_) (fun c58 => ?_)
          · have nc58 : v54.toInt = (0 : Int) := (i_eq (x := v54) (y := 0)).mp c58
            first | exact J94 f_23 a_23 x23_1 x23_2 _ _ ls (show TokOk (f_23 7) (f_23 8) (f_23 10) (f_23 11) (f_23 12) (f_23 13) (f_23 17) (a_23 4) from ⟨⟨o1, o2⟩, ⟨o3, o4⟩, ⟨o5, o6⟩, ⟨o7, o8⟩, ⟨o9, o10⟩, ⟨o11, o12⟩, o13, hn4⟩) (show (f_23 7).toInt = (f 7).toInt from k23_0) (show (f_23 10).toInt = (f 10).toInt from k23_1) (show (f_23 15).toInt = (f 15).toInt from k23_2) (show (f 8).toInt + 1 ≤ (f_23 8).toInt from (oz_54480d698e hgo)) (show (f_23 8).toInt ≤ (f_23 7).toInt from k23_4) (show 0 ≤ x23_1.toInt from k23_5) (show x23_1.toInt ≤ 1000 + 24 * ((f_23 11).toInt - 1) from k23_6) (show 0 ≤ x23_2.toInt from k23_7) (show x23_2.toInt ≤ (f_23 8).toInt from k23_8) (show Q5 (a_23 5) from hq5) (show K_t2_name_94 tb f a f_23 a_23 x23_1 x23_2 from (fun y_f0 y_f1 y_v k hE => k23_11 y_f0 y_f1 y_v (k + 1) (Or.inr (Or.inl ⟨rfl, x23_1, x23_2, x23_3, rfl, rfl, rfl, rfl, rfl, Or.inr ⟨nc19, v22, e25, Or.inr ⟨nc26, v54, e57, Or.inl ⟨nc58, hE⟩⟩⟩⟩)))) hw (lv_sub hl [0, 1, 2] rfl) | exact J94 f_23 a_23 x23_1 x23_2 _ _ ls (show TokOk (f_23 7) (f_23 8) (f_23 10) (f_23 11) (f_23 12) (f_23 13) (f_23 17) (a_23 4) from ⟨⟨by first | exact o1 | omega, by first | exact o2 | omega⟩, ⟨by first | exact o3 | omega, by first | exact o4 | omega⟩, ⟨by first | exact o5 | omega, by first | exact o6 | omega⟩, ⟨by first | exact o7 | omega, by first | exact o8 | omega⟩, ⟨by first | exact o9 | omega, by first | exact o10 | omega⟩, ⟨by first | exact o11 | omega, by first | exact o12 | omega⟩, by first | exact o13 | omega, hn4⟩) (show (f_23 7).toInt = (f 7).toInt from by first | exact k23_0 | omega) (show (f_23 10).toInt = (f 10).toInt from by first | exact k23_1 | omega) (show (f_23 15).toInt = (f 15).toInt from by first | exact k23_2 | omega) (show (f 8).toInt + 1 ≤ (f_23 8).toInt from by first | exact oz_54480d698e hgo | omega) (show (f_23 8).toInt ≤ (f_23 7).toInt from by first | exact k23_4 | omega) (show 0 ≤ x23_1.toInt from by first | exact k23_5 | omega) (show x23_1.toInt ≤ 1000 + 24 * ((f_23 11).toInt - 1) from by first | exact k23_6 | omega) (show 0 ≤ x23_2.toInt from by first | exact k23_7 | omega) (show x23_2.toInt ≤ (f_23 8).toInt from by first | exact k23_8 | omega) (show Q5 (a_23 5) from hq5) (show K_t2_name_94 tb f a f_23 a_23 x23_1 x23_2 from (fun y_f0 y_f1 y_v k hE => k23_11 y_f0 y_f1 y_v (k + 1) (Or.inr (Or.inl ⟨rfl, x23_1, x23_2, x23_3, rfl, rfl, rfl, rfl, rfl, Or.inr ⟨nc19, v22, e25, Or.inr ⟨nc26, v54, e57, Or.inl ⟨nc58, hE⟩⟩⟩⟩)))) hw (lv_sub hl [0, 1, 2] rfl)
          · have nc58 : ¬ v54.toInt = (0 : Int) := mt (i_eq (x := v54) (y := 0)).mpr c58
            refine lv_iload_n S.x S.b d_Tok_name_48 rfl (lv_at hl 1 rfl) ?_
            refine lv_iload_n S.x S.b d_Tok_name_49 rfl (lv_at hl 2 rfl) ?_
            refine lv_iadd S.x S.b d_Tok_name_50 ?_
            refine lv_topi (fun z60 ez60 => ?_)
            have tz60 : z60.toInt = (x23_1.toInt + x23_2.toInt + 2147483648) % 4294967296 - 2147483648 := by rw [ez60]; exact i_add x23_1 x23_2
            have lz60 := Int32.le_toInt z60
            have uz60 := Int32.toInt_lt z60
            try replace tz60 : z60.toInt = x23_1.toInt + x23_2.toInt := by omega
            refine lv_aload_n S.x S.b d_Tok_name_51 rfl (lv_at hl 0 rfl) ?_
            refine px_get S k_Tok hT hw 0 0 3 (v := .ref (r 3)) rfl rfl rfl (by decide) m1_106 d_Tok_name_52 ?_
            refine px_len S hT hw 0 4 2 rfl rfl rfl (v := 2181) rfl d_Tok_name_55 ?_
            refine lv_icmp_ge (tgt := 69) S.x S.b d_Tok_name_56 (by decide) (fun c61 => ?_) (fun c61 => ?_)
            · have nc61 : (2181 : Int) ≤ z60.toInt := (i_le (x := 2181) (y := z60)).mp c61
              obtain ⟨z63, ez63⟩ : ∃ y : Int32, y = x23_2 + 1 := ⟨_, rfl⟩
              have tz63 : z63.toInt = (x23_2.toInt + 1 + 2147483648) % 4294967296 - 2147483648 := by rw [ez63]; exact i_add x23_2 1
              have lz63 := Int32.le_toInt z63
              have uz63 := Int32.toInt_lt z63
              try replace tz63 : z63.toInt = x23_2.toInt + 1 := by omega
              refine lv_iinc (v := z63) (lv' := [(2, .int z63), (0, .ref h), (1, .int x23_1), (3, .int x23_3)]) S.x S.b d_Tok_name_69 hl (k := 2) rfl (by rw [ez63]; rfl) (by decide) rfl (fun ls hl => ?_)
              refine lv_aload_n S.x S.b d_Tok_name_72 rfl (lv_at hl 1 rfl) ?_
              refine lv_dup S.x S.b d_Tok_name_73 rfl ?_
              refine px_get S k_Tok hT hw 0 0 8 (v := .int (f_23 8)) rfl rfl rfl (by decide) m1_111 d_Tok_name_74 ?_
              refine lv_iconst (v := 1) S.x S.b d_Tok_name_77 (by decide) ?_
              refine lv_iadd S.x S.b d_Tok_name_78 ?_
              have lr64 := Int32.le_toInt (f_23 8)
              have ur64 := Int32.toInt_lt (f_23 8)
              refine lv_topi (fun z65 ez65 => ?_)
              have tz65 : z65.toInt = ((f_23 8).toInt + (1 : Int) + 2147483648) % 4294967296 - 2147483648 := by rw [ez65]; exact i_add (f_23 8) 1
              have lz65 := Int32.le_toInt z65
              have uz65 := Int32.toInt_lt z65
              try replace tz65 : z65.toInt = (f_23 8).toInt + (1 : Int) := by omega
              refine px_put S k_Tok hT hw 0 0 8 rfl rfl (by decide) m1_111 rfl rfl rfl (Nat.le_of_ble_eq_true rfl) d_Tok_name_79 (w' := wd_Tok cs h r (fun _ => some tp) (upd f_23 8 z65) a_23 g) (ps' := [wd_Tok cs h r (fun _ => some tp) (upd f_23 8 z65) a_23 g, [(tp, .inl (cs 1, 2048, .inl tb))]]) rfl rfl (fun H locs hw => ?_)
              refine lv_aload_n S.x S.b d_Tok_name_82 rfl (lv_at hl 1 rfl) ?_
              refine lv_aload_n S.x S.b d_Tok_name_83 rfl (lv_at hl 1 rfl) ?_
              refine px_get S k_Tok hT hw 0 0 8 (v := .int z65) rfl rfl rfl (by decide) m1_111 d_Tok_name_84 ?_
              first | refine px_calli (pr := []) (px_runV (As := [.int z65]) (rest := []) S (c_t2_byteAt l D cs h r tp tb g (upd f_23 8 z65) a_23 z65  (show TokOk (f_23 7) z65 (f_23 10) (f_23 11) (f_23 12) (f_23 13) (f_23 17) (a_23 4) from ⟨⟨o1, o2⟩, ⟨(oz_b3b25f0e49 tz65 o3), (oz_b18b803a23 nc19 tz65)⟩, ⟨o5, o6⟩, ⟨o7, o8⟩, ⟨o9, o10⟩, ⟨o11, o12⟩, o13, hn4⟩) _) hT (pr := []) (pcs := [wd_Tok cs h r (fun _ => some tp) (upd f_23 8 z65) a_23 g, [(tp, .inl (cs 1, 2048, .inl tb))]]) hw px_X.tt (px_recv hT hw 0 0 rfl rfl rfl) m3_186 m3_183 m3_185 ms_1_6 m1_2 q_Tok_byteAt ⟨Nat.le_of_ble_eq_true rfl, Nat.le_of_ble_eq_true rfl⟩ hl.1 rfl (Nat.le_of_ble_eq_true rfl) d_Tok_name_87 ⟨Nat.le_of_ble_eq_true rfl, Nat.le_of_ble_eq_true rfl⟩) hw hA (fun v67 p66 H locs hp66 hw => ?_) | refine px_calli (pr := []) (px_runV (As := [.int z65]) (rest := []) S (c_t2_byteAt l D cs h r tp tb g (upd f_23 8 z65) a_23 z65  (show TokOk (f_23 7) z65 (f_23 10) (f_23 11) (f_23 12) (f_23 13) (f_23 17) (a_23 4) from ⟨⟨by first | exact o1 | omega, by first | exact o2 | omega⟩, ⟨by first | exact oz_b3b25f0e49 tz65 o3 | omega, by first | exact oz_b18b803a23 nc19 tz65 | omega⟩, ⟨by first | exact o5 | omega, by first | exact o6 | omega⟩, ⟨by first | exact o7 | omega, by first | exact o8 | omega⟩, ⟨by first | exact o9 | omega, by first | exact o10 | omega⟩, ⟨by first | exact o11 | omega, by first | exact o12 | omega⟩, by first | exact o13 | omega, hn4⟩) _) hT (pr := []) (pcs := [wd_Tok cs h r (fun _ => some tp) (upd f_23 8 z65) a_23 g, [(tp, .inl (cs 1, 2048, .inl tb))]]) hw px_X.tt (px_recv hT hw 0 0 rfl rfl rfl) m3_186 m3_183 m3_185 ms_1_6 m1_2 q_Tok_byteAt ⟨Nat.le_of_ble_eq_true rfl, Nat.le_of_ble_eq_true rfl⟩ hl.1 rfl (Nat.le_of_ble_eq_true rfl) d_Tok_name_87 ⟨Nat.le_of_ble_eq_true rfl, Nat.le_of_ble_eq_true rfl⟩) hw hA (fun v67 p66 H locs hp66 hw => ?_)
              obtain ⟨rfl, e68, e69, e70, e71, e72⟩ := hp66
              have e68 : -1 ≤ v67.toInt := e68
              have e69 : v67.toInt ≤ 255 := e69
              have e70 : 0 ≤ v67.toInt → 0 ≤ z65.toInt ∧ z65.toInt < (f_23 7).toInt := e70
              have e71 : By tb (f_23 7) z65 v67 := e71
              have e72 : R_t2_byteAt tb (upd f_23 8 z65) z65 v67 := e72
              have lv67 := Int32.le_toInt v67
              have uv67 := Int32.toInt_lt v67
              refine lv_istore_n (lv' := [(3, .int v67), (2, .int z63), (0, .ref h), (1, .int x23_1)]) S.x S.b d_Tok_name_90 rfl hl (by decide) rfl (fun ls hl => ?_)
              refine lv_goto (tgt := 23) S.x S.b d_Tok_name_91 (by decide) ?_
              first | exact ih23 (upd f_23 8 z65) a_23 x23_1 z63 v67 _ _ ls (show TokOk (f_23 7) z65 (f_23 10) (f_23 11) (f_23 12) (f_23 13) (f_23 17) (a_23 4) from ⟨⟨o1, o2⟩, ⟨(oz_b3b25f0e49 tz65 o3), (oz_b18b803a23 nc19 tz65)⟩, ⟨o5, o6⟩, ⟨o7, o8⟩, ⟨o9, o10⟩, ⟨o11, o12⟩, o13, hn4⟩) (show (f_23 7).toInt = (f 7).toInt from k23_0) (show (f_23 10).toInt = (f 10).toInt from k23_1) (show (f_23 15).toInt = (f 15).toInt from k23_2) (show (f 8).toInt ≤ z65.toInt from (oz_c086c81b49 hgo tz65)) (show z65.toInt ≤ (f_23 7).toInt from (oz_7eb37145d2 nc19 tz65)) (show 0 ≤ x23_1.toInt from k23_5) (show x23_1.toInt ≤ 1000 + 24 * ((f_23 11).toInt - 1) from k23_6) (show 0 ≤ z63.toInt from (oz_ae613611c0 tz63 k23_7)) (show z63.toInt ≤ z65.toInt from (oz_122b8b9fb7 tz63 tz65 k23_8)) (show Q5 (a_23 5) from hq5) (show Nm0 tb (f 8) z65 v67 from (by first | (right; exact ⟨rfl, by assumption⟩) | (left; omega) | exact Or.inr ⟨rfl, (show By _ _ _ _ by assumption) (by omega) (by omega)⟩)) (show K_t2_name_23 tb f a (upd f_23 8 z65) a_23 x23_1 z63 v67 from (fun y_f0 y_f1 y_v k hE => k23_11 y_f0 y_f1 y_v (k + 1) (Or.inr (Or.inl ⟨rfl, x23_1, x23_2, x23_3, rfl, rfl, rfl, rfl, rfl, Or.inr ⟨nc19, v22, e25, Or.inr ⟨nc26, v54, e57, Or.inr ⟨nc58, z60, ez60, Or.inl ⟨nc61, z63, ez63, z65, ez65, v67, e72, hE⟩⟩⟩⟩⟩)))) (show (f_23 7).toInt+9-z65.toInt < (n_23 : Int) from (oz_c735cfbd81 hm tz65)) hw (lv_sub hl [2, 3, 1, 0] rfl) | exact ih23 (upd f_23 8 z65) a_23 x23_1 z63 v67 _ _ ls (show TokOk (f_23 7) z65 (f_23 10) (f_23 11) (f_23 12) (f_23 13) (f_23 17) (a_23 4) from ⟨⟨by first | exact o1 | omega, by first | exact o2 | omega⟩, ⟨by first | exact oz_b3b25f0e49 tz65 o3 | omega, by first | exact oz_b18b803a23 nc19 tz65 | omega⟩, ⟨by first | exact o5 | omega, by first | exact o6 | omega⟩, ⟨by first | exact o7 | omega, by first | exact o8 | omega⟩, ⟨by first | exact o9 | omega, by first | exact o10 | omega⟩, ⟨by first | exact o11 | omega, by first | exact o12 | omega⟩, by first | exact o13 | omega, hn4⟩) (show (f_23 7).toInt = (f 7).toInt from by first | exact k23_0 | omega) (show (f_23 10).toInt = (f 10).toInt from by first | exact k23_1 | omega) (show (f_23 15).toInt = (f 15).toInt from by first | exact k23_2 | omega) (show (f 8).toInt ≤ z65.toInt from by first | exact oz_c086c81b49 hgo tz65 | omega) (show z65.toInt ≤ (f_23 7).toInt from by first | exact oz_7eb37145d2 nc19 tz65 | omega) (show 0 ≤ x23_1.toInt from by first | exact k23_5 | omega) (show x23_1.toInt ≤ 1000 + 24 * ((f_23 11).toInt - 1) from by first | exact k23_6 | omega) (show 0 ≤ z63.toInt from by first | exact oz_ae613611c0 tz63 k23_7 | omega) (show z63.toInt ≤ z65.toInt from by first | exact oz_122b8b9fb7 tz63 tz65 k23_8 | omega) (show Q5 (a_23 5) from hq5) (show Nm0 tb (f 8) z65 v67 from (by first | (right; exact ⟨rfl, by assumption⟩) | (left; omega) | exact Or.inr ⟨rfl, (show By _ _ _ _ by assumption) (by omega) (by omega)⟩)) (show K_t2_name_23 tb f a (upd f_23 8 z65) a_23 x23_1 z63 v67 from (fun y_f0 y_f1 y_v k hE => k23_11 y_f0 y_f1 y_v (k + 1) (Or.inr (Or.inl ⟨rfl, x23_1, x23_2, x23_3, rfl, rfl, rfl, rfl, rfl, Or.inr ⟨nc19, v22, e25, Or.inr ⟨nc26, v54, e57, Or.inr ⟨nc58, z60, ez60, Or.inl ⟨nc61, z63, ez63, z65, ez65, v67, e72, hE⟩⟩⟩⟩⟩)))) (show (f_23 7).toInt+9-z65.toInt < (n_23 : Int) from by first | exact oz_c735cfbd81 hm tz65 | omega) hw (lv_sub hl [2, 3, 1, 0] rfl)
            · have nc61 : ¬ (2181 : Int) ≤ z60.toInt := mt (i_le (x := 2181) (y := z60)).mpr c61
              refine lv_aload_n S.x S.b d_Tok_name_59 rfl (lv_at hl 0 rfl) ?_
              refine px_get S k_Tok hT hw 0 0 3 (v := .ref (r 3)) rfl rfl rfl (by decide) m1_106 d_Tok_name_60 ?_
              refine lv_iload_n S.x S.b d_Tok_name_63 rfl (lv_at hl 1 rfl) ?_
              refine lv_iload_n S.x S.b d_Tok_name_64 rfl (lv_at hl 2 rfl) ?_
              refine lv_iadd S.x S.b d_Tok_name_65 ?_
              refine lv_topi (fun z73 ez73 => ?_)
              have tz73 : z73.toInt = (x23_1.toInt + x23_2.toInt + 2147483648) % 4294967296 - 2147483648 := by rw [ez73]; exact i_add x23_1 x23_2
              have lz73 := Int32.le_toInt z73
              have uz73 := Int32.toInt_lt z73
              try replace tz73 : z73.toInt = x23_1.toInt + x23_2.toInt := by omega
              refine lv_iload_n S.x S.b d_Tok_name_66 rfl (lv_at hl 3 rfl) ?_
              refine lv_i2c S.x S.b d_Tok_name_67 rfl ?_
              refine lv_topi (fun z74 ez74 => ?_)
              have lz74 := Int32.le_toInt z74
              have uz74 := Int32.toInt_lt z74
              refine px_cast S hT hw 0 4 (n := 2181) (f := (a_23 3)) (x := z73) (y := z74) rfl (ga_Tok_3 _ _ _ _ _ _ _) (vp_in_iff.mpr (by constructor <;> omega)) d_Tok_name_68 (w' := wd_Tok cs h r (fun _ => some tp) f_23 (va_up a_23 3 (upd (a_23 3) z73.toNatClampNeg (vp_nar .char z74))) g) (ps' := [wd_Tok cs h r (fun _ => some tp) f_23 (va_up a_23 3 (upd (a_23 3) z73.toNatClampNeg (vp_nar .char z74))) g, [(tp, .inl (cs 1, 2048, .inl tb))]]) (sa_Tok_3 _ _ _ _ _ _ _ _) rfl (fun H locs hw => ?_)
              obtain ⟨z75, ez75⟩ : ∃ y : Int32, y = x23_2 + 1 := ⟨_, rfl⟩
              have tz75 : z75.toInt = (x23_2.toInt + 1 + 2147483648) % 4294967296 - 2147483648 := by rw [ez75]; exact i_add x23_2 1
              have lz75 := Int32.le_toInt z75
              have uz75 := Int32.toInt_lt z75
              try replace tz75 : z75.toInt = x23_2.toInt + 1 := by omega
              refine lv_iinc (v := z75) (lv' := [(2, .int z75), (0, .ref h), (1, .int x23_1), (3, .int x23_3)]) S.x S.b d_Tok_name_69 hl (k := 2) rfl (by rw [ez75]; rfl) (by decide) rfl (fun ls hl => ?_)
              refine lv_aload_n S.x S.b d_Tok_name_72 rfl (lv_at hl 1 rfl) ?_
              refine lv_dup S.x S.b d_Tok_name_73 rfl ?_
              refine px_get S k_Tok hT hw 0 0 8 (v := .int (f_23 8)) rfl rfl rfl (by decide) m1_111 d_Tok_name_74 ?_
              refine lv_iconst (v := 1) S.x S.b d_Tok_name_77 (by decide) ?_
              refine lv_iadd S.x S.b d_Tok_name_78 ?_
              have lr76 := Int32.le_toInt (f_23 8)
              have ur76 := Int32.toInt_lt (f_23 8)
              refine lv_topi (fun z77 ez77 => ?_)
              have tz77 : z77.toInt = ((f_23 8).toInt + (1 : Int) + 2147483648) % 4294967296 - 2147483648 := by rw [ez77]; exact i_add (f_23 8) 1
              have lz77 := Int32.le_toInt z77
              have uz77 := Int32.toInt_lt z77
              try replace tz77 : z77.toInt = (f_23 8).toInt + (1 : Int) := by omega
              refine px_put S k_Tok hT hw 0 0 8 rfl rfl (by decide) m1_111 rfl rfl rfl (Nat.le_of_ble_eq_true rfl) d_Tok_name_79 (w' := wd_Tok cs h r (fun _ => some tp) (upd f_23 8 z77) (va_up a_23 3 (upd (a_23 3) z73.toNatClampNeg (vp_nar .char z74))) g) (ps' := [wd_Tok cs h r (fun _ => some tp) (upd f_23 8 z77) (va_up a_23 3 (upd (a_23 3) z73.toNatClampNeg (vp_nar .char z74))) g, [(tp, .inl (cs 1, 2048, .inl tb))]]) rfl rfl (fun H locs hw => ?_)
              refine lv_aload_n S.x S.b d_Tok_name_82 rfl (lv_at hl 1 rfl) ?_
              refine lv_aload_n S.x S.b d_Tok_name_83 rfl (lv_at hl 1 rfl) ?_
              refine px_get S k_Tok hT hw 0 0 8 (v := .int z77) rfl rfl rfl (by decide) m1_111 d_Tok_name_84 ?_
              first | refine px_calli (pr := []) (px_runV (As := [.int z77]) (rest := []) S (c_t2_byteAt l D cs h r tp tb g (upd f_23 8 z77) (va_up a_23 3 (upd (a_23 3) z73.toNatClampNeg (vp_nar .char z74))) z77  (show TokOk (f_23 7) z77 (f_23 10) (f_23 11) (f_23 12) (f_23 13) (f_23 17) ((va_up a_23 3 (upd (a_23 3) z73.toNatClampNeg (vp_nar .char z74))) 4) from ⟨⟨o1, o2⟩, ⟨(oz_b3b25f0e49 tz77 o3), (oz_b18b803a23 nc19 tz77)⟩, ⟨o5, o6⟩, ⟨o7, o8⟩, ⟨o9, o10⟩, ⟨o11, o12⟩, o13, (by rw [va_up_n (by decide)]; exact hn4)⟩) _) hT (pr := []) (pcs := [wd_Tok cs h r (fun _ => some tp) (upd f_23 8 z77) (va_up a_23 3 (upd (a_23 3) z73.toNatClampNeg (vp_nar .char z74))) g, [(tp, .inl (cs 1, 2048, .inl tb))]]) hw px_X.tt (px_recv hT hw 0 0 rfl rfl rfl) m3_186 m3_183 m3_185 ms_1_6 m1_2 q_Tok_byteAt ⟨Nat.le_of_ble_eq_true rfl, Nat.le_of_ble_eq_true rfl⟩ hl.1 rfl (Nat.le_of_ble_eq_true rfl) d_Tok_name_87 ⟨Nat.le_of_ble_eq_true rfl, Nat.le_of_ble_eq_true rfl⟩) hw hA (fun v79 p78 H locs hp78 hw => ?_) | refine px_calli (pr := []) (px_runV (As := [.int z77]) (rest := []) S (c_t2_byteAt l D cs h r tp tb g (upd f_23 8 z77) (va_up a_23 3 (upd (a_23 3) z73.toNatClampNeg (vp_nar .char z74))) z77  (show TokOk (f_23 7) z77 (f_23 10) (f_23 11) (f_23 12) (f_23 13) (f_23 17) ((va_up a_23 3 (upd (a_23 3) z73.toNatClampNeg (vp_nar .char z74))) 4) from ⟨⟨by first | exact o1 | omega, by first | exact o2 | omega⟩, ⟨by first | exact oz_b3b25f0e49 tz77 o3 | omega, by first | exact oz_b18b803a23 nc19 tz77 | omega⟩, ⟨by first | exact o5 | omega, by first | exact o6 | omega⟩, ⟨by first | exact o7 | omega, by first | exact o8 | omega⟩, ⟨by first | exact o9 | omega, by first | exact o10 | omega⟩, ⟨by first | exact o11 | omega, by first | exact o12 | omega⟩, by first | exact o13 | omega, (by rw [va_up_n (by decide)]; exact hn4)⟩) _) hT (pr := []) (pcs := [wd_Tok cs h r (fun _ => some tp) (upd f_23 8 z77) (va_up a_23 3 (upd (a_23 3) z73.toNatClampNeg (vp_nar .char z74))) g, [(tp, .inl (cs 1, 2048, .inl tb))]]) hw px_X.tt (px_recv hT hw 0 0 rfl rfl rfl) m3_186 m3_183 m3_185 ms_1_6 m1_2 q_Tok_byteAt ⟨Nat.le_of_ble_eq_true rfl, Nat.le_of_ble_eq_true rfl⟩ hl.1 rfl (Nat.le_of_ble_eq_true rfl) d_Tok_name_87 ⟨Nat.le_of_ble_eq_true rfl, Nat.le_of_ble_eq_true rfl⟩) hw hA (fun v79 p78 H locs hp78 hw => ?_)
              obtain ⟨rfl, e80, e81, e82, e83, e84⟩ := hp78
              have e80 : -1 ≤ v79.toInt := e80
              have e81 : v79.toInt ≤ 255 := e81
              have e82 : 0 ≤ v79.toInt → 0 ≤ z77.toInt ∧ z77.toInt < (f_23 7).toInt := e82
              have e83 : By tb (f_23 7) z77 v79 := e83
              have e84 : R_t2_byteAt tb (upd f_23 8 z77) z77 v79 := e84
              have lv79 := Int32.le_toInt v79
              have uv79 := Int32.toInt_lt v79
              refine lv_istore_n (lv' := [(3, .int v79), (2, .int z75), (0, .ref h), (1, .int x23_1)]) S.x S.b d_Tok_name_90 rfl hl (by decide) rfl (fun ls hl => ?_)
              refine lv_goto (tgt := 23) S.x S.b d_Tok_name_91 (by decide) ?_
              first | exact ih23 (upd f_23 8 z77) (va_up a_23 3 (upd (a_23 3) z73.toNatClampNeg (vp_nar .char z74))) x23_1 z75 v79 _ _ ls (show TokOk (f_23 7) z77 (f_23 10) (f_23 11) (f_23 12) (f_23 13) (f_23 17) ((va_up a_23 3 (upd (a_23 3) z73.toNatClampNeg (vp_nar .char z74))) 4) from ⟨⟨o1, o2⟩, ⟨(oz_b3b25f0e49 tz77 o3), (oz_b18b803a23 nc19 tz77)⟩, ⟨o5, o6⟩, ⟨o7, o8⟩, ⟨o9, o10⟩, ⟨o11, o12⟩, o13, (by rw [va_up_n (by decide)]; exact hn4)⟩) (show (f_23 7).toInt = (f 7).toInt from k23_0) (show (f_23 10).toInt = (f 10).toInt from k23_1) (show (f_23 15).toInt = (f 15).toInt from k23_2) (show (f 8).toInt ≤ z77.toInt from (oz_c086c81b49 hgo tz77)) (show z77.toInt ≤ (f_23 7).toInt from (oz_7eb37145d2 nc19 tz77)) (show 0 ≤ x23_1.toInt from k23_5) (show x23_1.toInt ≤ 1000 + 24 * ((f_23 11).toInt - 1) from k23_6) (show 0 ≤ z75.toInt from (oz_ae613611c0 tz75 k23_7)) (show z75.toInt ≤ z77.toInt from (oz_122b8b9fb7 tz75 tz77 k23_8)) (show Q5 ((va_up a_23 3 (upd (a_23 3) z73.toNatClampNeg (vp_nar .char z74))) 5) from (by rw [va_up_n (by decide)]; exact hq5)) (show Nm0 tb (f 8) z77 v79 from (by first | (right; exact ⟨rfl, by assumption⟩) | (left; omega) | exact Or.inr ⟨rfl, (show By _ _ _ _ by assumption) (by omega) (by omega)⟩)) (show K_t2_name_23 tb f a (upd f_23 8 z77) (va_up a_23 3 (upd (a_23 3) z73.toNatClampNeg (vp_nar .char z74))) x23_1 z75 v79 from (fun y_f0 y_f1 y_v k hE => k23_11 y_f0 y_f1 y_v (k + 1) (Or.inr (Or.inl ⟨rfl, x23_1, x23_2, x23_3, rfl, rfl, rfl, rfl, rfl, Or.inr ⟨nc19, v22, e25, Or.inr ⟨nc26, v54, e57, Or.inr ⟨nc58, z60, ez60, Or.inr ⟨nc61, z73, ez73, z74, ez74, z75, ez75, z77, ez77, v79, e84, hE⟩⟩⟩⟩⟩)))) (show (f_23 7).toInt+9-z77.toInt < (n_23 : Int) from (oz_c735cfbd81 hm tz77)) hw (lv_sub hl [2, 3, 1, 0] rfl) | exact ih23 (upd f_23 8 z77) (va_up a_23 3 (upd (a_23 3) z73.toNatClampNeg (vp_nar .char z74))) x23_1 z75 v79 _ _ ls (show TokOk (f_23 7) z77 (f_23 10) (f_23 11) (f_23 12) (f_23 13) (f_23 17) ((va_up a_23 3 (upd (a_23 3) z73.toNatClampNeg (vp_nar .char z74))) 4) from ⟨⟨by first | exact o1 | omega, by first | exact o2 | omega⟩, ⟨by first | exact oz_b3b25f0e49 tz77 o3 | omega, by first | exact oz_b18b803a23 nc19 tz77 | omega⟩, ⟨by first | exact o5 | omega, by first | exact o6 | omega⟩, ⟨by first | exact o7 | omega, by first | exact o8 | omega⟩, ⟨by first | exact o9 | omega, by first | exact o10 | omega⟩, ⟨by first | exact o11 | omega, by first | exact o12 | omega⟩, by first | exact o13 | omega, (by rw [va_up_n (by decide)]; exact hn4)⟩) (show (f_23 7).toInt = (f 7).toInt from by first | exact k23_0 | omega) (show (f_23 10).toInt = (f 10).toInt from by first | exact k23_1 | omega) (show (f_23 15).toInt = (f 15).toInt from by first | exact k23_2 | omega) (show (f 8).toInt ≤ z77.toInt from by first | exact oz_c086c81b49 hgo tz77 | omega) (show z77.toInt ≤ (f_23 7).toInt from by first | exact oz_7eb37145d2 nc19 tz77 | omega) (show 0 ≤ x23_1.toInt from by first | exact k23_5 | omega) (show x23_1.toInt ≤ 1000 + 24 * ((f_23 11).toInt - 1) from by first | exact k23_6 | omega) (show 0 ≤ z75.toInt from by first | exact oz_ae613611c0 tz75 k23_7 | omega) (show z75.toInt ≤ z77.toInt from by first | exact oz_122b8b9fb7 tz75 tz77 k23_8 | omega) (show Q5 ((va_up a_23 3 (upd (a_23 3) z73.toNatClampNeg (vp_nar .char z74))) 5) from (by rw [va_up_n (by decide)]; exact hq5)) (show Nm0 tb (f 8) z77 v79 from (by first | (right; exact ⟨rfl, by assumption⟩) | (left; omega) | exact Or.inr ⟨rfl, (show By _ _ _ _ by assumption) (by omega) (by omega)⟩)) (show K_t2_name_23 tb f a (upd f_23 8 z77) (va_up a_23 3 (upd (a_23 3) z73.toNatClampNeg (vp_nar .char z74))) x23_1 z75 v79 from (fun y_f0 y_f1 y_v k hE => k23_11 y_f0 y_f1 y_v (k + 1) (Or.inr (Or.inl ⟨rfl, x23_1, x23_2, x23_3, rfl, rfl, rfl, rfl, rfl, Or.inr ⟨nc19, v22, e25, Or.inr ⟨nc26, v54, e57, Or.inr ⟨nc58, z60, ez60, Or.inr ⟨nc61, z73, ez73, z74, ez74, z75, ez75, z77, ez77, v79, e84, hE⟩⟩⟩⟩⟩)))) (show (f_23 7).toInt+9-z77.toInt < (n_23 : Int) from by first | exact oz_c735cfbd81 hm tz77 | omega) hw (lv_sub hl [2, 3, 1, 0] rfl)
  refine lv_aload_n S.x S.b d_Tok_name_0 rfl (lv_at hl 0 rfl) ?_
  refine px_get S k_Tok hT hw 0 0 4 (v := .ref (r 4)) rfl rfl rfl (by decide) m1_107 d_Tok_name_1 ?_
  refine lv_aload_n S.x S.b d_Tok_name_4 rfl (lv_at hl 0 rfl) ?_
  refine px_get S k_Tok hT hw 0 0 11 (v := .int (f 11)) rfl rfl rfl (by decide) m1_114 d_Tok_name_5 ?_
  refine lv_iconst (v := 1) S.x S.b d_Tok_name_8 (by decide) ?_
  refine lv_isub S.x S.b d_Tok_name_9 ?_
  have lr85 := Int32.le_toInt (f 11)
  have ur85 := Int32.toInt_lt (f 11)
  refine lv_topi (fun z86 ez86 => ?_)
  have tz86 : z86.toInt = ((f 11).toInt - (1 : Int) + 2147483648) % 4294967296 - 2147483648 := by rw [ez86]; exact i_sub (f 11) 1
  have lz86 := Int32.le_toInt z86
  have uz86 := Int32.toInt_lt z86
  try replace tz86 : z86.toInt = (f 11).toInt - (1 : Int) := by omega
  refine px_iald S hT hw 0 5 (n := 2074) (f := (a 4)) rfl (ga_Tok_4 _ _ _ _ _ _ _) (x := z86) (vp_in_iff.mpr (by first | exact oz_b62fa091b7 tz86 o7 o8 | (constructor <;> omega))) d_Tok_name_10 ?_
  refine lv_topi (fun z87 ez87 => ?_)
  have lz87 := Int32.le_toInt z87
  have uz87 := Int32.toInt_lt z87
  have rz87 := n4_at hn4 (x := z86) (by omega) ez87
  refine lv_istore_n (lv' := [(1, .int z87), (0, .ref h)]) S.x S.b d_Tok_name_11 rfl hl (by decide) rfl (fun ls hl => ?_)
  refine lv_iconst (v := 0) S.x S.b d_Tok_name_12 (by decide) ?_
  refine lv_istore_n (lv' := [(2, .int 0), (1, .int z87), (0, .ref h)]) S.x S.b d_Tok_name_13 rfl hl (by decide) rfl (fun ls hl => ?_)
  refine lv_aload_n S.x S.b d_Tok_name_14 rfl (lv_at hl 2 rfl) ?_
  refine lv_aload_n S.x S.b d_Tok_name_15 rfl (lv_at hl 2 rfl) ?_
  refine px_get S k_Tok hT hw 0 0 8 (v := .int (f 8)) rfl rfl rfl (by decide) m1_111 d_Tok_name_16 ?_
  first | refine px_calli (pr := []) (px_runV (As := [.int (f 8)]) (rest := []) S (c_t2_byteAt l D cs h r tp tb g f a (f 8)  (show TokOk (f 7) (f 8) (f 10) (f 11) (f 12) (f 13) (f 17) (a 4) from ⟨⟨o1, o2⟩, ⟨o3, o4⟩, ⟨o5, o6⟩, ⟨o7, o8⟩, ⟨o9, o10⟩, ⟨o11, o12⟩, o13, hn4⟩) _) hT (pr := []) (pcs := [wd_Tok cs h r (fun _ => some tp) f a g, [(tp, .inl (cs 1, 2048, .inl tb))]]) hw px_X.tt (px_recv hT hw 0 0 rfl rfl rfl) m3_186 m3_183 m3_185 ms_1_6 m1_2 q_Tok_byteAt ⟨Nat.le_of_ble_eq_true rfl, Nat.le_of_ble_eq_true rfl⟩ hl.1 rfl (Nat.le_of_ble_eq_true rfl) d_Tok_name_19 ⟨Nat.le_of_ble_eq_true rfl, Nat.le_of_ble_eq_true rfl⟩) hw hA (fun v89 p88 H locs hp88 hw => ?_) | refine px_calli (pr := []) (px_runV (As := [.int (f 8)]) (rest := []) S (c_t2_byteAt l D cs h r tp tb g f a (f 8)  (show TokOk (f 7) (f 8) (f 10) (f 11) (f 12) (f 13) (f 17) (a 4) from ⟨⟨by first | exact o1 | omega, by first | exact o2 | omega⟩, ⟨by first | exact o3 | omega, by first | exact o4 | omega⟩, ⟨by first | exact o5 | omega, by first | exact o6 | omega⟩, ⟨by first | exact o7 | omega, by first | exact o8 | omega⟩, ⟨by first | exact o9 | omega, by first | exact o10 | omega⟩, ⟨by first | exact o11 | omega, by first | exact o12 | omega⟩, by first | exact o13 | omega, hn4⟩) _) hT (pr := []) (pcs := [wd_Tok cs h r (fun _ => some tp) f a g, [(tp, .inl (cs 1, 2048, .inl tb))]]) hw px_X.tt (px_recv hT hw 0 0 rfl rfl rfl) m3_186 m3_183 m3_185 ms_1_6 m1_2 q_Tok_byteAt ⟨Nat.le_of_ble_eq_true rfl, Nat.le_of_ble_eq_true rfl⟩ hl.1 rfl (Nat.le_of_ble_eq_true rfl) d_Tok_name_19 ⟨Nat.le_of_ble_eq_true rfl, Nat.le_of_ble_eq_true rfl⟩) hw hA (fun v89 p88 H locs hp88 hw => ?_)
  obtain ⟨rfl, e90, e91, e92, e93, e94⟩ := hp88
  have e90 : -1 ≤ v89.toInt := e90
  have e91 : v89.toInt ≤ 255 := e91
  have e92 : 0 ≤ v89.toInt → 0 ≤ (f 8).toInt ∧ (f 8).toInt < (f 7).toInt := e92
  have e93 : By tb (f 7) (f 8) v89 := e93
  have e94 : R_t2_byteAt tb f (f 8) v89 := e94
  have lv89 := Int32.le_toInt v89
  have uv89 := Int32.toInt_lt v89
  refine lv_istore_n (lv' := [(3, .int v89), (2, .int 0), (1, .int z87), (0, .ref h)]) S.x S.b d_Tok_name_22 rfl hl (by decide) rfl (fun ls hl => ?_)
  first | exact J23 (((f 7).toInt+9-(f 8).toInt).toNat + 1) f a z87 (0 : Int32) v89 _ _ ls (show TokOk (f 7) (f 8) (f 10) (f 11) (f 12) (f 13) (f 17) (a 4) from ⟨⟨o1, o2⟩, ⟨o3, o4⟩, ⟨o5, o6⟩, ⟨o7, o8⟩, ⟨o9, o10⟩, ⟨o11, o12⟩, o13, hn4⟩) (show (f 7).toInt = (f 7).toInt from rfl) (show (f 10).toInt = (f 10).toInt from rfl) (show (f 15).toInt = (f 15).toInt from rfl) (show (f 8).toInt ≤ (f 8).toInt from oz_1cb5f934a5) (show (f 8).toInt ≤ (f 7).toInt from (oz_f675372ee2 g0)) (show 0 ≤ z87.toInt from rz87.1) (show z87.toInt ≤ 1000 + 24 * ((f 11).toInt - 1) from (oz_d72d579ea5 tz86 rz87.2)) (show 0 ≤ (0 : Int) from oz_5a341f00aa) (show (0 : Int) ≤ (f 8).toInt from (oz_50c21e157e o3)) (show Q5 (a 5) from hq5) (show Nm0 tb (f 8) (f 8) v89 from (by first | (right; exact ⟨rfl, by assumption⟩) | (left; omega) | exact Or.inr ⟨rfl, (show By _ _ _ _ by assumption) (by omega) (by omega)⟩)) (show K_t2_name_23 tb f a f a z87 0 v89 from (fun y_f0 y_f1 y_v k hE => Exists.intro (k + 1) (Or.inl ⟨rfl, z86, ez86, z87, ez87, v89, e94, hE⟩))) (show (f 7).toInt+9-(f 8).toInt < (((((f 7).toInt+9-(f 8).toInt).toNat + 1 : Nat) : Int) : Int) from oz_natlt) hw (lv_sub hl [3, 2, 1, 0] rfl) | exact J23 (((f 7).toInt+9-(f 8).toInt).toNat + 1) f a z87 (0 : Int32) v89 _ _ ls (show TokOk (f 7) (f 8) (f 10) (f 11) (f 12) (f 13) (f 17) (a 4) from ⟨⟨by first | exact o1 | omega, by first | exact o2 | omega⟩, ⟨by first | exact o3 | omega, by first | exact o4 | omega⟩, ⟨by first | exact o5 | omega, by first | exact o6 | omega⟩, ⟨by first | exact o7 | omega, by first | exact o8 | omega⟩, ⟨by first | exact o9 | omega, by first | exact o10 | omega⟩, ⟨by first | exact o11 | omega, by first | exact o12 | omega⟩, by first | exact o13 | omega, hn4⟩) (show (f 7).toInt = (f 7).toInt from rfl) (show (f 10).toInt = (f 10).toInt from rfl) (show (f 15).toInt = (f 15).toInt from rfl) (show (f 8).toInt ≤ (f 8).toInt from by first | exact oz_1cb5f934a5 | omega) (show (f 8).toInt ≤ (f 7).toInt from by first | exact oz_f675372ee2 g0 | omega) (show 0 ≤ z87.toInt from by first | exact rz87.1 | omega) (show z87.toInt ≤ 1000 + 24 * ((f 11).toInt - 1) from by first | exact oz_d72d579ea5 tz86 rz87.2 | omega) (show 0 ≤ (0 : Int) from by first | exact oz_5a341f00aa | omega) (show (0 : Int) ≤ (f 8).toInt from by first | exact oz_50c21e157e o3 | omega) (show Q5 (a 5) from hq5) (show Nm0 tb (f 8) (f 8) v89 from (by first | (right; exact ⟨rfl, by assumption⟩) | (left; omega) | exact Or.inr ⟨rfl, (show By _ _ _ _ by assumption) (by omega) (by omega)⟩)) (show K_t2_name_23 tb f a f a z87 0 v89 from (fun y_f0 y_f1 y_v k hE => Exists.intro (k + 1) (Or.inl ⟨rfl, z86, ez86, z87, ez87, v89, e94, hE⟩))) (show (f 7).toInt+9-(f 8).toInt < (((((f 7).toInt+9-(f 8).toInt).toNat + 1 : Nat) : Int) : Int) from by first | exact oz_natlt | omega) hw (lv_sub hl [3, 2, 1, 0] rfl)
set_option maxHeartbeats 4000000 in
set_option maxRecDepth 100000 in
theorem c_t2_number (l : Launch) (D : va_G) (cs : Nat → ClassId) (h : Nat) (r : Nat → Nat) (tp : Nat) (tb : Nat → Int32) (g : Nat → Nat → Option Nat) (f : Nat → Int32) (a : Nat → Nat → Int32)  (hinv0 : TokOk (f 7) (f 8) (f 10) (f 11) (f 12) (f 13) (f 17) (a 4)) (hq5 : Q5 (a 5)) : MetI l y_Tok_number b_Tok_number 8 (.int) D cs 2 60 (0) (0) [.ref h] [wd_Tok cs h r (fun _ => some tp) f a g, [(tp, .inl (cs 1, 2048, .inl tb))]] (fun _ => True) (fun v ps => ∃ (f' : Nat → Int32) (a' : Nat → Nat → Int32), (ps = [wd_Tok cs h r (fun _ => some tp) f' a' g, [(tp, .inl (cs 1, 2048, .inl tb))]]) ∧ (TokOk (f' 7) (f' 8) (f' 10) (f' 11) (f' 12) (f' 13) (f' 17) (a' 4)) ∧ ((f' 7).toInt = (f 7).toInt) ∧ ((f' 10).toInt = (f 10).toInt) ∧ ((f' 15).toInt = (f 15).toInt) ∧ (v.toInt = 19 ∨ (f 8).toInt + 1 ≤ (f' 8).toInt) ∧ (Q5 (a' 5)) ∧ (R_t2_number tb f a f' a' v)) := by
  refine px_enter (by decide) (Nat.le_of_ble_eq_true rfl) ?_
  intro p e s m below meth c A ls hAe S hr hlk hnm hA hT hX hw hl
  have hl : lv_has ls 8 [(0, .ref h)] := hl
  have cst0 : (0 : Int32).toInt = 0 := rfl
  have cst1 : (1 : Int32).toInt = 1 := rfl
  have cst2 : (2 : Int32).toInt = 2 := rfl
  have cst8 : (8 : Int32).toInt = 8 := rfl
  have cst10 : (10 : Int32).toInt = 10 := rfl
  have cst16 : (16 : Int32).toInt = 16 := rfl
  have cst17 : (17 : Int32).toInt = 17 := rfl
  have cst19 : (19 : Int32).toInt = 19 := rfl
  have cst48 : (48 : Int32).toInt = 48 := rfl
  have cst120 : (120 : Int32).toInt = 120 := rfl
  obtain ⟨⟨o1, o2⟩, ⟨o3, o4⟩, ⟨o5, o6⟩, ⟨o7, o8⟩, ⟨o9, o10⟩, ⟨o11, o12⟩, o13, hn4⟩ := hinv0
  have J89 : ∀ (n_89 : Nat) (f_89 : Nat → Int32) (a_89 : Nat → Nat → Int32) (x89_2 x89_3 x89_4 x89_7 : Int32) (x89_5 : Int64) (H : Heap) (locs : List Loc) (ls : Array Slot), (TokOk (f_89 7) (f_89 8) (f_89 10) (f_89 11) (f_89 12) (f_89 13) (f_89 17) (a_89 4)) → ((f_89 7).toInt = (f 7).toInt) → ((f_89 10).toInt = (f 10).toInt) → ((f_89 15).toInt = (f 15).toInt) → (0 ≤ x89_4.toInt) → ((f 8).toInt + x89_4.toInt ≤ (f_89 8).toInt) → (Q5 (a_89 5)) → (K_t2_number_89 tb f a f_89 a_89 x89_2 x89_3 x89_4 x89_7 x89_5) → (f_89 7).toInt+9-(f_89 8).toInt < (n_89 : Int) → pw D A s.heap H locs [wd_Tok cs h r (fun _ => some tp) f_89 a_89 g, [(tp, .inl (cs 1, 2048, .inl tb))]] → lv_has ls 8 [(0, .ref h), (2, .int x89_2), (3, .int x89_3), (4, .int x89_4), (7, .int x89_7), (5, .long x89_5)] → W p l e { frames := 2, cells := 0, slots := 0, locals := 60 } s m [.ref h].toArray below meth c H locs 0 0 (MQ below (va_Qi (fun v ps => ∃ (f' : Nat → Int32) (a' : Nat → Nat → Int32), (ps = [wd_Tok cs h r (fun _ => some tp) f' a' g, [(tp, .inl (cs 1, 2048, .inl tb))]]) ∧ (TokOk (f' 7) (f' 8) (f' 10) (f' 11) (f' 12) (f' 13) (f' 17) (a' 4)) ∧ ((f' 7).toInt = (f 7).toInt) ∧ ((f' 10).toInt = (f 10).toInt) ∧ ((f' 15).toInt = (f 15).toInt) ∧ (v.toInt = 19 ∨ (f 8).toInt + 1 ≤ (f' 8).toInt) ∧ (Q5 (a' 5)) ∧ (R_t2_number tb f a f' a' v)) (pc_B D (va_A ([wd_Tok cs h r (fun _ => some tp) f a g, [(tp, .inl (cs 1, 2048, .inl tb))]] : List va_W).flatten s.heap.size)) (va_A ([wd_Tok cs h r (fun _ => some tp) f a g, [(tp, .inl (cs 1, 2048, .inl tb))]] : List va_W).flatten s.heap.size)) [.ref h].toArray s 0 0 A) (F0 m 89 ls []) := by
    intro n_89
    induction n_89 with
    | zero =>
      intro f_89 a_89 x89_2 x89_3 x89_4 x89_7 x89_5 H locs ls hi89_0 k89_0 k89_1 k89_2 k89_3 k89_4 k89_5 k89_6 hm hw hl
      obtain ⟨⟨o1, o2⟩, ⟨o3, o4⟩, ⟨o5, o6⟩, ⟨o7, o8⟩, ⟨o9, o10⟩, ⟨o11, o12⟩, o13, hn4⟩ := hi89_0
      have lx89_2 := Int32.le_toInt x89_2
      have ux89_2 := Int32.toInt_lt x89_2
      have lx89_3 := Int32.le_toInt x89_3
      have ux89_3 := Int32.toInt_lt x89_3
      have lx89_4 := Int32.le_toInt x89_4
      have ux89_4 := Int32.toInt_lt x89_4
      have lx89_7 := Int32.le_toInt x89_7
      have ux89_7 := Int32.toInt_lt x89_7
      have hq5 := k89_5
      exact absurd hm (by omega)
    | succ n_89 ih89 =>
      intro f_89 a_89 x89_2 x89_3 x89_4 x89_7 x89_5 H locs ls hi89_0 k89_0 k89_1 k89_2 k89_3 k89_4 k89_5 k89_6 hm hw hl
      obtain ⟨⟨o1, o2⟩, ⟨o3, o4⟩, ⟨o5, o6⟩, ⟨o7, o8⟩, ⟨o9, o10⟩, ⟨o11, o12⟩, o13, hn4⟩ := hi89_0
      have lx89_2 := Int32.le_toInt x89_2
      have ux89_2 := Int32.toInt_lt x89_2
      have lx89_3 := Int32.le_toInt x89_3
      have ux89_3 := Int32.toInt_lt x89_3
      have lx89_4 := Int32.le_toInt x89_4
      have ux89_4 := Int32.toInt_lt x89_4
      have lx89_7 := Int32.le_toInt x89_7
      have ux89_7 := Int32.toInt_lt x89_7
      have hq5 := k89_5
      refine lv_aload_n S.x S.b d_Tok_number_89 rfl (lv_at hl 0 rfl) ?_
      refine px_get S k_Tok hT hw 0 0 8 (v := .int (f_89 8)) rfl rfl rfl (by decide) m1_111 d_Tok_number_90 ?_
      refine lv_aload_n S.x S.b d_Tok_number_93 rfl (lv_at hl 0 rfl) ?_
      refine px_get S k_Tok hT hw 0 0 7 (v := .int (f_89 7)) rfl rfl rfl (by decide) m1_110 d_Tok_number_94 ?_
      refine lv_icmp_ge (tgt := 150) S.x S.b d_Tok_number_97 (by decide) (fun c1 => ?_) (fun c1 => ?_)
      · have nc1 : (f_89 7).toInt ≤ (f_89 8).toInt := (i_le (x := (f_89 7)) (y := (f_89 8))).mp c1
        refine lv_iload S.x S.b d_Tok_number_150 (lv_at hl 3 rfl) ?_
        refine lv_if_eq (tgt := 170) S.x S.b d_Tok_number_152 (by decide) (fun c3 => ?_) (fun c3 => ?_)
        · have nc3 : x89_4.toInt = (0 : Int) := (i_eq (x := x89_4) (y := 0)).mp c3
          refine lv_bipush (v := 19) S.x S.b d_Tok_number_170 (by decide) ?_
          first | exact px_iret (v := 19) S hr rfl hlk hAe hw (Nat.le_of_ble_eq_true rfl) (Nat.le_of_ble_eq_true rfl) (⟨f_89, a_89, rfl, (show TokOk (f_89 7) (f_89 8) (f_89 10) (f_89 11) (f_89 12) (f_89 13) (f_89 17) (a_89 4) from ⟨⟨o1, o2⟩, ⟨o3, o4⟩, ⟨o5, o6⟩, ⟨o7, o8⟩, ⟨o9, o10⟩, ⟨o11, o12⟩, o13, hn4⟩), (show (f_89 7).toInt = (f 7).toInt from k89_0), (show (f_89 10).toInt = (f 10).toInt from k89_1), (show (f_89 15).toInt = (f 15).toInt from k89_2), (show (19 : Int) = 19 ∨ (f 8).toInt + 1 ≤ (f_89 8).toInt from by omega), (show Q5 (a_89 5) from hq5), (show R_t2_number tb f a f_89 a_89 (19 : Int32) from (k89_6 _ _ _ 1 (Or.inr (Or.inl ⟨rfl, x89_2, x89_3, x89_4, x89_7, x89_5, rfl, rfl, rfl, rfl, rfl, Or.inl ⟨nc1, Or.inl ⟨nc3, rfl, rfl, rfl⟩⟩⟩))))⟩) d_Tok_number_172 | exact px_iret (v := 19) S hr rfl hlk hAe hw (Nat.le_of_ble_eq_true rfl) (Nat.le_of_ble_eq_true rfl) (⟨f_89, a_89, rfl, (show TokOk (f_89 7) (f_89 8) (f_89 10) (f_89 11) (f_89 12) (f_89 13) (f_89 17) (a_89 4) from ⟨⟨by first | exact o1 | omega, by first | exact o2 | omega⟩, ⟨by first | exact o3 | omega, by first | exact o4 | omega⟩, ⟨by first | exact o5 | omega, by first | exact o6 | omega⟩, ⟨by first | exact o7 | omega, by first | exact o8 | omega⟩, ⟨by first | exact o9 | omega, by first | exact o10 | omega⟩, ⟨by first | exact o11 | omega, by first | exact o12 | omega⟩, by first | exact o13 | omega, hn4⟩), (show (f_89 7).toInt = (f 7).toInt from by first | exact k89_0 | omega), (show (f_89 10).toInt = (f 10).toInt from by first | exact k89_1 | omega), (show (f_89 15).toInt = (f 15).toInt from by first | exact k89_2 | omega), (show (19 : Int) = 19 ∨ (f 8).toInt + 1 ≤ (f_89 8).toInt from by omega), (show Q5 (a_89 5) from hq5), (show R_t2_number tb f a f_89 a_89 (19 : Int32) from (k89_6 _ _ _ 1 (Or.inr (Or.inl ⟨rfl, x89_2, x89_3, x89_4, x89_7, x89_5, rfl, rfl, rfl, rfl, rfl, Or.inl ⟨nc1, Or.inl ⟨nc3, rfl, rfl, rfl⟩⟩⟩))))⟩) d_Tok_number_172
        · have nc3 : ¬ x89_4.toInt = (0 : Int) := mt (i_eq (x := x89_4) (y := 0)).mpr c3
          refine lv_iload S.x S.b d_Tok_number_155 (lv_at hl 3 rfl) ?_
          refine lv_iload_n S.x S.b d_Tok_number_157 rfl (lv_at hl 2 rfl) ?_
          refine lv_icmp_gt (tgt := 170) S.x S.b d_Tok_number_158 (by decide) (fun c5 => ?_) (fun c5 => ?_)
          · have nc5 : x89_3.toInt < x89_4.toInt := (i_lt (x := x89_3) (y := x89_4)).mp c5
            refine lv_bipush (v := 19) S.x S.b d_Tok_number_170 (by decide) ?_
            first | exact px_iret (v := 19) S hr rfl hlk hAe hw (Nat.le_of_ble_eq_true rfl) (Nat.le_of_ble_eq_true rfl) (⟨f_89, a_89, rfl, (show TokOk (f_89 7) (f_89 8) (f_89 10) (f_89 11) (f_89 12) (f_89 13) (f_89 17) (a_89 4) from ⟨⟨o1, o2⟩, ⟨o3, o4⟩, ⟨o5, o6⟩, ⟨o7, o8⟩, ⟨o9, o10⟩, ⟨o11, o12⟩, o13, hn4⟩), (show (f_89 7).toInt = (f 7).toInt from k89_0), (show (f_89 10).toInt = (f 10).toInt from k89_1), (show (f_89 15).toInt = (f 15).toInt from k89_2), (show (19 : Int) = 19 ∨ (f 8).toInt + 1 ≤ (f_89 8).toInt from by omega), (show Q5 (a_89 5) from hq5), (show R_t2_number tb f a f_89 a_89 (19 : Int32) from (k89_6 _ _ _ 1 (Or.inr (Or.inl ⟨rfl, x89_2, x89_3, x89_4, x89_7, x89_5, rfl, rfl, rfl, rfl, rfl, Or.inl ⟨nc1, Or.inr ⟨nc3, Or.inl ⟨nc5, rfl, rfl, rfl⟩⟩⟩⟩))))⟩) d_Tok_number_172 | exact px_iret (v := 19) S hr rfl hlk hAe hw (Nat.le_of_ble_eq_true rfl) (Nat.le_of_ble_eq_true rfl) (⟨f_89, a_89, rfl, (show TokOk (f_89 7) (f_89 8) (f_89 10) (f_89 11) (f_89 12) (f_89 13) (f_89 17) (a_89 4) from ⟨⟨by first | exact o1 | omega, by first | exact o2 | omega⟩, ⟨by first | exact o3 | omega, by first | exact o4 | omega⟩, ⟨by first | exact o5 | omega, by first | exact o6 | omega⟩, ⟨by first | exact o7 | omega, by first | exact o8 | omega⟩, ⟨by first | exact o9 | omega, by first | exact o10 | omega⟩, ⟨by first | exact o11 | omega, by first | exact o12 | omega⟩, by first | exact o13 | omega, hn4⟩), (show (f_89 7).toInt = (f 7).toInt from by first | exact k89_0 | omega), (show (f_89 10).toInt = (f 10).toInt from by first | exact k89_1 | omega), (show (f_89 15).toInt = (f 15).toInt from by first | exact k89_2 | omega), (show (19 : Int) = 19 ∨ (f 8).toInt + 1 ≤ (f_89 8).toInt from by omega), (show Q5 (a_89 5) from hq5), (show R_t2_number tb f a f_89 a_89 (19 : Int32) from (k89_6 _ _ _ 1 (Or.inr (Or.inl ⟨rfl, x89_2, x89_3, x89_4, x89_7, x89_5, rfl, rfl, rfl, rfl, rfl, Or.inl ⟨nc1, Or.inr ⟨nc3, Or.inl ⟨nc5, rfl, rfl, rfl⟩⟩⟩⟩))))⟩) d_Tok_number_172
          · have nc5 : ¬ x89_3.toInt < x89_4.toInt := mt (i_lt (x := x89_3) (y := x89_4)).mpr c5
            refine lv_lload S.x S.b d_Tok_number_161 (lv_at hl 5 rfl) ?_
            refine lv_ldc2 (v := 4294967295) S.x S.b S.own (S.w m3_225) d_Tok_number_163 ?_
            refine W.lcmp S.x S.b d_Tok_number_166 ?_
            refine lv_topi (fun z7 ez7 => ?_)
            have lz7 := Int32.le_toInt z7
            have uz7 := Int32.toInt_lt z7
            refine lv_if_le (tgt := 173) S.x S.b d_Tok_number_167 (by decide) (fun c8 => ?_) (fun c8 => ?_)
            · have nc8 : z7.toInt ≤ (0 : Int) := (i_le (x := z7) (y := 0)).mp c8
              refine lv_aload_n S.x S.b d_Tok_number_173 rfl (lv_at hl 0 rfl) ?_
              refine lv_lload S.x S.b d_Tok_number_174 (lv_at hl 5 rfl) ?_
              refine lv_l2i S.x S.b d_Tok_number_176 rfl ?_
              refine lv_topi (fun z10 ez10 => ?_)
              have lz10 := Int32.le_toInt z10
              have uz10 := Int32.toInt_lt z10
              refine px_put S k_Tok hT hw 0 0 9 rfl rfl (by decide) m1_112 rfl rfl rfl (Nat.le_of_ble_eq_true rfl) d_Tok_number_177 (w' := wd_Tok cs h r (fun _ => some tp) (upd f_89 9 z10) a_89 g) (ps' := [wd_Tok cs h r (fun _ => some tp) (upd f_89 9 z10) a_89 g, [(tp, .inl (cs 1, 2048, .inl tb))]]) rfl rfl (fun H locs hw => ?_)
              refine lv_bipush (v := 17) S.x S.b d_Tok_number_180 (by decide) ?_
              first | exact px_iret (v := 17) S hr rfl hlk hAe hw (Nat.le_of_ble_eq_true rfl) (Nat.le_of_ble_eq_true rfl) (⟨(upd f_89 9 z10), a_89, rfl, (show TokOk (f_89 7) (f_89 8) (f_89 10) (f_89 11) (f_89 12) (f_89 13) (f_89 17) (a_89 4) from ⟨⟨o1, o2⟩, ⟨o3, o4⟩, ⟨o5, o6⟩, ⟨o7, o8⟩, ⟨o9, o10⟩, ⟨o11, o12⟩, o13, hn4⟩), (show (f_89 7).toInt = (f 7).toInt from k89_0), (show (f_89 10).toInt = (f 10).toInt from k89_1), (show (f_89 15).toInt = (f 15).toInt from k89_2), (show (17 : Int) = 19 ∨ (f 8).toInt + 1 ≤ (f_89 8).toInt from by omega), (show Q5 (a_89 5) from hq5), (show R_t2_number tb f a (upd f_89 9 z10) a_89 (17 : Int32) from (k89_6 _ _ _ 1 (Or.inr (Or.inl ⟨rfl, x89_2, x89_3, x89_4, x89_7, x89_5, rfl, rfl, rfl, rfl, rfl, Or.inl ⟨nc1, Or.inr ⟨nc3, Or.inr ⟨nc5, z7, ez7, Or.inl ⟨nc8, z10, ez10, rfl, rfl, rfl⟩⟩⟩⟩⟩))))⟩) d_Tok_number_182 | exact px_iret (v := 17) S hr rfl hlk hAe hw (Nat.le_of_ble_eq_true rfl) (Nat.le_of_ble_eq_true rfl) (⟨(upd f_89 9 z10), a_89, rfl, (show TokOk (f_89 7) (f_89 8) (f_89 10) (f_89 11) (f_89 12) (f_89 13) (f_89 17) (a_89 4) from ⟨⟨by first | exact o1 | omega, by first | exact o2 | omega⟩, ⟨by first | exact o3 | omega, by first | exact o4 | omega⟩, ⟨by first | exact o5 | omega, by first | exact o6 | omega⟩, ⟨by first | exact o7 | omega, by first | exact o8 | omega⟩, ⟨by first | exact o9 | omega, by first | exact o10 | omega⟩, ⟨by first | exact o11 | omega, by first | exact o12 | omega⟩, by first | exact o13 | omega, hn4⟩), (show (f_89 7).toInt = (f 7).toInt from by first | exact k89_0 | omega), (show (f_89 10).toInt = (f 10).toInt from by first | exact k89_1 | omega), (show (f_89 15).toInt = (f 15).toInt from by first | exact k89_2 | omega), (show (17 : Int) = 19 ∨ (f 8).toInt + 1 ≤ (f_89 8).toInt from by omega), (show Q5 (a_89 5) from hq5), (show R_t2_number tb f a (upd f_89 9 z10) a_89 (17 : Int32) from (k89_6 _ _ _ 1 (Or.inr (Or.inl ⟨rfl, x89_2, x89_3, x89_4, x89_7, x89_5, rfl, rfl, rfl, rfl, rfl, Or.inl ⟨nc1, Or.inr ⟨nc3, Or.inr ⟨nc5, z7, ez7, Or.inl ⟨nc8, z10, ez10, rfl, rfl, rfl⟩⟩⟩⟩⟩))))⟩) d_Tok_number_182
            · have nc8 : ¬ z7.toInt ≤ (0 : Int) := mt (i_le (x := z7) (y := 0)).mpr c8
              refine lv_bipush (v := 19) S.x S.b d_Tok_number_170 (by decide) ?_
              first | exact px_iret (v := 19) S hr rfl hlk hAe hw (Nat.le_of_ble_eq_true rfl) (Nat.le_of_ble_eq_true rfl) (⟨f_89, a_89, rfl, (show TokOk (f_89 7) (f_89 8) (f_89 10) (f_89 11) (f_89 12) (f_89 13) (f_89 17) (a_89 4) from ⟨⟨o1, o2⟩, ⟨o3, o4⟩, ⟨o5, o6⟩, ⟨o7, o8⟩, ⟨o9, o10⟩, ⟨o11, o12⟩, o13, hn4⟩), (show (f_89 7).toInt = (f 7).toInt from k89_0), (show (f_89 10).toInt = (f 10).toInt from k89_1), (show (f_89 15).toInt = (f 15).toInt from k89_2), (show (19 : Int) = 19 ∨ (f 8).toInt + 1 ≤ (f_89 8).toInt from by omega), (show Q5 (a_89 5) from hq5), (show R_t2_number tb f a f_89 a_89 (19 : Int32) from (k89_6 _ _ _ 1 (Or.inr (Or.inl ⟨rfl, x89_2, x89_3, x89_4, x89_7, x89_5, rfl, rfl, rfl, rfl, rfl, Or.inl ⟨nc1, Or.inr ⟨nc3, Or.inr ⟨nc5, z7, ez7, Or.inr ⟨nc8, rfl, rfl, rfl⟩⟩⟩⟩⟩))))⟩) d_Tok_number_172 | exact px_iret (v := 19) S hr rfl hlk hAe hw (Nat.le_of_ble_eq_true rfl) (Nat.le_of_ble_eq_true rfl) (⟨f_89, a_89, rfl, (show TokOk (f_89 7) (f_89 8) (f_89 10) (f_89 11) (f_89 12) (f_89 13) (f_89 17) (a_89 4) from ⟨⟨by first | exact o1 | omega, by first | exact o2 | omega⟩, ⟨by first | exact o3 | omega, by first | exact o4 | omega⟩, ⟨by first | exact o5 | omega, by first | exact o6 | omega⟩, ⟨by first | exact o7 | omega, by first | exact o8 | omega⟩, ⟨by first | exact o9 | omega, by first | exact o10 | omega⟩, ⟨by first | exact o11 | omega, by first | exact o12 | omega⟩, by first | exact o13 | omega, hn4⟩), (show (f_89 7).toInt = (f 7).toInt from by first | exact k89_0 | omega), (show (f_89 10).toInt = (f 10).toInt from by first | exact k89_1 | omega), (show (f_89 15).toInt = (f 15).toInt from by first | exact k89_2 | omega), (show (19 : Int) = 19 ∨ (f 8).toInt + 1 ≤ (f_89 8).toInt from by omega), (show Q5 (a_89 5) from hq5), (show R_t2_number tb f a f_89 a_89 (19 : Int32) from (k89_6 _ _ _ 1 (Or.inr (Or.inl ⟨rfl, x89_2, x89_3, x89_4, x89_7, x89_5, rfl, rfl, rfl, rfl, rfl, Or.inl ⟨nc1, Or.inr ⟨nc3, Or.inr ⟨nc5, z7, ez7, Or.inr ⟨nc8, rfl, rfl, rfl⟩⟩⟩⟩⟩))))⟩) d_Tok_number_172
      · have nc1 : ¬ (f_89 7).toInt ≤ (f_89 8).toInt := mt (i_le (x := (f_89 7)) (y := (f_89 8))).mpr c1
        refine lv_iload S.x S.b d_Tok_number_100 (lv_at hl 4 rfl) ?_
        refine lv_if_lt (tgt := 150) S.x S.b d_Tok_number_102 (by decide) (fun c11 => ?_) (fun c11 => ?_)
        · have nc11 : x89_7.toInt < (0 : Int) := (i_lt (x := x89_7) (y := 0)).mp c11
          refine lv_iload S.x S.b d_Tok_number_150 (lv_at hl 3 rfl) ?_
          refine lv_if_eq (tgt := 170) S.x S.b d_Tok_number_152 (by decide) (fun c13 => ?_) (fun c13 => ?_)
          · have nc13 : x89_4.toInt = (0 : Int) := (i_eq (x := x89_4) (y := 0)).mp c13
            refine lv_bipush (v := 19) S.x S.b d_Tok_number_170 (by decide) ?_
            first | exact px_iret (v := 19) S hr rfl hlk hAe hw (Nat.le_of_ble_eq_true rfl) (Nat.le_of_ble_eq_true rfl) (⟨f_89, a_89, rfl, (show TokOk (f_89 7) (f_89 8) (f_89 10) (f_89 11) (f_89 12) (f_89 13) (f_89 17) (a_89 4) from ⟨⟨o1, o2⟩, ⟨o3, o4⟩, ⟨o5, o6⟩, ⟨o7, o8⟩, ⟨o9, o10⟩, ⟨o11, o12⟩, o13, hn4⟩), (show (f_89 7).toInt = (f 7).toInt from k89_0), (show (f_89 10).toInt = (f 10).toInt from k89_1), (show (f_89 15).toInt = (f 15).toInt from k89_2), (show (19 : Int) = 19 ∨ (f 8).toInt + 1 ≤ (f_89 8).toInt from by omega), (show Q5 (a_89 5) from hq5), (show R_t2_number tb f a f_89 a_89 (19 : Int32) from (k89_6 _ _ _ 1 (Or.inr (Or.inl ⟨rfl, x89_2, x89_3, x89_4, x89_7, x89_5, rfl, rfl, rfl, rfl, rfl, Or.inr ⟨nc1, Or.inl ⟨nc11, Or.inl ⟨nc13, rfl, rfl, rfl⟩⟩⟩⟩))))⟩) d_Tok_number_172 | exact px_iret (v := 19) S hr rfl hlk hAe hw (Nat.le_of_ble_eq_true rfl) (Nat.le_of_ble_eq_true rfl) (⟨f_89, a_89, rfl, (show TokOk (f_89 7) (f_89 8) (f_89 10) (f_89 11) (f_89 12) (f_89 13) (f_89 17) (a_89 4) from ⟨⟨by first | exact o1 | omega, by first | exact o2 | omega⟩, ⟨by first | exact o3 | omega, by first | exact o4 | omega⟩, ⟨by first | exact o5 | omega, by first | exact o6 | omega⟩, ⟨by first | exact o7 | omega, by first | exact o8 | omega⟩, ⟨by first | exact o9 | omega, by first | exact o10 | omega⟩, ⟨by first | exact o11 | omega, by first | exact o12 | omega⟩, by first | exact o13 | omega, hn4⟩), (show (f_89 7).toInt = (f 7).toInt from by first | exact k89_0 | omega), (show (f_89 10).toInt = (f 10).toInt from by first | exact k89_1 | omega), (show (f_89 15).toInt = (f 15).toInt from by first | exact k89_2 | omega), (show (19 : Int) = 19 ∨ (f 8).toInt + 1 ≤ (f_89 8).toInt from by omega), (show Q5 (a_89 5) from hq5), (show R_t2_number tb f a f_89 a_89 (19 : Int32) from (k89_6 _ _ _ 1 (Or.inr (Or.inl ⟨rfl, x89_2, x89_3, x89_4, x89_7, x89_5, rfl, rfl, rfl, rfl, rfl, Or.inr ⟨nc1, Or.inl ⟨nc11, Or.inl ⟨nc13, rfl, rfl, rfl⟩⟩⟩⟩))))⟩) d_Tok_number_172
          · have nc13 : ¬ x89_4.toInt = (0 : Int) := mt (i_eq (x := x89_4) (y := 0)).mpr c13
            refine lv_iload S.x S.b d_Tok_number_155 (lv_at hl 3 rfl) ?_
            refine lv_iload_n S.x S.b d_Tok_number_157 rfl (lv_at hl 2 rfl) ?_
            refine lv_icmp_gt (tgt := 170) S.x S.b d_Tok_number_158 (by decide) (fun c15 => ?_) (fun c15 => ?_)
            · have nc15 : x89_3.toInt < x89_4.toInt := (i_lt (x := x89_3) (y := x89_4)).mp c15
              refine lv_bipush (v := 19) S.x S.b d_Tok_number_170 (by decide) ?_
              first | exact px_iret (v := 19) S hr rfl hlk hAe hw (Nat.le_of_ble_eq_true rfl) (Nat.le_of_ble_eq_true rfl) (⟨f_89, a_89, rfl, (show TokOk (f_89 7) (f_89 8) (f_89 10) (f_89 11) (f_89 12) (f_89 13) (f_89 17) (a_89 4) from ⟨⟨o1, o2⟩, ⟨o3, o4⟩, ⟨o5, o6⟩, ⟨o7, o8⟩, ⟨o9, o10⟩, ⟨o11, o12⟩, o13, hn4⟩), (show (f_89 7).toInt = (f 7).toInt from k89_0), (show (f_89 10).toInt = (f 10).toInt from k89_1), (show (f_89 15).toInt = (f 15).toInt from k89_2), (show (19 : Int) = 19 ∨ (f 8).toInt + 1 ≤ (f_89 8).toInt from by omega), (show Q5 (a_89 5) from hq5), (show R_t2_number tb f a f_89 a_89 (19 : Int32) from (k89_6 _ _ _ 1 (Or.inr (Or.inl ⟨rfl, x89_2, x89_3, x89_4, x89_7, x89_5, rfl, rfl, rfl, rfl, rfl, Or.inr ⟨nc1, Or.inl ⟨nc11, Or.inr ⟨nc13, Or.inl ⟨nc15, rfl, rfl, rfl⟩⟩⟩⟩⟩))))⟩) d_Tok_number_172 | exact px_iret (v := 19) S hr rfl hlk hAe hw (Nat.le_of_ble_eq_true rfl) (Nat.le_of_ble_eq_true rfl) (⟨f_89, a_89, rfl, (show TokOk (f_89 7) (f_89 8) (f_89 10) (f_89 11) (f_89 12) (f_89 13) (f_89 17) (a_89 4) from ⟨⟨by first | exact o1 | omega, by first | exact o2 | omega⟩, ⟨by first | exact o3 | omega, by first | exact o4 | omega⟩, ⟨by first | exact o5 | omega, by first | exact o6 | omega⟩, ⟨by first | exact o7 | omega, by first | exact o8 | omega⟩, ⟨by first | exact o9 | omega, by first | exact o10 | omega⟩, ⟨by first | exact o11 | omega, by first | exact o12 | omega⟩, by first | exact o13 | omega, hn4⟩), (show (f_89 7).toInt = (f 7).toInt from by first | exact k89_0 | omega), (show (f_89 10).toInt = (f 10).toInt from by first | exact k89_1 | omega), (show (f_89 15).toInt = (f 15).toInt from by first | exact k89_2 | omega), (show (19 : Int) = 19 ∨ (f 8).toInt + 1 ≤ (f_89 8).toInt from by omega), (show Q5 (a_89 5) from hq5), (show R_t2_number tb f a f_89 a_89 (19 : Int32) from (k89_6 _ _ _ 1 (Or.inr (Or.inl ⟨rfl, x89_2, x89_3, x89_4, x89_7, x89_5, rfl, rfl, rfl, rfl, rfl, Or.inr ⟨nc1, Or.inl ⟨nc11, Or.inr ⟨nc13, Or.inl ⟨nc15, rfl, rfl, rfl⟩⟩⟩⟩⟩))))⟩) d_Tok_number_172
            · have nc15 : ¬ x89_3.toInt < x89_4.toInt := mt (i_lt (x := x89_3) (y := x89_4)).mpr c15
              refine lv_lload S.x S.b d_Tok_number_161 (lv_at hl 5 rfl) ?_
              refine lv_ldc2 (v := 4294967295) S.x S.b S.own (S.w m3_225) d_Tok_number_163 ?_
              refine W.lcmp S.x S.b d_Tok_number_166 ?_
              refine lv_topi (fun z17 ez17 => ?_)
              have lz17 := Int32.le_toInt z17
              have uz17 := Int32.toInt_lt z17
              refine lv_if_le (tgt := 173) S.x S.b d_Tok_number_167 (by decide) (fun c18 => ?_) (fun c18 => ?_)
              · have nc18 : z17.toInt ≤ (0 : Int) := (i_le (x := z17) (y := 0)).mp c18
                refine lv_aload_n S.x S.b d_Tok_number_173 rfl (lv_at hl 0 rfl) ?_
                refine lv_lload S.x S.b d_Tok_number_174 (lv_at hl 5 rfl) ?_
                refine lv_l2i S.x S.b d_Tok_number_176 rfl ?_
                refine lv_topi (fun z20 ez20 => ?_)
                have lz20 := Int32.le_toInt z20
                have uz20 := Int32.toInt_lt z20
                refine px_put S k_Tok hT hw 0 0 9 rfl rfl (by decide) m1_112 rfl rfl rfl (Nat.le_of_ble_eq_true rfl) d_Tok_number_177 (w' := wd_Tok cs h r (fun _ => some tp) (upd f_89 9 z20) a_89 g) (ps' := [wd_Tok cs h r (fun _ => some tp) (upd f_89 9 z20) a_89 g, [(tp, .inl (cs 1, 2048, .inl tb))]]) rfl rfl (fun H locs hw => ?_)
                refine lv_bipush (v := 17) S.x S.b d_Tok_number_180 (by decide) ?_
                first | exact px_iret (v := 17) S hr rfl hlk hAe hw (Nat.le_of_ble_eq_true rfl) (Nat.le_of_ble_eq_true rfl) (⟨(upd f_89 9 z20), a_89, rfl, (show TokOk (f_89 7) (f_89 8) (f_89 10) (f_89 11) (f_89 12) (f_89 13) (f_89 17) (a_89 4) from ⟨⟨o1, o2⟩, ⟨o3, o4⟩, ⟨o5, o6⟩, ⟨o7, o8⟩, ⟨o9, o10⟩, ⟨o11, o12⟩, o13, hn4⟩), (show (f_89 7).toInt = (f 7).toInt from k89_0), (show (f_89 10).toInt = (f 10).toInt from k89_1), (show (f_89 15).toInt = (f 15).toInt from k89_2), (show (17 : Int) = 19 ∨ (f 8).toInt + 1 ≤ (f_89 8).toInt from by omega), (show Q5 (a_89 5) from hq5), (show R_t2_number tb f a (upd f_89 9 z20) a_89 (17 : Int32) from (k89_6 _ _ _ 1 (Or.inr (Or.inl ⟨rfl, x89_2, x89_3, x89_4, x89_7, x89_5, rfl, rfl, rfl, rfl, rfl, Or.inr ⟨nc1, Or.inl ⟨nc11, Or.inr ⟨nc13, Or.inr ⟨nc15, z17, ez17, Or.inl ⟨nc18, z20, ez20, rfl, rfl, rfl⟩⟩⟩⟩⟩⟩))))⟩) d_Tok_number_182 | exact px_iret (v := 17) S hr rfl hlk hAe hw (Nat.le_of_ble_eq_true rfl) (Nat.le_of_ble_eq_true rfl) (⟨(upd f_89 9 z20), a_89, rfl, (show TokOk (f_89 7) (f_89 8) (f_89 10) (f_89 11) (f_89 12) (f_89 13) (f_89 17) (a_89 4) from ⟨⟨by first | exact o1 | omega, by first | exact o2 | omega⟩, ⟨by first | exact o3 | omega, by first | exact o4 | omega⟩, ⟨by first | exact o5 | omega, by first | exact o6 | omega⟩, ⟨by first | exact o7 | omega, by first | exact o8 | omega⟩, ⟨by first | exact o9 | omega, by first | exact o10 | omega⟩, ⟨by first | exact o11 | omega, by first | exact o12 | omega⟩, by first | exact o13 | omega, hn4⟩), (show (f_89 7).toInt = (f 7).toInt from by first | exact k89_0 | omega), (show (f_89 10).toInt = (f 10).toInt from by first | exact k89_1 | omega), (show (f_89 15).toInt = (f 15).toInt from by first | exact k89_2 | omega), (show (17 : Int) = 19 ∨ (f 8).toInt + 1 ≤ (f_89 8).toInt from by omega), (show Q5 (a_89 5) from hq5), (show R_t2_number tb f a (upd f_89 9 z20) a_89 (17 : Int32) from (k89_6 _ _ _ 1 (Or.inr (Or.inl ⟨rfl, x89_2, x89_3, x89_4, x89_7, x89_5, rfl, rfl, rfl, rfl, rfl, Or.inr ⟨nc1, Or.inl ⟨nc11, Or.inr ⟨nc13, Or.inr ⟨nc15, z17, ez17, Or.inl ⟨nc18, z20, ez20, rfl, rfl, rfl⟩⟩⟩⟩⟩⟩))))⟩) d_Tok_number_182
              · have nc18 : ¬ z17.toInt ≤ (0 : Int) := mt (i_le (x := z17) (y := 0)).mpr c18
                refine lv_bipush (v := 19) S.x S.b d_Tok_number_170 (by decide) ?_
                first | exact px_iret (v := 19) S hr rfl hlk hAe hw (Nat.le_of_ble_eq_true rfl) (Nat.le_of_ble_eq_true rfl) (⟨f_89, a_89, rfl, (show TokOk (f_89 7) (f_89 8) (f_89 10) (f_89 11) (f_89 12) (f_89 13) (f_89 17) (a_89 4) from ⟨⟨o1, o2⟩, ⟨o3, o4⟩, ⟨o5, o6⟩, ⟨o7, o8⟩, ⟨o9, o10⟩, ⟨o11, o12⟩, o13, hn4⟩), (show (f_89 7).toInt = (f 7).toInt from k89_0), (show (f_89 10).toInt = (f 10).toInt from k89_1), (show (f_89 15).toInt = (f 15).toInt from k89_2), (show (19 : Int) = 19 ∨ (f 8).toInt + 1 ≤ (f_89 8).toInt from by omega), (show Q5 (a_89 5) from hq5), (show R_t2_number tb f a f_89 a_89 (19 : Int32) from (k89_6 _ _ _ 1 (Or.inr (Or.inl ⟨rfl, x89_2, x89_3, x89_4, x89_7, x89_5, rfl, rfl, rfl, rfl, rfl, Or.inr ⟨nc1, Or.inl ⟨nc11, Or.inr ⟨nc13, Or.inr ⟨nc15, z17, ez17, Or.inr ⟨nc18, rfl, rfl, rfl⟩⟩⟩⟩⟩⟩))))⟩) d_Tok_number_172 | exact px_iret (v := 19) S hr rfl hlk hAe hw (Nat.le_of_ble_eq_true rfl) (Nat.le_of_ble_eq_true rfl) (⟨f_89, a_89, rfl, (show TokOk (f_89 7) (f_89 8) (f_89 10) (f_89 11) (f_89 12) (f_89 13) (f_89 17) (a_89 4) from ⟨⟨by first | exact o1 | omega, by first | exact o2 | omega⟩, ⟨by first | exact o3 | omega, by first | exact o4 | omega⟩, ⟨by first | exact o5 | omega, by first | exact o6 | omega⟩, ⟨by first | exact o7 | omega, by first | exact o8 | omega⟩, ⟨by first | exact o9 | omega, by first | exact o10 | omega⟩, ⟨by first | exact o11 | omega, by first | exact o12 | omega⟩, by first | exact o13 | omega, hn4⟩), (show (f_89 7).toInt = (f 7).toInt from by first | exact k89_0 | omega), (show (f_89 10).toInt = (f 10).toInt from by first | exact k89_1 | omega), (show (f_89 15).toInt = (f 15).toInt from by first | exact k89_2 | omega), (show (19 : Int) = 19 ∨ (f 8).toInt + 1 ≤ (f_89 8).toInt from by omega), (show Q5 (a_89 5) from hq5), (show R_t2_number tb f a f_89 a_89 (19 : Int32) from (k89_6 _ _ _ 1 (Or.inr (Or.inl ⟨rfl, x89_2, x89_3, x89_4, x89_7, x89_5, rfl, rfl, rfl, rfl, rfl, Or.inr ⟨nc1, Or.inl ⟨nc11, Or.inr ⟨nc13, Or.inr ⟨nc15, z17, ez17, Or.inr ⟨nc18, rfl, rfl, rfl⟩⟩⟩⟩⟩⟩))))⟩) d_Tok_number_172
        · have nc11 : ¬ x89_7.toInt < (0 : Int) := mt (i_lt (x := x89_7) (y := 0)).mpr c11
          refine lv_iload S.x S.b d_Tok_number_105 (lv_at hl 3 rfl) ?_
          refine lv_iload_n S.x S.b d_Tok_number_107 rfl (lv_at hl 2 rfl) ?_
          refine lv_icmp_ge (tgt := 123) S.x S.b d_Tok_number_108 (by decide) (fun c21 => ?_) (fun c21 => ?_)
          · have nc21 : x89_3.toInt ≤ x89_4.toInt := (i_le (x := x89_3) (y := x89_4)).mp c21
            refine lv_lload S.x S.b d_Tok_number_123 (lv_at hl 5 rfl) ?_
            refine lv_lstore (lv' := [(5, .long x89_5), (0, .ref h), (2, .int x89_2), (3, .int x89_3), (4, .int x89_4), (7, .int x89_7)]) S.x S.b d_Tok_number_125 hl (by decide) rfl (fun ls hl => ?_)
            obtain ⟨z23, ez23⟩ : ∃ y : Int32, y = x89_4 + 1 := ⟨_, rfl⟩
            have tz23 : z23.toInt = (x89_4.toInt + 1 + 2147483648) % 4294967296 - 2147483648 := by rw [ez23]; exact i_add x89_4 1
            have lz23 := Int32.le_toInt z23
            have uz23 := Int32.toInt_lt z23
            try replace tz23 : z23.toInt = x89_4.toInt + 1 := by omega
            refine lv_iinc (v := z23) (lv' := [(4, .int z23), (5, .long x89_5), (0, .ref h), (2, .int x89_2), (3, .int x89_3), (7, .int x89_7)]) S.x S.b d_Tok_number_127 hl (k := 4) rfl (by rw [ez23]; rfl) (by decide) rfl (fun ls hl => ?_)
            refine lv_aload_n S.x S.b d_Tok_number_130 rfl (lv_at hl 2 rfl) ?_
            refine lv_dup S.x S.b d_Tok_number_131 rfl ?_
            refine px_get S k_Tok hT hw 0 0 8 (v := .int (f_89 8)) rfl rfl rfl (by decide) m1_111 d_Tok_number_132 ?_
            refine lv_iconst (v := 1) S.x S.b d_Tok_number_135 (by decide) ?_
            refine lv_iadd S.x S.b d_Tok_number_136 ?_
            have lr24 := Int32.le_toInt (f_89 8)
            have ur24 := Int32.toInt_lt (f_89 8)
            refine lv_topi (fun z25 ez25 => ?_)
            have tz25 : z25.toInt = ((f_89 8).toInt + (1 : Int) + 2147483648) % 4294967296 - 2147483648 := by rw [ez25]; exact i_add (f_89 8) 1
            have lz25 := Int32.le_toInt z25
            have uz25 := Int32.toInt_lt z25
            try replace tz25 : z25.toInt = (f_89 8).toInt + (1 : Int) := by omega
            refine px_put S k_Tok hT hw 0 0 8 rfl rfl (by decide) m1_111 rfl rfl rfl (Nat.le_of_ble_eq_true rfl) d_Tok_number_137 (w' := wd_Tok cs h r (fun _ => some tp) (upd f_89 8 z25) a_89 g) (ps' := [wd_Tok cs h r (fun _ => some tp) (upd f_89 8 z25) a_89 g, [(tp, .inl (cs 1, 2048, .inl tb))]]) rfl rfl (fun H locs hw => ?_)
            refine lv_aload_n S.x S.b d_Tok_number_140 rfl (lv_at hl 2 rfl) ?_
            refine lv_iload_n S.x S.b d_Tok_number_141 rfl (lv_at hl 3 rfl) ?_
            first | refine px_calli (pr := []) (px_runV (As := [.int x89_2]) (rest := []) S (c_t2_digit l D cs h r tp tb g (upd f_89 8 z25) a_89 x89_2  (show TokOk (f_89 7) z25 (f_89 10) (f_89 11) (f_89 12) (f_89 13) (f_89 17) (a_89 4) from ⟨⟨o1, o2⟩, ⟨(oz_b3b25f0e49 tz25 o3), (oz_b18b803a23 nc1 tz25)⟩, ⟨o5, o6⟩, ⟨o7, o8⟩, ⟨o9, o10⟩, ⟨o11, o12⟩, o13, hn4⟩) _) hT (pr := []) (pcs := [wd_Tok cs h r (fun _ => some tp) (upd f_89 8 z25) a_89 g, [(tp, .inl (cs 1, 2048, .inl tb))]]) hw px_X.tt (px_recv hT hw 0 0 rfl rfl rfl) m3_224 m3_221 m3_223 ms_1_14 m1_2 q_Tok_digit ⟨Nat.le_of_ble_eq_true rfl, Nat.le_of_ble_eq_true rfl⟩ hl.1 rfl (Nat.le_of_ble_eq_true rfl) d_Tok_number_142 ⟨Nat.le_of_ble_eq_true rfl, Nat.le_of_ble_eq_true rfl⟩) hw hA (fun v27 p26 H locs hp26 hw => ?_) | refine px_calli (pr := []) (px_runV (As := [.int x89_2]) (rest := []) S (c_t2_digit l D cs h r tp tb g (upd f_89 8 z25) a_89 x89_2  (show TokOk (f_89 7) z25 (f_89 10) (f_89 11) (f_89 12) (f_89 13) (f_89 17) (a_89 4) from ⟨⟨by first | exact o1 | omega, by first | exact o2 | omega⟩, ⟨by first | exact oz_b3b25f0e49 tz25 o3 | omega, by first | exact oz_b18b803a23 nc1 tz25 | omega⟩, ⟨by first | exact o5 | omega, by first | exact o6 | omega⟩, ⟨by first | exact o7 | omega, by first | exact o8 | omega⟩, ⟨by first | exact o9 | omega, by first | exact o10 | omega⟩, ⟨by first | exact o11 | omega, by first | exact o12 | omega⟩, by first | exact o13 | omega, hn4⟩) _) hT (pr := []) (pcs := [wd_Tok cs h r (fun _ => some tp) (upd f_89 8 z25) a_89 g, [(tp, .inl (cs 1, 2048, .inl tb))]]) hw px_X.tt (px_recv hT hw 0 0 rfl rfl rfl) m3_224 m3_221 m3_223 ms_1_14 m1_2 q_Tok_digit ⟨Nat.le_of_ble_eq_true rfl, Nat.le_of_ble_eq_true rfl⟩ hl.1 rfl (Nat.le_of_ble_eq_true rfl) d_Tok_number_142 ⟨Nat.le_of_ble_eq_true rfl, Nat.le_of_ble_eq_true rfl⟩) hw hA (fun v27 p26 H locs hp26 hw => ?_)
            obtain ⟨rfl, e28⟩ := hp26
            have e28 : R_t2_digit tb (upd f_89 8 z25) x89_2 v27 := e28
            have lv27 := Int32.le_toInt v27
            have uv27 := Int32.toInt_lt v27
            refine lv_istore (lv' := [(7, .int v27), (4, .int z23), (5, .long x89_5), (0, .ref h), (2, .int x89_2), (3, .int x89_3)]) S.x S.b d_Tok_number_145 hl (by decide) rfl (fun ls hl => ?_)
            refine lv_goto (tgt := 89) S.x S.b d_Tok_number_147 (by decide) ?_
            first | exact ih89 (upd f_89 8 z25) a_89 x89_2 x89_3 z23 v27 x89_5 _ _ ls (show TokOk (f_89 7) z25 (f_89 10) (f_89 11) (f_89 12) (f_89 13) (f_89 17) (a_89 4) from ⟨⟨o1, o2⟩, ⟨(oz_b3b25f0e49 tz25 o3), (oz_b18b803a23 nc1 tz25)⟩, ⟨o5, o6⟩, ⟨o7, o8⟩, ⟨o9, o10⟩, ⟨o11, o12⟩, o13, hn4⟩) (show (f_89 7).toInt = (f 7).toInt from k89_0) (show (f_89 10).toInt = (f 10).toInt from k89_1) (show (f_89 15).toInt = (f 15).toInt from k89_2) (show 0 ≤ z23.toInt from (oz_ae613611c0 tz23 k89_3)) (show (f 8).toInt + z23.toInt ≤ z25.toInt from (oz_efe4b1b452 k89_4 tz23 tz25)) (show Q5 (a_89 5) from hq5) (show K_t2_number_89 tb f a (upd f_89 8 z25) a_89 x89_2 x89_3 z23 v27 x89_5 from (fun y_f0 y_f1 y_v k hE => k89_6 y_f0 y_f1 y_v (k + 1) (Or.inr (Or.inl ⟨rfl, x89_2, x89_3, x89_4, x89_7, x89_5, rfl, rfl, rfl, rfl, rfl, Or.inr ⟨nc1, Or.inr ⟨nc11, Or.inl ⟨nc21, z23, ez23, z25, ez25, v27, e28, hE⟩⟩⟩⟩)))) (show (f_89 7).toInt+9-z25.toInt < (n_89 : Int) from (oz_c735cfbd81 hm tz25)) hw (lv_sub hl [3, 4, 5, 1, 0, 2] rfl) | exact ih89 (upd f_89 8 z25) a_89 x89_2 x89_3 z23 v27 x89_5 _ _ ls (show TokOk (f_89 7) z25 (f_89 10) (f_89 11) (f_89 12) (f_89 13) (f_89 17) (a_89 4) from ⟨⟨by first | exact o1 | omega, by first | exact o2 | omega⟩, ⟨by first | exact oz_b3b25f0e49 tz25 o3 | omega, by first | exact oz_b18b803a23 nc1 tz25 | omega⟩, ⟨by first | exact o5 | omega, by first | exact o6 | omega⟩, ⟨by first | exact o7 | omega, by first | exact o8 | omega⟩, ⟨by first | exact o9 | omega, by first | exact o10 | omega⟩, ⟨by first | exact o11 | omega, by first | exact o12 | omega⟩, by first | exact o13 | omega, hn4⟩) (show (f_89 7).toInt = (f 7).toInt from by first | exact k89_0 | omega) (show (f_89 10).toInt = (f 10).toInt from by first | exact k89_1 | omega) (show (f_89 15).toInt = (f 15).toInt from by first | exact k89_2 | omega) (show 0 ≤ z23.toInt from by first | exact oz_ae613611c0 tz23 k89_3 | omega) (show (f 8).toInt + z23.toInt ≤ z25.toInt from by first | exact oz_efe4b1b452 k89_4 tz23 tz25 | omega) (show Q5 (a_89 5) from hq5) (show K_t2_number_89 tb f a (upd f_89 8 z25) a_89 x89_2 x89_3 z23 v27 x89_5 from (fun y_f0 y_f1 y_v k hE => k89_6 y_f0 y_f1 y_v (k + 1) (Or.inr (Or.inl ⟨rfl, x89_2, x89_3, x89_4, x89_7, x89_5, rfl, rfl, rfl, rfl, rfl, Or.inr ⟨nc1, Or.inr ⟨nc11, Or.inl ⟨nc21, z23, ez23, z25, ez25, v27, e28, hE⟩⟩⟩⟩)))) (show (f_89 7).toInt+9-z25.toInt < (n_89 : Int) from by first | exact oz_c735cfbd81 hm tz25 | omega) hw (lv_sub hl [3, 4, 5, 1, 0, 2] rfl)
          · have nc21 : ¬ x89_3.toInt ≤ x89_4.toInt := mt (i_le (x := x89_3) (y := x89_4)).mpr c21
            refine lv_lload S.x S.b d_Tok_number_111 (lv_at hl 5 rfl) ?_
            refine lv_iload_n S.x S.b d_Tok_number_113 rfl (lv_at hl 1 rfl) ?_
            refine lv_i2l S.x S.b d_Tok_number_114 rfl ?_
            refine lv_lmul S.x S.b d_Tok_number_115 ?_
            refine lv_topl (fun z29 ez29 => ?_)
            refine lv_iload S.x S.b d_Tok_number_116 (lv_at hl 4 rfl) ?_
            refine lv_i2l S.x S.b d_Tok_number_118 rfl ?_
            refine lv_ladd S.x S.b d_Tok_number_119 ?_
            refine lv_topl (fun z30 ez30 => ?_)
            refine lv_goto (tgt := 125) S.x S.b d_Tok_number_120 (by decide) ?_
            refine lv_lstore (lv' := [(5, .long z30), (0, .ref h), (2, .int x89_2), (3, .int x89_3), (4, .int x89_4), (7, .int x89_7)]) S.x S.b d_Tok_number_125 hl (by decide) rfl (fun ls hl => ?_)
            obtain ⟨z31, ez31⟩ : ∃ y : Int32, y = x89_4 + 1 := ⟨_, rfl⟩
            have tz31 : z31.toInt = (x89_4.toInt + 1 + 2147483648) % 4294967296 - 2147483648 := by rw [ez31]; exact i_add x89_4 1
            have lz31 := Int32.le_toInt z31
            have uz31 := Int32.toInt_lt z31
            try replace tz31 : z31.toInt = x89_4.toInt + 1 := by omega
            refine lv_iinc (v := z31) (lv' := [(4, .int z31), (5, .long z30), (0, .ref h), (2, .int x89_2), (3, .int x89_3), (7, .int x89_7)]) S.x S.b d_Tok_number_127 hl (k := 4) rfl (by rw [ez31]; rfl) (by decide) rfl (fun ls hl => ?_)
            refine lv_aload_n S.x S.b d_Tok_number_130 rfl (lv_at hl 2 rfl) ?_
            refine lv_dup S.x S.b d_Tok_number_131 rfl ?_
            refine px_get S k_Tok hT hw 0 0 8 (v := .int (f_89 8)) rfl rfl rfl (by decide) m1_111 d_Tok_number_132 ?_
            refine lv_iconst (v := 1) S.x S.b d_Tok_number_135 (by decide) ?_
            refine lv_iadd S.x S.b d_Tok_number_136 ?_
            have lr32 := Int32.le_toInt (f_89 8)
            have ur32 := Int32.toInt_lt (f_89 8)
            refine lv_topi (fun z33 ez33 => ?_)
            have tz33 : z33.toInt = ((f_89 8).toInt + (1 : Int) + 2147483648) % 4294967296 - 2147483648 := by rw [ez33]; exact i_add (f_89 8) 1
            have lz33 := Int32.le_toInt z33
            have uz33 := Int32.toInt_lt z33
            try replace tz33 : z33.toInt = (f_89 8).toInt + (1 : Int) := by omega
            refine px_put S k_Tok hT hw 0 0 8 rfl rfl (by decide) m1_111 rfl rfl rfl (Nat.le_of_ble_eq_true rfl) d_Tok_number_137 (w' := wd_Tok cs h r (fun _ => some tp) (upd f_89 8 z33) a_89 g) (ps' := [wd_Tok cs h r (fun _ => some tp) (upd f_89 8 z33) a_89 g, [(tp, .inl (cs 1, 2048, .inl tb))]]) rfl rfl (fun H locs hw => ?_)
            refine lv_aload_n S.x S.b d_Tok_number_140 rfl (lv_at hl 2 rfl) ?_
            refine lv_iload_n S.x S.b d_Tok_number_141 rfl (lv_at hl 3 rfl) ?_
            first | refine px_calli (pr := []) (px_runV (As := [.int x89_2]) (rest := []) S (c_t2_digit l D cs h r tp tb g (upd f_89 8 z33) a_89 x89_2  (show TokOk (f_89 7) z33 (f_89 10) (f_89 11) (f_89 12) (f_89 13) (f_89 17) (a_89 4) from ⟨⟨o1, o2⟩, ⟨(oz_b3b25f0e49 tz33 o3), (oz_b18b803a23 nc1 tz33)⟩, ⟨o5, o6⟩, ⟨o7, o8⟩, ⟨o9, o10⟩, ⟨o11, o12⟩, o13, hn4⟩) _) hT (pr := []) (pcs := [wd_Tok cs h r (fun _ => some tp) (upd f_89 8 z33) a_89 g, [(tp, .inl (cs 1, 2048, .inl tb))]]) hw px_X.tt (px_recv hT hw 0 0 rfl rfl rfl) m3_224 m3_221 m3_223 ms_1_14 m1_2 q_Tok_digit ⟨Nat.le_of_ble_eq_true rfl, Nat.le_of_ble_eq_true rfl⟩ hl.1 rfl (Nat.le_of_ble_eq_true rfl) d_Tok_number_142 ⟨Nat.le_of_ble_eq_true rfl, Nat.le_of_ble_eq_true rfl⟩) hw hA (fun v35 p34 H locs hp34 hw => ?_) | refine px_calli (pr := []) (px_runV (As := [.int x89_2]) (rest := []) S (c_t2_digit l D cs h r tp tb g (upd f_89 8 z33) a_89 x89_2  (show TokOk (f_89 7) z33 (f_89 10) (f_89 11) (f_89 12) (f_89 13) (f_89 17) (a_89 4) from ⟨⟨by first | exact o1 | omega, by first | exact o2 | omega⟩, ⟨by first | exact oz_b3b25f0e49 tz33 o3 | omega, by first | exact oz_b18b803a23 nc1 tz33 | omega⟩, ⟨by first | exact o5 | omega, by first | exact o6 | omega⟩, ⟨by first | exact o7 | omega, by first | exact o8 | omega⟩, ⟨by first | exact o9 | omega, by first | exact o10 | omega⟩, ⟨by first | exact o11 | omega, by first | exact o12 | omega⟩, by first | exact o13 | omega, hn4⟩) _) hT (pr := []) (pcs := [wd_Tok cs h r (fun _ => some tp) (upd f_89 8 z33) a_89 g, [(tp, .inl (cs 1, 2048, .inl tb))]]) hw px_X.tt (px_recv hT hw 0 0 rfl rfl rfl) m3_224 m3_221 m3_223 ms_1_14 m1_2 q_Tok_digit ⟨Nat.le_of_ble_eq_true rfl, Nat.le_of_ble_eq_true rfl⟩ hl.1 rfl (Nat.le_of_ble_eq_true rfl) d_Tok_number_142 ⟨Nat.le_of_ble_eq_true rfl, Nat.le_of_ble_eq_true rfl⟩) hw hA (fun v35 p34 H locs hp34 hw => ?_)
            obtain ⟨rfl, e36⟩ := hp34
            have e36 : R_t2_digit tb (upd f_89 8 z33) x89_2 v35 := e36
            have lv35 := Int32.le_toInt v35
            have uv35 := Int32.toInt_lt v35
            refine lv_istore (lv' := [(7, .int v35), (4, .int z31), (5, .long z30), (0, .ref h), (2, .int x89_2), (3, .int x89_3)]) S.x S.b d_Tok_number_145 hl (by decide) rfl (fun ls hl => ?_)
            refine lv_goto (tgt := 89) S.x S.b d_Tok_number_147 (by decide) ?_
            first | exact ih89 (upd f_89 8 z33) a_89 x89_2 x89_3 z31 v35 z30 _ _ ls (show TokOk (f_89 7) z33 (f_89 10) (f_89 11) (f_89 12) (f_89 13) (f_89 17) (a_89 4) from ⟨⟨o1, o2⟩, ⟨(oz_b3b25f0e49 tz33 o3), (oz_b18b803a23 nc1 tz33)⟩, ⟨o5, o6⟩, ⟨o7, o8⟩, ⟨o9, o10⟩, ⟨o11, o12⟩, o13, hn4⟩) (show (f_89 7).toInt = (f 7).toInt from k89_0) (show (f_89 10).toInt = (f 10).toInt from k89_1) (show (f_89 15).toInt = (f 15).toInt from k89_2) (show 0 ≤ z31.toInt from (oz_ae613611c0 tz31 k89_3)) (show (f 8).toInt + z31.toInt ≤ z33.toInt from (oz_efe4b1b452 k89_4 tz31 tz33)) (show Q5 (a_89 5) from hq5) (show K_t2_number_89 tb f a (upd f_89 8 z33) a_89 x89_2 x89_3 z31 v35 z30 from (fun y_f0 y_f1 y_v k hE => k89_6 y_f0 y_f1 y_v (k + 1) (Or.inr (Or.inl ⟨rfl, x89_2, x89_3, x89_4, x89_7, x89_5, rfl, rfl, rfl, rfl, rfl, Or.inr ⟨nc1, Or.inr ⟨nc11, Or.inr ⟨nc21, z29, ez29, z30, ez30, z31, ez31, z33, ez33, v35, e36, hE⟩⟩⟩⟩)))) (show (f_89 7).toInt+9-z33.toInt < (n_89 : Int) from (oz_c735cfbd81 hm tz33)) hw (lv_sub hl [3, 4, 5, 1, 0, 2] rfl) | exact ih89 (upd f_89 8 z33) a_89 x89_2 x89_3 z31 v35 z30 _ _ ls (show TokOk (f_89 7) z33 (f_89 10) (f_89 11) (f_89 12) (f_89 13) (f_89 17) (a_89 4) from ⟨⟨by first | exact o1 | omega, by first | exact o2 | omega⟩, ⟨by first | exact oz_b3b25f0e49 tz33 o3 | omega, by first | exact oz_b18b803a23 nc1 tz33 | omega⟩, ⟨by first | exact o5 | omega, by first | exact o6 | omega⟩, ⟨by first | exact o7 | omega, by first | exact o8 | omega⟩, ⟨by first | exact o9 | omega, by first | exact o10 | omega⟩, ⟨by first | exact o11 | omega, by first | exact o12 | omega⟩, by first | exact o13 | omega, hn4⟩) (show (f_89 7).toInt = (f 7).toInt from by first | exact k89_0 | omega) (show (f_89 10).toInt = (f 10).toInt from by first | exact k89_1 | omega) (show (f_89 15).toInt = (f 15).toInt from by first | exact k89_2 | omega) (show 0 ≤ z31.toInt from by first | exact oz_ae613611c0 tz31 k89_3 | omega) (show (f 8).toInt + z31.toInt ≤ z33.toInt from by first | exact oz_efe4b1b452 k89_4 tz31 tz33 | omega) (show Q5 (a_89 5) from hq5) (show K_t2_number_89 tb f a (upd f_89 8 z33) a_89 x89_2 x89_3 z31 v35 z30 from (fun y_f0 y_f1 y_v k hE => k89_6 y_f0 y_f1 y_v (k + 1) (Or.inr (Or.inl ⟨rfl, x89_2, x89_3, x89_4, x89_7, x89_5, rfl, rfl, rfl, rfl, rfl, Or.inr ⟨nc1, Or.inr ⟨nc11, Or.inr ⟨nc21, z29, ez29, z30, ez30, z31, ez31, z33, ez33, v35, e36, hE⟩⟩⟩⟩)))) (show (f_89 7).toInt+9-z33.toInt < (n_89 : Int) from by first | exact oz_c735cfbd81 hm tz33 | omega) hw (lv_sub hl [3, 4, 5, 1, 0, 2] rfl)
  refine lv_aload_n S.x S.b d_Tok_number_0 rfl (lv_at hl 0 rfl) ?_
  refine lv_aload_n S.x S.b d_Tok_number_1 rfl (lv_at hl 0 rfl) ?_
  refine px_get S k_Tok hT hw 0 0 8 (v := .int (f 8)) rfl rfl rfl (by decide) m1_111 d_Tok_number_2 ?_
  first | refine px_calli (pr := []) (px_runV (As := [.int (f 8)]) (rest := []) S (c_t2_byteAt l D cs h r tp tb g f a (f 8)  (show TokOk (f 7) (f 8) (f 10) (f 11) (f 12) (f 13) (f 17) (a 4) from ⟨⟨o1, o2⟩, ⟨o3, o4⟩, ⟨o5, o6⟩, ⟨o7, o8⟩, ⟨o9, o10⟩, ⟨o11, o12⟩, o13, hn4⟩) _) hT (pr := []) (pcs := [wd_Tok cs h r (fun _ => some tp) f a g, [(tp, .inl (cs 1, 2048, .inl tb))]]) hw px_X.tt (px_recv hT hw 0 0 rfl rfl rfl) m3_186 m3_183 m3_185 ms_1_6 m1_2 q_Tok_byteAt ⟨Nat.le_of_ble_eq_true rfl, Nat.le_of_ble_eq_true rfl⟩ hl.1 rfl (Nat.le_of_ble_eq_true rfl) d_Tok_number_5 ⟨Nat.le_of_ble_eq_true rfl, Nat.le_of_ble_eq_true rfl⟩) hw hA (fun v38 p37 H locs hp37 hw => ?_) | refine px_calli (pr := []) (px_runV (As := [.int (f 8)]) (rest := []) S (c_t2_byteAt l D cs h r tp tb g f a (f 8)  (show TokOk (f 7) (f 8) (f 10) (f 11) (f 12) (f 13) (f 17) (a 4) from ⟨⟨by first | exact o1 | omega, by first | exact o2 | omega⟩, ⟨by first | exact o3 | omega, by first | exact o4 | omega⟩, ⟨by first | exact o5 | omega, by first | exact o6 | omega⟩, ⟨by first | exact o7 | omega, by first | exact o8 | omega⟩, ⟨by first | exact o9 | omega, by first | exact o10 | omega⟩, ⟨by first | exact o11 | omega, by first | exact o12 | omega⟩, by first | exact o13 | omega, hn4⟩) _) hT (pr := []) (pcs := [wd_Tok cs h r (fun _ => some tp) f a g, [(tp, .inl (cs 1, 2048, .inl tb))]]) hw px_X.tt (px_recv hT hw 0 0 rfl rfl rfl) m3_186 m3_183 m3_185 ms_1_6 m1_2 q_Tok_byteAt ⟨Nat.le_of_ble_eq_true rfl, Nat.le_of_ble_eq_true rfl⟩ hl.1 rfl (Nat.le_of_ble_eq_true rfl) d_Tok_number_5 ⟨Nat.le_of_ble_eq_true rfl, Nat.le_of_ble_eq_true rfl⟩) hw hA (fun v38 p37 H locs hp37 hw => ?_)
  obtain ⟨rfl, e39, e40, e41, e42, e43⟩ := hp37
  have e39 : -1 ≤ v38.toInt := e39
  have e40 : v38.toInt ≤ 255 := e40
  have e41 : 0 ≤ v38.toInt → 0 ≤ (f 8).toInt ∧ (f 8).toInt < (f 7).toInt := e41
  have e42 : By tb (f 7) (f 8) v38 := e42
  have e43 : R_t2_byteAt tb f (f 8) v38 := e43
  have lv38 := Int32.le_toInt v38
  have uv38 := Int32.toInt_lt v38
  refine lv_bipush (v := 48) S.x S.b d_Tok_number_8 (by decide) ?_
  refine lv_icmp_ne (tgt := 32) S.x S.b d_Tok_number_10 (by decide) (fun c44 => ?_) (fun c44 => ?_)
  · have nc44 : ¬ v38.toInt = (48 : Int) := mt (i_eq (x := v38) (y := 48)).mpr c44
    refine lv_iconst (v := 0) S.x S.b d_Tok_number_32 (by decide) ?_
    refine lv_istore_n (lv' := [(1, .int 0), (0, .ref h)]) S.x S.b d_Tok_number_33 rfl hl (by decide) rfl (fun ls hl => ?_)
    refine lv_iload_n S.x S.b d_Tok_number_34 rfl (lv_at hl 0 rfl) ?_
    refine lv_if_eq (tgt := 43) S.x S.b d_Tok_number_35 (by decide) (fun c46 => ?_) (fun c46 => ?_)
    ·
      refine lv_bipush (v := 10) S.x S.b d_Tok_number_43 (by decide) ?_
      refine lv_istore_n (lv' := [(2, .int 10), (1, .int 0), (0, .ref h)]) S.x S.b d_Tok_number_45 rfl hl (by decide) rfl (fun ls hl => ?_)
      refine lv_iload_n S.x S.b d_Tok_number_46 rfl (lv_at hl 1 rfl) ?_
      refine lv_if_eq (tgt := 55) S.x S.b d_Tok_number_47 (by decide) (fun c47 => ?_) (fun c47 => ?_)
      ·
        refine lv_bipush (v := 10) S.x S.b d_Tok_number_55 (by decide) ?_
        refine lv_istore_n (lv' := [(3, .int 10), (2, .int 10), (1, .int 0), (0, .ref h)]) S.x S.b d_Tok_number_57 rfl hl (by decide) rfl (fun ls hl => ?_)
        refine lv_iconst (v := 0) S.x S.b d_Tok_number_58 (by decide) ?_
        refine lv_istore (lv' := [(4, .int 0), (3, .int 10), (2, .int 10), (1, .int 0), (0, .ref h)]) S.x S.b d_Tok_number_59 hl (by decide) rfl (fun ls hl => ?_)
        refine lv_lconst (v := 0) S.x S.b d_Tok_number_61 (by decide) ?_
        refine lv_lstore (lv' := [(5, .long 0), (4, .int 0), (3, .int 10), (2, .int 10), (1, .int 0), (0, .ref h)]) S.x S.b d_Tok_number_62 hl (by decide) rfl (fun ls hl => ?_)
        refine lv_aload_n S.x S.b d_Tok_number_64 rfl (lv_at hl 5 rfl) ?_
        refine lv_dup S.x S.b d_Tok_number_65 rfl ?_
        refine px_get S k_Tok hT hw 0 0 8 (v := .int (f 8)) rfl rfl rfl (by decide) m1_111 d_Tok_number_66 ?_
        refine lv_iload_n S.x S.b d_Tok_number_69 rfl (lv_at hl 4 rfl) ?_
        refine lv_if_eq (tgt := 77) S.x S.b d_Tok_number_70 (by decide) (fun c48 => ?_) (fun c48 => ?_)
        ·
          refine lv_iconst (v := 0) S.x S.b d_Tok_number_77 (by decide) ?_
          refine lv_iadd S.x S.b d_Tok_number_78 ?_
          have lr49 := Int32.le_toInt (f 8)
          have ur49 := Int32.toInt_lt (f 8)
          refine lv_topi (fun z50 ez50 => ?_)
          have tz50 : z50.toInt = ((f 8).toInt + (0 : Int) + 2147483648) % 4294967296 - 2147483648 := by rw [ez50]; exact i_add (f 8) 0
          have lz50 := Int32.le_toInt z50
          have uz50 := Int32.toInt_lt z50
          try replace tz50 : z50.toInt = (f 8).toInt + (0 : Int) := by omega
          refine px_put S k_Tok hT hw 0 0 8 rfl rfl (by decide) m1_111 rfl rfl rfl (Nat.le_of_ble_eq_true rfl) d_Tok_number_79 (w' := wd_Tok cs h r (fun _ => some tp) (upd f 8 z50) a g) (ps' := [wd_Tok cs h r (fun _ => some tp) (upd f 8 z50) a g, [(tp, .inl (cs 1, 2048, .inl tb))]]) rfl rfl (fun H locs hw => ?_)
          refine lv_aload_n S.x S.b d_Tok_number_82 rfl (lv_at hl 5 rfl) ?_
          refine lv_iload_n S.x S.b d_Tok_number_83 rfl (lv_at hl 3 rfl) ?_
          first | refine px_calli (pr := []) (px_runV (As := [.int 10]) (rest := []) S (c_t2_digit l D cs h r tp tb g (upd f 8 z50) a 10  (show TokOk (f 7) z50 (f 10) (f 11) (f 12) (f 13) (f 17) (a 4) from ⟨⟨o1, o2⟩, ⟨(oz_6599b5c69d tz50 o3), (oz_336516993b o4 tz50)⟩, ⟨o5, o6⟩, ⟨o7, o8⟩, ⟨o9, o10⟩, ⟨o11, o12⟩, o13, hn4⟩) _) hT (pr := []) (pcs := [wd_Tok cs h r (fun _ => some tp) (upd f 8 z50) a g, [(tp, .inl (cs 1, 2048, .inl tb))]]) hw px_X.tt (px_recv hT hw 0 0 rfl rfl rfl) m3_224 m3_221 m3_223 ms_1_14 m1_2 q_Tok_digit ⟨Nat.le_of_ble_eq_true rfl, Nat.le_of_ble_eq_true rfl⟩ hl.1 rfl (Nat.le_of_ble_eq_true rfl) d_Tok_number_84 ⟨Nat.le_of_ble_eq_true rfl, Nat.le_of_ble_eq_true rfl⟩) hw hA (fun v52 p51 H locs hp51 hw => ?_) | refine px_calli (pr := []) (px_runV (As := [.int 10]) (rest := []) S (c_t2_digit l D cs h r tp tb g (upd f 8 z50) a 10  (show TokOk (f 7) z50 (f 10) (f 11) (f 12) (f 13) (f 17) (a 4) from ⟨⟨by first | exact o1 | omega, by first | exact o2 | omega⟩, ⟨by first | exact oz_6599b5c69d tz50 o3 | omega, by first | exact oz_336516993b o4 tz50 | omega⟩, ⟨by first | exact o5 | omega, by first | exact o6 | omega⟩, ⟨by first | exact o7 | omega, by first | exact o8 | omega⟩, ⟨by first | exact o9 | omega, by first | exact o10 | omega⟩, ⟨by first | exact o11 | omega, by first | exact o12 | omega⟩, by first | exact o13 | omega, hn4⟩) _) hT (pr := []) (pcs := [wd_Tok cs h r (fun _ => some tp) (upd f 8 z50) a g, [(tp, .inl (cs 1, 2048, .inl tb))]]) hw px_X.tt (px_recv hT hw 0 0 rfl rfl rfl) m3_224 m3_221 m3_223 ms_1_14 m1_2 q_Tok_digit ⟨Nat.le_of_ble_eq_true rfl, Nat.le_of_ble_eq_true rfl⟩ hl.1 rfl (Nat.le_of_ble_eq_true rfl) d_Tok_number_84 ⟨Nat.le_of_ble_eq_true rfl, Nat.le_of_ble_eq_true rfl⟩) hw hA (fun v52 p51 H locs hp51 hw => ?_)
          obtain ⟨rfl, e53⟩ := hp51
          have e53 : R_t2_digit tb (upd f 8 z50) (10 : Int32) v52 := e53
          have lv52 := Int32.le_toInt v52
          have uv52 := Int32.toInt_lt v52
          refine lv_istore (lv' := [(7, .int v52), (5, .long 0), (4, .int 0), (3, .int 10), (2, .int 10), (1, .int 0), (0, .ref h)]) S.x S.b d_Tok_number_87 hl (by decide) rfl (fun ls hl => ?_)
          first | exact J89 (((f 7).toInt+9-z50.toInt).toNat + 1) (upd f 8 z50) a (10 : Int32) (10 : Int32) (0 : Int32) v52 0 _ _ ls (show TokOk (f 7) z50 (f 10) (f 11) (f 12) (f 13) (f 17) (a 4) from ⟨⟨o1, o2⟩, ⟨(oz_6599b5c69d tz50 o3), (oz_336516993b o4 tz50)⟩, ⟨o5, o6⟩, ⟨o7, o8⟩, ⟨o9, o10⟩, ⟨o11, o12⟩, o13, hn4⟩) (show (f 7).toInt = (f 7).toInt from rfl) (show (f 10).toInt = (f 10).toInt from rfl) (show (f 15).toInt = (f 15).toInt from rfl) (show 0 ≤ (0 : Int) from oz_5a341f00aa) (show (f 8).toInt + (0 : Int) ≤ z50.toInt from (oz_58f0e89f84 tz50)) (show Q5 (a 5) from hq5) (show K_t2_number_89 tb f a (upd f 8 z50) a 10 10 0 v52 0 from (fun y_f0 y_f1 y_v k hE => Exists.intro (k + 1) (Or.inl ⟨rfl, v38, e43, Or.inl ⟨nc44, z50, ez50, v52, e53, hE⟩⟩))) (show (f 7).toInt+9-z50.toInt < (((((f 7).toInt+9-z50.toInt).toNat + 1 : Nat) : Int) : Int) from oz_natlt) hw (lv_sub hl [6, 4, 3, 2, 0, 1] rfl) | exact J89 (((f 7).toInt+9-z50.toInt).toNat + 1) (upd f 8 z50) a (10 : Int32) (10 : Int32) (0 : Int32) v52 0 _ _ ls (show TokOk (f 7) z50 (f 10) (f 11) (f 12) (f 13) (f 17) (a 4) from ⟨⟨by first | exact o1 | omega, by first | exact o2 | omega⟩, ⟨by first | exact oz_6599b5c69d tz50 o3 | omega, by first | exact oz_336516993b o4 tz50 | omega⟩, ⟨by first | exact o5 | omega, by first | exact o6 | omega⟩, ⟨by first | exact o7 | omega, by first | exact o8 | omega⟩, ⟨by first | exact o9 | omega, by first | exact o10 | omega⟩, ⟨by first | exact o11 | omega, by first | exact o12 | omega⟩, by first | exact o13 | omega, hn4⟩) (show (f 7).toInt = (f 7).toInt from rfl) (show (f 10).toInt = (f 10).toInt from rfl) (show (f 15).toInt = (f 15).toInt from rfl) (show 0 ≤ (0 : Int) from by first | exact oz_5a341f00aa | omega) (show (f 8).toInt + (0 : Int) ≤ z50.toInt from by first | exact oz_58f0e89f84 tz50 | omega) (show Q5 (a 5) from hq5) (show K_t2_number_89 tb f a (upd f 8 z50) a 10 10 0 v52 0 from (fun y_f0 y_f1 y_v k hE => Exists.intro (k + 1) (Or.inl ⟨rfl, v38, e43, Or.inl ⟨nc44, z50, ez50, v52, e53, hE⟩⟩))) (show (f 7).toInt+9-z50.toInt < (((((f 7).toInt+9-z50.toInt).toNat + 1 : Nat) : Int) : Int) from by first | exact oz_natlt | omega) hw (lv_sub hl [6, 4, 3, 2, 0, 1] rfl)
        · exact absurd c48 (by decide)
      · exact absurd c47 (by decide)
    · exact absurd c46 (by decide)
  · have nc44 : v38.toInt = (48 : Int) := (i_eq (x := v38) (y := 48)).mp c44
    refine lv_aload_n S.x S.b d_Tok_number_13 rfl (lv_at hl 0 rfl) ?_
    refine lv_aload_n S.x S.b d_Tok_number_14 rfl (lv_at hl 0 rfl) ?_
    refine px_get S k_Tok hT hw 0 0 8 (v := .int (f 8)) rfl rfl rfl (by decide) m1_111 d_Tok_number_15 ?_
    refine lv_iconst (v := 1) S.x S.b d_Tok_number_18 (by decide) ?_
    refine lv_iadd S.x S.b d_Tok_number_19 ?_
    have lr54 := Int32.le_toInt (f 8)
    have ur54 := Int32.toInt_lt (f 8)
    refine lv_topi (fun z55 ez55 => ?_)
    have tz55 : z55.toInt = ((f 8).toInt + (1 : Int) + 2147483648) % 4294967296 - 2147483648 := by rw [ez55]; exact i_add (f 8) 1
    have lz55 := Int32.le_toInt z55
    have uz55 := Int32.toInt_lt z55
    try replace tz55 : z55.toInt = (f 8).toInt + (1 : Int) := by omega
    first | refine px_calli (pr := []) (px_runV (As := [.int z55]) (rest := []) S (c_t2_byteAt l D cs h r tp tb g f a z55  (show TokOk (f 7) (f 8) (f 10) (f 11) (f 12) (f 13) (f 17) (a 4) from ⟨⟨o1, o2⟩, ⟨o3, o4⟩, ⟨o5, o6⟩, ⟨o7, o8⟩, ⟨o9, o10⟩, ⟨o11, o12⟩, o13, hn4⟩) _) hT (pr := []) (pcs := [wd_Tok cs h r (fun _ => some tp) f a g, [(tp, .inl (cs 1, 2048, .inl tb))]]) hw px_X.tt (px_recv hT hw 0 0 rfl rfl rfl) m3_186 m3_183 m3_185 ms_1_6 m1_2 q_Tok_byteAt ⟨Nat.le_of_ble_eq_true rfl, Nat.le_of_ble_eq_true rfl⟩ hl.1 rfl (Nat.le_of_ble_eq_true rfl) d_Tok_number_20 ⟨Nat.le_of_ble_eq_true rfl, Nat.le_of_ble_eq_true rfl⟩) hw hA (fun v57 p56 H locs hp56 hw => ?_) | refine px_calli (pr := []) (px_runV (As := [.int z55]) (rest := []) S (c_t2_byteAt l D cs h r tp tb g f a z55  (show TokOk (f 7) (f 8) (f 10) (f 11) (f 12) (f 13) (f 17) (a 4) from ⟨⟨by first | exact o1 | omega, by first | exact o2 | omega⟩, ⟨by first | exact o3 | omega, by first | exact o4 | omega⟩, ⟨by first | exact o5 | omega, by first | exact o6 | omega⟩, ⟨by first | exact o7 | omega, by first | exact o8 | omega⟩, ⟨by first | exact o9 | omega, by first | exact o10 | omega⟩, ⟨by first | exact o11 | omega, by first | exact o12 | omega⟩, by first | exact o13 | omega, hn4⟩) _) hT (pr := []) (pcs := [wd_Tok cs h r (fun _ => some tp) f a g, [(tp, .inl (cs 1, 2048, .inl tb))]]) hw px_X.tt (px_recv hT hw 0 0 rfl rfl rfl) m3_186 m3_183 m3_185 ms_1_6 m1_2 q_Tok_byteAt ⟨Nat.le_of_ble_eq_true rfl, Nat.le_of_ble_eq_true rfl⟩ hl.1 rfl (Nat.le_of_ble_eq_true rfl) d_Tok_number_20 ⟨Nat.le_of_ble_eq_true rfl, Nat.le_of_ble_eq_true rfl⟩) hw hA (fun v57 p56 H locs hp56 hw => ?_)
    obtain ⟨rfl, e58, e59, e60, e61, e62⟩ := hp56
    have e58 : -1 ≤ v57.toInt := e58
    have e59 : v57.toInt ≤ 255 := e59
    have e60 : 0 ≤ v57.toInt → 0 ≤ z55.toInt ∧ z55.toInt < (f 7).toInt := e60
    have e61 : By tb (f 7) z55 v57 := e61
    have e62 : R_t2_byteAt tb f z55 v57 := e62
    have lv57 := Int32.le_toInt v57
    have uv57 := Int32.toInt_lt v57
    refine lv_bipush (v := 120) S.x S.b d_Tok_number_23 (by decide) ?_
    refine lv_icmp_ne (tgt := 32) S.x S.b d_Tok_number_25 (by decide) (fun c63 => ?_) (fun c63 => ?_)
    · have nc63 : ¬ v57.toInt = (120 : Int) := mt (i_eq (x := v57) (y := 120)).mpr c63
      refine lv_iconst (v := 0) S.x S.b d_Tok_number_32 (by decide) ?_
      refine lv_istore_n (lv' := [(1, .int 0), (0, .ref h)]) S.x S.b d_Tok_number_33 rfl hl (by decide) rfl (fun ls hl => ?_)
      refine lv_iload_n S.x S.b d_Tok_number_34 rfl (lv_at hl 0 rfl) ?_
      refine lv_if_eq (tgt := 43) S.x S.b d_Tok_number_35 (by decide) (fun c65 => ?_) (fun c65 => ?_)
      ·
        refine lv_bipush (v := 10) S.x S.b d_Tok_number_43 (by decide) ?_
        refine lv_istore_n (lv' := [(2, .int 10), (1, .int 0), (0, .ref h)]) S.x S.b d_Tok_number_45 rfl hl (by decide) rfl (fun ls hl => ?_)
        refine lv_iload_n S.x S.b d_Tok_number_46 rfl (lv_at hl 1 rfl) ?_
        refine lv_if_eq (tgt := 55) S.x S.b d_Tok_number_47 (by decide) (fun c66 => ?_) (fun c66 => ?_)
        ·
          refine lv_bipush (v := 10) S.x S.b d_Tok_number_55 (by decide) ?_
          refine lv_istore_n (lv' := [(3, .int 10), (2, .int 10), (1, .int 0), (0, .ref h)]) S.x S.b d_Tok_number_57 rfl hl (by decide) rfl (fun ls hl => ?_)
          refine lv_iconst (v := 0) S.x S.b d_Tok_number_58 (by decide) ?_
          refine lv_istore (lv' := [(4, .int 0), (3, .int 10), (2, .int 10), (1, .int 0), (0, .ref h)]) S.x S.b d_Tok_number_59 hl (by decide) rfl (fun ls hl => ?_)
          refine lv_lconst (v := 0) S.x S.b d_Tok_number_61 (by decide) ?_
          refine lv_lstore (lv' := [(5, .long 0), (4, .int 0), (3, .int 10), (2, .int 10), (1, .int 0), (0, .ref h)]) S.x S.b d_Tok_number_62 hl (by decide) rfl (fun ls hl => ?_)
          refine lv_aload_n S.x S.b d_Tok_number_64 rfl (lv_at hl 5 rfl) ?_
          refine lv_dup S.x S.b d_Tok_number_65 rfl ?_
          refine px_get S k_Tok hT hw 0 0 8 (v := .int (f 8)) rfl rfl rfl (by decide) m1_111 d_Tok_number_66 ?_
          refine lv_iload_n S.x S.b d_Tok_number_69 rfl (lv_at hl 4 rfl) ?_
          refine lv_if_eq (tgt := 77) S.x S.b d_Tok_number_70 (by decide) (fun c67 => ?_) (fun c67 => ?_)
          ·
            refine lv_iconst (v := 0) S.x S.b d_Tok_number_77 (by decide) ?_
            refine lv_iadd S.x S.b d_Tok_number_78 ?_
            have lr68 := Int32.le_toInt (f 8)
            have ur68 := Int32.toInt_lt (f 8)
            refine lv_topi (fun z69 ez69 => ?_)
            have tz69 : z69.toInt = ((f 8).toInt + (0 : Int) + 2147483648) % 4294967296 - 2147483648 := by rw [ez69]; exact i_add (f 8) 0
            have lz69 := Int32.le_toInt z69
            have uz69 := Int32.toInt_lt z69
            try replace tz69 : z69.toInt = (f 8).toInt + (0 : Int) := by omega
            refine px_put S k_Tok hT hw 0 0 8 rfl rfl (by decide) m1_111 rfl rfl rfl (Nat.le_of_ble_eq_true rfl) d_Tok_number_79 (w' := wd_Tok cs h r (fun _ => some tp) (upd f 8 z69) a g) (ps' := [wd_Tok cs h r (fun _ => some tp) (upd f 8 z69) a g, [(tp, .inl (cs 1, 2048, .inl tb))]]) rfl rfl (fun H locs hw => ?_)
            refine lv_aload_n S.x S.b d_Tok_number_82 rfl (lv_at hl 5 rfl) ?_
            refine lv_iload_n S.x S.b d_Tok_number_83 rfl (lv_at hl 3 rfl) ?_
            first | refine px_calli (pr := []) (px_runV (As := [.int 10]) (rest := []) S (c_t2_digit l D cs h r tp tb g (upd f 8 z69) a 10  (show TokOk (f 7) z69 (f 10) (f 11) (f 12) (f 13) (f 17) (a 4) from ⟨⟨o1, o2⟩, ⟨(oz_6599b5c69d tz69 o3), (oz_336516993b o4 tz69)⟩, ⟨o5, o6⟩, ⟨o7, o8⟩, ⟨o9, o10⟩, ⟨o11, o12⟩, o13, hn4⟩) _) hT (pr := []) (pcs := [wd_Tok cs h r (fun _ => some tp) (upd f 8 z69) a g, [(tp, .inl (cs 1, 2048, .inl tb))]]) hw px_X.tt (px_recv hT hw 0 0 rfl rfl rfl) m3_224 m3_221 m3_223 ms_1_14 m1_2 q_Tok_digit ⟨Nat.le_of_ble_eq_true rfl, Nat.le_of_ble_eq_true rfl⟩ hl.1 rfl (Nat.le_of_ble_eq_true rfl) d_Tok_number_84 ⟨Nat.le_of_ble_eq_true rfl, Nat.le_of_ble_eq_true rfl⟩) hw hA (fun v71 p70 H locs hp70 hw => ?_) | refine px_calli (pr := []) (px_runV (As := [.int 10]) (rest := []) S (c_t2_digit l D cs h r tp tb g (upd f 8 z69) a 10  (show TokOk (f 7) z69 (f 10) (f 11) (f 12) (f 13) (f 17) (a 4) from ⟨⟨by first | exact o1 | omega, by first | exact o2 | omega⟩, ⟨by first | exact oz_6599b5c69d tz69 o3 | omega, by first | exact oz_336516993b o4 tz69 | omega⟩, ⟨by first | exact o5 | omega, by first | exact o6 | omega⟩, ⟨by first | exact o7 | omega, by first | exact o8 | omega⟩, ⟨by first | exact o9 | omega, by first | exact o10 | omega⟩, ⟨by first | exact o11 | omega, by first | exact o12 | omega⟩, by first | exact o13 | omega, hn4⟩) _) hT (pr := []) (pcs := [wd_Tok cs h r (fun _ => some tp) (upd f 8 z69) a g, [(tp, .inl (cs 1, 2048, .inl tb))]]) hw px_X.tt (px_recv hT hw 0 0 rfl rfl rfl) m3_224 m3_221 m3_223 ms_1_14 m1_2 q_Tok_digit ⟨Nat.le_of_ble_eq_true rfl, Nat.le_of_ble_eq_true rfl⟩ hl.1 rfl (Nat.le_of_ble_eq_true rfl) d_Tok_number_84 ⟨Nat.le_of_ble_eq_true rfl, Nat.le_of_ble_eq_true rfl⟩) hw hA (fun v71 p70 H locs hp70 hw => ?_)
            obtain ⟨rfl, e72⟩ := hp70
            have e72 : R_t2_digit tb (upd f 8 z69) (10 : Int32) v71 := e72
            have lv71 := Int32.le_toInt v71
            have uv71 := Int32.toInt_lt v71
            refine lv_istore (lv' := [(7, .int v71), (5, .long 0), (4, .int 0), (3, .int 10), (2, .int 10), (1, .int 0), (0, .ref h)]) S.x S.b d_Tok_number_87 hl (by decide) rfl (fun ls hl => ?_)
            first | exact J89 (((f 7).toInt+9-z69.toInt).toNat + 1) (upd f 8 z69) a (10 : Int32) (10 : Int32) (0 : Int32) v71 0 _ _ ls (show TokOk (f 7) z69 (f 10) (f 11) (f 12) (f 13) (f 17) (a 4) from ⟨⟨o1, o2⟩, ⟨(oz_6599b5c69d tz69 o3), (oz_336516993b o4 tz69)⟩, ⟨o5, o6⟩, ⟨o7, o8⟩, ⟨o9, o10⟩, ⟨o11, o12⟩, o13, hn4⟩) (show (f 7).toInt = (f 7).toInt from rfl) (show (f 10).toInt = (f 10).toInt from rfl) (show (f 15).toInt = (f 15).toInt from rfl) (show 0 ≤ (0 : Int) from oz_5a341f00aa) (show (f 8).toInt + (0 : Int) ≤ z69.toInt from (oz_58f0e89f84 tz69)) (show Q5 (a 5) from hq5) (show K_t2_number_89 tb f a (upd f 8 z69) a 10 10 0 v71 0 from (fun y_f0 y_f1 y_v k hE => Exists.intro (k + 1) (Or.inl ⟨rfl, v38, e43, Or.inr ⟨nc44, z55, ez55, v57, e62, Or.inl ⟨nc63, z69, ez69, v71, e72, hE⟩⟩⟩))) (show (f 7).toInt+9-z69.toInt < (((((f 7).toInt+9-z69.toInt).toNat + 1 : Nat) : Int) : Int) from oz_natlt) hw (lv_sub hl [6, 4, 3, 2, 0, 1] rfl) | exact J89 (((f 7).toInt+9-z69.toInt).toNat + 1) (upd f 8 z69) a (10 : Int32) (10 : Int32) (0 : Int32) v71 0 _ _ ls (show TokOk (f 7) z69 (f 10) (f 11) (f 12) (f 13) (f 17) (a 4) from ⟨⟨by first | exact o1 | omega, by first | exact o2 | omega⟩, ⟨by first | exact oz_6599b5c69d tz69 o3 | omega, by first | exact oz_336516993b o4 tz69 | omega⟩, ⟨by first | exact o5 | omega, by first | exact o6 | omega⟩, ⟨by first | exact o7 | omega, by first | exact o8 | omega⟩, ⟨by first | exact o9 | omega, by first | exact o10 | omega⟩, ⟨by first | exact o11 | omega, by first | exact o12 | omega⟩, by first | exact o13 | omega, hn4⟩) (show (f 7).toInt = (f 7).toInt from rfl) (show (f 10).toInt = (f 10).toInt from rfl) (show (f 15).toInt = (f 15).toInt from rfl) (show 0 ≤ (0 : Int) from by first | exact oz_5a341f00aa | omega) (show (f 8).toInt + (0 : Int) ≤ z69.toInt from by first | exact oz_58f0e89f84 tz69 | omega) (show Q5 (a 5) from hq5) (show K_t2_number_89 tb f a (upd f 8 z69) a 10 10 0 v71 0 from (fun y_f0 y_f1 y_v k hE => Exists.intro (k + 1) (Or.inl ⟨rfl, v38, e43, Or.inr ⟨nc44, z55, ez55, v57, e62, Or.inl ⟨nc63, z69, ez69, v71, e72, hE⟩⟩⟩))) (show (f 7).toInt+9-z69.toInt < (((((f 7).toInt+9-z69.toInt).toNat + 1 : Nat) : Int) : Int) from by first | exact oz_natlt | omega) hw (lv_sub hl [6, 4, 3, 2, 0, 1] rfl)
          · exact absurd c67 (by decide)
        · exact absurd c66 (by decide)
      · exact absurd c65 (by decide)
    · have nc63 : v57.toInt = (120 : Int) := (i_eq (x := v57) (y := 120)).mp c63
      refine lv_iconst (v := 1) S.x S.b d_Tok_number_28 (by decide) ?_
      refine lv_goto (tgt := 33) S.x S.b d_Tok_number_29 (by decide) ?_
      refine lv_istore_n (lv' := [(1, .int 1), (0, .ref h)]) S.x S.b d_Tok_number_33 rfl hl (by decide) rfl (fun ls hl => ?_)
      refine lv_iload_n S.x S.b d_Tok_number_34 rfl (lv_at hl 0 rfl) ?_
      refine lv_if_eq (tgt := 43) S.x S.b d_Tok_number_35 (by decide) (fun c73 => ?_) (fun c73 => ?_)
      · exact absurd c73 (by decide)
      ·
        refine lv_bipush (v := 16) S.x S.b d_Tok_number_38 (by decide) ?_
        refine lv_goto (tgt := 45) S.x S.b d_Tok_number_40 (by decide) ?_
        refine lv_istore_n (lv' := [(2, .int 16), (1, .int 1), (0, .ref h)]) S.x S.b d_Tok_number_45 rfl hl (by decide) rfl (fun ls hl => ?_)
        refine lv_iload_n S.x S.b d_Tok_number_46 rfl (lv_at hl 1 rfl) ?_
        refine lv_if_eq (tgt := 55) S.x S.b d_Tok_number_47 (by decide) (fun c74 => ?_) (fun c74 => ?_)
        · exact absurd c74 (by decide)
        ·
          refine lv_bipush (v := 8) S.x S.b d_Tok_number_50 (by decide) ?_
          refine lv_goto (tgt := 57) S.x S.b d_Tok_number_52 (by decide) ?_
          refine lv_istore_n (lv' := [(3, .int 8), (2, .int 16), (1, .int 1), (0, .ref h)]) S.x S.b d_Tok_number_57 rfl hl (by decide) rfl (fun ls hl => ?_)
          refine lv_iconst (v := 0) S.x S.b d_Tok_number_58 (by decide) ?_
          refine lv_istore (lv' := [(4, .int 0), (3, .int 8), (2, .int 16), (1, .int 1), (0, .ref h)]) S.x S.b d_Tok_number_59 hl (by decide) rfl (fun ls hl => ?_)
          refine lv_lconst (v := 0) S.x S.b d_Tok_number_61 (by decide) ?_
          refine lv_lstore (lv' := [(5, .long 0), (4, .int 0), (3, .int 8), (2, .int 16), (1, .int 1), (0, .ref h)]) S.x S.b d_Tok_number_62 hl (by decide) rfl (fun ls hl => ?_)
          refine lv_aload_n S.x S.b d_Tok_number_64 rfl (lv_at hl 5 rfl) ?_
          refine lv_dup S.x S.b d_Tok_number_65 rfl ?_
          refine px_get S k_Tok hT hw 0 0 8 (v := .int (f 8)) rfl rfl rfl (by decide) m1_111 d_Tok_number_66 ?_
          refine lv_iload_n S.x S.b d_Tok_number_69 rfl (lv_at hl 4 rfl) ?_
          refine lv_if_eq (tgt := 77) S.x S.b d_Tok_number_70 (by decide) (fun c75 => ?_) (fun c75 => ?_)
          · exact absurd c75 (by decide)
          ·
            refine lv_iconst (v := 2) S.x S.b d_Tok_number_73 (by decide) ?_
            refine lv_goto (tgt := 78) S.x S.b d_Tok_number_74 (by decide) ?_
            refine lv_iadd S.x S.b d_Tok_number_78 ?_
            have lr76 := Int32.le_toInt (f 8)
            have ur76 := Int32.toInt_lt (f 8)
            refine lv_topi (fun z77 ez77 => ?_)
            have tz77 : z77.toInt = ((f 8).toInt + (2 : Int) + 2147483648) % 4294967296 - 2147483648 := by rw [ez77]; exact i_add (f 8) 2
            have lz77 := Int32.le_toInt z77
            have uz77 := Int32.toInt_lt z77
            try replace tz77 : z77.toInt = (f 8).toInt + (2 : Int) := by omega
            refine px_put S k_Tok hT hw 0 0 8 rfl rfl (by decide) m1_111 rfl rfl rfl (Nat.le_of_ble_eq_true rfl) d_Tok_number_79 (w' := wd_Tok cs h r (fun _ => some tp) (upd f 8 z77) a g) (ps' := [wd_Tok cs h r (fun _ => some tp) (upd f 8 z77) a g, [(tp, .inl (cs 1, 2048, .inl tb))]]) rfl rfl (fun H locs hw => ?_)
            refine lv_aload_n S.x S.b d_Tok_number_82 rfl (lv_at hl 5 rfl) ?_
            refine lv_iload_n S.x S.b d_Tok_number_83 rfl (lv_at hl 3 rfl) ?_
            first | refine px_calli (pr := []) (px_runV (As := [.int 16]) (rest := []) S (c_t2_digit l D cs h r tp tb g (upd f 8 z77) a 16  (show TokOk (f 7) z77 (f 10) (f 11) (f 12) (f 13) (f 17) (a 4) from ⟨⟨o1, o2⟩, ⟨(oz_6c4a1e09c3 tz77 o3), (oz_923e74ff93 tz77 nc63 e60 tz55)⟩, ⟨o5, o6⟩, ⟨o7, o8⟩, ⟨o9, o10⟩, ⟨o11, o12⟩, o13, hn4⟩) _) hT (pr := []) (pcs := [wd_Tok cs h r (fun _ => some tp) (upd f 8 z77) a g, [(tp, .inl (cs 1, 2048, .inl tb))]]) hw px_X.tt (px_recv hT hw 0 0 rfl rfl rfl) m3_224 m3_221 m3_223 ms_1_14 m1_2 q_Tok_digit ⟨Nat.le_of_ble_eq_true rfl, Nat.le_of_ble_eq_true rfl⟩ hl.1 rfl (Nat.le_of_ble_eq_true rfl) d_Tok_number_84 ⟨Nat.le_of_ble_eq_true rfl, Nat.le_of_ble_eq_true rfl⟩) hw hA (fun v79 p78 H locs hp78 hw => ?_) | refine px_calli (pr := []) (px_runV (As := [.int 16]) (rest := []) S (c_t2_digit l D cs h r tp tb g (upd f 8 z77) a 16  (show TokOk (f 7) z77 (f 10) (f 11) (f 12) (f 13) (f 17) (a 4) from ⟨⟨by first | exact o1 | omega, by first | exact o2 | omega⟩, ⟨by first | exact oz_6c4a1e09c3 tz77 o3 | omega, by first | exact oz_923e74ff93 tz77 nc63 e60 tz55 | omega⟩, ⟨by first | exact o5 | omega, by first | exact o6 | omega⟩, ⟨by first | exact o7 | omega, by first | exact o8 | omega⟩, ⟨by first | exact o9 | omega, by first | exact o10 | omega⟩, ⟨by first | exact o11 | omega, by first | exact o12 | omega⟩, by first | exact o13 | omega, hn4⟩) _) hT (pr := []) (pcs := [wd_Tok cs h r (fun _ => some tp) (upd f 8 z77) a g, [(tp, .inl (cs 1, 2048, .inl tb))]]) hw px_X.tt (px_recv hT hw 0 0 rfl rfl rfl) m3_224 m3_221 m3_223 ms_1_14 m1_2 q_Tok_digit ⟨Nat.le_of_ble_eq_true rfl, Nat.le_of_ble_eq_true rfl⟩ hl.1 rfl (Nat.le_of_ble_eq_true rfl) d_Tok_number_84 ⟨Nat.le_of_ble_eq_true rfl, Nat.le_of_ble_eq_true rfl⟩) hw hA (fun v79 p78 H locs hp78 hw => ?_)
            obtain ⟨rfl, e80⟩ := hp78
            have e80 : R_t2_digit tb (upd f 8 z77) (16 : Int32) v79 := e80
            have lv79 := Int32.le_toInt v79
            have uv79 := Int32.toInt_lt v79
            refine lv_istore (lv' := [(7, .int v79), (5, .long 0), (4, .int 0), (3, .int 8), (2, .int 16), (1, .int 1), (0, .ref h)]) S.x S.b d_Tok_number_87 hl (by decide) rfl (fun ls hl => ?_)
            first | exact J89 (((f 7).toInt+9-z77.toInt).toNat + 1) (upd f 8 z77) a (16 : Int32) (8 : Int32) (0 : Int32) v79 0 _ _ ls (show TokOk (f 7) z77 (f 10) (f 11) (f 12) (f 13) (f 17) (a 4) from ⟨⟨o1, o2⟩, ⟨(oz_6c4a1e09c3 tz77 o3), (oz_923e74ff93 tz77 nc63 e60 tz55)⟩, ⟨o5, o6⟩, ⟨o7, o8⟩, ⟨o9, o10⟩, ⟨o11, o12⟩, o13, hn4⟩) (show (f 7).toInt = (f 7).toInt from rfl) (show (f 10).toInt = (f 10).toInt from rfl) (show (f 15).toInt = (f 15).toInt from rfl) (show 0 ≤ (0 : Int) from oz_5a341f00aa) (show (f 8).toInt + (0 : Int) ≤ z77.toInt from (oz_44ccb7c1dc tz77)) (show Q5 (a 5) from hq5) (show K_t2_number_89 tb f a (upd f 8 z77) a 16 8 0 v79 0 from (fun y_f0 y_f1 y_v k hE => Exists.intro (k + 1) (Or.inl ⟨rfl, v38, e43, Or.inr ⟨nc44, z55, ez55, v57, e62, Or.inr ⟨nc63, z77, ez77, v79, e80, hE⟩⟩⟩))) (show (f 7).toInt+9-z77.toInt < (((((f 7).toInt+9-z77.toInt).toNat + 1 : Nat) : Int) : Int) from oz_natlt) hw (lv_sub hl [6, 4, 3, 2, 0, 1] rfl) | exact J89 (((f 7).toInt+9-z77.toInt).toNat + 1) (upd f 8 z77) a (16 : Int32) (8 : Int32) (0 : Int32) v79 0 _ _ ls (show TokOk (f 7) z77 (f 10) (f 11) (f 12) (f 13) (f 17) (a 4) from ⟨⟨by first | exact o1 | omega, by first | exact o2 | omega⟩, ⟨by first | exact oz_6c4a1e09c3 tz77 o3 | omega, by first | exact oz_923e74ff93 tz77 nc63 e60 tz55 | omega⟩, ⟨by first | exact o5 | omega, by first | exact o6 | omega⟩, ⟨by first | exact o7 | omega, by first | exact o8 | omega⟩, ⟨by first | exact o9 | omega, by first | exact o10 | omega⟩, ⟨by first | exact o11 | omega, by first | exact o12 | omega⟩, by first | exact o13 | omega, hn4⟩) (show (f 7).toInt = (f 7).toInt from rfl) (show (f 10).toInt = (f 10).toInt from rfl) (show (f 15).toInt = (f 15).toInt from rfl) (show 0 ≤ (0 : Int) from by first | exact oz_5a341f00aa | omega) (show (f 8).toInt + (0 : Int) ≤ z77.toInt from by first | exact oz_44ccb7c1dc tz77 | omega) (show Q5 (a 5) from hq5) (show K_t2_number_89 tb f a (upd f 8 z77) a 16 8 0 v79 0 from (fun y_f0 y_f1 y_v k hE => Exists.intro (k + 1) (Or.inl ⟨rfl, v38, e43, Or.inr ⟨nc44, z55, ez55, v57, e62, Or.inr ⟨nc63, z77, ez77, v79, e80, hE⟩⟩⟩))) (show (f 7).toInt+9-z77.toInt < (((((f 7).toInt+9-z77.toInt).toNat + 1 : Nat) : Int) : Int) from by first | exact oz_natlt | omega) hw (lv_sub hl [6, 4, 3, 2, 0, 1] rfl)
set_option maxHeartbeats 4000000 in
set_option maxRecDepth 100000 in
theorem c_t2_character (l : Launch) (D : va_G) (cs : Nat → ClassId) (h : Nat) (r : Nat → Nat) (tp : Nat) (tb : Nat → Int32) (g : Nat → Nat → Option Nat) (f : Nat → Int32) (a : Nat → Nat → Int32)  (hinv0 : TokOk (f 7) (f 8) (f 10) (f 11) (f 12) (f 13) (f 17) (a 4)) (hq5 : Q5 (a 5)) : MetI l y_Tok_character b_Tok_character 3 (.int) D cs 2 60 (0) (0) [.ref h] [wd_Tok cs h r (fun _ => some tp) f a g, [(tp, .inl (cs 1, 2048, .inl tb))]] (fun _ => True) (fun v ps => ∃ (f' : Nat → Int32) (a' : Nat → Nat → Int32), (ps = [wd_Tok cs h r (fun _ => some tp) f' a' g, [(tp, .inl (cs 1, 2048, .inl tb))]]) ∧ (TokOk (f' 7) (f' 8) (f' 10) (f' 11) (f' 12) (f' 13) (f' 17) (a' 4)) ∧ ((f' 7).toInt = (f 7).toInt) ∧ ((f' 10).toInt = (f 10).toInt) ∧ ((f' 15).toInt = (f 15).toInt) ∧ (v.toInt = 19 ∨ (f 8).toInt + 1 ≤ (f' 8).toInt) ∧ (Q5 (a' 5)) ∧ (R_t2_character tb f a f' a' v)) := by
  refine px_enter (by decide) (Nat.le_of_ble_eq_true rfl) ?_
  intro p e s m below meth c A ls hAe S hr hlk hnm hA hT hX hw hl
  have hl : lv_has ls 3 [(0, .ref h)] := hl
  have cst1 : (1 : Int32).toInt = 1 := rfl
  have cst17 : (17 : Int32).toInt = 17 := rfl
  have cst19 : (19 : Int32).toInt = 19 := rfl
  have cst39 : (39 : Int32).toInt = 39 := rfl
  obtain ⟨⟨o1, o2⟩, ⟨o3, o4⟩, ⟨o5, o6⟩, ⟨o7, o8⟩, ⟨o9, o10⟩, ⟨o11, o12⟩, o13, hn4⟩ := hinv0
  refine lv_aload_n S.x S.b d_Tok_character_0 rfl (lv_at hl 0 rfl) ?_
  refine lv_aload_n S.x S.b d_Tok_character_1 rfl (lv_at hl 0 rfl) ?_
  refine px_get S k_Tok hT hw 0 0 8 (v := .int (f 8)) rfl rfl rfl (by decide) m1_111 d_Tok_character_2 ?_
  refine lv_iconst (v := 1) S.x S.b d_Tok_character_5 (by decide) ?_
  refine lv_iadd S.x S.b d_Tok_character_6 ?_
  have lr1 := Int32.le_toInt (f 8)
  have ur1 := Int32.toInt_lt (f 8)
  refine lv_topi (fun z2 ez2 => ?_)
  have tz2 : z2.toInt = ((f 8).toInt + (1 : Int) + 2147483648) % 4294967296 - 2147483648 := by rw [ez2]; exact i_add (f 8) 1
  have lz2 := Int32.le_toInt z2
  have uz2 := Int32.toInt_lt z2
  try replace tz2 : z2.toInt = (f 8).toInt + (1 : Int) := by omega
  refine lv_bipush (v := 39) S.x S.b d_Tok_character_7 (by decide) ?_
  first | refine px_calli (pr := []) (px_runV (As := [.int z2, .int 39]) (rest := []) S (c_t2_quotedAt l D cs h r tp tb g f a z2 39  (show TokOk (f 7) (f 8) (f 10) (f 11) (f 12) (f 13) (f 17) (a 4) from ⟨⟨o1, o2⟩, ⟨o3, o4⟩, ⟨o5, o6⟩, ⟨o7, o8⟩, ⟨o9, o10⟩, ⟨o11, o12⟩, o13, hn4⟩) (show (39 : Int) ≤ 100 from oz_90edb1163d) _) hT (pr := []) (pcs := [wd_Tok cs h r (fun _ => some tp) f a g, [(tp, .inl (cs 1, 2048, .inl tb))]]) hw px_X.tt (px_recv hT hw 0 0 rfl rfl rfl) m3_233 m3_230 m3_232 ms_2_0 m1_2 q_Tok_quotedAt ⟨Nat.le_of_ble_eq_true rfl, Nat.le_of_ble_eq_true rfl⟩ hl.1 rfl (Nat.le_of_ble_eq_true rfl) d_Tok_character_9 ⟨Nat.le_of_ble_eq_true rfl, Nat.le_of_ble_eq_true rfl⟩) hw hA (fun v4 p3 H locs hp3 hw => ?_) | refine px_calli (pr := []) (px_runV (As := [.int z2, .int 39]) (rest := []) S (c_t2_quotedAt l D cs h r tp tb g f a z2 39  (show TokOk (f 7) (f 8) (f 10) (f 11) (f 12) (f 13) (f 17) (a 4) from ⟨⟨by first | exact o1 | omega, by first | exact o2 | omega⟩, ⟨by first | exact o3 | omega, by first | exact o4 | omega⟩, ⟨by first | exact o5 | omega, by first | exact o6 | omega⟩, ⟨by first | exact o7 | omega, by first | exact o8 | omega⟩, ⟨by first | exact o9 | omega, by first | exact o10 | omega⟩, ⟨by first | exact o11 | omega, by first | exact o12 | omega⟩, by first | exact o13 | omega, hn4⟩) (show (39 : Int) ≤ 100 from by first | exact oz_90edb1163d | omega) _) hT (pr := []) (pcs := [wd_Tok cs h r (fun _ => some tp) f a g, [(tp, .inl (cs 1, 2048, .inl tb))]]) hw px_X.tt (px_recv hT hw 0 0 rfl rfl rfl) m3_233 m3_230 m3_232 ms_2_0 m1_2 q_Tok_quotedAt ⟨Nat.le_of_ble_eq_true rfl, Nat.le_of_ble_eq_true rfl⟩ hl.1 rfl (Nat.le_of_ble_eq_true rfl) d_Tok_character_9 ⟨Nat.le_of_ble_eq_true rfl, Nat.le_of_ble_eq_true rfl⟩) hw hA (fun v4 p3 H locs hp3 hw => ?_)
  obtain ⟨rfl, e5, e6, e7, e8⟩ := hp3
  have e5 : -1 ≤ v4.toInt := e5
  have e6 : v4.toInt ≤ 200 := e6
  have e7 : 0 ≤ v4.toInt → 0 ≤ z2.toInt ∧ z2.toInt < (f 7).toInt := e7
  have e8 : R_t2_quotedAt tb f z2 (39 : Int32) v4 := e8
  have lv4 := Int32.le_toInt v4
  have uv4 := Int32.toInt_lt v4
  refine lv_istore_n (lv' := [(1, .int v4), (0, .ref h)]) S.x S.b d_Tok_character_12 rfl hl (by decide) rfl (fun ls hl => ?_)
  refine lv_aload_n S.x S.b d_Tok_character_13 rfl (lv_at hl 1 rfl) ?_
  refine px_get S k_Tok hT hw 0 0 8 (v := .int (f 8)) rfl rfl rfl (by decide) m1_111 d_Tok_character_14 ?_
  refine lv_iconst (v := 1) S.x S.b d_Tok_character_17 (by decide) ?_
  refine lv_iadd S.x S.b d_Tok_character_18 ?_
  have lr9 := Int32.le_toInt (f 8)
  have ur9 := Int32.toInt_lt (f 8)
  refine lv_topi (fun z10 ez10 => ?_)
  have tz10 : z10.toInt = ((f 8).toInt + (1 : Int) + 2147483648) % 4294967296 - 2147483648 := by rw [ez10]; exact i_add (f 8) 1
  have lz10 := Int32.le_toInt z10
  have uz10 := Int32.toInt_lt z10
  try replace tz10 : z10.toInt = (f 8).toInt + (1 : Int) := by omega
  refine lv_aload_n S.x S.b d_Tok_character_19 rfl (lv_at hl 1 rfl) ?_
  refine lv_aload_n S.x S.b d_Tok_character_20 rfl (lv_at hl 1 rfl) ?_
  refine px_get S k_Tok hT hw 0 0 8 (v := .int (f 8)) rfl rfl rfl (by decide) m1_111 d_Tok_character_21 ?_
  refine lv_iconst (v := 1) S.x S.b d_Tok_character_24 (by decide) ?_
  refine lv_iadd S.x S.b d_Tok_character_25 ?_
  have lr11 := Int32.le_toInt (f 8)
  have ur11 := Int32.toInt_lt (f 8)
  refine lv_topi (fun z12 ez12 => ?_)
  have tz12 : z12.toInt = ((f 8).toInt + (1 : Int) + 2147483648) % 4294967296 - 2147483648 := by rw [ez12]; exact i_add (f 8) 1
  have lz12 := Int32.le_toInt z12
  have uz12 := Int32.toInt_lt z12
  try replace tz12 : z12.toInt = (f 8).toInt + (1 : Int) := by omega
  first | refine px_calli (pr := []) (px_runV (As := [.int z12]) (rest := [.int z10]) S (c_t2_quotedWidth l D cs h r tp tb g f a z12  (show TokOk (f 7) (f 8) (f 10) (f 11) (f 12) (f 13) (f 17) (a 4) from ⟨⟨o1, o2⟩, ⟨o3, o4⟩, ⟨o5, o6⟩, ⟨o7, o8⟩, ⟨o9, o10⟩, ⟨o11, o12⟩, o13, hn4⟩) _) hT (pr := []) (pcs := [wd_Tok cs h r (fun _ => some tp) f a g, [(tp, .inl (cs 1, 2048, .inl tb))]]) hw px_X.tt (px_recv hT hw 0 0 rfl rfl rfl) m3_237 m3_234 m3_236 ms_2_1 m1_2 q_Tok_quotedWidth ⟨Nat.le_of_ble_eq_true rfl, Nat.le_of_ble_eq_true rfl⟩ hl.1 rfl (Nat.le_of_ble_eq_true rfl) d_Tok_character_26 ⟨Nat.le_of_ble_eq_true rfl, Nat.le_of_ble_eq_true rfl⟩) hw hA (fun v14 p13 H locs hp13 hw => ?_) | refine px_calli (pr := []) (px_runV (As := [.int z12]) (rest := [.int z10]) S (c_t2_quotedWidth l D cs h r tp tb g f a z12  (show TokOk (f 7) (f 8) (f 10) (f 11) (f 12) (f 13) (f 17) (a 4) from ⟨⟨by first | exact o1 | omega, by first | exact o2 | omega⟩, ⟨by first | exact o3 | omega, by first | exact o4 | omega⟩, ⟨by first | exact o5 | omega, by first | exact o6 | omega⟩, ⟨by first | exact o7 | omega, by first | exact o8 | omega⟩, ⟨by first | exact o9 | omega, by first | exact o10 | omega⟩, ⟨by first | exact o11 | omega, by first | exact o12 | omega⟩, by first | exact o13 | omega, hn4⟩) _) hT (pr := []) (pcs := [wd_Tok cs h r (fun _ => some tp) f a g, [(tp, .inl (cs 1, 2048, .inl tb))]]) hw px_X.tt (px_recv hT hw 0 0 rfl rfl rfl) m3_237 m3_234 m3_236 ms_2_1 m1_2 q_Tok_quotedWidth ⟨Nat.le_of_ble_eq_true rfl, Nat.le_of_ble_eq_true rfl⟩ hl.1 rfl (Nat.le_of_ble_eq_true rfl) d_Tok_character_26 ⟨Nat.le_of_ble_eq_true rfl, Nat.le_of_ble_eq_true rfl⟩) hw hA (fun v14 p13 H locs hp13 hw => ?_)
  obtain ⟨rfl, e15, e16, e17⟩ := hp13
  have e15 : 1 ≤ v14.toInt := e15
  have e16 : v14.toInt ≤ 2 := e16
  have e17 : R_t2_quotedWidth tb f z12 v14 := e17
  have lv14 := Int32.le_toInt v14
  have uv14 := Int32.toInt_lt v14
  refine lv_iadd S.x S.b d_Tok_character_29 ?_
  refine lv_topi (fun z18 ez18 => ?_)
  have tz18 : z18.toInt = (z10.toInt + v14.toInt + 2147483648) % 4294967296 - 2147483648 := by rw [ez18]; exact i_add z10 v14
  have lz18 := Int32.le_toInt z18
  have uz18 := Int32.toInt_lt z18
  try replace tz18 : z18.toInt = z10.toInt + v14.toInt := by omega
  refine lv_istore_n (lv' := [(2, .int z18), (1, .int v4), (0, .ref h)]) S.x S.b d_Tok_character_30 rfl hl (by decide) rfl (fun ls hl => ?_)
  refine lv_iload_n S.x S.b d_Tok_character_31 rfl (lv_at hl 1 rfl) ?_
  refine lv_if_lt (tgt := 45) S.x S.b d_Tok_character_32 (by decide) (fun c19 => ?_) (fun c19 => ?_)
  · have nc19 : v4.toInt < (0 : Int) := (i_lt (x := v4) (y := 0)).mp c19
    refine lv_bipush (v := 19) S.x S.b d_Tok_character_45 (by decide) ?_
    first | exact px_iret (v := 19) S hr rfl hlk hAe hw (Nat.le_of_ble_eq_true rfl) (Nat.le_of_ble_eq_true rfl) (⟨f, a, rfl, (show TokOk (f 7) (f 8) (f 10) (f 11) (f 12) (f 13) (f 17) (a 4) from ⟨⟨o1, o2⟩, ⟨o3, o4⟩, ⟨o5, o6⟩, ⟨o7, o8⟩, ⟨o9, o10⟩, ⟨o11, o12⟩, o13, hn4⟩), (show (f 7).toInt = (f 7).toInt from rfl), (show (f 10).toInt = (f 10).toInt from rfl), (show (f 15).toInt = (f 15).toInt from rfl), (show (19 : Int) = 19 ∨ (f 8).toInt + 1 ≤ (f 8).toInt from by omega), (show Q5 (a 5) from hq5), (show R_t2_character tb f a f a (19 : Int32) from (Or.inl ⟨z2, ez2, v4, e8, z10, ez10, z12, ez12, v14, e17, z18, ez18, Or.inl ⟨nc19, rfl, rfl, rfl⟩⟩))⟩) d_Tok_character_47 | exact px_iret (v := 19) S hr rfl hlk hAe hw (Nat.le_of_ble_eq_true rfl) (Nat.le_of_ble_eq_true rfl) (⟨f, a, rfl, (show TokOk (f 7) (f 8) (f 10) (f 11) (f 12) (f 13) (f 17) (a 4) from ⟨⟨by first | exact o1 | omega, by first | exact o2 | omega⟩, ⟨by first | exact o3 | omega, by first | exact o4 | omega⟩, ⟨by first | exact o5 | omega, by first | exact o6 | omega⟩, ⟨by first | exact o7 | omega, by first | exact o8 | omega⟩, ⟨by first | exact o9 | omega, by first | exact o10 | omega⟩, ⟨by first | exact o11 | omega, by first | exact o12 | omega⟩, by first | exact o13 | omega, hn4⟩), (show (f 7).toInt = (f 7).toInt from rfl), (show (f 10).toInt = (f 10).toInt from rfl), (show (f 15).toInt = (f 15).toInt from rfl), (show (19 : Int) = 19 ∨ (f 8).toInt + 1 ≤ (f 8).toInt from by omega), (show Q5 (a 5) from hq5), (show R_t2_character tb f a f a (19 : Int32) from (Or.inl ⟨z2, ez2, v4, e8, z10, ez10, z12, ez12, v14, e17, z18, ez18, Or.inl ⟨nc19, rfl, rfl, rfl⟩⟩))⟩) d_Tok_character_47
  · have nc19 : ¬ v4.toInt < (0 : Int) := mt (i_lt (x := v4) (y := 0)).mpr c19
    refine lv_aload_n S.x S.b d_Tok_character_35 rfl (lv_at hl 2 rfl) ?_
    refine lv_iload_n S.x S.b d_Tok_character_36 rfl (lv_at hl 0 rfl) ?_
    first | refine px_calli (pr := []) (px_runV (As := [.int z18]) (rest := []) S (c_t2_byteAt l D cs h r tp tb g f a z18  (show TokOk (f 7) (f 8) (f 10) (f 11) (f 12) (f 13) (f 17) (a 4) from ⟨⟨o1, o2⟩, ⟨o3, o4⟩, ⟨o5, o6⟩, ⟨o7, o8⟩, ⟨o9, o10⟩, ⟨o11, o12⟩, o13, hn4⟩) _) hT (pr := []) (pcs := [wd_Tok cs h r (fun _ => some tp) f a g, [(tp, .inl (cs 1, 2048, .inl tb))]]) hw px_X.tt (px_recv hT hw 0 0 rfl rfl rfl) m3_186 m3_183 m3_185 ms_1_6 m1_2 q_Tok_byteAt ⟨Nat.le_of_ble_eq_true rfl, Nat.le_of_ble_eq_true rfl⟩ hl.1 rfl (Nat.le_of_ble_eq_true rfl) d_Tok_character_37 ⟨Nat.le_of_ble_eq_true rfl, Nat.le_of_ble_eq_true rfl⟩) hw hA (fun v22 p21 H locs hp21 hw => ?_) | refine px_calli (pr := []) (px_runV (As := [.int z18]) (rest := []) S (c_t2_byteAt l D cs h r tp tb g f a z18  (show TokOk (f 7) (f 8) (f 10) (f 11) (f 12) (f 13) (f 17) (a 4) from ⟨⟨by first | exact o1 | omega, by first | exact o2 | omega⟩, ⟨by first | exact o3 | omega, by first | exact o4 | omega⟩, ⟨by first | exact o5 | omega, by first | exact o6 | omega⟩, ⟨by first | exact o7 | omega, by first | exact o8 | omega⟩, ⟨by first | exact o9 | omega, by first | exact o10 | omega⟩, ⟨by first | exact o11 | omega, by first | exact o12 | omega⟩, by first | exact o13 | omega, hn4⟩) _) hT (pr := []) (pcs := [wd_Tok cs h r (fun _ => some tp) f a g, [(tp, .inl (cs 1, 2048, .inl tb))]]) hw px_X.tt (px_recv hT hw 0 0 rfl rfl rfl) m3_186 m3_183 m3_185 ms_1_6 m1_2 q_Tok_byteAt ⟨Nat.le_of_ble_eq_true rfl, Nat.le_of_ble_eq_true rfl⟩ hl.1 rfl (Nat.le_of_ble_eq_true rfl) d_Tok_character_37 ⟨Nat.le_of_ble_eq_true rfl, Nat.le_of_ble_eq_true rfl⟩) hw hA (fun v22 p21 H locs hp21 hw => ?_)
    obtain ⟨rfl, e23, e24, e25, e26, e27⟩ := hp21
    have e23 : -1 ≤ v22.toInt := e23
    have e24 : v22.toInt ≤ 255 := e24
    have e25 : 0 ≤ v22.toInt → 0 ≤ z18.toInt ∧ z18.toInt < (f 7).toInt := e25
    have e26 : By tb (f 7) z18 v22 := e26
    have e27 : R_t2_byteAt tb f z18 v22 := e27
    have lv22 := Int32.le_toInt v22
    have uv22 := Int32.toInt_lt v22
    refine lv_bipush (v := 39) S.x S.b d_Tok_character_40 (by decide) ?_
    refine lv_icmp_eq (tgt := 48) S.x S.b d_Tok_character_42 (by decide) (fun c28 => ?_) (fun c28 => ?_)
    · have nc28 : v22.toInt = (39 : Int) := (i_eq (x := v22) (y := 39)).mp c28
      refine lv_aload_n S.x S.b d_Tok_character_48 rfl (lv_at hl 2 rfl) ?_
      refine lv_iload_n S.x S.b d_Tok_character_49 rfl (lv_at hl 1 rfl) ?_
      refine px_put S k_Tok hT hw 0 0 9 rfl rfl (by decide) m1_112 rfl rfl rfl (Nat.le_of_ble_eq_true rfl) d_Tok_character_50 (w' := wd_Tok cs h r (fun _ => some tp) (upd f 9 v4) a g) (ps' := [wd_Tok cs h r (fun _ => some tp) (upd f 9 v4) a g, [(tp, .inl (cs 1, 2048, .inl tb))]]) rfl rfl (fun H locs hw => ?_)
      refine lv_aload_n S.x S.b d_Tok_character_53 rfl (lv_at hl 2 rfl) ?_
      refine lv_iload_n S.x S.b d_Tok_character_54 rfl (lv_at hl 0 rfl) ?_
      refine lv_iconst (v := 1) S.x S.b d_Tok_character_55 (by decide) ?_
      refine lv_iadd S.x S.b d_Tok_character_56 ?_
      refine lv_topi (fun z30 ez30 => ?_)
      have tz30 : z30.toInt = (z18.toInt + (1 : Int) + 2147483648) % 4294967296 - 2147483648 := by rw [ez30]; exact i_add z18 1
      have lz30 := Int32.le_toInt z30
      have uz30 := Int32.toInt_lt z30
      try replace tz30 : z30.toInt = z18.toInt + (1 : Int) := by omega
      refine px_put S k_Tok hT hw 0 0 8 rfl rfl (by decide) m1_111 rfl rfl rfl (Nat.le_of_ble_eq_true rfl) d_Tok_character_57 (w' := wd_Tok cs h r (fun _ => some tp) (upd (upd f 8 z30) 9 v4) a g) (ps' := [wd_Tok cs h r (fun _ => some tp) (upd (upd f 8 z30) 9 v4) a g, [(tp, .inl (cs 1, 2048, .inl tb))]]) rfl rfl (fun H locs hw => ?_)
      refine lv_bipush (v := 17) S.x S.b d_Tok_character_60 (by decide) ?_
      first | exact px_iret (v := 17) S hr rfl hlk hAe hw (Nat.le_of_ble_eq_true rfl) (Nat.le_of_ble_eq_true rfl) (⟨(upd (upd f 8 z30) 9 v4), a, rfl, (show TokOk (f 7) z30 (f 10) (f 11) (f 12) (f 13) (f 17) (a 4) from ⟨⟨o1, o2⟩, ⟨(oz_b9e2a46006 tz30 tz18 tz10 e15 o3), (oz_ddf50febdf tz30 nc28 e25)⟩, ⟨o5, o6⟩, ⟨o7, o8⟩, ⟨o9, o10⟩, ⟨o11, o12⟩, o13, hn4⟩), (show (f 7).toInt = (f 7).toInt from rfl), (show (f 10).toInt = (f 10).toInt from rfl), (show (f 15).toInt = (f 15).toInt from rfl), (show (17 : Int) = 19 ∨ (f 8).toInt + 1 ≤ z30.toInt from by omega), (show Q5 (a 5) from hq5), (show R_t2_character tb f a (upd (upd f 8 z30) 9 v4) a (17 : Int32) from (Or.inl ⟨z2, ez2, v4, e8, z10, ez10, z12, ez12, v14, e17, z18, ez18, Or.inr ⟨nc19, v22, e27, Or.inl ⟨nc28, z30, ez30, rfl, rfl, rfl⟩⟩⟩))⟩) d_Tok_character_62 | exact px_iret (v := 17) S hr rfl hlk hAe hw (Nat.le_of_ble_eq_true rfl) (Nat.le_of_ble_eq_true rfl) (⟨(upd (upd f 8 z30) 9 v4), a, rfl, (show TokOk (f 7) z30 (f 10) (f 11) (f 12) (f 13) (f 17) (a 4) from ⟨⟨by first | exact o1 | omega, by first | exact o2 | omega⟩, ⟨by first | exact oz_b9e2a46006 tz30 tz18 tz10 e15 o3 | omega, by first | exact oz_ddf50febdf tz30 nc28 e25 | omega⟩, ⟨by first | exact o5 | omega, by first | exact o6 | omega⟩, ⟨by first | exact o7 | omega, by first | exact o8 | omega⟩, ⟨by first | exact o9 | omega, by first | exact o10 | omega⟩, ⟨by first | exact o11 | omega, by first | exact o12 | omega⟩, by first | exact o13 | omega, hn4⟩), (show (f 7).toInt = (f 7).toInt from rfl), (show (f 10).toInt = (f 10).toInt from rfl), (show (f 15).toInt = (f 15).toInt from rfl), (show (17 : Int) = 19 ∨ (f 8).toInt + 1 ≤ z30.toInt from by omega), (show Q5 (a 5) from hq5), (show R_t2_character tb f a (upd (upd f 8 z30) 9 v4) a (17 : Int32) from (Or.inl ⟨z2, ez2, v4, e8, z10, ez10, z12, ez12, v14, e17, z18, ez18, Or.inr ⟨nc19, v22, e27, Or.inl ⟨nc28, z30, ez30, rfl, rfl, rfl⟩⟩⟩))⟩) d_Tok_character_62
    · have nc28 : ¬ v22.toInt = (39 : Int) := mt (i_eq (x := v22) (y := 39)).mpr c28
      refine lv_bipush (v := 19) S.x S.b d_Tok_character_45 (by decide) ?_
      first | exact px_iret (v := 19) S hr rfl hlk hAe hw (Nat.le_of_ble_eq_true rfl) (Nat.le_of_ble_eq_true rfl) (⟨f, a, rfl, (show TokOk (f 7) (f 8) (f 10) (f 11) (f 12) (f 13) (f 17) (a 4) from ⟨⟨o1, o2⟩, ⟨o3, o4⟩, ⟨o5, o6⟩, ⟨o7, o8⟩, ⟨o9, o10⟩, ⟨o11, o12⟩, o13, hn4⟩), (show (f 7).toInt = (f 7).toInt from rfl), (show (f 10).toInt = (f 10).toInt from rfl), (show (f 15).toInt = (f 15).toInt from rfl), (show (19 : Int) = 19 ∨ (f 8).toInt + 1 ≤ (f 8).toInt from by omega), (show Q5 (a 5) from hq5), (show R_t2_character tb f a f a (19 : Int32) from (Or.inl ⟨z2, ez2, v4, e8, z10, ez10, z12, ez12, v14, e17, z18, ez18, Or.inr ⟨nc19, v22, e27, Or.inr ⟨nc28, rfl, rfl, rfl⟩⟩⟩))⟩) d_Tok_character_47 | exact px_iret (v := 19) S hr rfl hlk hAe hw (Nat.le_of_ble_eq_true rfl) (Nat.le_of_ble_eq_true rfl) (⟨f, a, rfl, (show TokOk (f 7) (f 8) (f 10) (f 11) (f 12) (f 13) (f 17) (a 4) from ⟨⟨by first | exact o1 | omega, by first | exact o2 | omega⟩, ⟨by first | exact o3 | omega, by first | exact o4 | omega⟩, ⟨by first | exact o5 | omega, by first | exact o6 | omega⟩, ⟨by first | exact o7 | omega, by first | exact o8 | omega⟩, ⟨by first | exact o9 | omega, by first | exact o10 | omega⟩, ⟨by first | exact o11 | omega, by first | exact o12 | omega⟩, by first | exact o13 | omega, hn4⟩), (show (f 7).toInt = (f 7).toInt from rfl), (show (f 10).toInt = (f 10).toInt from rfl), (show (f 15).toInt = (f 15).toInt from rfl), (show (19 : Int) = 19 ∨ (f 8).toInt + 1 ≤ (f 8).toInt from by omega), (show Q5 (a 5) from hq5), (show R_t2_character tb f a f a (19 : Int32) from (Or.inl ⟨z2, ez2, v4, e8, z10, ez10, z12, ez12, v14, e17, z18, ez18, Or.inr ⟨nc19, v22, e27, Or.inr ⟨nc28, rfl, rfl, rfl⟩⟩⟩))⟩) d_Tok_character_47
set_option maxHeartbeats 4000000 in
set_option maxRecDepth 100000 in
theorem c_t2_string (l : Launch) (D : va_G) (cs : Nat → ClassId) (h : Nat) (r : Nat → Nat) (tp : Nat) (tb : Nat → Int32) (g : Nat → Nat → Option Nat) (f : Nat → Int32) (a : Nat → Nat → Int32)  (hinv0 : TokOk (f 7) (f 8) (f 10) (f 11) (f 12) (f 13) (f 17) (a 4)) (hq5 : Q5 (a 5)) : MetI l y_Tok_string b_Tok_string 4 (.int) D cs 2 60 (0) (0) [.ref h] [wd_Tok cs h r (fun _ => some tp) f a g, [(tp, .inl (cs 1, 2048, .inl tb))]] (fun _ => True) (fun v ps => ∃ (f' : Nat → Int32) (a' : Nat → Nat → Int32), (ps = [wd_Tok cs h r (fun _ => some tp) f' a' g, [(tp, .inl (cs 1, 2048, .inl tb))]]) ∧ (TokOk (f' 7) (f' 8) (f' 10) (f' 11) (f' 12) (f' 13) (f' 17) (a' 4)) ∧ ((f' 7).toInt = (f 7).toInt) ∧ ((f' 10).toInt = (f 10).toInt) ∧ ((f' 15).toInt = (f 15).toInt) ∧ (v.toInt = 19 ∨ (f 8).toInt + 1 ≤ (f' 8).toInt) ∧ (Q5 (a' 5)) ∧ (R_t2_string tb f a f' a' v)) := by
  refine px_enter (by decide) (Nat.le_of_ble_eq_true rfl) ?_
  intro p e s m below meth c A ls hAe S hr hlk hnm hA hT hX hw hl
  have hl : lv_has ls 4 [(0, .ref h)] := hl
  have cst0 : (0 : Int32).toInt = 0 := rfl
  have cst1 : (1 : Int32).toInt = 1 := rfl
  have cst18 : (18 : Int32).toInt = 18 := rfl
  have cst19 : (19 : Int32).toInt = 19 := rfl
  have cst34 : (34 : Int32).toInt = 34 := rfl
  have cst200 : (200 : Int32).toInt = 200 := rfl
  obtain ⟨⟨o1, o2⟩, ⟨o3, o4⟩, ⟨o5, o6⟩, ⟨o7, o8⟩, ⟨o9, o10⟩, ⟨o11, o12⟩, o13, hn4⟩ := hinv0
  have J17 : ∀ (n_17 : Nat) (f_17 : Nat → Int32) (a_17 : Nat → Nat → Int32) (x17_1 x17_2 x17_3 : Int32) (H : Heap) (locs : List Loc) (ls : Array Slot), (TokOk (f_17 7) (f_17 8) (f_17 10) (f_17 11) (f_17 12) (f_17 13) (f_17 17) (a_17 4)) → ((f_17 7).toInt = (f 7).toInt) → ((f_17 10).toInt = (f 10).toInt) → ((f_17 15).toInt = (f 15).toInt) → ((f_17 8).toInt = (f 8).toInt) → ((f 8).toInt + 1 ≤ x17_1.toInt) → (x17_1.toInt ≤ (f_17 7).toInt+16) → (0 ≤ x17_2.toInt) → (x17_2.toInt ≤ 201) → (x17_3.toInt ≤ 200) → (0 ≤ x17_3.toInt → x17_1.toInt < (f_17 7).toInt) → (Q5 (a_17 5)) → (K_t2_string_17 tb f a f_17 a_17 x17_1 x17_2 x17_3) → (202 : Int)-x17_2.toInt < (n_17 : Int) → pw D A s.heap H locs [wd_Tok cs h r (fun _ => some tp) f_17 a_17 g, [(tp, .inl (cs 1, 2048, .inl tb))]] → lv_has ls 4 [(0, .ref h), (1, .int x17_1), (2, .int x17_2), (3, .int x17_3)] → W p l e { frames := 2, cells := 0, slots := 0, locals := 60 } s m [.ref h].toArray below meth c H locs 0 0 (MQ below (va_Qi (fun v ps => ∃ (f' : Nat → Int32) (a' : Nat → Nat → Int32), (ps = [wd_Tok cs h r (fun _ => some tp) f' a' g, [(tp, .inl (cs 1, 2048, .inl tb))]]) ∧ (TokOk (f' 7) (f' 8) (f' 10) (f' 11) (f' 12) (f' 13) (f' 17) (a' 4)) ∧ ((f' 7).toInt = (f 7).toInt) ∧ ((f' 10).toInt = (f 10).toInt) ∧ ((f' 15).toInt = (f 15).toInt) ∧ (v.toInt = 19 ∨ (f 8).toInt + 1 ≤ (f' 8).toInt) ∧ (Q5 (a' 5)) ∧ (R_t2_string tb f a f' a' v)) (pc_B D (va_A ([wd_Tok cs h r (fun _ => some tp) f a g, [(tp, .inl (cs 1, 2048, .inl tb))]] : List va_W).flatten s.heap.size)) (va_A ([wd_Tok cs h r (fun _ => some tp) f a g, [(tp, .inl (cs 1, 2048, .inl tb))]] : List va_W).flatten s.heap.size)) [.ref h].toArray s 0 0 A) (F0 m 17 ls []) := by
    intro  n_17
    induction n_17 with
    | zero =>
      intro f_17 a_17 x17_1 x17_2 x17_3 H locs ls hi17_0 k17_0 k17_1 k17_2 k17_3 k17_4 k17_5 k17_6 k17_7 k17_8 k17_9 k17_10 k17_11 hm hw hl
      obtain ⟨⟨o1, o2⟩, ⟨o3, o4⟩, ⟨o5, o6⟩, ⟨o7, o8⟩, ⟨o9, o10⟩, ⟨o11, o12⟩, o13, hn4⟩ := hi17_0
      have lx17_1 := Int32.le_toInt x17_1
      have ux17_1 := Int32.toInt_lt x17_1
      have lx17_2 := Int32.le_toInt x17_2
      have ux17_2 := Int32.toInt_lt x17_2
      have lx17_3 := Int32.le_toInt x17_3
      have ux17_3 := Int32.toInt_lt x17_3
      have hq5 := k17_10
      exact absurd hm (by omega)
    | succ n_17 ih17 =>
      intro f_17 a_17 x17_1 x17_2 x17_3 H locs ls hi17_0 k17_0 k17_1 k17_2 k17_3 k17_4 k17_5 k17_6 k17_7 k17_8 k17_9 k17_10 k17_11 hm hw hl
      obtain ⟨⟨o1, o2⟩, ⟨o3, o4⟩, ⟨o5, o6⟩, ⟨o7, o8⟩, ⟨o9, o10⟩, ⟨o11, o12⟩, o13, hn4⟩ := hi17_0
      have lx17_1 := Int32.le_toInt x17_1
      have ux17_1 := Int32.toInt_lt x17_1
      have lx17_2 := Int32.le_toInt x17_2
      have ux17_2 := Int32.toInt_lt x17_2
      have lx17_3 := Int32.le_toInt x17_3
      have ux17_3 := Int32.toInt_lt x17_3
      have hq5 := k17_10
      refine lv_iload_n S.x S.b d_Tok_string_17 rfl (lv_at hl 3 rfl) ?_
      refine lv_if_lt (tgt := 80) S.x S.b d_Tok_string_18 (by decide) (fun c1 => ?_) (fun c1 => ?_)
      · have nc1 : x17_3.toInt < (0 : Int) := (i_lt (x := x17_3) (y := 0)).mp c1
        refine lv_iload_n S.x S.b d_Tok_string_80 rfl (lv_at hl 2 rfl) ?_
        refine lv_sipush (v := 200) S.x S.b d_Tok_string_81 (by decide) ?_
        refine lv_icmp_gt (tgt := 111) S.x S.b d_Tok_string_84 (by decide) (fun c3 => ?_) (fun c3 => ?_)
        · have nc3 : (200 : Int) < x17_2.toInt := (i_lt (x := 200) (y := x17_2)).mp c3
          refine lv_bipush (v := 19) S.x S.b d_Tok_string_111 (by decide) ?_
          first | exact px_iret (v := 19) S hr rfl hlk hAe hw (Nat.le_of_ble_eq_true rfl) (Nat.le_of_ble_eq_true rfl) (⟨f_17, a_17, rfl, (show TokOk (f_17 7) (f_17 8) (f_17 10) (f_17 11) (f_17 12) (f_17 13) (f_17 17) (a_17 4) from ⟨⟨o1, o2⟩, ⟨o3, o4⟩, ⟨o5, o6⟩, ⟨o7, o8⟩, ⟨o9, o10⟩, ⟨o11, o12⟩, o13, hn4⟩), (show (f_17 7).toInt = (f 7).toInt from k17_0), (show (f_17 10).toInt = (f 10).toInt from k17_1), (show (f_17 15).toInt = (f 15).toInt from k17_2), (show (19 : Int) = 19 ∨ (f 8).toInt + 1 ≤ (f_17 8).toInt from by omega), (show Q5 (a_17 5) from hq5), (show R_t2_string tb f a f_17 a_17 (19 : Int32) from (k17_11 _ _ _ 1 (Or.inr (Or.inl ⟨rfl, x17_1, x17_2, x17_3, rfl, rfl, rfl, rfl, rfl, Or.inl ⟨nc1, Or.inl ⟨nc3, rfl, rfl, rfl⟩⟩⟩))))⟩) d_Tok_string_113 | exact px_iret (v := 19) S hr rfl hlk hAe hw (Nat.le_of_ble_eq_true rfl) (Nat.le_of_ble_eq_true rfl) (⟨f_17, a_17, rfl, (show TokOk (f_17 7) (f_17 8) (f_17 10) (f_17 11) (f_17 12) (f_17 13) (f_17 17) (a_17 4) from ⟨⟨by first | exact o1 | omega, by first | exact o2 | omega⟩, ⟨by first | exact o3 | omega, by first | exact o4 | omega⟩, ⟨by first | exact o5 | omega, by first | exact o6 | omega⟩, ⟨by first | exact o7 | omega, by first | exact o8 | omega⟩, ⟨by first | exact o9 | omega, by first | exact o10 | omega⟩, ⟨by first | exact o11 | omega, by first | exact o12 | omega⟩, by first | exact o13 | omega, hn4⟩), (show (f_17 7).toInt = (f 7).toInt from by first | exact k17_0 | omega), (show (f_17 10).toInt = (f 10).toInt from by first | exact k17_1 | omega), (show (f_17 15).toInt = (f 15).toInt from by first | exact k17_2 | omega), (show (19 : Int) = 19 ∨ (f 8).toInt + 1 ≤ (f_17 8).toInt from by omega), (show Q5 (a_17 5) from hq5), (show R_t2_string tb f a f_17 a_17 (19 : Int32) from (k17_11 _ _ _ 1 (Or.inr (Or.inl ⟨rfl, x17_1, x17_2, x17_3, rfl, rfl, rfl, rfl, rfl, Or.inl ⟨nc1, Or.inl ⟨nc3, rfl, rfl, rfl⟩⟩⟩))))⟩) d_Tok_string_113
        · have nc3 : ¬ (200 : Int) < x17_2.toInt := mt (i_lt (x := 200) (y := x17_2)).mpr c3
          refine lv_aload_n S.x S.b d_Tok_string_87 rfl (lv_at hl 0 rfl) ?_
          refine lv_iload_n S.x S.b d_Tok_string_88 rfl (lv_at hl 1 rfl) ?_
          first | refine px_calli (pr := []) (px_runV (As := [.int x17_1]) (rest := []) S (c_t2_byteAt l D cs h r tp tb g f_17 a_17 x17_1  (show TokOk (f_17 7) (f_17 8) (f_17 10) (f_17 11) (f_17 12) (f_17 13) (f_17 17) (a_17 4) from ⟨⟨o1, o2⟩, ⟨o3, o4⟩, ⟨o5, o6⟩, ⟨o7, o8⟩, ⟨o9, o10⟩, ⟨o11, o12⟩, o13, hn4⟩) _) hT (pr := []) (pcs := [wd_Tok cs h r (fun _ => some tp) f_17 a_17 g, [(tp, .inl (cs 1, 2048, .inl tb))]]) hw px_X.tt (px_recv hT hw 0 0 rfl rfl rfl) m3_186 m3_183 m3_185 ms_1_6 m1_2 q_Tok_byteAt ⟨Nat.le_of_ble_eq_true rfl, Nat.le_of_ble_eq_true rfl⟩ hl.1 rfl (Nat.le_of_ble_eq_true rfl) d_Tok_string_89 ⟨Nat.le_of_ble_eq_true rfl, Nat.le_of_ble_eq_true rfl⟩) hw hA (fun v6 p5 H locs hp5 hw => ?_) | refine px_calli (pr := []) (px_runV (As := [.int x17_1]) (rest := []) S (c_t2_byteAt l D cs h r tp tb g f_17 a_17 x17_1  (show TokOk (f_17 7) (f_17 8) (f_17 10) (f_17 11) (f_17 12) (f_17 13) (f_17 17) (a_17 4) from ⟨⟨by first | exact o1 | omega, by first | exact o2 | omega⟩, ⟨by first | exact o3 | omega, by first | exact o4 | omega⟩, ⟨by first | exact o5 | omega, by first | exact o6 | omega⟩, ⟨by first | exact o7 | omega, by first | exact o8 | omega⟩, ⟨by first | exact o9 | omega, by first | exact o10 | omega⟩, ⟨by first | exact o11 | omega, by first | exact o12 | omega⟩, by first | exact o13 | omega, hn4⟩) _) hT (pr := []) (pcs := [wd_Tok cs h r (fun _ => some tp) f_17 a_17 g, [(tp, .inl (cs 1, 2048, .inl tb))]]) hw px_X.tt (px_recv hT hw 0 0 rfl rfl rfl) m3_186 m3_183 m3_185 ms_1_6 m1_2 q_Tok_byteAt ⟨Nat.le_of_ble_eq_true rfl, Nat.le_of_ble_eq_true rfl⟩ hl.1 rfl (Nat.le_of_ble_eq_true rfl) d_Tok_string_89 ⟨Nat.le_of_ble_eq_true rfl, Nat.le_of_ble_eq_true rfl⟩) hw hA (fun v6 p5 H locs hp5 hw => ?_)
          obtain ⟨rfl, e7, e8, e9, e10, e11⟩ := hp5
          have e7 : -1 ≤ v6.toInt := e7
          have e8 : v6.toInt ≤ 255 := e8
          have e9 : 0 ≤ v6.toInt → 0 ≤ x17_1.toInt ∧ x17_1.toInt < (f_17 7).toInt := e9
          have e10 : By tb (f_17 7) x17_1 v6 := e10
          have e11 : R_t2_byteAt tb f_17 x17_1 v6 := e11
          have lv6 := Int32.le_toInt v6
          have uv6 := Int32.toInt_lt v6
          refine lv_bipush (v := 34) S.x S.b d_Tok_string_92 (by decide) ?_
          refine lv_icmp_ne (tgt := 111) S.x S.b d_Tok_string_94 (by decide) (fun c12 => ?_) (fun c12 => ?_)
          · have nc12 : ¬ v6.toInt = (34 : Int) := mt (i_eq (x := v6) (y := 34)).mpr c12
            refine lv_bipush (v := 19) S.x S.b d_Tok_string_111 (by decide) ?_
            first | exact px_iret (v := 19) S hr rfl hlk hAe hw (Nat.le_of_ble_eq_true rfl) (Nat.le_of_ble_eq_true rfl) (⟨f_17, a_17, rfl, (show TokOk (f_17 7) (f_17 8) (f_17 10) (f_17 11) (f_17 12) (f_17 13) (f_17 17) (a_17 4) from ⟨⟨o1, o2⟩, ⟨o3, o4⟩, ⟨o5, o6⟩, ⟨o7, o8⟩, ⟨o9, o10⟩, ⟨o11, o12⟩, o13, hn4⟩), (show (f_17 7).toInt = (f 7).toInt from k17_0), (show (f_17 10).toInt = (f 10).toInt from k17_1), (show (f_17 15).toInt = (f 15).toInt from k17_2), (show (19 : Int) = 19 ∨ (f 8).toInt + 1 ≤ (f_17 8).toInt from by omega), (show Q5 (a_17 5) from hq5), (show R_t2_string tb f a f_17 a_17 (19 : Int32) from (k17_11 _ _ _ 1 (Or.inr (Or.inl ⟨rfl, x17_1, x17_2, x17_3, rfl, rfl, rfl, rfl, rfl, Or.inl ⟨nc1, Or.inr ⟨nc3, v6, e11, Or.inl ⟨nc12, rfl, rfl, rfl⟩⟩⟩⟩))))⟩) d_Tok_string_113 | exact px_iret (v := 19) S hr rfl hlk hAe hw (Nat.le_of_ble_eq_true rfl) (Nat.le_of_ble_eq_true rfl) (⟨f_17, a_17, rfl, (show TokOk (f_17 7) (f_17 8) (f_17 10) (f_17 11) (f_17 12) (f_17 13) (f_17 17) (a_17 4) from ⟨⟨by first | exact o1 | omega, by first | exact o2 | omega⟩, ⟨by first | exact o3 | omega, by first | exact o4 | omega⟩, ⟨by first | exact o5 | omega, by first | exact o6 | omega⟩, ⟨by first | exact o7 | omega, by first | exact o8 | omega⟩, ⟨by first | exact o9 | omega, by first | exact o10 | omega⟩, ⟨by first | exact o11 | omega, by first | exact o12 | omega⟩, by first | exact o13 | omega, hn4⟩), (show (f_17 7).toInt = (f 7).toInt from by first | exact k17_0 | omega), (show (f_17 10).toInt = (f 10).toInt from by first | exact k17_1 | omega), (show (f_17 15).toInt = (f 15).toInt from by first | exact k17_2 | omega), (show (19 : Int) = 19 ∨ (f 8).toInt + 1 ≤ (f_17 8).toInt from by omega), (show Q5 (a_17 5) from hq5), (show R_t2_string tb f a f_17 a_17 (19 : Int32) from (k17_11 _ _ _ 1 (Or.inr (Or.inl ⟨rfl, x17_1, x17_2, x17_3, rfl, rfl, rfl, rfl, rfl, Or.inl ⟨nc1, Or.inr ⟨nc3, v6, e11, Or.inl ⟨nc12, rfl, rfl, rfl⟩⟩⟩⟩))))⟩) d_Tok_string_113
          · have nc12 : v6.toInt = (34 : Int) := (i_eq (x := v6) (y := 34)).mp c12
            refine lv_aload_n S.x S.b d_Tok_string_97 rfl (lv_at hl 0 rfl) ?_
            refine px_get S k_Tok hT hw 0 0 12 (v := .int (f_17 12)) rfl rfl rfl (by decide) m1_115 d_Tok_string_98 ?_
            refine lv_iload_n S.x S.b d_Tok_string_101 rfl (lv_at hl 2 rfl) ?_
            refine lv_iadd S.x S.b d_Tok_string_102 ?_
            have lr14 := Int32.le_toInt (f_17 12)
            have ur14 := Int32.toInt_lt (f_17 12)
            refine lv_topi (fun z15 ez15 => ?_)
            have tz15 : z15.toInt = ((f_17 12).toInt + x17_2.toInt + 2147483648) % 4294967296 - 2147483648 := by rw [ez15]; exact i_add (f_17 12) x17_2
            have lz15 := Int32.le_toInt z15
            have uz15 := Int32.toInt_lt z15
            try replace tz15 : z15.toInt = (f_17 12).toInt + x17_2.toInt := by omega
            refine lv_aload_n S.x S.b d_Tok_string_103 rfl (lv_at hl 0 rfl) ?_
            refine px_get S k_Tok hT hw 0 0 5 (v := .ref (r 5)) rfl rfl rfl (by decide) m1_108 d_Tok_string_104 ?_
            refine px_len S hT hw 0 6 0 rfl rfl rfl (v := 2048) rfl d_Tok_string_107 ?_
            refine lv_icmp_lt (tgt := 114) S.x S.b d_Tok_string_108 (by decide) (fun c16 => ?_) (fun c16 => ?_)
            · have nc16 : z15.toInt < (2048 : Int) := (i_lt (x := z15) (y := 2048)).mp c16
              refine lv_aload_n S.x S.b d_Tok_string_114 rfl (lv_at hl 0 rfl) ?_
              refine lv_aload_n S.x S.b d_Tok_string_115 rfl (lv_at hl 0 rfl) ?_
              refine px_get S k_Tok hT hw 0 0 12 (v := .int (f_17 12)) rfl rfl rfl (by decide) m1_115 d_Tok_string_116 ?_
              refine px_put S k_Tok hT hw 0 0 9 rfl rfl (by decide) m1_112 rfl rfl rfl (Nat.le_of_ble_eq_true rfl) d_Tok_string_119 (w' := wd_Tok cs h r (fun _ => some tp) (upd f_17 9 (f_17 12)) a_17 g) (ps' := [wd_Tok cs h r (fun _ => some tp) (upd f_17 9 (f_17 12)) a_17 g, [(tp, .inl (cs 1, 2048, .inl tb))]]) rfl rfl (fun H locs hw => ?_)
              refine lv_aload_n S.x S.b d_Tok_string_122 rfl (lv_at hl 0 rfl) ?_
              refine px_get S k_Tok hT hw 0 0 5 (v := .ref (r 5)) rfl rfl rfl (by decide) m1_108 d_Tok_string_123 ?_
              refine lv_aload_n S.x S.b d_Tok_string_126 rfl (lv_at hl 0 rfl) ?_
              refine px_get S k_Tok hT hw 0 0 12 (v := .int (f_17 12)) rfl rfl rfl (by decide) m1_115 d_Tok_string_127 ?_
              refine lv_iload_n S.x S.b d_Tok_string_130 rfl (lv_at hl 2 rfl) ?_
              refine px_iast S hT hw 0 6 (n := 2048) (f := (a_17 5)) (x := (f_17 12)) (y := x17_2) rfl (ga_Tok_5 _ _ _ _ _ _ _) (vp_in_iff.mpr (by constructor <;> omega)) d_Tok_string_131 (w' := wd_Tok cs h r (fun _ => some tp) (upd f_17 9 (f_17 12)) (va_up a_17 5 (upd (a_17 5) (f_17 12).toNatClampNeg x17_2)) g) (ps' := [wd_Tok cs h r (fun _ => some tp) (upd f_17 9 (f_17 12)) (va_up a_17 5 (upd (a_17 5) (f_17 12).toNatClampNeg x17_2)) g, [(tp, .inl (cs 1, 2048, .inl tb))]]) (sa_Tok_5 _ _ _ _ _ _ _ _) rfl (fun H locs hw => ?_)
              have hq5 := q5_up (i := (f_17 12).toNatClampNeg) (z := x17_2) hq5 (by omega)
              refine lv_aload_n S.x S.b d_Tok_string_132 rfl (lv_at hl 0 rfl) ?_
              refine lv_dup S.x S.b d_Tok_string_133 rfl ?_
              refine px_get S k_Tok hT hw 0 0 12 (v := .int (f_17 12)) rfl rfl rfl (by decide) m1_115 d_Tok_string_134 ?_
              refine lv_iload_n S.x S.b d_Tok_string_137 rfl (lv_at hl 2 rfl) ?_
              refine lv_iconst (v := 1) S.x S.b d_Tok_string_138 (by decide) ?_
              refine lv_iadd S.x S.b d_Tok_string_139 ?_
              refine lv_topi (fun z18 ez18 => ?_)
              have tz18 : z18.toInt = (x17_2.toInt + (1 : Int) + 2147483648) % 4294967296 - 2147483648 := by rw [ez18]; exact i_add x17_2 1
              have lz18 := Int32.le_toInt z18
              have uz18 := Int32.toInt_lt z18
              try replace tz18 : z18.toInt = x17_2.toInt + (1 : Int) := by omega
              refine lv_iadd S.x S.b d_Tok_string_140 ?_
              have lr19 := Int32.le_toInt (f_17 12)
              have ur19 := Int32.toInt_lt (f_17 12)
              refine lv_topi (fun z20 ez20 => ?_)
              have tz20 : z20.toInt = ((f_17 12).toInt + z18.toInt + 2147483648) % 4294967296 - 2147483648 := by rw [ez20]; exact i_add (f_17 12) z18
              have lz20 := Int32.le_toInt z20
              have uz20 := Int32.toInt_lt z20
              try replace tz20 : z20.toInt = (f_17 12).toInt + z18.toInt := by omega
              refine px_put S k_Tok hT hw 0 0 12 rfl rfl (by decide) m1_115 rfl rfl rfl (Nat.le_of_ble_eq_true rfl) d_Tok_string_141 (w' := wd_Tok cs h r (fun _ => some tp) (upd (upd f_17 9 (f_17 12)) 12 z20) (va_up a_17 5 (upd (a_17 5) (f_17 12).toNatClampNeg x17_2)) g) (ps' := [wd_Tok cs h r (fun _ => some tp) (upd (upd f_17 9 (f_17 12)) 12 z20) (va_up a_17 5 (upd (a_17 5) (f_17 12).toNatClampNeg x17_2)) g, [(tp, .inl (cs 1, 2048, .inl tb))]]) rfl rfl (fun H locs hw => ?_)
              refine lv_aload_n S.x S.b d_Tok_string_144 rfl (lv_at hl 0 rfl) ?_
              refine lv_iload_n S.x S.b d_Tok_string_145 rfl (lv_at hl 1 rfl) ?_
              refine lv_iconst (v := 1) S.x S.b d_Tok_string_146 (by decide) ?_
              refine lv_iadd S.x S.b d_Tok_string_147 ?_
              refine lv_topi (fun z21 ez21 => ?_)
              have tz21 : z21.toInt = (x17_1.toInt + (1 : Int) + 2147483648) % 4294967296 - 2147483648 := by rw [ez21]; exact i_add x17_1 1
              have lz21 := Int32.le_toInt z21
              have uz21 := Int32.toInt_lt z21
              try replace tz21 : z21.toInt = x17_1.toInt + (1 : Int) := by omega
              refine px_put S k_Tok hT hw 0 0 8 rfl rfl (by decide) m1_111 rfl rfl rfl (Nat.le_of_ble_eq_true rfl) d_Tok_string_148 (w' := wd_Tok cs h r (fun _ => some tp) (upd (upd (upd f_17 8 z21) 9 (f_17 12)) 12 z20) (va_up a_17 5 (upd (a_17 5) (f_17 12).toNatClampNeg x17_2)) g) (ps' := [wd_Tok cs h r (fun _ => some tp) (upd (upd (upd f_17 8 z21) 9 (f_17 12)) 12 z20) (va_up a_17 5 (upd (a_17 5) (f_17 12).toNatClampNeg x17_2)) g, [(tp, .inl (cs 1, 2048, .inl tb))]]) rfl rfl (fun H locs hw => ?_)
              refine lv_bipush (v := 18) S.x S.b d_Tok_string_151 (by decide) ?_
              first | exact px_iret (v := 18) S hr rfl hlk hAe hw (Nat.le_of_ble_eq_true rfl) (Nat.le_of_ble_eq_true rfl) (⟨(upd (upd (upd f_17 8 z21) 9 (f_17 12)) 12 z20), (va_up a_17 5 (upd (a_17 5) (f_17 12).toNatClampNeg x17_2)), rfl, (show TokOk (f_17 7) z21 (f_17 10) (f_17 11) z20 (f_17 13) (f_17 17) ((va_up a_17 5 (upd (a_17 5) (f_17 12).toNatClampNeg x17_2)) 4) from ⟨⟨o1, o2⟩, ⟨(oz_5a8feed08b tz21 k17_4 k17_3 o3), (oz_2110b97299 tz21 nc12 e9)⟩, ⟨o5, o6⟩, ⟨o7, o8⟩, ⟨(oz_3322af70f0 tz20 o9 tz18 k17_6), (oz_2fbb33bd74 tz20 tz15 tz18 nc16)⟩, ⟨o11, o12⟩, o13, (by rw [va_up_n (by decide)]; exact hn4)⟩), (show (f_17 7).toInt = (f 7).toInt from k17_0), (show (f_17 10).toInt = (f 10).toInt from k17_1), (show (f_17 15).toInt = (f 15).toInt from k17_2), (show (18 : Int) = 19 ∨ (f 8).toInt + 1 ≤ z21.toInt from by omega), (show Q5 ((va_up a_17 5 (upd (a_17 5) (f_17 12).toNatClampNeg x17_2)) 5) from (by rw [va_up_s]; exact hq5)), (show R_t2_string tb f a (upd (upd (upd f_17 8 z21) 9 (f_17 12)) 12 z20) (va_up a_17 5 (upd (a_17 5) (f_17 12).toNatClampNeg x17_2)) (18 : Int32) from (k17_11 _ _ _ 1 (Or.inr (Or.inl ⟨rfl, x17_1, x17_2, x17_3, rfl, rfl, rfl, rfl, rfl, Or.inl ⟨nc1, Or.inr ⟨nc3, v6, e11, Or.inr ⟨nc12, z15, ez15, Or.inl ⟨nc16, z18, ez18, z20, ez20, z21, ez21, rfl, rfl, rfl⟩⟩⟩⟩⟩))))⟩) d_Tok_string_153 | exact px_iret (v := 18) S hr rfl hlk hAe hw (Nat.le_of_ble_eq_true rfl) (Nat.le_of_ble_eq_true rfl) (⟨(upd (upd (upd f_17 8 z21) 9 (f_17 12)) 12 z20), (va_up a_17 5 (upd (a_17 5) (f_17 12).toNatClampNeg x17_2)), rfl, (show TokOk (f_17 7) z21 (f_17 10) (f_17 11) z20 (f_17 13) (f_17 17) ((va_up a_17 5 (upd (a_17 5) (f_17 12).toNatClampNeg x17_2)) 4) from ⟨⟨by first | exact o1 | omega, by first | exact o2 | omega⟩, ⟨by first | exact oz_5a8feed08b tz21 k17_4 k17_3 o3 | omega, by first | exact oz_2110b97299 tz21 nc12 e9 | omega⟩, ⟨by first | exact o5 | omega, by first | exact o6 | omega⟩, ⟨by first | exact o7 | omega, by first | exact o8 | omega⟩, ⟨by first | exact oz_3322af70f0 tz20 o9 tz18 k17_6 | omega, by first | exact oz_2fbb33bd74 tz20 tz15 tz18 nc16 | omega⟩, ⟨by first | exact o11 | omega, by first | exact o12 | omega⟩, by first | exact o13 | omega, (by rw [va_up_n (by decide)]; exact hn4)⟩), (show (f_17 7).toInt = (f 7).toInt from by first | exact k17_0 | omega), (show (f_17 10).toInt = (f 10).toInt from by first | exact k17_1 | omega), (show (f_17 15).toInt = (f 15).toInt from by first | exact k17_2 | omega), (show (18 : Int) = 19 ∨ (f 8).toInt + 1 ≤ z21.toInt from by omega), (show Q5 ((va_up a_17 5 (upd (a_17 5) (f_17 12).toNatClampNeg x17_2)) 5) from (by rw [va_up_s]; exact hq5)), (show R_t2_string tb f a (upd (upd (upd f_17 8 z21) 9 (f_17 12)) 12 z20) (va_up a_17 5 (upd (a_17 5) (f_17 12).toNatClampNeg x17_2)) (18 : Int32) from (k17_11 _ _ _ 1 (Or.inr (Or.inl ⟨rfl, x17_1, x17_2, x17_3, rfl, rfl, rfl, rfl, rfl, Or.inl ⟨nc1, Or.inr ⟨nc3, v6, e11, Or.inr ⟨nc12, z15, ez15, Or.inl ⟨nc16, z18, ez18, z20, ez20, z21, ez21, rfl, rfl, rfl⟩⟩⟩⟩⟩))))⟩) d_Tok_string_153
            · have nc16 : ¬ z15.toInt < (2048 : Int) := mt (i_lt (x := z15) (y := 2048)).mpr c16
              refine lv_bipush (v := 19) S.x S.b d_Tok_string_111 (by decide) ?_
              first | exact px_iret (v := 19) S hr rfl hlk hAe hw (Nat.le_of_ble_eq_true rfl) (Nat.le_of_ble_eq_true rfl) (⟨f_17, a_17, rfl, (show TokOk (f_17 7) (f_17 8) (f_17 10) (f_17 11) (f_17 12) (f_17 13) (f_17 17) (a_17 4) from ⟨⟨o1, o2⟩, ⟨o3, o4⟩, ⟨o5, o6⟩, ⟨o7, o8⟩, ⟨o9, o10⟩, ⟨o11, o12⟩, o13, hn4⟩), (show (f_17 7).toInt = (f 7).toInt from k17_0), (show (f_17 10).toInt = (f 10).toInt from k17_1), (show (f_17 15).toInt = (f 15).toInt from k17_2), (show (19 : Int) = 19 ∨ (f 8).toInt + 1 ≤ (f_17 8).toInt from by omega), (show Q5 (a_17 5) from hq5), (show R_t2_string tb f a f_17 a_17 (19 : Int32) from (k17_11 _ _ _ 1 (Or.inr (Or.inl ⟨rfl, x17_1, x17_2, x17_3, rfl, rfl, rfl, rfl, rfl, Or.inl ⟨nc1, Or.inr ⟨nc3, v6, e11, Or.inr ⟨nc12, z15, ez15, Or.inr ⟨nc16, rfl, rfl, rfl⟩⟩⟩⟩⟩))))⟩) d_Tok_string_113 | exact px_iret (v := 19) S hr rfl hlk hAe hw (Nat.le_of_ble_eq_true rfl) (Nat.le_of_ble_eq_true rfl) (⟨f_17, a_17, rfl, (show TokOk (f_17 7) (f_17 8) (f_17 10) (f_17 11) (f_17 12) (f_17 13) (f_17 17) (a_17 4) from ⟨⟨by first | exact o1 | omega, by first | exact o2 | omega⟩, ⟨by first | exact o3 | omega, by first | exact o4 | omega⟩, ⟨by first | exact o5 | omega, by first | exact o6 | omega⟩, ⟨by first | exact o7 | omega, by first | exact o8 | omega⟩, ⟨by first | exact o9 | omega, by first | exact o10 | omega⟩, ⟨by first | exact o11 | omega, by first | exact o12 | omega⟩, by first | exact o13 | omega, hn4⟩), (show (f_17 7).toInt = (f 7).toInt from by first | exact k17_0 | omega), (show (f_17 10).toInt = (f 10).toInt from by first | exact k17_1 | omega), (show (f_17 15).toInt = (f 15).toInt from by first | exact k17_2 | omega), (show (19 : Int) = 19 ∨ (f 8).toInt + 1 ≤ (f_17 8).toInt from by omega), (show Q5 (a_17 5) from hq5), (show R_t2_string tb f a f_17 a_17 (19 : Int32) from (k17_11 _ _ _ 1 (Or.inr (Or.inl ⟨rfl, x17_1, x17_2, x17_3, rfl, rfl, rfl, rfl, rfl, Or.inl ⟨nc1, Or.inr ⟨nc3, v6, e11, Or.inr ⟨nc12, z15, ez15, Or.inr ⟨nc16, rfl, rfl, rfl⟩⟩⟩⟩⟩))))⟩) d_Tok_string_113
      · have nc1 : ¬ x17_3.toInt < (0 : Int) := mt (i_lt (x := x17_3) (y := 0)).mpr c1
        refine lv_iload_n S.x S.b d_Tok_string_21 rfl (lv_at hl 2 rfl) ?_
        refine lv_sipush (v := 200) S.x S.b d_Tok_string_22 (by decide) ?_
        refine lv_icmp_gt (tgt := 80) S.x S.b d_Tok_string_25 (by decide) (fun c22 => ?_) (fun c22 => ?_)
        · have nc22 : (200 : Int) < x17_2.toInt := (i_lt (x := 200) (y := x17_2)).mp c22
          refine lv_iload_n S.x S.b d_Tok_string_80 rfl (lv_at hl 2 rfl) ?_
          refine lv_sipush (v := 200) S.x S.b d_Tok_string_81 (by decide) ?_
          refine lv_icmp_gt (tgt := 111) S.x S.b d_Tok_string_84 (by decide) (fun c24 => ?_) (fun c24 => ?_)
          · have nc24 : (200 : Int) < x17_2.toInt := (i_lt (x := 200) (y := x17_2)).mp c24
            refine lv_bipush (v := 19) S.x S.b d_Tok_string_111 (by decide) ?_
            first | exact px_iret (v := 19) S hr rfl hlk hAe hw (Nat.le_of_ble_eq_true rfl) (Nat.le_of_ble_eq_true rfl) (⟨f_17, a_17, rfl, (show TokOk (f_17 7) (f_17 8) (f_17 10) (f_17 11) (f_17 12) (f_17 13) (f_17 17) (a_17 4) from ⟨⟨o1, o2⟩, ⟨o3, o4⟩, ⟨o5, o6⟩, ⟨o7, o8⟩, ⟨o9, o10⟩, ⟨o11, o12⟩, o13, hn4⟩), (show (f_17 7).toInt = (f 7).toInt from k17_0), (show (f_17 10).toInt = (f 10).toInt from k17_1), (show (f_17 15).toInt = (f 15).toInt from k17_2), (show (19 : Int) = 19 ∨ (f 8).toInt + 1 ≤ (f_17 8).toInt from by omega), (show Q5 (a_17 5) from hq5), (show R_t2_string tb f a f_17 a_17 (19 : Int32) from (k17_11 _ _ _ 1 (Or.inr (Or.inl ⟨rfl, x17_1, x17_2, x17_3, rfl, rfl, rfl, rfl, rfl, Or.inr ⟨nc1, Or.inl ⟨nc22, Or.inl ⟨nc24, rfl, rfl, rfl⟩⟩⟩⟩))))⟩) d_Tok_string_113 | exact px_iret (v := 19) S hr rfl hlk hAe hw (Nat.le_of_ble_eq_true rfl) (Nat.le_of_ble_eq_true rfl) (⟨f_17, a_17, rfl, (show TokOk (f_17 7) (f_17 8) (f_17 10) (f_17 11) (f_17 12) (f_17 13) (f_17 17) (a_17 4) from ⟨⟨by first | exact o1 | omega, by first | exact o2 | omega⟩, ⟨by first | exact o3 | omega, by first | exact o4 | omega⟩, ⟨by first | exact o5 | omega, by first | exact o6 | omega⟩, ⟨by first | exact o7 | omega, by first | exact o8 | omega⟩, ⟨by first | exact o9 | omega, by first | exact o10 | omega⟩, ⟨by first | exact o11 | omega, by first | exact o12 | omega⟩, by first | exact o13 | omega, hn4⟩), (show (f_17 7).toInt = (f 7).toInt from by first | exact k17_0 | omega), (show (f_17 10).toInt = (f 10).toInt from by first | exact k17_1 | omega), (show (f_17 15).toInt = (f 15).toInt from by first | exact k17_2 | omega), (show (19 : Int) = 19 ∨ (f 8).toInt + 1 ≤ (f_17 8).toInt from by omega), (show Q5 (a_17 5) from hq5), (show R_t2_string tb f a f_17 a_17 (19 : Int32) from (k17_11 _ _ _ 1 (Or.inr (Or.inl ⟨rfl, x17_1, x17_2, x17_3, rfl, rfl, rfl, rfl, rfl, Or.inr ⟨nc1, Or.inl ⟨nc22, Or.inl ⟨nc24, rfl, rfl, rfl⟩⟩⟩⟩))))⟩) d_Tok_string_113
          · have nc24 : ¬ (200 : Int) < x17_2.toInt := mt (i_lt (x := 200) (y := x17_2)).mpr c24
            refine lv_aload_n S.x S.b d_Tok_string_87 rfl (lv_at hl 0 rfl) ?_
            refine lv_iload_n S.x S.b d_Tok_string_88 rfl (lv_at hl 1 rfl) ?_
            first | refine px_calli (pr := []) (px_runV (As := [.int x17_1]) (rest := []) S (c_t2_byteAt l D cs h r tp tb g f_17 a_17 x17_1  (show TokOk (f_17 7) (f_17 8) (f_17 10) (f_17 11) (f_17 12) (f_17 13) (f_17 17) (a_17 4) from ⟨⟨o1, o2⟩, ⟨o3, o4⟩, ⟨o5, o6⟩, ⟨o7, o8⟩, ⟨o9, o10⟩, ⟨o11, o12⟩, o13, hn4⟩) _) hT (pr := []) (pcs := [wd_Tok cs h r (fun _ => some tp) f_17 a_17 g, [(tp, .inl (cs 1, 2048, .inl tb))]]) hw px_X.tt (px_recv hT hw 0 0 rfl rfl rfl) m3_186 m3_183 m3_185 ms_1_6 m1_2 q_Tok_byteAt ⟨Nat.le_of_ble_eq_true rfl, Nat.le_of_ble_eq_true rfl⟩ hl.1 rfl (Nat.le_of_ble_eq_true rfl) d_Tok_string_89 ⟨Nat.le_of_ble_eq_true rfl, Nat.le_of_ble_eq_true rfl⟩) hw hA (fun v27 p26 H locs hp26 hw => ?_) | refine px_calli (pr := []) (px_runV (As := [.int x17_1]) (rest := []) S (c_t2_byteAt l D cs h r tp tb g f_17 a_17 x17_1  (show TokOk (f_17 7) (f_17 8) (f_17 10) (f_17 11) (f_17 12) (f_17 13) (f_17 17) (a_17 4) from ⟨⟨by first | exact o1 | omega, by first | exact o2 | omega⟩, ⟨by first | exact o3 | omega, by first | exact o4 | omega⟩, ⟨by first | exact o5 | omega, by first | exact o6 | omega⟩, ⟨by first | exact o7 | omega, by first | exact o8 | omega⟩, ⟨by first | exact o9 | omega, by first | exact o10 | omega⟩, ⟨by first | exact o11 | omega, by first | exact o12 | omega⟩, by first | exact o13 | omega, hn4⟩) _) hT (pr := []) (pcs := [wd_Tok cs h r (fun _ => some tp) f_17 a_17 g, [(tp, .inl (cs 1, 2048, .inl tb))]]) hw px_X.tt (px_recv hT hw 0 0 rfl rfl rfl) m3_186 m3_183 m3_185 ms_1_6 m1_2 q_Tok_byteAt ⟨Nat.le_of_ble_eq_true rfl, Nat.le_of_ble_eq_true rfl⟩ hl.1 rfl (Nat.le_of_ble_eq_true rfl) d_Tok_string_89 ⟨Nat.le_of_ble_eq_true rfl, Nat.le_of_ble_eq_true rfl⟩) hw hA (fun v27 p26 H locs hp26 hw => ?_)
            obtain ⟨rfl, e28, e29, e30, e31, e32⟩ := hp26
            have e28 : -1 ≤ v27.toInt := e28
            have e29 : v27.toInt ≤ 255 := e29
            have e30 : 0 ≤ v27.toInt → 0 ≤ x17_1.toInt ∧ x17_1.toInt < (f_17 7).toInt := e30
            have e31 : By tb (f_17 7) x17_1 v27 := e31
            have e32 : R_t2_byteAt tb f_17 x17_1 v27 := e32
            have lv27 := Int32.le_toInt v27
            have uv27 := Int32.toInt_lt v27
            refine lv_bipush (v := 34) S.x S.b d_Tok_string_92 (by decide) ?_
            refine lv_icmp_ne (tgt := 111) S.x S.b d_Tok_string_94 (by decide) (fun c33 => ?_) (fun c33 => ?_)
            · have nc33 : ¬ v27.toInt = (34 : Int) := mt (i_eq (x := v27) (y := 34)).mpr c33
              refine lv_bipush (v := 19) S.x S.b d_Tok_string_111 (by decide) ?_
              first | exact px_iret (v := 19) S hr rfl hlk hAe hw (Nat.le_of_ble_eq_true rfl) (Nat.le_of_ble_eq_true rfl) (⟨f_17, a_17, rfl, (show TokOk (f_17 7) (f_17 8) (f_17 10) (f_17 11) (f_17 12) (f_17 13) (f_17 17) (a_17 4) from ⟨⟨o1, o2⟩, ⟨o3, o4⟩, ⟨o5, o6⟩, ⟨o7, o8⟩, ⟨o9, o10⟩, ⟨o11, o12⟩, o13, hn4⟩), (show (f_17 7).toInt = (f 7).toInt from k17_0), (show (f_17 10).toInt = (f 10).toInt from k17_1), (show (f_17 15).toInt = (f 15).toInt from k17_2), (show (19 : Int) = 19 ∨ (f 8).toInt + 1 ≤ (f_17 8).toInt from by omega), (show Q5 (a_17 5) from hq5), (show R_t2_string tb f a f_17 a_17 (19 : Int32) from (k17_11 _ _ _ 1 (Or.inr (Or.inl ⟨rfl, x17_1, x17_2, x17_3, rfl, rfl, rfl, rfl, rfl, Or.inr ⟨nc1, Or.inl ⟨nc22, Or.inr ⟨nc24, v27, e32, Or.inl ⟨nc33, rfl, rfl, rfl⟩⟩⟩⟩⟩))))⟩) d_Tok_string_113 | exact px_iret (v := 19) S hr rfl hlk hAe hw (Nat.le_of_ble_eq_true rfl) (Nat.le_of_ble_eq_true rfl) (⟨f_17, a_17, rfl, (show TokOk (f_17 7) (f_17 8) (f_17 10) (f_17 11) (f_17 12) (f_17 13) (f_17 17) (a_17 4) from ⟨⟨by first | exact o1 | omega, by first | exact o2 | omega⟩, ⟨by first | exact o3 | omega, by first | exact o4 | omega⟩, ⟨by first | exact o5 | omega, by first | exact o6 | omega⟩, ⟨by first | exact o7 | omega, by first | exact o8 | omega⟩, ⟨by first | exact o9 | omega, by first | exact o10 | omega⟩, ⟨by first | exact o11 | omega, by first | exact o12 | omega⟩, by first | exact o13 | omega, hn4⟩), (show (f_17 7).toInt = (f 7).toInt from by first | exact k17_0 | omega), (show (f_17 10).toInt = (f 10).toInt from by first | exact k17_1 | omega), (show (f_17 15).toInt = (f 15).toInt from by first | exact k17_2 | omega), (show (19 : Int) = 19 ∨ (f 8).toInt + 1 ≤ (f_17 8).toInt from by omega), (show Q5 (a_17 5) from hq5), (show R_t2_string tb f a f_17 a_17 (19 : Int32) from (k17_11 _ _ _ 1 (Or.inr (Or.inl ⟨rfl, x17_1, x17_2, x17_3, rfl, rfl, rfl, rfl, rfl, Or.inr ⟨nc1, Or.inl ⟨nc22, Or.inr ⟨nc24, v27, e32, Or.inl ⟨nc33, rfl, rfl, rfl⟩⟩⟩⟩⟩))))⟩) d_Tok_string_113
            · have nc33 : v27.toInt = (34 : Int) := (i_eq (x := v27) (y := 34)).mp c33
              refine lv_aload_n S.x S.b d_Tok_string_97 rfl (lv_at hl 0 rfl) ?_
              refine px_get S k_Tok hT hw 0 0 12 (v := .int (f_17 12)) rfl rfl rfl (by decide) m1_115 d_Tok_string_98 ?_
              refine lv_iload_n S.x S.b d_Tok_string_101 rfl (lv_at hl 2 rfl) ?_
              refine lv_iadd S.x S.b d_Tok_string_102 ?_
              have lr35 := Int32.le_toInt (f_17 12)
              have ur35 := Int32.toInt_lt (f_17 12)
              refine lv_topi (fun z36 ez36 => ?_)
              have tz36 : z36.toInt = ((f_17 12).toInt + x17_2.toInt + 2147483648) % 4294967296 - 2147483648 := by rw [ez36]; exact i_add (f_17 12) x17_2
              have lz36 := Int32.le_toInt z36
              have uz36 := Int32.toInt_lt z36
              first | replace tz36 : z36.toInt = (f_17 12).toInt + x17_2.toInt := (oz_094660a5a5 nc22 nc24) | try replace tz36 : z36.toInt = (f_17 12).toInt + x17_2.toInt := by first | exact oz_094660a5a5 nc22 nc24 | omega
              refine lv_aload_n S.x S.b d_Tok_string_103 rfl (lv_at hl 0 rfl) ?_
              refine px_get S k_Tok hT hw 0 0 5 (v := .ref (r 5)) rfl rfl rfl (by decide) m1_108 d_Tok_string_104 ?_
              refine px_len S hT hw 0 6 0 rfl rfl rfl (v := 2048) rfl d_Tok_string_107 ?_
              refine lv_icmp_lt (tgt := 114) S.x S.b d_Tok_string_108 (by decide) (fun c37 => ?_) (fun c37 => ?_)
              · have nc37 : z36.toInt < (2048 : Int) := (i_lt (x := z36) (y := 2048)).mp c37
                refine lv_aload_n S.x S.b d_Tok_string_114 rfl (lv_at hl 0 rfl) ?_
                refine lv_aload_n S.x S.b d_Tok_string_115 rfl (lv_at hl 0 rfl) ?_
                refine px_get S k_Tok hT hw 0 0 12 (v := .int (f_17 12)) rfl rfl rfl (by decide) m1_115 d_Tok_string_116 ?_
                refine px_put S k_Tok hT hw 0 0 9 rfl rfl (by decide) m1_112 rfl rfl rfl (Nat.le_of_ble_eq_true rfl) d_Tok_string_119 (w' := wd_Tok cs h r (fun _ => some tp) (upd f_17 9 (f_17 12)) a_17 g) (ps' := [wd_Tok cs h r (fun _ => some tp) (upd f_17 9 (f_17 12)) a_17 g, [(tp, .inl (cs 1, 2048, .inl tb))]]) rfl rfl (fun H locs hw => ?_)
                refine lv_aload_n S.x S.b d_Tok_string_122 rfl (lv_at hl 0 rfl) ?_
                refine px_get S k_Tok hT hw 0 0 5 (v := .ref (r 5)) rfl rfl rfl (by decide) m1_108 d_Tok_string_123 ?_
                refine lv_aload_n S.x S.b d_Tok_string_126 rfl (lv_at hl 0 rfl) ?_
                refine px_get S k_Tok hT hw 0 0 12 (v := .int (f_17 12)) rfl rfl rfl (by decide) m1_115 d_Tok_string_127 ?_
                refine lv_iload_n S.x S.b d_Tok_string_130 rfl (lv_at hl 2 rfl) ?_
                refine px_iast S hT hw 0 6 (n := 2048) (f := (a_17 5)) (x := (f_17 12)) (y := x17_2) rfl (ga_Tok_5 _ _ _ _ _ _ _) (vp_in_iff.mpr (by constructor <;> omega)) d_Tok_string_131 (w' := wd_Tok cs h r (fun _ => some tp) (upd f_17 9 (f_17 12)) (va_up a_17 5 (upd (a_17 5) (f_17 12).toNatClampNeg x17_2)) g) (ps' := [wd_Tok cs h r (fun _ => some tp) (upd f_17 9 (f_17 12)) (va_up a_17 5 (upd (a_17 5) (f_17 12).toNatClampNeg x17_2)) g, [(tp, .inl (cs 1, 2048, .inl tb))]]) (sa_Tok_5 _ _ _ _ _ _ _ _) rfl (fun H locs hw => ?_)
                have hq5 := q5_up (i := (f_17 12).toNatClampNeg) (z := x17_2) hq5 (by omega)
                refine lv_aload_n S.x S.b d_Tok_string_132 rfl (lv_at hl 0 rfl) ?_
                refine lv_dup S.x S.b d_Tok_string_133 rfl ?_
                refine px_get S k_Tok hT hw 0 0 12 (v := .int (f_17 12)) rfl rfl rfl (by decide) m1_115 d_Tok_string_134 ?_
                refine lv_iload_n S.x S.b d_Tok_string_137 rfl (lv_at hl 2 rfl) ?_
                refine lv_iconst (v := 1) S.x S.b d_Tok_string_138 (by decide) ?_
                refine lv_iadd S.x S.b d_Tok_string_139 ?_
                refine lv_topi (fun z39 ez39 => ?_)
                have tz39 : z39.toInt = (x17_2.toInt + (1 : Int) + 2147483648) % 4294967296 - 2147483648 := by rw [ez39]; exact i_add x17_2 1
                have lz39 := Int32.le_toInt z39
                have uz39 := Int32.toInt_lt z39
                first | replace tz39 : z39.toInt = x17_2.toInt + (1 : Int) := (oz_8c84e6b7b9 nc22 nc24) | try replace tz39 : z39.toInt = x17_2.toInt + (1 : Int) := by first | exact oz_8c84e6b7b9 nc22 nc24 | omega
                refine lv_iadd S.x S.b d_Tok_string_140 ?_
                have lr40 := Int32.le_toInt (f_17 12)
                have ur40 := Int32.toInt_lt (f_17 12)
                refine lv_topi (fun z41 ez41 => ?_)
                have tz41 : z41.toInt = ((f_17 12).toInt + z39.toInt + 2147483648) % 4294967296 - 2147483648 := by rw [ez41]; exact i_add (f_17 12) z39
                have lz41 := Int32.le_toInt z41
                have uz41 := Int32.toInt_lt z41
                first | replace tz41 : z41.toInt = (f_17 12).toInt + z39.toInt := (oz_d8abe3bfd1 nc22 nc24) | try replace tz41 : z41.toInt = (f_17 12).toInt + z39.toInt := by first | exact oz_d8abe3bfd1 nc22 nc24 | omega
                refine px_put S k_Tok hT hw 0 0 12 rfl rfl (by decide) m1_115 rfl rfl rfl (Nat.le_of_ble_eq_true rfl) d_Tok_string_141 (w' := wd_Tok cs h r (fun _ => some tp) (upd (upd f_17 9 (f_17 12)) 12 z41) (va_up a_17 5 (upd (a_17 5) (f_17 12).toNatClampNeg x17_2)) g) (ps' := [wd_Tok cs h r (fun _ => some tp) (upd (upd f_17 9 (f_17 12)) 12 z41) (va_up a_17 5 (upd (a_17 5) (f_17 12).toNatClampNeg x17_2)) g, [(tp, .inl (cs 1, 2048, .inl tb))]]) rfl rfl (fun H locs hw => ?_)
                refine lv_aload_n S.x S.b d_Tok_string_144 rfl (lv_at hl 0 rfl) ?_
                refine lv_iload_n S.x S.b d_Tok_string_145 rfl (lv_at hl 1 rfl) ?_
                refine lv_iconst (v := 1) S.x S.b d_Tok_string_146 (by decide) ?_
                refine lv_iadd S.x S.b d_Tok_string_147 ?_
                refine lv_topi (fun z42 ez42 => ?_)
                have tz42 : z42.toInt = (x17_1.toInt + (1 : Int) + 2147483648) % 4294967296 - 2147483648 := by rw [ez42]; exact i_add x17_1 1
                have lz42 := Int32.le_toInt z42
                have uz42 := Int32.toInt_lt z42
                try replace tz42 : z42.toInt = x17_1.toInt + (1 : Int) := by omega
                refine px_put S k_Tok hT hw 0 0 8 rfl rfl (by decide) m1_111 rfl rfl rfl (Nat.le_of_ble_eq_true rfl) d_Tok_string_148 (w' := wd_Tok cs h r (fun _ => some tp) (upd (upd (upd f_17 8 z42) 9 (f_17 12)) 12 z41) (va_up a_17 5 (upd (a_17 5) (f_17 12).toNatClampNeg x17_2)) g) (ps' := [wd_Tok cs h r (fun _ => some tp) (upd (upd (upd f_17 8 z42) 9 (f_17 12)) 12 z41) (va_up a_17 5 (upd (a_17 5) (f_17 12).toNatClampNeg x17_2)) g, [(tp, .inl (cs 1, 2048, .inl tb))]]) rfl rfl (fun H locs hw => ?_)
                refine lv_bipush (v := 18) S.x S.b d_Tok_string_151 (by decide) ?_
                first | exact px_iret (v := 18) S hr rfl hlk hAe hw (Nat.le_of_ble_eq_true rfl) (Nat.le_of_ble_eq_true rfl) (⟨(upd (upd (upd f_17 8 z42) 9 (f_17 12)) 12 z41), (va_up a_17 5 (upd (a_17 5) (f_17 12).toNatClampNeg x17_2)), rfl, (show TokOk (f_17 7) z42 (f_17 10) (f_17 11) z41 (f_17 13) (f_17 17) ((va_up a_17 5 (upd (a_17 5) (f_17 12).toNatClampNeg x17_2)) 4) from ⟨⟨o1, o2⟩, ⟨(oz_5a8feed08b tz42 k17_4 k17_3 o3), (oz_c5703319b8 tz42 nc1 k17_9)⟩, ⟨o5, o6⟩, ⟨o7, o8⟩, ⟨(oz_62caf3659d tz41 o9 tz39 nc22), (oz_b348d3637e nc22 nc24)⟩, ⟨o11, o12⟩, o13, (by rw [va_up_n (by decide)]; exact hn4)⟩), (show (f_17 7).toInt = (f 7).toInt from k17_0), (show (f_17 10).toInt = (f 10).toInt from k17_1), (show (f_17 15).toInt = (f 15).toInt from k17_2), (show (18 : Int) = 19 ∨ (f 8).toInt + 1 ≤ z42.toInt from by omega), (show Q5 ((va_up a_17 5 (upd (a_17 5) (f_17 12).toNatClampNeg x17_2)) 5) from (by rw [va_up_s]; exact hq5)), (show R_t2_string tb f a (upd (upd (upd f_17 8 z42) 9 (f_17 12)) 12 z41) (va_up a_17 5 (upd (a_17 5) (f_17 12).toNatClampNeg x17_2)) (18 : Int32) from (k17_11 _ _ _ 1 (Or.inr (Or.inl ⟨rfl, x17_1, x17_2, x17_3, rfl, rfl, rfl, rfl, rfl, Or.inr ⟨nc1, Or.inl ⟨nc22, Or.inr ⟨nc24, v27, e32, Or.inr ⟨nc33, z36, ez36, Or.inl ⟨nc37, z39, ez39, z41, ez41, z42, ez42, rfl, rfl, rfl⟩⟩⟩⟩⟩⟩))))⟩) d_Tok_string_153 | exact px_iret (v := 18) S hr rfl hlk hAe hw (Nat.le_of_ble_eq_true rfl) (Nat.le_of_ble_eq_true rfl) (⟨(upd (upd (upd f_17 8 z42) 9 (f_17 12)) 12 z41), (va_up a_17 5 (upd (a_17 5) (f_17 12).toNatClampNeg x17_2)), rfl, (show TokOk (f_17 7) z42 (f_17 10) (f_17 11) z41 (f_17 13) (f_17 17) ((va_up a_17 5 (upd (a_17 5) (f_17 12).toNatClampNeg x17_2)) 4) from ⟨⟨by first | exact o1 | omega, by first | exact o2 | omega⟩, ⟨by first | exact oz_5a8feed08b tz42 k17_4 k17_3 o3 | omega, by first | exact oz_c5703319b8 tz42 nc1 k17_9 | omega⟩, ⟨by first | exact o5 | omega, by first | exact o6 | omega⟩, ⟨by first | exact o7 | omega, by first | exact o8 | omega⟩, ⟨by first | exact oz_62caf3659d tz41 o9 tz39 nc22 | omega, by first | exact oz_b348d3637e nc22 nc24 | omega⟩, ⟨by first | exact o11 | omega, by first | exact o12 | omega⟩, by first | exact o13 | omega, (by rw [va_up_n (by decide)]; exact hn4)⟩), (show (f_17 7).toInt = (f 7).toInt from by first | exact k17_0 | omega), (show (f_17 10).toInt = (f 10).toInt from by first | exact k17_1 | omega), (show (f_17 15).toInt = (f 15).toInt from by first | exact k17_2 | omega), (show (18 : Int) = 19 ∨ (f 8).toInt + 1 ≤ z42.toInt from by omega), (show Q5 ((va_up a_17 5 (upd (a_17 5) (f_17 12).toNatClampNeg x17_2)) 5) from (by rw [va_up_s]; exact hq5)), (show R_t2_string tb f a (upd (upd (upd f_17 8 z42) 9 (f_17 12)) 12 z41) (va_up a_17 5 (upd (a_17 5) (f_17 12).toNatClampNeg x17_2)) (18 : Int32) from (k17_11 _ _ _ 1 (Or.inr (Or.inl ⟨rfl, x17_1, x17_2, x17_3, rfl, rfl, rfl, rfl, rfl, Or.inr ⟨nc1, Or.inl ⟨nc22, Or.inr ⟨nc24, v27, e32, Or.inr ⟨nc33, z36, ez36, Or.inl ⟨nc37, z39, ez39, z41, ez41, z42, ez42, rfl, rfl, rfl⟩⟩⟩⟩⟩⟩))))⟩) d_Tok_string_153
              · have nc37 : ¬ z36.toInt < (2048 : Int) := mt (i_lt (x := z36) (y := 2048)).mpr c37
                refine lv_bipush (v := 19) S.x S.b d_Tok_string_111 (by decide) ?_
                first | exact px_iret (v := 19) S hr rfl hlk hAe hw (Nat.le_of_ble_eq_true rfl) (Nat.le_of_ble_eq_true rfl) (⟨f_17, a_17, rfl, (show TokOk (f_17 7) (f_17 8) (f_17 10) (f_17 11) (f_17 12) (f_17 13) (f_17 17) (a_17 4) from ⟨⟨o1, o2⟩, ⟨o3, o4⟩, ⟨o5, o6⟩, ⟨o7, o8⟩, ⟨o9, o10⟩, ⟨o11, o12⟩, o13, hn4⟩), (show (f_17 7).toInt = (f 7).toInt from k17_0), (show (f_17 10).toInt = (f 10).toInt from k17_1), (show (f_17 15).toInt = (f 15).toInt from k17_2), (show (19 : Int) = 19 ∨ (f 8).toInt + 1 ≤ (f_17 8).toInt from by omega), (show Q5 (a_17 5) from hq5), (show R_t2_string tb f a f_17 a_17 (19 : Int32) from (k17_11 _ _ _ 1 (Or.inr (Or.inl ⟨rfl, x17_1, x17_2, x17_3, rfl, rfl, rfl, rfl, rfl, Or.inr ⟨nc1, Or.inl ⟨nc22, Or.inr ⟨nc24, v27, e32, Or.inr ⟨nc33, z36, ez36, Or.inr ⟨nc37, rfl, rfl, rfl⟩⟩⟩⟩⟩⟩))))⟩) d_Tok_string_113 | exact px_iret (v := 19) S hr rfl hlk hAe hw (Nat.le_of_ble_eq_true rfl) (Nat.le_of_ble_eq_true rfl) (⟨f_17, a_17, rfl, (show TokOk (f_17 7) (f_17 8) (f_17 10) (f_17 11) (f_17 12) (f_17 13) (f_17 17) (a_17 4) from ⟨⟨by first | exact o1 | omega, by first | exact o2 | omega⟩, ⟨by first | exact o3 | omega, by first | exact o4 | omega⟩, ⟨by first | exact o5 | omega, by first | exact o6 | omega⟩, ⟨by first | exact o7 | omega, by first | exact o8 | omega⟩, ⟨by first | exact o9 | omega, by first | exact o10 | omega⟩, ⟨by first | exact o11 | omega, by first | exact o12 | omega⟩, by first | exact o13 | omega, hn4⟩), (show (f_17 7).toInt = (f 7).toInt from by first | exact k17_0 | omega), (show (f_17 10).toInt = (f 10).toInt from by first | exact k17_1 | omega), (show (f_17 15).toInt = (f 15).toInt from by first | exact k17_2 | omega), (show (19 : Int) = 19 ∨ (f 8).toInt + 1 ≤ (f_17 8).toInt from by omega), (show Q5 (a_17 5) from hq5), (show R_t2_string tb f a f_17 a_17 (19 : Int32) from (k17_11 _ _ _ 1 (Or.inr (Or.inl ⟨rfl, x17_1, x17_2, x17_3, rfl, rfl, rfl, rfl, rfl, Or.inr ⟨nc1, Or.inl ⟨nc22, Or.inr ⟨nc24, v27, e32, Or.inr ⟨nc33, z36, ez36, Or.inr ⟨nc37, rfl, rfl, rfl⟩⟩⟩⟩⟩⟩))))⟩) d_Tok_string_113
        · have nc22 : ¬ (200 : Int) < x17_2.toInt := mt (i_lt (x := 200) (y := x17_2)).mpr c22
          refine lv_aload_n S.x S.b d_Tok_string_28 rfl (lv_at hl 0 rfl) ?_
          refine px_get S k_Tok hT hw 0 0 12 (v := .int (f_17 12)) rfl rfl rfl (by decide) m1_115 d_Tok_string_29 ?_
          refine lv_iconst (v := 1) S.x S.b d_Tok_string_32 (by decide) ?_
          refine lv_iadd S.x S.b d_Tok_string_33 ?_
          have lr43 := Int32.le_toInt (f_17 12)
          have ur43 := Int32.toInt_lt (f_17 12)
          refine lv_topi (fun z44 ez44 => ?_)
          have tz44 : z44.toInt = ((f_17 12).toInt + (1 : Int) + 2147483648) % 4294967296 - 2147483648 := by rw [ez44]; exact i_add (f_17 12) 1
          have lz44 := Int32.le_toInt z44
          have uz44 := Int32.toInt_lt z44
          try replace tz44 : z44.toInt = (f_17 12).toInt + (1 : Int) := by omega
          refine lv_iload_n S.x S.b d_Tok_string_34 rfl (lv_at hl 2 rfl) ?_
          refine lv_iadd S.x S.b d_Tok_string_35 ?_
          refine lv_topi (fun z45 ez45 => ?_)
          have tz45 : z45.toInt = (z44.toInt + x17_2.toInt + 2147483648) % 4294967296 - 2147483648 := by rw [ez45]; exact i_add z44 x17_2
          have lz45 := Int32.le_toInt z45
          have uz45 := Int32.toInt_lt z45
          try replace tz45 : z45.toInt = z44.toInt + x17_2.toInt := by omega
          refine lv_aload_n S.x S.b d_Tok_string_36 rfl (lv_at hl 0 rfl) ?_
          refine px_get S k_Tok hT hw 0 0 5 (v := .ref (r 5)) rfl rfl rfl (by decide) m1_108 d_Tok_string_37 ?_
          refine px_len S hT hw 0 6 0 rfl rfl rfl (v := 2048) rfl d_Tok_string_40 ?_
          refine lv_icmp_ge (tgt := 58) S.x S.b d_Tok_string_41 (by decide) (fun c46 => ?_) (fun c46 => ?_)
          · have nc46 : (2048 : Int) ≤ z45.toInt := (i_le (x := 2048) (y := z45)).mp c46
            obtain ⟨z48, ez48⟩ : ∃ y : Int32, y = x17_2 + 1 := ⟨_, rfl⟩
            have tz48 : z48.toInt = (x17_2.toInt + 1 + 2147483648) % 4294967296 - 2147483648 := by rw [ez48]; exact i_add x17_2 1
            have lz48 := Int32.le_toInt z48
            have uz48 := Int32.toInt_lt z48
            try replace tz48 : z48.toInt = x17_2.toInt + 1 := by omega
            refine lv_iinc (v := z48) (lv' := [(2, .int z48), (0, .ref h), (1, .int x17_1), (3, .int x17_3)]) S.x S.b d_Tok_string_58 hl (k := 2) rfl (by rw [ez48]; rfl) (by decide) rfl (fun ls hl => ?_)
            refine lv_iload_n S.x S.b d_Tok_string_61 rfl (lv_at hl 2 rfl) ?_
            refine lv_aload_n S.x S.b d_Tok_string_62 rfl (lv_at hl 1 rfl) ?_
            refine lv_iload_n S.x S.b d_Tok_string_63 rfl (lv_at hl 2 rfl) ?_
            first | refine px_calli (pr := []) (px_runV (As := [.int x17_1]) (rest := [.int x17_1]) S (c_t2_quotedWidth l D cs h r tp tb g f_17 a_17 x17_1  (show TokOk (f_17 7) (f_17 8) (f_17 10) (f_17 11) (f_17 12) (f_17 13) (f_17 17) (a_17 4) from ⟨⟨o1, o2⟩, ⟨o3, o4⟩, ⟨o5, o6⟩, ⟨o7, o8⟩, ⟨o9, o10⟩, ⟨o11, o12⟩, o13, hn4⟩) _) hT (pr := []) (pcs := [wd_Tok cs h r (fun _ => some tp) f_17 a_17 g, [(tp, .inl (cs 1, 2048, .inl tb))]]) hw px_X.tt (px_recv hT hw 0 0 rfl rfl rfl) m3_237 m3_234 m3_236 ms_2_1 m1_2 q_Tok_quotedWidth ⟨Nat.le_of_ble_eq_true rfl, Nat.le_of_ble_eq_true rfl⟩ hl.1 rfl (Nat.le_of_ble_eq_true rfl) d_Tok_string_64 ⟨Nat.le_of_ble_eq_true rfl, Nat.le_of_ble_eq_true rfl⟩) hw hA (fun v50 p49 H locs hp49 hw => ?_) | refine px_calli (pr := []) (px_runV (As := [.int x17_1]) (rest := [.int x17_1]) S (c_t2_quotedWidth l D cs h r tp tb g f_17 a_17 x17_1  (show TokOk (f_17 7) (f_17 8) (f_17 10) (f_17 11) (f_17 12) (f_17 13) (f_17 17) (a_17 4) from ⟨⟨by first | exact o1 | omega, by first | exact o2 | omega⟩, ⟨by first | exact o3 | omega, by first | exact o4 | omega⟩, ⟨by first | exact o5 | omega, by first | exact o6 | omega⟩, ⟨by first | exact o7 | omega, by first | exact o8 | omega⟩, ⟨by first | exact o9 | omega, by first | exact o10 | omega⟩, ⟨by first | exact o11 | omega, by first | exact o12 | omega⟩, by first | exact o13 | omega, hn4⟩) _) hT (pr := []) (pcs := [wd_Tok cs h r (fun _ => some tp) f_17 a_17 g, [(tp, .inl (cs 1, 2048, .inl tb))]]) hw px_X.tt (px_recv hT hw 0 0 rfl rfl rfl) m3_237 m3_234 m3_236 ms_2_1 m1_2 q_Tok_quotedWidth ⟨Nat.le_of_ble_eq_true rfl, Nat.le_of_ble_eq_true rfl⟩ hl.1 rfl (Nat.le_of_ble_eq_true rfl) d_Tok_string_64 ⟨Nat.le_of_ble_eq_true rfl, Nat.le_of_ble_eq_true rfl⟩) hw hA (fun v50 p49 H locs hp49 hw => ?_)
            obtain ⟨rfl, e51, e52, e53⟩ := hp49
            have e51 : 1 ≤ v50.toInt := e51
            have e52 : v50.toInt ≤ 2 := e52
            have e53 : R_t2_quotedWidth tb f_17 x17_1 v50 := e53
            have lv50 := Int32.le_toInt v50
            have uv50 := Int32.toInt_lt v50
            refine lv_iadd S.x S.b d_Tok_string_67 ?_
            refine lv_topi (fun z54 ez54 => ?_)
            have tz54 : z54.toInt = (x17_1.toInt + v50.toInt + 2147483648) % 4294967296 - 2147483648 := by rw [ez54]; exact i_add x17_1 v50
            have lz54 := Int32.le_toInt z54
            have uz54 := Int32.toInt_lt z54
            try replace tz54 : z54.toInt = x17_1.toInt + v50.toInt := by omega
            refine lv_istore_n (lv' := [(1, .int z54), (2, .int z48), (0, .ref h), (3, .int x17_3)]) S.x S.b d_Tok_string_68 rfl hl (by decide) rfl (fun ls hl => ?_)
            refine lv_aload_n S.x S.b d_Tok_string_69 rfl (lv_at hl 2 rfl) ?_
            refine lv_iload_n S.x S.b d_Tok_string_70 rfl (lv_at hl 0 rfl) ?_
            refine lv_bipush (v := 34) S.x S.b d_Tok_string_71 (by decide) ?_
            first | refine px_calli (pr := []) (px_runV (As := [.int z54, .int 34]) (rest := []) S (c_t2_quotedAt l D cs h r tp tb g f_17 a_17 z54 34  (show TokOk (f_17 7) (f_17 8) (f_17 10) (f_17 11) (f_17 12) (f_17 13) (f_17 17) (a_17 4) from ⟨⟨o1, o2⟩, ⟨o3, o4⟩, ⟨o5, o6⟩, ⟨o7, o8⟩, ⟨o9, o10⟩, ⟨o11, o12⟩, o13, hn4⟩) (show (34 : Int) ≤ 100 from oz_e07fc907b2) _) hT (pr := []) (pcs := [wd_Tok cs h r (fun _ => some tp) f_17 a_17 g, [(tp, .inl (cs 1, 2048, .inl tb))]]) hw px_X.tt (px_recv hT hw 0 0 rfl rfl rfl) m3_233 m3_230 m3_232 ms_2_0 m1_2 q_Tok_quotedAt ⟨Nat.le_of_ble_eq_true rfl, Nat.le_of_ble_eq_true rfl⟩ hl.1 rfl (Nat.le_of_ble_eq_true rfl) d_Tok_string_73 ⟨Nat.le_of_ble_eq_true rfl, Nat.le_of_ble_eq_true rfl⟩) hw hA (fun v56 p55 H locs hp55 hw => ?_) | refine px_calli (pr := []) (px_runV (As := [.int z54, .int 34]) (rest := []) S (c_t2_quotedAt l D cs h r tp tb g f_17 a_17 z54 34  (show TokOk (f_17 7) (f_17 8) (f_17 10) (f_17 11) (f_17 12) (f_17 13) (f_17 17) (a_17 4) from ⟨⟨by first | exact o1 | omega, by first | exact o2 | omega⟩, ⟨by first | exact o3 | omega, by first | exact o4 | omega⟩, ⟨by first | exact o5 | omega, by first | exact o6 | omega⟩, ⟨by first | exact o7 | omega, by first | exact o8 | omega⟩, ⟨by first | exact o9 | omega, by first | exact o10 | omega⟩, ⟨by first | exact o11 | omega, by first | exact o12 | omega⟩, by first | exact o13 | omega, hn4⟩) (show (34 : Int) ≤ 100 from by first | exact oz_e07fc907b2 | omega) _) hT (pr := []) (pcs := [wd_Tok cs h r (fun _ => some tp) f_17 a_17 g, [(tp, .inl (cs 1, 2048, .inl tb))]]) hw px_X.tt (px_recv hT hw 0 0 rfl rfl rfl) m3_233 m3_230 m3_232 ms_2_0 m1_2 q_Tok_quotedAt ⟨Nat.le_of_ble_eq_true rfl, Nat.le_of_ble_eq_true rfl⟩ hl.1 rfl (Nat.le_of_ble_eq_true rfl) d_Tok_string_73 ⟨Nat.le_of_ble_eq_true rfl, Nat.le_of_ble_eq_true rfl⟩) hw hA (fun v56 p55 H locs hp55 hw => ?_)
            obtain ⟨rfl, e57, e58, e59, e60⟩ := hp55
            have e57 : -1 ≤ v56.toInt := e57
            have e58 : v56.toInt ≤ 200 := e58
            have e59 : 0 ≤ v56.toInt → 0 ≤ z54.toInt ∧ z54.toInt < (f_17 7).toInt := e59
            have e60 : R_t2_quotedAt tb f_17 z54 (34 : Int32) v56 := e60
            have lv56 := Int32.le_toInt v56
            have uv56 := Int32.toInt_lt v56
            refine lv_istore_n (lv' := [(3, .int v56), (1, .int z54), (2, .int z48), (0, .ref h)]) S.x S.b d_Tok_string_76 rfl hl (by decide) rfl (fun ls hl => ?_)
            refine lv_goto (tgt := 17) S.x S.b d_Tok_string_77 (by decide) ?_
            first | exact ih17 f_17 a_17 z54 z48 v56 _ _ ls (show TokOk (f_17 7) (f_17 8) (f_17 10) (f_17 11) (f_17 12) (f_17 13) (f_17 17) (a_17 4) from ⟨⟨o1, o2⟩, ⟨o3, o4⟩, ⟨o5, o6⟩, ⟨o7, o8⟩, ⟨o9, o10⟩, ⟨o11, o12⟩, o13, hn4⟩) (show (f_17 7).toInt = (f 7).toInt from k17_0) (show (f_17 10).toInt = (f 10).toInt from k17_1) (show (f_17 15).toInt = (f 15).toInt from k17_2) (show (f_17 8).toInt = (f 8).toInt from k17_3) (show (f 8).toInt + 1 ≤ z54.toInt from (oz_f4fc9d49f4 k17_4 tz54 e51)) (show z54.toInt ≤ (f_17 7).toInt+16 from (oz_72973cefa7 tz54 nc1 k17_9 e52)) (show 0 ≤ z48.toInt from (oz_ae613611c0 tz48 k17_6)) (show z48.toInt ≤ 201 from (oz_efe439d2c9 tz48 nc22)) (show v56.toInt ≤ 200 from e58) (show 0 ≤ v56.toInt → z54.toInt < (f_17 7).toInt from by omega) (show Q5 (a_17 5) from hq5) (show K_t2_string_17 tb f a f_17 a_17 z54 z48 v56 from (fun y_f0 y_f1 y_v k hE => k17_11 y_f0 y_f1 y_v (k + 1) (Or.inr (Or.inl ⟨rfl, x17_1, x17_2, x17_3, rfl, rfl, rfl, rfl, rfl, Or.inr ⟨nc1, Or.inr ⟨nc22, z44, ez44, z45, ez45, Or.inl ⟨nc46, z48, ez48, v50, e53, z54, ez54, v56, e60, hE⟩⟩⟩⟩)))) (show (202 : Int)-z48.toInt < (n_17 : Int) from (oz_48b3304134 hm tz48)) hw (lv_sub hl [3, 1, 2, 0] rfl) | exact ih17 f_17 a_17 z54 z48 v56 _ _ ls (show TokOk (f_17 7) (f_17 8) (f_17 10) (f_17 11) (f_17 12) (f_17 13) (f_17 17) (a_17 4) from ⟨⟨by first | exact o1 | omega, by first | exact o2 | omega⟩, ⟨by first | exact o3 | omega, by first | exact o4 | omega⟩, ⟨by first | exact o5 | omega, by first | exact o6 | omega⟩, ⟨by first | exact o7 | omega, by first | exact o8 | omega⟩, ⟨by first | exact o9 | omega, by first | exact o10 | omega⟩, ⟨by first | exact o11 | omega, by first | exact o12 | omega⟩, by first | exact o13 | omega, hn4⟩) (show (f_17 7).toInt = (f 7).toInt from by first | exact k17_0 | omega) (show (f_17 10).toInt = (f 10).toInt from by first | exact k17_1 | omega) (show (f_17 15).toInt = (f 15).toInt from by first | exact k17_2 | omega) (show (f_17 8).toInt = (f 8).toInt from by first | exact k17_3 | omega) (show (f 8).toInt + 1 ≤ z54.toInt from by first | exact oz_f4fc9d49f4 k17_4 tz54 e51 | omega) (show z54.toInt ≤ (f_17 7).toInt+16 from by first | exact oz_72973cefa7 tz54 nc1 k17_9 e52 | omega) (show 0 ≤ z48.toInt from by first | exact oz_ae613611c0 tz48 k17_6 | omega) (show z48.toInt ≤ 201 from by first | exact oz_efe439d2c9 tz48 nc22 | omega) (show v56.toInt ≤ 200 from by first | exact e58 | omega) (show 0 ≤ v56.toInt → z54.toInt < (f_17 7).toInt from by omega) (show Q5 (a_17 5) from hq5) (show K_t2_string_17 tb f a f_17 a_17 z54 z48 v56 from (fun y_f0 y_f1 y_v k hE => k17_11 y_f0 y_f1 y_v (k + 1) (Or.inr (Or.inl ⟨rfl, x17_1, x17_2, x17_3, rfl, rfl, rfl, rfl, rfl, Or.inr ⟨nc1, Or.inr ⟨nc22, z44, ez44, z45, ez45, Or.inl ⟨nc46, z48, ez48, v50, e53, z54, ez54, v56, e60, hE⟩⟩⟩⟩)))) (show (202 : Int)-z48.toInt < (n_17 : Int) from by first | exact oz_48b3304134 hm tz48 | omega) hw (lv_sub hl [3, 1, 2, 0] rfl)
          · have nc46 : ¬ (2048 : Int) ≤ z45.toInt := mt (i_le (x := 2048) (y := z45)).mpr c46
            refine lv_aload_n S.x S.b d_Tok_string_44 rfl (lv_at hl 0 rfl) ?_
            refine px_get S k_Tok hT hw 0 0 5 (v := .ref (r 5)) rfl rfl rfl (by decide) m1_108 d_Tok_string_45 ?_
            refine lv_aload_n S.x S.b d_Tok_string_48 rfl (lv_at hl 0 rfl) ?_
            refine px_get S k_Tok hT hw 0 0 12 (v := .int (f_17 12)) rfl rfl rfl (by decide) m1_115 d_Tok_string_49 ?_
            refine lv_iconst (v := 1) S.x S.b d_Tok_string_52 (by decide) ?_
            refine lv_iadd S.x S.b d_Tok_string_53 ?_
            have lr61 := Int32.le_toInt (f_17 12)
            have ur61 := Int32.toInt_lt (f_17 12)
            refine lv_topi (fun z62 ez62 => ?_)
            have tz62 : z62.toInt = ((f_17 12).toInt + (1 : Int) + 2147483648) % 4294967296 - 2147483648 := by rw [ez62]; exact i_add (f_17 12) 1
            have lz62 := Int32.le_toInt z62
            have uz62 := Int32.toInt_lt z62
            try replace tz62 : z62.toInt = (f_17 12).toInt + (1 : Int) := by omega
            refine lv_iload_n S.x S.b d_Tok_string_54 rfl (lv_at hl 2 rfl) ?_
            refine lv_iadd S.x S.b d_Tok_string_55 ?_
            refine lv_topi (fun z63 ez63 => ?_)
            have tz63 : z63.toInt = (z62.toInt + x17_2.toInt + 2147483648) % 4294967296 - 2147483648 := by rw [ez63]; exact i_add z62 x17_2
            have lz63 := Int32.le_toInt z63
            have uz63 := Int32.toInt_lt z63
            try replace tz63 : z63.toInt = z62.toInt + x17_2.toInt := by omega
            refine lv_iload_n S.x S.b d_Tok_string_56 rfl (lv_at hl 3 rfl) ?_
            refine px_iast S hT hw 0 6 (n := 2048) (f := (a_17 5)) (x := z63) (y := x17_3) rfl (ga_Tok_5 _ _ _ _ _ _ _) (vp_in_iff.mpr (by constructor <;> omega)) d_Tok_string_57 (w' := wd_Tok cs h r (fun _ => some tp) f_17 (va_up a_17 5 (upd (a_17 5) z63.toNatClampNeg x17_3)) g) (ps' := [wd_Tok cs h r (fun _ => some tp) f_17 (va_up a_17 5 (upd (a_17 5) z63.toNatClampNeg x17_3)) g, [(tp, .inl (cs 1, 2048, .inl tb))]]) (sa_Tok_5 _ _ _ _ _ _ _ _) rfl (fun H locs hw => ?_)
            have hq5 := q5_up (i := z63.toNatClampNeg) (z := x17_3) hq5 (by omega)
            obtain ⟨z64, ez64⟩ : ∃ y : Int32, y = x17_2 + 1 := ⟨_, rfl⟩
            have tz64 : z64.toInt = (x17_2.toInt + 1 + 2147483648) % 4294967296 - 2147483648 := by rw [ez64]; exact i_add x17_2 1
            have lz64 := Int32.le_toInt z64
            have uz64 := Int32.toInt_lt z64
            try replace tz64 : z64.toInt = x17_2.toInt + 1 := by omega
            refine lv_iinc (v := z64) (lv' := [(2, .int z64), (0, .ref h), (1, .int x17_1), (3, .int x17_3)]) S.x S.b d_Tok_string_58 hl (k := 2) rfl (by rw [ez64]; rfl) (by decide) rfl (fun ls hl => ?_)
            refine lv_iload_n S.x S.b d_Tok_string_61 rfl (lv_at hl 2 rfl) ?_
            refine lv_aload_n S.x S.b d_Tok_string_62 rfl (lv_at hl 1 rfl) ?_
            refine lv_iload_n S.x S.b d_Tok_string_63 rfl (lv_at hl 2 rfl) ?_
            first | refine px_calli (pr := []) (px_runV (As := [.int x17_1]) (rest := [.int x17_1]) S (c_t2_quotedWidth l D cs h r tp tb g f_17 (va_up a_17 5 (upd (a_17 5) z63.toNatClampNeg x17_3)) x17_1  (show TokOk (f_17 7) (f_17 8) (f_17 10) (f_17 11) (f_17 12) (f_17 13) (f_17 17) ((va_up a_17 5 (upd (a_17 5) z63.toNatClampNeg x17_3)) 4) from ⟨⟨o1, o2⟩, ⟨o3, o4⟩, ⟨o5, o6⟩, ⟨o7, o8⟩, ⟨o9, o10⟩, ⟨o11, o12⟩, o13, (by rw [va_up_n (by decide)]; exact hn4)⟩) _) hT (pr := []) (pcs := [wd_Tok cs h r (fun _ => some tp) f_17 (va_up a_17 5 (upd (a_17 5) z63.toNatClampNeg x17_3)) g, [(tp, .inl (cs 1, 2048, .inl tb))]]) hw px_X.tt (px_recv hT hw 0 0 rfl rfl rfl) m3_237 m3_234 m3_236 ms_2_1 m1_2 q_Tok_quotedWidth ⟨Nat.le_of_ble_eq_true rfl, Nat.le_of_ble_eq_true rfl⟩ hl.1 rfl (Nat.le_of_ble_eq_true rfl) d_Tok_string_64 ⟨Nat.le_of_ble_eq_true rfl, Nat.le_of_ble_eq_true rfl⟩) hw hA (fun v66 p65 H locs hp65 hw => ?_) | refine px_calli (pr := []) (px_runV (As := [.int x17_1]) (rest := [.int x17_1]) S (c_t2_quotedWidth l D cs h r tp tb g f_17 (va_up a_17 5 (upd (a_17 5) z63.toNatClampNeg x17_3)) x17_1  (show TokOk (f_17 7) (f_17 8) (f_17 10) (f_17 11) (f_17 12) (f_17 13) (f_17 17) ((va_up a_17 5 (upd (a_17 5) z63.toNatClampNeg x17_3)) 4) from ⟨⟨by first | exact o1 | omega, by first | exact o2 | omega⟩, ⟨by first | exact o3 | omega, by first | exact o4 | omega⟩, ⟨by first | exact o5 | omega, by first | exact o6 | omega⟩, ⟨by first | exact o7 | omega, by first | exact o8 | omega⟩, ⟨by first | exact o9 | omega, by first | exact o10 | omega⟩, ⟨by first | exact o11 | omega, by first | exact o12 | omega⟩, by first | exact o13 | omega, (by rw [va_up_n (by decide)]; exact hn4)⟩) _) hT (pr := []) (pcs := [wd_Tok cs h r (fun _ => some tp) f_17 (va_up a_17 5 (upd (a_17 5) z63.toNatClampNeg x17_3)) g, [(tp, .inl (cs 1, 2048, .inl tb))]]) hw px_X.tt (px_recv hT hw 0 0 rfl rfl rfl) m3_237 m3_234 m3_236 ms_2_1 m1_2 q_Tok_quotedWidth ⟨Nat.le_of_ble_eq_true rfl, Nat.le_of_ble_eq_true rfl⟩ hl.1 rfl (Nat.le_of_ble_eq_true rfl) d_Tok_string_64 ⟨Nat.le_of_ble_eq_true rfl, Nat.le_of_ble_eq_true rfl⟩) hw hA (fun v66 p65 H locs hp65 hw => ?_)
            obtain ⟨rfl, e67, e68, e69⟩ := hp65
            have e67 : 1 ≤ v66.toInt := e67
            have e68 : v66.toInt ≤ 2 := e68
            have e69 : R_t2_quotedWidth tb f_17 x17_1 v66 := e69
            have lv66 := Int32.le_toInt v66
            have uv66 := Int32.toInt_lt v66
            refine lv_iadd S.x S.b d_Tok_string_67 ?_
            refine lv_topi (fun z70 ez70 => ?_)
            have tz70 : z70.toInt = (x17_1.toInt + v66.toInt + 2147483648) % 4294967296 - 2147483648 := by rw [ez70]; exact i_add x17_1 v66
            have lz70 := Int32.le_toInt z70
            have uz70 := Int32.toInt_lt z70
            try replace tz70 : z70.toInt = x17_1.toInt + v66.toInt := by omega
            refine lv_istore_n (lv' := [(1, .int z70), (2, .int z64), (0, .ref h), (3, .int x17_3)]) S.x S.b d_Tok_string_68 rfl hl (by decide) rfl (fun ls hl => ?_)
            refine lv_aload_n S.x S.b d_Tok_string_69 rfl (lv_at hl 2 rfl) ?_
            refine lv_iload_n S.x S.b d_Tok_string_70 rfl (lv_at hl 0 rfl) ?_
            refine lv_bipush (v := 34) S.x S.b d_Tok_string_71 (by decide) ?_
            first | refine px_calli (pr := []) (px_runV (As := [.int z70, .int 34]) (rest := []) S (c_t2_quotedAt l D cs h r tp tb g f_17 (va_up a_17 5 (upd (a_17 5) z63.toNatClampNeg x17_3)) z70 34  (show TokOk (f_17 7) (f_17 8) (f_17 10) (f_17 11) (f_17 12) (f_17 13) (f_17 17) ((va_up a_17 5 (upd (a_17 5) z63.toNatClampNeg x17_3)) 4) from ⟨⟨o1, o2⟩, ⟨o3, o4⟩, ⟨o5, o6⟩, ⟨o7, o8⟩, ⟨o9, o10⟩, ⟨o11, o12⟩, o13, (by rw [va_up_n (by decide)]; exact hn4)⟩) (show (34 : Int) ≤ 100 from oz_e07fc907b2) _) hT (pr := []) (pcs := [wd_Tok cs h r (fun _ => some tp) f_17 (va_up a_17 5 (upd (a_17 5) z63.toNatClampNeg x17_3)) g, [(tp, .inl (cs 1, 2048, .inl tb))]]) hw px_X.tt (px_recv hT hw 0 0 rfl rfl rfl) m3_233 m3_230 m3_232 ms_2_0 m1_2 q_Tok_quotedAt ⟨Nat.le_of_ble_eq_true rfl, Nat.le_of_ble_eq_true rfl⟩ hl.1 rfl (Nat.le_of_ble_eq_true rfl) d_Tok_string_73 ⟨Nat.le_of_ble_eq_true rfl, Nat.le_of_ble_eq_true rfl⟩) hw hA (fun v72 p71 H locs hp71 hw => ?_) | refine px_calli (pr := []) (px_runV (As := [.int z70, .int 34]) (rest := []) S (c_t2_quotedAt l D cs h r tp tb g f_17 (va_up a_17 5 (upd (a_17 5) z63.toNatClampNeg x17_3)) z70 34  (show TokOk (f_17 7) (f_17 8) (f_17 10) (f_17 11) (f_17 12) (f_17 13) (f_17 17) ((va_up a_17 5 (upd (a_17 5) z63.toNatClampNeg x17_3)) 4) from ⟨⟨by first | exact o1 | omega, by first | exact o2 | omega⟩, ⟨by first | exact o3 | omega, by first | exact o4 | omega⟩, ⟨by first | exact o5 | omega, by first | exact o6 | omega⟩, ⟨by first | exact o7 | omega, by first | exact o8 | omega⟩, ⟨by first | exact o9 | omega, by first | exact o10 | omega⟩, ⟨by first | exact o11 | omega, by first | exact o12 | omega⟩, by first | exact o13 | omega, (by rw [va_up_n (by decide)]; exact hn4)⟩) (show (34 : Int) ≤ 100 from by first | exact oz_e07fc907b2 | omega) _) hT (pr := []) (pcs := [wd_Tok cs h r (fun _ => some tp) f_17 (va_up a_17 5 (upd (a_17 5) z63.toNatClampNeg x17_3)) g, [(tp, .inl (cs 1, 2048, .inl tb))]]) hw px_X.tt (px_recv hT hw 0 0 rfl rfl rfl) m3_233 m3_230 m3_232 ms_2_0 m1_2 q_Tok_quotedAt ⟨Nat.le_of_ble_eq_true rfl, Nat.le_of_ble_eq_true rfl⟩ hl.1 rfl (Nat.le_of_ble_eq_true rfl) d_Tok_string_73 ⟨Nat.le_of_ble_eq_true rfl, Nat.le_of_ble_eq_true rfl⟩) hw hA (fun v72 p71 H locs hp71 hw => ?_)
            obtain ⟨rfl, e73, e74, e75, e76⟩ := hp71
            have e73 : -1 ≤ v72.toInt := e73
            have e74 : v72.toInt ≤ 200 := e74
            have e75 : 0 ≤ v72.toInt → 0 ≤ z70.toInt ∧ z70.toInt < (f_17 7).toInt := e75
            have e76 : R_t2_quotedAt tb f_17 z70 (34 : Int32) v72 := e76
            have lv72 := Int32.le_toInt v72
            have uv72 := Int32.toInt_lt v72
            refine lv_istore_n (lv' := [(3, .int v72), (1, .int z70), (2, .int z64), (0, .ref h)]) S.x S.b d_Tok_string_76 rfl hl (by decide) rfl (fun ls hl => ?_)
            refine lv_goto (tgt := 17) S.x S.b d_Tok_string_77 (by decide) ?_
            first | exact ih17 f_17 (va_up a_17 5 (upd (a_17 5) z63.toNatClampNeg x17_3)) z70 z64 v72 _ _ ls (show TokOk (f_17 7) (f_17 8) (f_17 10) (f_17 11) (f_17 12) (f_17 13) (f_17 17) ((va_up a_17 5 (upd (a_17 5) z63.toNatClampNeg x17_3)) 4) from ⟨⟨o1, o2⟩, ⟨o3, o4⟩, ⟨o5, o6⟩, ⟨o7, o8⟩, ⟨o9, o10⟩, ⟨o11, o12⟩, o13, (by rw [va_up_n (by decide)]; exact hn4)⟩) (show (f_17 7).toInt = (f 7).toInt from k17_0) (show (f_17 10).toInt = (f 10).toInt from k17_1) (show (f_17 15).toInt = (f 15).toInt from k17_2) (show (f_17 8).toInt = (f 8).toInt from k17_3) (show (f 8).toInt + 1 ≤ z70.toInt from (oz_f4fc9d49f4 k17_4 tz70 e67)) (show z70.toInt ≤ (f_17 7).toInt+16 from (oz_72973cefa7 tz70 nc1 k17_9 e68)) (show 0 ≤ z64.toInt from (oz_ae613611c0 tz64 k17_6)) (show z64.toInt ≤ 201 from (oz_efe439d2c9 tz64 nc22)) (show v72.toInt ≤ 200 from e74) (show 0 ≤ v72.toInt → z70.toInt < (f_17 7).toInt from by omega) (show Q5 ((va_up a_17 5 (upd (a_17 5) z63.toNatClampNeg x17_3)) 5) from (by rw [va_up_s]; exact hq5)) (show K_t2_string_17 tb f a f_17 (va_up a_17 5 (upd (a_17 5) z63.toNatClampNeg x17_3)) z70 z64 v72 from (fun y_f0 y_f1 y_v k hE => k17_11 y_f0 y_f1 y_v (k + 1) (Or.inr (Or.inl ⟨rfl, x17_1, x17_2, x17_3, rfl, rfl, rfl, rfl, rfl, Or.inr ⟨nc1, Or.inr ⟨nc22, z44, ez44, z45, ez45, Or.inr ⟨nc46, z62, ez62, z63, ez63, z64, ez64, v66, e69, z70, ez70, v72, e76, hE⟩⟩⟩⟩)))) (show (202 : Int)-z64.toInt < (n_17 : Int) from (oz_48b3304134 hm tz64)) hw (lv_sub hl [3, 1, 2, 0] rfl) | exact ih17 f_17 (va_up a_17 5 (upd (a_17 5) z63.toNatClampNeg x17_3)) z70 z64 v72 _ _ ls (show TokOk (f_17 7) (f_17 8) (f_17 10) (f_17 11) (f_17 12) (f_17 13) (f_17 17) ((va_up a_17 5 (upd (a_17 5) z63.toNatClampNeg x17_3)) 4) from ⟨⟨by first | exact o1 | omega, by first | exact o2 | omega⟩, ⟨by first | exact o3 | omega, by first | exact o4 | omega⟩, ⟨by first | exact o5 | omega, by first | exact o6 | omega⟩, ⟨by first | exact o7 | omega, by first | exact o8 | omega⟩, ⟨by first | exact o9 | omega, by first | exact o10 | omega⟩, ⟨by first | exact o11 | omega, by first | exact o12 | omega⟩, by first | exact o13 | omega, (by rw [va_up_n (by decide)]; exact hn4)⟩) (show (f_17 7).toInt = (f 7).toInt from by first | exact k17_0 | omega) (show (f_17 10).toInt = (f 10).toInt from by first | exact k17_1 | omega) (show (f_17 15).toInt = (f 15).toInt from by first | exact k17_2 | omega) (show (f_17 8).toInt = (f 8).toInt from by first | exact k17_3 | omega) (show (f 8).toInt + 1 ≤ z70.toInt from by first | exact oz_f4fc9d49f4 k17_4 tz70 e67 | omega) (show z70.toInt ≤ (f_17 7).toInt+16 from by first | exact oz_72973cefa7 tz70 nc1 k17_9 e68 | omega) (show 0 ≤ z64.toInt from by first | exact oz_ae613611c0 tz64 k17_6 | omega) (show z64.toInt ≤ 201 from by first | exact oz_efe439d2c9 tz64 nc22 | omega) (show v72.toInt ≤ 200 from by first | exact e74 | omega) (show 0 ≤ v72.toInt → z70.toInt < (f_17 7).toInt from by omega) (show Q5 ((va_up a_17 5 (upd (a_17 5) z63.toNatClampNeg x17_3)) 5) from (by rw [va_up_s]; exact hq5)) (show K_t2_string_17 tb f a f_17 (va_up a_17 5 (upd (a_17 5) z63.toNatClampNeg x17_3)) z70 z64 v72 from (fun y_f0 y_f1 y_v k hE => k17_11 y_f0 y_f1 y_v (k + 1) (Or.inr (Or.inl ⟨rfl, x17_1, x17_2, x17_3, rfl, rfl, rfl, rfl, rfl, Or.inr ⟨nc1, Or.inr ⟨nc22, z44, ez44, z45, ez45, Or.inr ⟨nc46, z62, ez62, z63, ez63, z64, ez64, v66, e69, z70, ez70, v72, e76, hE⟩⟩⟩⟩)))) (show (202 : Int)-z64.toInt < (n_17 : Int) from by first | exact oz_48b3304134 hm tz64 | omega) hw (lv_sub hl [3, 1, 2, 0] rfl)
  refine lv_aload_n S.x S.b d_Tok_string_0 rfl (lv_at hl 0 rfl) ?_
  refine px_get S k_Tok hT hw 0 0 8 (v := .int (f 8)) rfl rfl rfl (by decide) m1_111 d_Tok_string_1 ?_
  refine lv_iconst (v := 1) S.x S.b d_Tok_string_4 (by decide) ?_
  refine lv_iadd S.x S.b d_Tok_string_5 ?_
  have lr77 := Int32.le_toInt (f 8)
  have ur77 := Int32.toInt_lt (f 8)
  refine lv_topi (fun z78 ez78 => ?_)
  have tz78 : z78.toInt = ((f 8).toInt + (1 : Int) + 2147483648) % 4294967296 - 2147483648 := by rw [ez78]; exact i_add (f 8) 1
  have lz78 := Int32.le_toInt z78
  have uz78 := Int32.toInt_lt z78
  try replace tz78 : z78.toInt = (f 8).toInt + (1 : Int) := by omega
  refine lv_istore_n (lv' := [(1, .int z78), (0, .ref h)]) S.x S.b d_Tok_string_6 rfl hl (by decide) rfl (fun ls hl => ?_)
  refine lv_iconst (v := 0) S.x S.b d_Tok_string_7 (by decide) ?_
  refine lv_istore_n (lv' := [(2, .int 0), (1, .int z78), (0, .ref h)]) S.x S.b d_Tok_string_8 rfl hl (by decide) rfl (fun ls hl => ?_)
  refine lv_aload_n S.x S.b d_Tok_string_9 rfl (lv_at hl 2 rfl) ?_
  refine lv_iload_n S.x S.b d_Tok_string_10 rfl (lv_at hl 1 rfl) ?_
  refine lv_bipush (v := 34) S.x S.b d_Tok_string_11 (by decide) ?_
  first | refine px_calli (pr := []) (px_runV (As := [.int z78, .int 34]) (rest := []) S (c_t2_quotedAt l D cs h r tp tb g f a z78 34  (show TokOk (f 7) (f 8) (f 10) (f 11) (f 12) (f 13) (f 17) (a 4) from ⟨⟨o1, o2⟩, ⟨o3, o4⟩, ⟨o5, o6⟩, ⟨o7, o8⟩, ⟨o9, o10⟩, ⟨o11, o12⟩, o13, hn4⟩) (show (34 : Int) ≤ 100 from oz_e07fc907b2) _) hT (pr := []) (pcs := [wd_Tok cs h r (fun _ => some tp) f a g, [(tp, .inl (cs 1, 2048, .inl tb))]]) hw px_X.tt (px_recv hT hw 0 0 rfl rfl rfl) m3_233 m3_230 m3_232 ms_2_0 m1_2 q_Tok_quotedAt ⟨Nat.le_of_ble_eq_true rfl, Nat.le_of_ble_eq_true rfl⟩ hl.1 rfl (Nat.le_of_ble_eq_true rfl) d_Tok_string_13 ⟨Nat.le_of_ble_eq_true rfl, Nat.le_of_ble_eq_true rfl⟩) hw hA (fun v80 p79 H locs hp79 hw => ?_) | refine px_calli (pr := []) (px_runV (As := [.int z78, .int 34]) (rest := []) S (c_t2_quotedAt l D cs h r tp tb g f a z78 34  (show TokOk (f 7) (f 8) (f 10) (f 11) (f 12) (f 13) (f 17) (a 4) from ⟨⟨by first | exact o1 | omega, by first | exact o2 | omega⟩, ⟨by first | exact o3 | omega, by first | exact o4 | omega⟩, ⟨by first | exact o5 | omega, by first | exact o6 | omega⟩, ⟨by first | exact o7 | omega, by first | exact o8 | omega⟩, ⟨by first | exact o9 | omega, by first | exact o10 | omega⟩, ⟨by first | exact o11 | omega, by first | exact o12 | omega⟩, by first | exact o13 | omega, hn4⟩) (show (34 : Int) ≤ 100 from by first | exact oz_e07fc907b2 | omega) _) hT (pr := []) (pcs := [wd_Tok cs h r (fun _ => some tp) f a g, [(tp, .inl (cs 1, 2048, .inl tb))]]) hw px_X.tt (px_recv hT hw 0 0 rfl rfl rfl) m3_233 m3_230 m3_232 ms_2_0 m1_2 q_Tok_quotedAt ⟨Nat.le_of_ble_eq_true rfl, Nat.le_of_ble_eq_true rfl⟩ hl.1 rfl (Nat.le_of_ble_eq_true rfl) d_Tok_string_13 ⟨Nat.le_of_ble_eq_true rfl, Nat.le_of_ble_eq_true rfl⟩) hw hA (fun v80 p79 H locs hp79 hw => ?_)
  obtain ⟨rfl, e81, e82, e83, e84⟩ := hp79
  have e81 : -1 ≤ v80.toInt := e81
  have e82 : v80.toInt ≤ 200 := e82
  have e83 : 0 ≤ v80.toInt → 0 ≤ z78.toInt ∧ z78.toInt < (f 7).toInt := e83
  have e84 : R_t2_quotedAt tb f z78 (34 : Int32) v80 := e84
  have lv80 := Int32.le_toInt v80
  have uv80 := Int32.toInt_lt v80
  refine lv_istore_n (lv' := [(3, .int v80), (2, .int 0), (1, .int z78), (0, .ref h)]) S.x S.b d_Tok_string_16 rfl hl (by decide) rfl (fun ls hl => ?_)
  first | exact J17 (((202 : Int)-(0 : Int)).toNat + 1) f a z78 (0 : Int32) v80 _ _ ls (show TokOk (f 7) (f 8) (f 10) (f 11) (f 12) (f 13) (f 17) (a 4) from ⟨⟨o1, o2⟩, ⟨o3, o4⟩, ⟨o5, o6⟩, ⟨o7, o8⟩, ⟨o9, o10⟩, ⟨o11, o12⟩, o13, hn4⟩) (show (f 7).toInt = (f 7).toInt from rfl) (show (f 10).toInt = (f 10).toInt from rfl) (show (f 15).toInt = (f 15).toInt from rfl) (show (f 8).toInt = (f 8).toInt from rfl) (show (f 8).toInt + 1 ≤ z78.toInt from (oz_38236be559 tz78)) (show z78.toInt ≤ (f 7).toInt+16 from (oz_3be05f8734 o4 tz78)) (show 0 ≤ (0 : Int) from oz_5a341f00aa) (show (0 : Int) ≤ 201 from oz_97f7e2c44f) (show v80.toInt ≤ 200 from e82) (show 0 ≤ v80.toInt → z78.toInt < (f 7).toInt from by omega) (show Q5 (a 5) from hq5) (show K_t2_string_17 tb f a f a z78 0 v80 from (fun y_f0 y_f1 y_v k hE => Exists.intro (k + 1) (Or.inl ⟨rfl, z78, ez78, v80, e84, hE⟩))) (show (202 : Int)-(0 : Int) < (((((202 : Int)-(0 : Int)).toNat + 1 : Nat) : Int) : Int) from oz_natlt) hw (lv_sub hl [3, 2, 1, 0] rfl) | exact J17 (((202 : Int)-(0 : Int)).toNat + 1) f a z78 (0 : Int32) v80 _ _ ls (show TokOk (f 7) (f 8) (f 10) (f 11) (f 12) (f 13) (f 17) (a 4) from ⟨⟨by first | exact o1 | omega, by first | exact o2 | omega⟩, ⟨by first | exact o3 | omega, by first | exact o4 | omega⟩, ⟨by first | exact o5 | omega, by first | exact o6 | omega⟩, ⟨by first | exact o7 | omega, by first | exact o8 | omega⟩, ⟨by first | exact o9 | omega, by first | exact o10 | omega⟩, ⟨by first | exact o11 | omega, by first | exact o12 | omega⟩, by first | exact o13 | omega, hn4⟩) (show (f 7).toInt = (f 7).toInt from rfl) (show (f 10).toInt = (f 10).toInt from rfl) (show (f 15).toInt = (f 15).toInt from rfl) (show (f 8).toInt = (f 8).toInt from rfl) (show (f 8).toInt + 1 ≤ z78.toInt from by first | exact oz_38236be559 tz78 | omega) (show z78.toInt ≤ (f 7).toInt+16 from by first | exact oz_3be05f8734 o4 tz78 | omega) (show 0 ≤ (0 : Int) from by first | exact oz_5a341f00aa | omega) (show (0 : Int) ≤ 201 from by first | exact oz_97f7e2c44f | omega) (show v80.toInt ≤ 200 from by first | exact e82 | omega) (show 0 ≤ v80.toInt → z78.toInt < (f 7).toInt from by omega) (show Q5 (a 5) from hq5) (show K_t2_string_17 tb f a f a z78 0 v80 from (fun y_f0 y_f1 y_v k hE => Exists.intro (k + 1) (Or.inl ⟨rfl, z78, ez78, v80, e84, hE⟩))) (show (202 : Int)-(0 : Int) < (((((202 : Int)-(0 : Int)).toNat + 1 : Nat) : Int) : Int) from by first | exact oz_natlt | omega) hw (lv_sub hl [3, 2, 1, 0] rfl)
set_option maxHeartbeats 4000000 in
set_option maxRecDepth 100000 in
theorem c_t2_mark (l : Launch) (D : va_G) (cs : Nat → ClassId) (sk : Nat) (st : Nat) (sn : Nat) (sb : Nat → Int32) (h : Nat) (r : Nat → Nat) (tp : Nat) (tb : Nat → Int32) (g : Nat → Nat → Option Nat) (f : Nat → Int32) (a : Nat → Nat → Int32) (p0 : Int32)  (hinv0 : TokOk (f 7) (f 8) (f 10) (f 11) (f 12) (f 13) (f 17) (a 4)) (g0 : sn ≤ 1000000) (g1 : 0 ≤ (f 8).toInt) (g2 : (f 8).toInt < (f 7).toInt) (hq5 : Q5 (a 5)) : MetI l y_Tok_mark b_Tok_mark 6 (.int) D cs 4 160 (0) (0) [.ref h, .int p0] [wd_Tok cs h r (fun _ => some tp) f a g, [(tp, .inl (cs 1, 2048, .inl tb))]] (oX (fun A U H => (vk_R "HomeSystem$Tokens" 127 "(){}[],;:?=|^&<>+-*/%!~" sk U) ∧ (oZ A U H) ∧ (oS A sk st sn sb U H)) [wd_Tok cs h r (fun _ => some tp) f a g, [(tp, .inl (cs 1, 2048, .inl tb))]]) (fun v ps => ∃ (f' : Nat → Int32) (a' : Nat → Nat → Int32), (ps = [wd_Tok cs h r (fun _ => some tp) f' a' g, [(tp, .inl (cs 1, 2048, .inl tb))]]) ∧ (TokOk (f' 7) (f' 8) (f' 10) (f' 11) (f' 12) (f' 13) (f' 17) (a' 4)) ∧ ((f' 7).toInt = (f 7).toInt) ∧ ((f' 10).toInt = (f 10).toInt) ∧ ((f' 15).toInt = (f 15).toInt) ∧ (v.toInt = 19 ∨ (f 8).toInt + 1 ≤ (f' 8).toInt) ∧ (Q5 (a' 5)) ∧ (R_t2_mark sn sb tb p0 f a f' a' v)) := by
  refine px_enter (by decide) (Nat.le_of_ble_eq_true rfl) ?_
  intro p e s m below meth c A ls hAe S hr hlk hnm hA hT hX hw hl
  have hl : lv_has ls 6 [(0, .ref h), (1, .int p0)] := hl
  have lp0 := Int32.le_toInt p0
  have up0 := Int32.toInt_lt p0
  have cst0 : (0 : Int32).toInt = 0 := rfl
  have cst1 : (1 : Int32).toInt = 1 := rfl
  have cst2 : (2 : Int32).toInt = 2 := rfl
  have cst19 : (19 : Int32).toInt = 19 := rfl
  have cst42 : (42 : Int32).toInt = 42 := rfl
  have cst47 : (47 : Int32).toInt = 47 := rfl
  have cst61 : (61 : Int32).toInt = 61 := rfl
  have cst256 : (256 : Int32).toInt = 256 := rfl
  have hX : (fun A U H => (vk_R "HomeSystem$Tokens" 127 "(){}[],;:?=|^&<>+-*/%!~" sk U) ∧ (oZ A U H) ∧ (oS A sk st sn sb U H)) A s s.heap := by rw [hAe]; exact hX
  obtain ⟨hL, hZ, hS⟩ := hX
  have hsn : (nI sn).toInt = (sn : Int) := nI_toInt (by omega)
  obtain ⟨⟨o1, o2⟩, ⟨o3, o4⟩, ⟨o5, o6⟩, ⟨o7, o8⟩, ⟨o9, o10⟩, ⟨o11, o12⟩, o13, hn4⟩ := hinv0
  refine lv_iload_n S.x S.b d_Tok_mark_0 rfl (lv_at hl 1 rfl) ?_
  refine lv_bipush (v := 61) S.x S.b d_Tok_mark_1 (by decide) ?_
  refine lv_icmp_ne (tgt := 12) S.x S.b d_Tok_mark_3 (by decide) (fun c1 => ?_) (fun c1 => ?_)
  · have nc1 : ¬ p0.toInt = (61 : Int) := mt (i_eq (x := p0) (y := 61)).mpr c1
    refine lv_iload_n S.x S.b d_Tok_mark_12 rfl (lv_at hl 1 rfl) ?_
    refine lv_istore_n (lv' := [(2, .int p0), (0, .ref h), (1, .int p0)]) S.x S.b d_Tok_mark_13 rfl hl (by decide) rfl (fun ls hl => ?_)
    refine lv_iconst (v := 1) S.x S.b d_Tok_mark_14 (by decide) ?_
    refine lv_istore_n (lv' := [(3, .int 1), (2, .int p0), (0, .ref h), (1, .int p0)]) S.x S.b d_Tok_mark_15 rfl hl (by decide) rfl (fun ls hl => ?_)
    refine va_ldcS S.x S.b S.own hL d_Tok_mark_16 ?_
    refine lv_iload_n S.x S.b d_Tok_mark_18 rfl (lv_at hl 3 rfl) ?_
    refine lv_i2c S.x S.b d_Tok_mark_19 rfl ?_
    refine lv_topi (fun z3 ez3 => ?_)
    have lz3 := Int32.le_toInt z3
    have uz3 := Int32.toInt_lt z3
    first | refine px_calli (pr := [wd_Tok cs h r (fun _ => some tp) f a g, [(tp, .inl (cs 1, 2048, .inl tb))]]) (px_runV (As := [.int z3]) (rest := []) S (c_String_indexOf1 l D cs sk st sn sb z3  (show sn ≤ 1000000 from g0) _) hT (pr := [wd_Tok cs h r (fun _ => some tp) f a g, [(tp, .inl (cs 1, 2048, .inl tb))]]) (pcs := []) hw (oX_call (P := (fun A U H => (oZ A U H) ∧ (oS A sk st sn sb U H))) (pr := [wd_Tok cs h r (fun _ => some tp) f a g, [(tp, .inl (cs 1, 2048, .inl tb))]]) (oG_and oG_Z oG_S) hw hA ⟨hZ, hS⟩) (oS_recv hw hS) m4_10 m4_7 m4_8 m4_9 m1_3 q_String_indexOf2 ⟨Nat.le_of_ble_eq_true rfl, Nat.le_of_ble_eq_true rfl⟩ hl.1 rfl (Nat.le_of_ble_eq_true rfl) d_Tok_mark_20 ⟨Nat.le_of_ble_eq_true rfl, Nat.le_of_ble_eq_true rfl⟩) hw hA (fun v5 p4 H locs hp4 hw => ?_) | refine px_calli (pr := [wd_Tok cs h r (fun _ => some tp) f a g, [(tp, .inl (cs 1, 2048, .inl tb))]]) (px_runV (As := [.int z3]) (rest := []) S (c_String_indexOf1 l D cs sk st sn sb z3  (show sn ≤ 1000000 from by first | exact g0 | omega) _) hT (pr := [wd_Tok cs h r (fun _ => some tp) f a g, [(tp, .inl (cs 1, 2048, .inl tb))]]) (pcs := []) hw (oX_call (P := (fun A U H => (oZ A U H) ∧ (oS A sk st sn sb U H))) (pr := [wd_Tok cs h r (fun _ => some tp) f a g, [(tp, .inl (cs 1, 2048, .inl tb))]]) (oG_and oG_Z oG_S) hw hA ⟨hZ, hS⟩) (oS_recv hw hS) m4_10 m4_7 m4_8 m4_9 m1_3 q_String_indexOf2 ⟨Nat.le_of_ble_eq_true rfl, Nat.le_of_ble_eq_true rfl⟩ hl.1 rfl (Nat.le_of_ble_eq_true rfl) d_Tok_mark_20 ⟨Nat.le_of_ble_eq_true rfl, Nat.le_of_ble_eq_true rfl⟩) hw hA (fun v5 p4 H locs hp4 hw => ?_)
    obtain ⟨rfl, e6⟩ := hp4
    have e6 : R_String_indexOf1 sn sb z3 v5 := e6
    have lv5 := Int32.le_toInt v5
    have uv5 := Int32.toInt_lt v5
    refine lv_if_lt (tgt := 47) S.x S.b d_Tok_mark_23 (by decide) (fun c7 => ?_) (fun c7 => ?_)
    · have nc7 : v5.toInt < (0 : Int) := (i_lt (x := v5) (y := 0)).mp c7
      refine lv_bipush (v := 19) S.x S.b d_Tok_mark_47 (by decide) ?_
      first | exact px_iret (v := 19) S hr rfl hlk hAe hw (Nat.le_of_ble_eq_true rfl) (Nat.le_of_ble_eq_true rfl) (⟨f, a, rfl, (show TokOk (f 7) (f 8) (f 10) (f 11) (f 12) (f 13) (f 17) (a 4) from ⟨⟨o1, o2⟩, ⟨g1, o4⟩, ⟨o5, o6⟩, ⟨o7, o8⟩, ⟨o9, o10⟩, ⟨o11, o12⟩, o13, hn4⟩), (show (f 7).toInt = (f 7).toInt from rfl), (show (f 10).toInt = (f 10).toInt from rfl), (show (f 15).toInt = (f 15).toInt from rfl), (show (19 : Int) = 19 ∨ (f 8).toInt + 1 ≤ (f 8).toInt from by omega), (show Q5 (a 5) from hq5), (show R_t2_mark sn sb tb p0 f a f a (19 : Int32) from (Or.inl (Or.inl ⟨nc1, z3, ez3, v5, e6, Or.inl ⟨nc7, rfl, rfl, rfl⟩⟩)))⟩) d_Tok_mark_49 | exact px_iret (v := 19) S hr rfl hlk hAe hw (Nat.le_of_ble_eq_true rfl) (Nat.le_of_ble_eq_true rfl) (⟨f, a, rfl, (show TokOk (f 7) (f 8) (f 10) (f 11) (f 12) (f 13) (f 17) (a 4) from ⟨⟨by first | exact o1 | omega, by first | exact o2 | omega⟩, ⟨by first | exact g1 | omega, by first | exact o4 | omega⟩, ⟨by first | exact o5 | omega, by first | exact o6 | omega⟩, ⟨by first | exact o7 | omega, by first | exact o8 | omega⟩, ⟨by first | exact o9 | omega, by first | exact o10 | omega⟩, ⟨by first | exact o11 | omega, by first | exact o12 | omega⟩, by first | exact o13 | omega, hn4⟩), (show (f 7).toInt = (f 7).toInt from rfl), (show (f 10).toInt = (f 10).toInt from rfl), (show (f 15).toInt = (f 15).toInt from rfl), (show (19 : Int) = 19 ∨ (f 8).toInt + 1 ≤ (f 8).toInt from by omega), (show Q5 (a 5) from hq5), (show R_t2_mark sn sb tb p0 f a f a (19 : Int32) from (Or.inl (Or.inl ⟨nc1, z3, ez3, v5, e6, Or.inl ⟨nc7, rfl, rfl, rfl⟩⟩)))⟩) d_Tok_mark_49
    · have nc7 : ¬ v5.toInt < (0 : Int) := mt (i_lt (x := v5) (y := 0)).mpr c7
      refine lv_iload_n S.x S.b d_Tok_mark_26 rfl (lv_at hl 3 rfl) ?_
      refine lv_bipush (v := 47) S.x S.b d_Tok_mark_27 (by decide) ?_
      refine lv_icmp_ne (tgt := 50) S.x S.b d_Tok_mark_29 (by decide) (fun c9 => ?_) (fun c9 => ?_)
      · have nc9 : ¬ p0.toInt = (47 : Int) := mt (i_eq (x := p0) (y := 47)).mpr c9
        refine lv_aload_n S.x S.b d_Tok_mark_50 rfl (lv_at hl 2 rfl) ?_
        refine lv_aload_n S.x S.b d_Tok_mark_51 rfl (lv_at hl 2 rfl) ?_
        refine px_get S k_Tok hT hw 0 0 8 (v := .int (f 8)) rfl rfl rfl (by decide) m1_111 d_Tok_mark_52 ?_
        refine lv_iconst (v := 1) S.x S.b d_Tok_mark_55 (by decide) ?_
        refine lv_iadd S.x S.b d_Tok_mark_56 ?_
        have lr11 := Int32.le_toInt (f 8)
        have ur11 := Int32.toInt_lt (f 8)
        refine lv_topi (fun z12 ez12 => ?_)
        have tz12 : z12.toInt = ((f 8).toInt + (1 : Int) + 2147483648) % 4294967296 - 2147483648 := by rw [ez12]; exact i_add (f 8) 1
        have lz12 := Int32.le_toInt z12
        have uz12 := Int32.toInt_lt z12
        try replace tz12 : z12.toInt = (f 8).toInt + (1 : Int) := by omega
        first | refine px_calli (pr := []) (px_runV (As := [.int z12]) (rest := []) S (c_t2_byteAt l D cs h r tp tb g f a z12  (show TokOk (f 7) (f 8) (f 10) (f 11) (f 12) (f 13) (f 17) (a 4) from ⟨⟨o1, o2⟩, ⟨g1, o4⟩, ⟨o5, o6⟩, ⟨o7, o8⟩, ⟨o9, o10⟩, ⟨o11, o12⟩, o13, hn4⟩) _) hT (pr := []) (pcs := [wd_Tok cs h r (fun _ => some tp) f a g, [(tp, .inl (cs 1, 2048, .inl tb))]]) hw px_X.tt (px_recv hT hw 0 0 rfl rfl rfl) m3_186 m3_183 m3_185 ms_1_6 m1_2 q_Tok_byteAt ⟨Nat.le_of_ble_eq_true rfl, Nat.le_of_ble_eq_true rfl⟩ hl.1 rfl (Nat.le_of_ble_eq_true rfl) d_Tok_mark_57 ⟨Nat.le_of_ble_eq_true rfl, Nat.le_of_ble_eq_true rfl⟩) hw hA (fun v14 p13 H locs hp13 hw => ?_) | refine px_calli (pr := []) (px_runV (As := [.int z12]) (rest := []) S (c_t2_byteAt l D cs h r tp tb g f a z12  (show TokOk (f 7) (f 8) (f 10) (f 11) (f 12) (f 13) (f 17) (a 4) from ⟨⟨by first | exact o1 | omega, by first | exact o2 | omega⟩, ⟨by first | exact g1 | omega, by first | exact o4 | omega⟩, ⟨by first | exact o5 | omega, by first | exact o6 | omega⟩, ⟨by first | exact o7 | omega, by first | exact o8 | omega⟩, ⟨by first | exact o9 | omega, by first | exact o10 | omega⟩, ⟨by first | exact o11 | omega, by first | exact o12 | omega⟩, by first | exact o13 | omega, hn4⟩) _) hT (pr := []) (pcs := [wd_Tok cs h r (fun _ => some tp) f a g, [(tp, .inl (cs 1, 2048, .inl tb))]]) hw px_X.tt (px_recv hT hw 0 0 rfl rfl rfl) m3_186 m3_183 m3_185 ms_1_6 m1_2 q_Tok_byteAt ⟨Nat.le_of_ble_eq_true rfl, Nat.le_of_ble_eq_true rfl⟩ hl.1 rfl (Nat.le_of_ble_eq_true rfl) d_Tok_mark_57 ⟨Nat.le_of_ble_eq_true rfl, Nat.le_of_ble_eq_true rfl⟩) hw hA (fun v14 p13 H locs hp13 hw => ?_)
        obtain ⟨rfl, e15, e16, e17, e18, e19⟩ := hp13
        have e15 : -1 ≤ v14.toInt := e15
        have e16 : v14.toInt ≤ 255 := e16
        have e17 : 0 ≤ v14.toInt → 0 ≤ z12.toInt ∧ z12.toInt < (f 7).toInt := e17
        have e18 : By tb (f 7) z12 v14 := e18
        have e19 : R_t2_byteAt tb f z12 v14 := e19
        have lv14 := Int32.le_toInt v14
        have uv14 := Int32.toInt_lt v14
        refine lv_iload_n S.x S.b d_Tok_mark_60 rfl (lv_at hl 3 rfl) ?_
        refine lv_icmp_ne (tgt := 71) S.x S.b d_Tok_mark_61 (by decide) (fun c20 => ?_) (fun c20 => ?_)
        · have nc20 : ¬ v14.toInt = p0.toInt := mt (i_eq (x := v14) (y := p0)).mpr c20
          refine lv_iconst (v := 0) S.x S.b d_Tok_mark_71 (by decide) ?_
          refine lv_istore (lv' := [(4, .int 0), (3, .int 1), (2, .int p0), (0, .ref h), (1, .int p0)]) S.x S.b d_Tok_mark_72 hl (by decide) rfl (fun ls hl => ?_)
          refine lv_iload S.x S.b d_Tok_mark_74 (lv_at hl 0 rfl) ?_
          refine lv_if_le (tgt := 84) S.x S.b d_Tok_mark_76 (by decide) (fun c22 => ?_) (fun c22 => ?_)
          ·
            refine lv_aload_n S.x S.b d_Tok_mark_84 rfl (lv_at hl 3 rfl) ?_
            refine lv_aload_n S.x S.b d_Tok_mark_85 rfl (lv_at hl 3 rfl) ?_
            refine px_get S k_Tok hT hw 0 0 8 (v := .int (f 8)) rfl rfl rfl (by decide) m1_111 d_Tok_mark_86 ?_
            refine lv_iload_n S.x S.b d_Tok_mark_89 rfl (lv_at hl 1 rfl) ?_
            refine lv_iadd S.x S.b d_Tok_mark_90 ?_
            have lr23 := Int32.le_toInt (f 8)
            have ur23 := Int32.toInt_lt (f 8)
            refine lv_topi (fun z24 ez24 => ?_)
            have tz24 : z24.toInt = ((f 8).toInt + (1 : Int) + 2147483648) % 4294967296 - 2147483648 := by rw [ez24]; exact i_add (f 8) 1
            have lz24 := Int32.le_toInt z24
            have uz24 := Int32.toInt_lt z24
            try replace tz24 : z24.toInt = (f 8).toInt + (1 : Int) := by omega
            first | refine px_calli (pr := []) (px_runV (As := [.int z24]) (rest := []) S (c_t2_byteAt l D cs h r tp tb g f a z24  (show TokOk (f 7) (f 8) (f 10) (f 11) (f 12) (f 13) (f 17) (a 4) from ⟨⟨o1, o2⟩, ⟨g1, o4⟩, ⟨o5, o6⟩, ⟨o7, o8⟩, ⟨o9, o10⟩, ⟨o11, o12⟩, o13, hn4⟩) _) hT (pr := []) (pcs := [wd_Tok cs h r (fun _ => some tp) f a g, [(tp, .inl (cs 1, 2048, .inl tb))]]) hw px_X.tt (px_recv hT hw 0 0 rfl rfl rfl) m3_186 m3_183 m3_185 ms_1_6 m1_2 q_Tok_byteAt ⟨Nat.le_of_ble_eq_true rfl, Nat.le_of_ble_eq_true rfl⟩ hl.1 rfl (Nat.le_of_ble_eq_true rfl) d_Tok_mark_91 ⟨Nat.le_of_ble_eq_true rfl, Nat.le_of_ble_eq_true rfl⟩) hw hA (fun v26 p25 H locs hp25 hw => ?_) | refine px_calli (pr := []) (px_runV (As := [.int z24]) (rest := []) S (c_t2_byteAt l D cs h r tp tb g f a z24  (show TokOk (f 7) (f 8) (f 10) (f 11) (f 12) (f 13) (f 17) (a 4) from ⟨⟨by first | exact o1 | omega, by first | exact o2 | omega⟩, ⟨by first | exact g1 | omega, by first | exact o4 | omega⟩, ⟨by first | exact o5 | omega, by first | exact o6 | omega⟩, ⟨by first | exact o7 | omega, by first | exact o8 | omega⟩, ⟨by first | exact o9 | omega, by first | exact o10 | omega⟩, ⟨by first | exact o11 | omega, by first | exact o12 | omega⟩, by first | exact o13 | omega, hn4⟩) _) hT (pr := []) (pcs := [wd_Tok cs h r (fun _ => some tp) f a g, [(tp, .inl (cs 1, 2048, .inl tb))]]) hw px_X.tt (px_recv hT hw 0 0 rfl rfl rfl) m3_186 m3_183 m3_185 ms_1_6 m1_2 q_Tok_byteAt ⟨Nat.le_of_ble_eq_true rfl, Nat.le_of_ble_eq_true rfl⟩ hl.1 rfl (Nat.le_of_ble_eq_true rfl) d_Tok_mark_91 ⟨Nat.le_of_ble_eq_true rfl, Nat.le_of_ble_eq_true rfl⟩) hw hA (fun v26 p25 H locs hp25 hw => ?_)
            obtain ⟨rfl, e27, e28, e29, e30, e31⟩ := hp25
            have e27 : -1 ≤ v26.toInt := e27
            have e28 : v26.toInt ≤ 255 := e28
            have e29 : 0 ≤ v26.toInt → 0 ≤ z24.toInt ∧ z24.toInt < (f 7).toInt := e29
            have e30 : By tb (f 7) z24 v26 := e30
            have e31 : R_t2_byteAt tb f z24 v26 := e31
            have lv26 := Int32.le_toInt v26
            have uv26 := Int32.toInt_lt v26
            refine lv_bipush (v := 61) S.x S.b d_Tok_mark_94 (by decide) ?_
            refine lv_icmp_ne (tgt := 106) S.x S.b d_Tok_mark_96 (by decide) (fun c32 => ?_) (fun c32 => ?_)
            · have nc32 : ¬ v26.toInt = (61 : Int) := mt (i_eq (x := v26) (y := 61)).mpr c32
              refine lv_iconst (v := 0) S.x S.b d_Tok_mark_106 (by decide) ?_
              refine lv_istore (lv' := [(5, .int 0), (4, .int 0), (3, .int 1), (2, .int p0), (0, .ref h), (1, .int p0)]) S.x S.b d_Tok_mark_107 hl (by decide) rfl (fun ls hl => ?_)
              refine lv_iload S.x S.b d_Tok_mark_109 (lv_at hl 0 rfl) ?_
              refine lv_if_le (tgt := 120) S.x S.b d_Tok_mark_111 (by decide) (fun c34 => ?_) (fun c34 => ?_)
              ·
                refine lv_aload_n S.x S.b d_Tok_mark_120 rfl (lv_at hl 4 rfl) ?_
                refine lv_dup S.x S.b d_Tok_mark_121 rfl ?_
                refine px_get S k_Tok hT hw 0 0 8 (v := .int (f 8)) rfl rfl rfl (by decide) m1_111 d_Tok_mark_122 ?_
                refine lv_iload_n S.x S.b d_Tok_mark_125 rfl (lv_at hl 2 rfl) ?_
                refine lv_iadd S.x S.b d_Tok_mark_126 ?_
                have lr35 := Int32.le_toInt (f 8)
                have ur35 := Int32.toInt_lt (f 8)
                refine lv_topi (fun z36 ez36 => ?_)
                have tz36 : z36.toInt = ((f 8).toInt + (1 : Int) + 2147483648) % 4294967296 - 2147483648 := by rw [ez36]; exact i_add (f 8) 1
                have lz36 := Int32.le_toInt z36
                have uz36 := Int32.toInt_lt z36
                try replace tz36 : z36.toInt = (f 8).toInt + (1 : Int) := by omega
                refine px_put S k_Tok hT hw 0 0 8 rfl rfl (by decide) m1_111 rfl rfl rfl (Nat.le_of_ble_eq_true rfl) d_Tok_mark_127 (w' := wd_Tok cs h r (fun _ => some tp) (upd f 8 z36) a g) (ps' := [wd_Tok cs h r (fun _ => some tp) (upd f 8 z36) a g, [(tp, .inl (cs 1, 2048, .inl tb))]]) rfl rfl (fun H locs hw => ?_)
                refine lv_iload_n S.x S.b d_Tok_mark_130 rfl (lv_at hl 3 rfl) ?_
                first | exact px_iret (v := p0) S hr rfl hlk hAe hw (Nat.le_of_ble_eq_true rfl) (Nat.le_of_ble_eq_true rfl) (⟨(upd f 8 z36), a, rfl, (show TokOk (f 7) z36 (f 10) (f 11) (f 12) (f 13) (f 17) (a 4) from ⟨⟨o1, o2⟩, ⟨(oz_b3b25f0e49 tz36 g1), (oz_8964937ede g2 tz36)⟩, ⟨o5, o6⟩, ⟨o7, o8⟩, ⟨o9, o10⟩, ⟨o11, o12⟩, o13, hn4⟩), (show (f 7).toInt = (f 7).toInt from rfl), (show (f 10).toInt = (f 10).toInt from rfl), (show (f 15).toInt = (f 15).toInt from rfl), (show p0.toInt = 19 ∨ (f 8).toInt + 1 ≤ z36.toInt from by omega), (show Q5 (a 5) from hq5), (show R_t2_mark sn sb tb p0 f a (upd f 8 z36) a p0 from (Or.inl (Or.inl ⟨nc1, z3, ez3, v5, e6, Or.inr ⟨nc7, Or.inl ⟨nc9, z12, ez12, v14, e19, Or.inl ⟨nc20, z24, ez24, v26, e31, Or.inl ⟨nc32, z36, ez36, rfl, rfl, rfl⟩⟩⟩⟩⟩)))⟩) d_Tok_mark_131 | exact px_iret (v := p0) S hr rfl hlk hAe hw (Nat.le_of_ble_eq_true rfl) (Nat.le_of_ble_eq_true rfl) (⟨(upd f 8 z36), a, rfl, (show TokOk (f 7) z36 (f 10) (f 11) (f 12) (f 13) (f 17) (a 4) from ⟨⟨by first | exact o1 | omega, by first | exact o2 | omega⟩, ⟨by first | exact oz_b3b25f0e49 tz36 g1 | omega, by first | exact oz_8964937ede g2 tz36 | omega⟩, ⟨by first | exact o5 | omega, by first | exact o6 | omega⟩, ⟨by first | exact o7 | omega, by first | exact o8 | omega⟩, ⟨by first | exact o9 | omega, by first | exact o10 | omega⟩, ⟨by first | exact o11 | omega, by first | exact o12 | omega⟩, by first | exact o13 | omega, hn4⟩), (show (f 7).toInt = (f 7).toInt from rfl), (show (f 10).toInt = (f 10).toInt from rfl), (show (f 15).toInt = (f 15).toInt from rfl), (show p0.toInt = 19 ∨ (f 8).toInt + 1 ≤ z36.toInt from by omega), (show Q5 (a 5) from hq5), (show R_t2_mark sn sb tb p0 f a (upd f 8 z36) a p0 from (Or.inl (Or.inl ⟨nc1, z3, ez3, v5, e6, Or.inr ⟨nc7, Or.inl ⟨nc9, z12, ez12, v14, e19, Or.inl ⟨nc20, z24, ez24, v26, e31, Or.inl ⟨nc32, z36, ez36, rfl, rfl, rfl⟩⟩⟩⟩⟩)))⟩) d_Tok_mark_131
              · exact absurd c34 (by decide)
            · have nc32 : v26.toInt = (61 : Int) := (i_eq (x := v26) (y := 61)).mp c32
              refine lv_iload_n S.x S.b d_Tok_mark_99 rfl (lv_at hl 2 rfl) ?_
              refine px_calli (pr := [wd_Tok cs h r (fun _ => some tp) f a g, [(tp, .inl (cs 1, 2048, .inl tb))]]) (px_runS (As := [.int p0]) (rest := []) S (c_t2_withEquals l D cs  p0   _) hT (pr := [wd_Tok cs h r (fun _ => some tp) f a g, [(tp, .inl (cs 1, 2048, .inl tb))]]) (pcs := []) hw px_X.tt m4_67 m4_65 m4_66 m1_2 q_Tok_withEquals ⟨Nat.le_of_ble_eq_true rfl, Nat.le_of_ble_eq_true rfl⟩ hl.1 rfl (Nat.le_of_ble_eq_true rfl) d_Tok_mark_100 ⟨Nat.le_of_ble_eq_true rfl, Nat.le_of_ble_eq_true rfl⟩) hw hA (fun v38 p37 H locs hp37 hw => ?_)
              obtain ⟨rfl, e39⟩ := hp37
              have e39 : R_t2_withEquals p0 v38 := e39
              have lv38 := Int32.le_toInt v38
              have uv38 := Int32.toInt_lt v38
              refine lv_goto (tgt := 107) S.x S.b d_Tok_mark_103 (by decide) ?_
              refine lv_istore (lv' := [(5, .int v38), (4, .int 0), (3, .int 1), (2, .int p0), (0, .ref h), (1, .int p0)]) S.x S.b d_Tok_mark_107 hl (by decide) rfl (fun ls hl => ?_)
              refine lv_iload S.x S.b d_Tok_mark_109 (lv_at hl 0 rfl) ?_
              refine lv_if_le (tgt := 120) S.x S.b d_Tok_mark_111 (by decide) (fun c40 => ?_) (fun c40 => ?_)
              · have nc40 : v38.toInt ≤ (0 : Int) := (i_le (x := v38) (y := 0)).mp c40
                refine lv_aload_n S.x S.b d_Tok_mark_120 rfl (lv_at hl 4 rfl) ?_
                refine lv_dup S.x S.b d_Tok_mark_121 rfl ?_
                refine px_get S k_Tok hT hw 0 0 8 (v := .int (f 8)) rfl rfl rfl (by decide) m1_111 d_Tok_mark_122 ?_
                refine lv_iload_n S.x S.b d_Tok_mark_125 rfl (lv_at hl 2 rfl) ?_
                refine lv_iadd S.x S.b d_Tok_mark_126 ?_
                have lr42 := Int32.le_toInt (f 8)
                have ur42 := Int32.toInt_lt (f 8)
                refine lv_topi (fun z43 ez43 => ?_)
                have tz43 : z43.toInt = ((f 8).toInt + (1 : Int) + 2147483648) % 4294967296 - 2147483648 := by rw [ez43]; exact i_add (f 8) 1
                have lz43 := Int32.le_toInt z43
                have uz43 := Int32.toInt_lt z43
                try replace tz43 : z43.toInt = (f 8).toInt + (1 : Int) := by omega
                refine px_put S k_Tok hT hw 0 0 8 rfl rfl (by decide) m1_111 rfl rfl rfl (Nat.le_of_ble_eq_true rfl) d_Tok_mark_127 (w' := wd_Tok cs h r (fun _ => some tp) (upd f 8 z43) a g) (ps' := [wd_Tok cs h r (fun _ => some tp) (upd f 8 z43) a g, [(tp, .inl (cs 1, 2048, .inl tb))]]) rfl rfl (fun H locs hw => ?_)
                refine lv_iload_n S.x S.b d_Tok_mark_130 rfl (lv_at hl 3 rfl) ?_
                first | exact px_iret (v := p0) S hr rfl hlk hAe hw (Nat.le_of_ble_eq_true rfl) (Nat.le_of_ble_eq_true rfl) (⟨(upd f 8 z43), a, rfl, (show TokOk (f 7) z43 (f 10) (f 11) (f 12) (f 13) (f 17) (a 4) from ⟨⟨o1, o2⟩, ⟨(oz_b3b25f0e49 tz43 g1), (oz_8964937ede g2 tz43)⟩, ⟨o5, o6⟩, ⟨o7, o8⟩, ⟨o9, o10⟩, ⟨o11, o12⟩, o13, hn4⟩), (show (f 7).toInt = (f 7).toInt from rfl), (show (f 10).toInt = (f 10).toInt from rfl), (show (f 15).toInt = (f 15).toInt from rfl), (show p0.toInt = 19 ∨ (f 8).toInt + 1 ≤ z43.toInt from by omega), (show Q5 (a 5) from hq5), (show R_t2_mark sn sb tb p0 f a (upd f 8 z43) a p0 from (Or.inl (Or.inl ⟨nc1, z3, ez3, v5, e6, Or.inr ⟨nc7, Or.inl ⟨nc9, z12, ez12, v14, e19, Or.inl ⟨nc20, z24, ez24, v26, e31, Or.inr ⟨nc32, v38, e39, Or.inl ⟨nc40, z43, ez43, rfl, rfl, rfl⟩⟩⟩⟩⟩⟩)))⟩) d_Tok_mark_131 | exact px_iret (v := p0) S hr rfl hlk hAe hw (Nat.le_of_ble_eq_true rfl) (Nat.le_of_ble_eq_true rfl) (⟨(upd f 8 z43), a, rfl, (show TokOk (f 7) z43 (f 10) (f 11) (f 12) (f 13) (f 17) (a 4) from ⟨⟨by first | exact o1 | omega, by first | exact o2 | omega⟩, ⟨by first | exact oz_b3b25f0e49 tz43 g1 | omega, by first | exact oz_8964937ede g2 tz43 | omega⟩, ⟨by first | exact o5 | omega, by first | exact o6 | omega⟩, ⟨by first | exact o7 | omega, by first | exact o8 | omega⟩, ⟨by first | exact o9 | omega, by first | exact o10 | omega⟩, ⟨by first | exact o11 | omega, by first | exact o12 | omega⟩, by first | exact o13 | omega, hn4⟩), (show (f 7).toInt = (f 7).toInt from rfl), (show (f 10).toInt = (f 10).toInt from rfl), (show (f 15).toInt = (f 15).toInt from rfl), (show p0.toInt = 19 ∨ (f 8).toInt + 1 ≤ z43.toInt from by omega), (show Q5 (a 5) from hq5), (show R_t2_mark sn sb tb p0 f a (upd f 8 z43) a p0 from (Or.inl (Or.inl ⟨nc1, z3, ez3, v5, e6, Or.inr ⟨nc7, Or.inl ⟨nc9, z12, ez12, v14, e19, Or.inl ⟨nc20, z24, ez24, v26, e31, Or.inr ⟨nc32, v38, e39, Or.inl ⟨nc40, z43, ez43, rfl, rfl, rfl⟩⟩⟩⟩⟩⟩)))⟩) d_Tok_mark_131
              · have nc40 : ¬ v38.toInt ≤ (0 : Int) := mt (i_le (x := v38) (y := 0)).mpr c40
                refine lv_iload S.x S.b d_Tok_mark_114 (lv_at hl 0 rfl) ?_
                refine lv_istore_n (lv' := [(2, .int v38), (5, .int v38), (4, .int 0), (3, .int 1), (0, .ref h), (1, .int p0)]) S.x S.b d_Tok_mark_116 rfl hl (by decide) rfl (fun ls hl => ?_)
                obtain ⟨z44, ez44⟩ : ∃ y : Int32, y = 1 + 1 := ⟨_, rfl⟩
                have tz44 : z44.toInt = ((1 : Int) + 1 + 2147483648) % 4294967296 - 2147483648 := by rw [ez44]; exact i_add 1 1
                have lz44 := Int32.le_toInt z44
                have uz44 := Int32.toInt_lt z44
                try replace tz44 : z44.toInt = (1 : Int) + 1 := by omega
                refine lv_iinc (v := z44) (lv' := [(3, .int z44), (2, .int v38), (5, .int v38), (4, .int 0), (0, .ref h), (1, .int p0)]) S.x S.b d_Tok_mark_117 hl (k := 3) rfl (by rw [ez44]; rfl) (by decide) rfl (fun ls hl => ?_)
                refine lv_aload_n S.x S.b d_Tok_mark_120 rfl (lv_at hl 4 rfl) ?_
                refine lv_dup S.x S.b d_Tok_mark_121 rfl ?_
                refine px_get S k_Tok hT hw 0 0 8 (v := .int (f 8)) rfl rfl rfl (by decide) m1_111 d_Tok_mark_122 ?_
                refine lv_iload_n S.x S.b d_Tok_mark_125 rfl (lv_at hl 0 rfl) ?_
                refine lv_iadd S.x S.b d_Tok_mark_126 ?_
                have lr45 := Int32.le_toInt (f 8)
                have ur45 := Int32.toInt_lt (f 8)
                refine lv_topi (fun z46 ez46 => ?_)
                have tz46 : z46.toInt = ((f 8).toInt + z44.toInt + 2147483648) % 4294967296 - 2147483648 := by rw [ez46]; exact i_add (f 8) z44
                have lz46 := Int32.le_toInt z46
                have uz46 := Int32.toInt_lt z46
                try replace tz46 : z46.toInt = (f 8).toInt + z44.toInt := by omega
                refine px_put S k_Tok hT hw 0 0 8 rfl rfl (by decide) m1_111 rfl rfl rfl (Nat.le_of_ble_eq_true rfl) d_Tok_mark_127 (w' := wd_Tok cs h r (fun _ => some tp) (upd f 8 z46) a g) (ps' := [wd_Tok cs h r (fun _ => some tp) (upd f 8 z46) a g, [(tp, .inl (cs 1, 2048, .inl tb))]]) rfl rfl (fun H locs hw => ?_)
                refine lv_iload_n S.x S.b d_Tok_mark_130 rfl (lv_at hl 1 rfl) ?_
                first | exact px_iret (v := v38) S hr rfl hlk hAe hw (Nat.le_of_ble_eq_true rfl) (Nat.le_of_ble_eq_true rfl) (⟨(upd f 8 z46), a, rfl, (show TokOk (f 7) z46 (f 10) (f 11) (f 12) (f 13) (f 17) (a 4) from ⟨⟨o1, o2⟩, ⟨(oz_0aba5895db tz46 g1 tz44), (oz_034949d2cd g2 tz46 tz44)⟩, ⟨o5, o6⟩, ⟨o7, o8⟩, ⟨o9, o10⟩, ⟨o11, o12⟩, o13, hn4⟩), (show (f 7).toInt = (f 7).toInt from rfl), (show (f 10).toInt = (f 10).toInt from rfl), (show (f 15).toInt = (f 15).toInt from rfl), (show v38.toInt = 19 ∨ (f 8).toInt + 1 ≤ z46.toInt from by omega), (show Q5 (a 5) from hq5), (show R_t2_mark sn sb tb p0 f a (upd f 8 z46) a v38 from (Or.inl (Or.inl ⟨nc1, z3, ez3, v5, e6, Or.inr ⟨nc7, Or.inl ⟨nc9, z12, ez12, v14, e19, Or.inl ⟨nc20, z24, ez24, v26, e31, Or.inr ⟨nc32, v38, e39, Or.inr ⟨nc40, z44, ez44, z46, ez46, rfl, rfl, rfl⟩⟩⟩⟩⟩⟩)))⟩) d_Tok_mark_131 | exact px_iret (v := v38) S hr rfl hlk hAe hw (Nat.le_of_ble_eq_true rfl) (Nat.le_of_ble_eq_true rfl) (⟨(upd f 8 z46), a, rfl, (show TokOk (f 7) z46 (f 10) (f 11) (f 12) (f 13) (f 17) (a 4) from ⟨⟨by first | exact o1 | omega, by first | exact o2 | omega⟩, ⟨by first | exact oz_0aba5895db tz46 g1 tz44 | omega, by first | exact oz_034949d2cd g2 tz46 tz44 | omega⟩, ⟨by first | exact o5 | omega, by first | exact o6 | omega⟩, ⟨by first | exact o7 | omega, by first | exact o8 | omega⟩, ⟨by first | exact o9 | omega, by first | exact o10 | omega⟩, ⟨by first | exact o11 | omega, by first | exact o12 | omega⟩, by first | exact o13 | omega, hn4⟩), (show (f 7).toInt = (f 7).toInt from rfl), (show (f 10).toInt = (f 10).toInt from rfl), (show (f 15).toInt = (f 15).toInt from rfl), (show v38.toInt = 19 ∨ (f 8).toInt + 1 ≤ z46.toInt from by omega), (show Q5 (a 5) from hq5), (show R_t2_mark sn sb tb p0 f a (upd f 8 z46) a v38 from (Or.inl (Or.inl ⟨nc1, z3, ez3, v5, e6, Or.inr ⟨nc7, Or.inl ⟨nc9, z12, ez12, v14, e19, Or.inl ⟨nc20, z24, ez24, v26, e31, Or.inr ⟨nc32, v38, e39, Or.inr ⟨nc40, z44, ez44, z46, ez46, rfl, rfl, rfl⟩⟩⟩⟩⟩⟩)))⟩) d_Tok_mark_131
          · exact absurd c22 (by decide)
        · have nc20 : v14.toInt = p0.toInt := (i_eq (x := v14) (y := p0)).mp c20
          refine lv_iload_n S.x S.b d_Tok_mark_64 rfl (lv_at hl 3 rfl) ?_
          refine px_calli (pr := [wd_Tok cs h r (fun _ => some tp) f a g, [(tp, .inl (cs 1, 2048, .inl tb))]]) (px_runS (As := [.int p0]) (rest := []) S (c_t2_doubled l D cs  p0   _) hT (pr := [wd_Tok cs h r (fun _ => some tp) f a g, [(tp, .inl (cs 1, 2048, .inl tb))]]) (pcs := []) hw px_X.tt m4_64 m4_62 m4_63 m1_2 q_Tok_doubled ⟨Nat.le_of_ble_eq_true rfl, Nat.le_of_ble_eq_true rfl⟩ hl.1 rfl (Nat.le_of_ble_eq_true rfl) d_Tok_mark_65 ⟨Nat.le_of_ble_eq_true rfl, Nat.le_of_ble_eq_true rfl⟩) hw hA (fun v48 p47 H locs hp47 hw => ?_)
          obtain ⟨rfl, e49⟩ := hp47
          have e49 : R_t2_doubled p0 v48 := e49
          have lv48 := Int32.le_toInt v48
          have uv48 := Int32.toInt_lt v48
          refine lv_goto (tgt := 72) S.x S.b d_Tok_mark_68 (by decide) ?_
          refine lv_istore (lv' := [(4, .int v48), (3, .int 1), (2, .int p0), (0, .ref h), (1, .int p0)]) S.x S.b d_Tok_mark_72 hl (by decide) rfl (fun ls hl => ?_)
          refine lv_iload S.x S.b d_Tok_mark_74 (lv_at hl 0 rfl) ?_
          refine lv_if_le (tgt := 84) S.x S.b d_Tok_mark_76 (by decide) (fun c50 => ?_) (fun c50 => ?_)
          · have nc50 : v48.toInt ≤ (0 : Int) := (i_le (x := v48) (y := 0)).mp c50
            refine lv_aload_n S.x S.b d_Tok_mark_84 rfl (lv_at hl 3 rfl) ?_
            refine lv_aload_n S.x S.b d_Tok_mark_85 rfl (lv_at hl 3 rfl) ?_
            refine px_get S k_Tok hT hw 0 0 8 (v := .int (f 8)) rfl rfl rfl (by decide) m1_111 d_Tok_mark_86 ?_
            refine lv_iload_n S.x S.b d_Tok_mark_89 rfl (lv_at hl 1 rfl) ?_
            refine lv_iadd S.x S.b d_Tok_mark_90 ?_
            have lr52 := Int32.le_toInt (f 8)
            have ur52 := Int32.toInt_lt (f 8)
            refine lv_topi (fun z53 ez53 => ?_)
            have tz53 : z53.toInt = ((f 8).toInt + (1 : Int) + 2147483648) % 4294967296 - 2147483648 := by rw [ez53]; exact i_add (f 8) 1
            have lz53 := Int32.le_toInt z53
            have uz53 := Int32.toInt_lt z53
            try replace tz53 : z53.toInt = (f 8).toInt + (1 : Int) := by omega
            first | refine px_calli (pr := []) (px_runV (As := [.int z53]) (rest := []) S (c_t2_byteAt l D cs h r tp tb g f a z53  (show TokOk (f 7) (f 8) (f 10) (f 11) (f 12) (f 13) (f 17) (a 4) from ⟨⟨o1, o2⟩, ⟨g1, o4⟩, ⟨o5, o6⟩, ⟨o7, o8⟩, ⟨o9, o10⟩, ⟨o11, o12⟩, o13, hn4⟩) _) hT (pr := []) (pcs := [wd_Tok cs h r (fun _ => some tp) f a g, [(tp, .inl (cs 1, 2048, .inl tb))]]) hw px_X.tt (px_recv hT hw 0 0 rfl rfl rfl) m3_186 m3_183 m3_185 ms_1_6 m1_2 q_Tok_byteAt ⟨Nat.le_of_ble_eq_true rfl, Nat.le_of_ble_eq_true rfl⟩ hl.1 rfl (Nat.le_of_ble_eq_true rfl) d_Tok_mark_91 ⟨Nat.le_of_ble_eq_true rfl, Nat.le_of_ble_eq_true rfl⟩) hw hA (fun v55 p54 H locs hp54 hw => ?_) | refine px_calli (pr := []) (px_runV (As := [.int z53]) (rest := []) S (c_t2_byteAt l D cs h r tp tb g f a z53  (show TokOk (f 7) (f 8) (f 10) (f 11) (f 12) (f 13) (f 17) (a 4) from ⟨⟨by first | exact o1 | omega, by first | exact o2 | omega⟩, ⟨by first | exact g1 | omega, by first | exact o4 | omega⟩, ⟨by first | exact o5 | omega, by first | exact o6 | omega⟩, ⟨by first | exact o7 | omega, by first | exact o8 | omega⟩, ⟨by first | exact o9 | omega, by first | exact o10 | omega⟩, ⟨by first | exact o11 | omega, by first | exact o12 | omega⟩, by first | exact o13 | omega, hn4⟩) _) hT (pr := []) (pcs := [wd_Tok cs h r (fun _ => some tp) f a g, [(tp, .inl (cs 1, 2048, .inl tb))]]) hw px_X.tt (px_recv hT hw 0 0 rfl rfl rfl) m3_186 m3_183 m3_185 ms_1_6 m1_2 q_Tok_byteAt ⟨Nat.le_of_ble_eq_true rfl, Nat.le_of_ble_eq_true rfl⟩ hl.1 rfl (Nat.le_of_ble_eq_true rfl) d_Tok_mark_91 ⟨Nat.le_of_ble_eq_true rfl, Nat.le_of_ble_eq_true rfl⟩) hw hA (fun v55 p54 H locs hp54 hw => ?_)
            obtain ⟨rfl, e56, e57, e58, e59, e60⟩ := hp54
            have e56 : -1 ≤ v55.toInt := e56
            have e57 : v55.toInt ≤ 255 := e57
            have e58 : 0 ≤ v55.toInt → 0 ≤ z53.toInt ∧ z53.toInt < (f 7).toInt := e58
            have e59 : By tb (f 7) z53 v55 := e59
            have e60 : R_t2_byteAt tb f z53 v55 := e60
            have lv55 := Int32.le_toInt v55
            have uv55 := Int32.toInt_lt v55
            refine lv_bipush (v := 61) S.x S.b d_Tok_mark_94 (by decide) ?_
            refine lv_icmp_ne (tgt := 106) S.x S.b d_Tok_mark_96 (by decide) (fun c61 => ?_) (fun c61 => ?_)
            · have nc61 : ¬ v55.toInt = (61 : Int) := mt (i_eq (x := v55) (y := 61)).mpr c61
              refine lv_iconst (v := 0) S.x S.b d_Tok_mark_106 (by decide) ?_
              refine lv_istore (lv' := [(5, .int 0), (4, .int v48), (3, .int 1), (2, .int p0), (0, .ref h), (1, .int p0)]) S.x S.b d_Tok_mark_107 hl (by decide) rfl (fun ls hl => ?_)
              refine lv_iload S.x S.b d_Tok_mark_109 (lv_at hl 0 rfl) ?_
              refine lv_if_le (tgt := 120) S.x S.b d_Tok_mark_111 (by decide) (fun c63 => ?_) (fun c63 => ?_)
              ·
                refine lv_aload_n S.x S.b d_Tok_mark_120 rfl (lv_at hl 4 rfl) ?_
                refine lv_dup S.x S.b d_Tok_mark_121 rfl ?_
                refine px_get S k_Tok hT hw 0 0 8 (v := .int (f 8)) rfl rfl rfl (by decide) m1_111 d_Tok_mark_122 ?_
                refine lv_iload_n S.x S.b d_Tok_mark_125 rfl (lv_at hl 2 rfl) ?_
                refine lv_iadd S.x S.b d_Tok_mark_126 ?_
                have lr64 := Int32.le_toInt (f 8)
                have ur64 := Int32.toInt_lt (f 8)
                refine lv_topi (fun z65 ez65 => ?_)
                have tz65 : z65.toInt = ((f 8).toInt + (1 : Int) + 2147483648) % 4294967296 - 2147483648 := by rw [ez65]; exact i_add (f 8) 1
                have lz65 := Int32.le_toInt z65
                have uz65 := Int32.toInt_lt z65
                try replace tz65 : z65.toInt = (f 8).toInt + (1 : Int) := by omega
                refine px_put S k_Tok hT hw 0 0 8 rfl rfl (by decide) m1_111 rfl rfl rfl (Nat.le_of_ble_eq_true rfl) d_Tok_mark_127 (w' := wd_Tok cs h r (fun _ => some tp) (upd f 8 z65) a g) (ps' := [wd_Tok cs h r (fun _ => some tp) (upd f 8 z65) a g, [(tp, .inl (cs 1, 2048, .inl tb))]]) rfl rfl (fun H locs hw => ?_)
                refine lv_iload_n S.x S.b d_Tok_mark_130 rfl (lv_at hl 3 rfl) ?_
                first | exact px_iret (v := p0) S hr rfl hlk hAe hw (Nat.le_of_ble_eq_true rfl) (Nat.le_of_ble_eq_true rfl) (⟨(upd f 8 z65), a, rfl, (show TokOk (f 7) z65 (f 10) (f 11) (f 12) (f 13) (f 17) (a 4) from ⟨⟨o1, o2⟩, ⟨(oz_b3b25f0e49 tz65 g1), (oz_8964937ede g2 tz65)⟩, ⟨o5, o6⟩, ⟨o7, o8⟩, ⟨o9, o10⟩, ⟨o11, o12⟩, o13, hn4⟩), (show (f 7).toInt = (f 7).toInt from rfl), (show (f 10).toInt = (f 10).toInt from rfl), (show (f 15).toInt = (f 15).toInt from rfl), (show p0.toInt = 19 ∨ (f 8).toInt + 1 ≤ z65.toInt from by omega), (show Q5 (a 5) from hq5), (show R_t2_mark sn sb tb p0 f a (upd f 8 z65) a p0 from (Or.inl (Or.inl ⟨nc1, z3, ez3, v5, e6, Or.inr ⟨nc7, Or.inl ⟨nc9, z12, ez12, v14, e19, Or.inr ⟨nc20, v48, e49, Or.inl ⟨nc50, z53, ez53, v55, e60, Or.inl ⟨nc61, z65, ez65, rfl, rfl, rfl⟩⟩⟩⟩⟩⟩)))⟩) d_Tok_mark_131 | exact px_iret (v := p0) S hr rfl hlk hAe hw (Nat.le_of_ble_eq_true rfl) (Nat.le_of_ble_eq_true rfl) (⟨(upd f 8 z65), a, rfl, (show TokOk (f 7) z65 (f 10) (f 11) (f 12) (f 13) (f 17) (a 4) from ⟨⟨by first | exact o1 | omega, by first | exact o2 | omega⟩, ⟨by first | exact oz_b3b25f0e49 tz65 g1 | omega, by first | exact oz_8964937ede g2 tz65 | omega⟩, ⟨by first | exact o5 | omega, by first | exact o6 | omega⟩, ⟨by first | exact o7 | omega, by first | exact o8 | omega⟩, ⟨by first | exact o9 | omega, by first | exact o10 | omega⟩, ⟨by first | exact o11 | omega, by first | exact o12 | omega⟩, by first | exact o13 | omega, hn4⟩), (show (f 7).toInt = (f 7).toInt from rfl), (show (f 10).toInt = (f 10).toInt from rfl), (show (f 15).toInt = (f 15).toInt from rfl), (show p0.toInt = 19 ∨ (f 8).toInt + 1 ≤ z65.toInt from by omega), (show Q5 (a 5) from hq5), (show R_t2_mark sn sb tb p0 f a (upd f 8 z65) a p0 from (Or.inl (Or.inl ⟨nc1, z3, ez3, v5, e6, Or.inr ⟨nc7, Or.inl ⟨nc9, z12, ez12, v14, e19, Or.inr ⟨nc20, v48, e49, Or.inl ⟨nc50, z53, ez53, v55, e60, Or.inl ⟨nc61, z65, ez65, rfl, rfl, rfl⟩⟩⟩⟩⟩⟩)))⟩) d_Tok_mark_131
              · exact absurd c63 (by decide)
            · have nc61 : v55.toInt = (61 : Int) := (i_eq (x := v55) (y := 61)).mp c61
              refine lv_iload_n S.x S.b d_Tok_mark_99 rfl (lv_at hl 2 rfl) ?_
              refine px_calli (pr := [wd_Tok cs h r (fun _ => some tp) f a g, [(tp, .inl (cs 1, 2048, .inl tb))]]) (px_runS (As := [.int p0]) (rest := []) S (c_t2_withEquals l D cs  p0   _) hT (pr := [wd_Tok cs h r (fun _ => some tp) f a g, [(tp, .inl (cs 1, 2048, .inl tb))]]) (pcs := []) hw px_X.tt m4_67 m4_65 m4_66 m1_2 q_Tok_withEquals ⟨Nat.le_of_ble_eq_true rfl, Nat.le_of_ble_eq_true rfl⟩ hl.1 rfl (Nat.le_of_ble_eq_true rfl) d_Tok_mark_100 ⟨Nat.le_of_ble_eq_true rfl, Nat.le_of_ble_eq_true rfl⟩) hw hA (fun v67 p66 H locs hp66 hw => ?_)
              obtain ⟨rfl, e68⟩ := hp66
              have e68 : R_t2_withEquals p0 v67 := e68
              have lv67 := Int32.le_toInt v67
              have uv67 := Int32.toInt_lt v67
              refine lv_goto (tgt := 107) S.x S.b d_Tok_mark_103 (by decide) ?_
              refine lv_istore (lv' := [(5, .int v67), (4, .int v48), (3, .int 1), (2, .int p0), (0, .ref h), (1, .int p0)]) S.x S.b d_Tok_mark_107 hl (by decide) rfl (fun ls hl => ?_)
              refine lv_iload S.x S.b d_Tok_mark_109 (lv_at hl 0 rfl) ?_
              refine lv_if_le (tgt := 120) S.x S.b d_Tok_mark_111 (by decide) (fun c69 => ?_) (fun c69 => ?_)
              · have nc69 : v67.toInt ≤ (0 : Int) := (i_le (x := v67) (y := 0)).mp c69
                refine lv_aload_n S.x S.b d_Tok_mark_120 rfl (lv_at hl 4 rfl) ?_
                refine lv_dup S.x S.b d_Tok_mark_121 rfl ?_
                refine px_get S k_Tok hT hw 0 0 8 (v := .int (f 8)) rfl rfl rfl (by decide) m1_111 d_Tok_mark_122 ?_
                refine lv_iload_n S.x S.b d_Tok_mark_125 rfl (lv_at hl 2 rfl) ?_
                refine lv_iadd S.x S.b d_Tok_mark_126 ?_
                have lr71 := Int32.le_toInt (f 8)
                have ur71 := Int32.toInt_lt (f 8)
                refine lv_topi (fun z72 ez72 => ?_)
                have tz72 : z72.toInt = ((f 8).toInt + (1 : Int) + 2147483648) % 4294967296 - 2147483648 := by rw [ez72]; exact i_add (f 8) 1
                have lz72 := Int32.le_toInt z72
                have uz72 := Int32.toInt_lt z72
                try replace tz72 : z72.toInt = (f 8).toInt + (1 : Int) := by omega
                refine px_put S k_Tok hT hw 0 0 8 rfl rfl (by decide) m1_111 rfl rfl rfl (Nat.le_of_ble_eq_true rfl) d_Tok_mark_127 (w' := wd_Tok cs h r (fun _ => some tp) (upd f 8 z72) a g) (ps' := [wd_Tok cs h r (fun _ => some tp) (upd f 8 z72) a g, [(tp, .inl (cs 1, 2048, .inl tb))]]) rfl rfl (fun H locs hw => ?_)
                refine lv_iload_n S.x S.b d_Tok_mark_130 rfl (lv_at hl 3 rfl) ?_
                first | exact px_iret (v := p0) S hr rfl hlk hAe hw (Nat.le_of_ble_eq_true rfl) (Nat.le_of_ble_eq_true rfl) (⟨(upd f 8 z72), a, rfl, (show TokOk (f 7) z72 (f 10) (f 11) (f 12) (f 13) (f 17) (a 4) from ⟨⟨o1, o2⟩, ⟨(oz_b3b25f0e49 tz72 g1), (oz_8964937ede g2 tz72)⟩, ⟨o5, o6⟩, ⟨o7, o8⟩, ⟨o9, o10⟩, ⟨o11, o12⟩, o13, hn4⟩), (show (f 7).toInt = (f 7).toInt from rfl), (show (f 10).toInt = (f 10).toInt from rfl), (show (f 15).toInt = (f 15).toInt from rfl), (show p0.toInt = 19 ∨ (f 8).toInt + 1 ≤ z72.toInt from by omega), (show Q5 (a 5) from hq5), (show R_t2_mark sn sb tb p0 f a (upd f 8 z72) a p0 from (Or.inl (Or.inl ⟨nc1, z3, ez3, v5, e6, Or.inr ⟨nc7, Or.inl ⟨nc9, z12, ez12, v14, e19, Or.inr ⟨nc20, v48, e49, Or.inl ⟨nc50, z53, ez53, v55, e60, Or.inr ⟨nc61, v67, e68, Or.inl ⟨nc69, z72, ez72, rfl, rfl, rfl⟩⟩⟩⟩⟩⟩⟩)))⟩) d_Tok_mark_131 | exact px_iret (v := p0) S hr rfl hlk hAe hw (Nat.le_of_ble_eq_true rfl) (Nat.le_of_ble_eq_true rfl) (⟨(upd f 8 z72), a, rfl, (show TokOk (f 7) z72 (f 10) (f 11) (f 12) (f 13) (f 17) (a 4) from ⟨⟨by first | exact o1 | omega, by first | exact o2 | omega⟩, ⟨by first | exact oz_b3b25f0e49 tz72 g1 | omega, by first | exact oz_8964937ede g2 tz72 | omega⟩, ⟨by first | exact o5 | omega, by first | exact o6 | omega⟩, ⟨by first | exact o7 | omega, by first | exact o8 | omega⟩, ⟨by first | exact o9 | omega, by first | exact o10 | omega⟩, ⟨by first | exact o11 | omega, by first | exact o12 | omega⟩, by first | exact o13 | omega, hn4⟩), (show (f 7).toInt = (f 7).toInt from rfl), (show (f 10).toInt = (f 10).toInt from rfl), (show (f 15).toInt = (f 15).toInt from rfl), (show p0.toInt = 19 ∨ (f 8).toInt + 1 ≤ z72.toInt from by omega), (show Q5 (a 5) from hq5), (show R_t2_mark sn sb tb p0 f a (upd f 8 z72) a p0 from (Or.inl (Or.inl ⟨nc1, z3, ez3, v5, e6, Or.inr ⟨nc7, Or.inl ⟨nc9, z12, ez12, v14, e19, Or.inr ⟨nc20, v48, e49, Or.inl ⟨nc50, z53, ez53, v55, e60, Or.inr ⟨nc61, v67, e68, Or.inl ⟨nc69, z72, ez72, rfl, rfl, rfl⟩⟩⟩⟩⟩⟩⟩)))⟩) d_Tok_mark_131
              · have nc69 : ¬ v67.toInt ≤ (0 : Int) := mt (i_le (x := v67) (y := 0)).mpr c69
                refine lv_iload S.x S.b d_Tok_mark_114 (lv_at hl 0 rfl) ?_
                refine lv_istore_n (lv' := [(2, .int v67), (5, .int v67), (4, .int v48), (3, .int 1), (0, .ref h), (1, .int p0)]) S.x S.b d_Tok_mark_116 rfl hl (by decide) rfl (fun ls hl => ?_)
                obtain ⟨z73, ez73⟩ : ∃ y : Int32, y = 1 + 1 := ⟨_, rfl⟩
                have tz73 : z73.toInt = ((1 : Int) + 1 + 2147483648) % 4294967296 - 2147483648 := by rw [ez73]; exact i_add 1 1
                have lz73 := Int32.le_toInt z73
                have uz73 := Int32.toInt_lt z73
                try replace tz73 : z73.toInt = (1 : Int) + 1 := by omega
                refine lv_iinc (v := z73) (lv' := [(3, .int z73), (2, .int v67), (5, .int v67), (4, .int v48), (0, .ref h), (1, .int p0)]) S.x S.b d_Tok_mark_117 hl (k := 3) rfl (by rw [ez73]; rfl) (by decide) rfl (fun ls hl => ?_)
                refine lv_aload_n S.x S.b d_Tok_mark_120 rfl (lv_at hl 4 rfl) ?_
                refine lv_dup S.x S.b d_Tok_mark_121 rfl ?_
                refine px_get S k_Tok hT hw 0 0 8 (v := .int (f 8)) rfl rfl rfl (by decide) m1_111 d_Tok_mark_122 ?_
                refine lv_iload_n S.x S.b d_Tok_mark_125 rfl (lv_at hl 0 rfl) ?_
                refine lv_iadd S.x S.b d_Tok_mark_126 ?_
                have lr74 := Int32.le_toInt (f 8)
                have ur74 := Int32.toInt_lt (f 8)
                refine lv_topi (fun z75 ez75 => ?_)
                have tz75 : z75.toInt = ((f 8).toInt + z73.toInt + 2147483648) % 4294967296 - 2147483648 := by rw [ez75]; exact i_add (f 8) z73
                have lz75 := Int32.le_toInt z75
                have uz75 := Int32.toInt_lt z75
                try replace tz75 : z75.toInt = (f 8).toInt + z73.toInt := by omega
                refine px_put S k_Tok hT hw 0 0 8 rfl rfl (by decide) m1_111 rfl rfl rfl (Nat.le_of_ble_eq_true rfl) d_Tok_mark_127 (w' := wd_Tok cs h r (fun _ => some tp) (upd f 8 z75) a g) (ps' := [wd_Tok cs h r (fun _ => some tp) (upd f 8 z75) a g, [(tp, .inl (cs 1, 2048, .inl tb))]]) rfl rfl (fun H locs hw => ?_)
                refine lv_iload_n S.x S.b d_Tok_mark_130 rfl (lv_at hl 1 rfl) ?_
                first | exact px_iret (v := v67) S hr rfl hlk hAe hw (Nat.le_of_ble_eq_true rfl) (Nat.le_of_ble_eq_true rfl) (⟨(upd f 8 z75), a, rfl, (show TokOk (f 7) z75 (f 10) (f 11) (f 12) (f 13) (f 17) (a 4) from ⟨⟨o1, o2⟩, ⟨(oz_0aba5895db tz75 g1 tz73), (oz_034949d2cd g2 tz75 tz73)⟩, ⟨o5, o6⟩, ⟨o7, o8⟩, ⟨o9, o10⟩, ⟨o11, o12⟩, o13, hn4⟩), (show (f 7).toInt = (f 7).toInt from rfl), (show (f 10).toInt = (f 10).toInt from rfl), (show (f 15).toInt = (f 15).toInt from rfl), (show v67.toInt = 19 ∨ (f 8).toInt + 1 ≤ z75.toInt from by omega), (show Q5 (a 5) from hq5), (show R_t2_mark sn sb tb p0 f a (upd f 8 z75) a v67 from (Or.inl (Or.inl ⟨nc1, z3, ez3, v5, e6, Or.inr ⟨nc7, Or.inl ⟨nc9, z12, ez12, v14, e19, Or.inr ⟨nc20, v48, e49, Or.inl ⟨nc50, z53, ez53, v55, e60, Or.inr ⟨nc61, v67, e68, Or.inr ⟨nc69, z73, ez73, z75, ez75, rfl, rfl, rfl⟩⟩⟩⟩⟩⟩⟩)))⟩) d_Tok_mark_131 | exact px_iret (v := v67) S hr rfl hlk hAe hw (Nat.le_of_ble_eq_true rfl) (Nat.le_of_ble_eq_true rfl) (⟨(upd f 8 z75), a, rfl, (show TokOk (f 7) z75 (f 10) (f 11) (f 12) (f 13) (f 17) (a 4) from ⟨⟨by first | exact o1 | omega, by first | exact o2 | omega⟩, ⟨by first | exact oz_0aba5895db tz75 g1 tz73 | omega, by first | exact oz_034949d2cd g2 tz75 tz73 | omega⟩, ⟨by first | exact o5 | omega, by first | exact o6 | omega⟩, ⟨by first | exact o7 | omega, by first | exact o8 | omega⟩, ⟨by first | exact o9 | omega, by first | exact o10 | omega⟩, ⟨by first | exact o11 | omega, by first | exact o12 | omega⟩, by first | exact o13 | omega, hn4⟩), (show (f 7).toInt = (f 7).toInt from rfl), (show (f 10).toInt = (f 10).toInt from rfl), (show (f 15).toInt = (f 15).toInt from rfl), (show v67.toInt = 19 ∨ (f 8).toInt + 1 ≤ z75.toInt from by omega), (show Q5 (a 5) from hq5), (show R_t2_mark sn sb tb p0 f a (upd f 8 z75) a v67 from (Or.inl (Or.inl ⟨nc1, z3, ez3, v5, e6, Or.inr ⟨nc7, Or.inl ⟨nc9, z12, ez12, v14, e19, Or.inr ⟨nc20, v48, e49, Or.inl ⟨nc50, z53, ez53, v55, e60, Or.inr ⟨nc61, v67, e68, Or.inr ⟨nc69, z73, ez73, z75, ez75, rfl, rfl, rfl⟩⟩⟩⟩⟩⟩⟩)))⟩) d_Tok_mark_131
          · have nc50 : ¬ v48.toInt ≤ (0 : Int) := mt (i_le (x := v48) (y := 0)).mpr c50
            refine lv_iload S.x S.b d_Tok_mark_79 (lv_at hl 0 rfl) ?_
            refine lv_istore_n (lv' := [(2, .int v48), (4, .int v48), (3, .int 1), (0, .ref h), (1, .int p0)]) S.x S.b d_Tok_mark_81 rfl hl (by decide) rfl (fun ls hl => ?_)
            refine lv_iconst (v := 2) S.x S.b d_Tok_mark_82 (by decide) ?_
            refine lv_istore_n (lv' := [(3, .int 2), (2, .int v48), (4, .int v48), (0, .ref h), (1, .int p0)]) S.x S.b d_Tok_mark_83 rfl hl (by decide) rfl (fun ls hl => ?_)
            refine lv_aload_n S.x S.b d_Tok_mark_84 rfl (lv_at hl 3 rfl) ?_
            refine lv_aload_n S.x S.b d_Tok_mark_85 rfl (lv_at hl 3 rfl) ?_
            refine px_get S k_Tok hT hw 0 0 8 (v := .int (f 8)) rfl rfl rfl (by decide) m1_111 d_Tok_mark_86 ?_
            refine lv_iload_n S.x S.b d_Tok_mark_89 rfl (lv_at hl 0 rfl) ?_
            refine lv_iadd S.x S.b d_Tok_mark_90 ?_
            have lr76 := Int32.le_toInt (f 8)
            have ur76 := Int32.toInt_lt (f 8)
            refine lv_topi (fun z77 ez77 => ?_)
            have tz77 : z77.toInt = ((f 8).toInt + (2 : Int) + 2147483648) % 4294967296 - 2147483648 := by rw [ez77]; exact i_add (f 8) 2
            have lz77 := Int32.le_toInt z77
            have uz77 := Int32.toInt_lt z77
            try replace tz77 : z77.toInt = (f 8).toInt + (2 : Int) := by omega
            first | refine px_calli (pr := []) (px_runV (As := [.int z77]) (rest := []) S (c_t2_byteAt l D cs h r tp tb g f a z77  (show TokOk (f 7) (f 8) (f 10) (f 11) (f 12) (f 13) (f 17) (a 4) from ⟨⟨o1, o2⟩, ⟨g1, o4⟩, ⟨o5, o6⟩, ⟨o7, o8⟩, ⟨o9, o10⟩, ⟨o11, o12⟩, o13, hn4⟩) _) hT (pr := []) (pcs := [wd_Tok cs h r (fun _ => some tp) f a g, [(tp, .inl (cs 1, 2048, .inl tb))]]) hw px_X.tt (px_recv hT hw 0 0 rfl rfl rfl) m3_186 m3_183 m3_185 ms_1_6 m1_2 q_Tok_byteAt ⟨Nat.le_of_ble_eq_true rfl, Nat.le_of_ble_eq_true rfl⟩ hl.1 rfl (Nat.le_of_ble_eq_true rfl) d_Tok_mark_91 ⟨Nat.le_of_ble_eq_true rfl, Nat.le_of_ble_eq_true rfl⟩) hw hA (fun v79 p78 H locs hp78 hw => ?_) | refine px_calli (pr := []) (px_runV (As := [.int z77]) (rest := []) S (c_t2_byteAt l D cs h r tp tb g f a z77  (show TokOk (f 7) (f 8) (f 10) (f 11) (f 12) (f 13) (f 17) (a 4) from ⟨⟨by first | exact o1 | omega, by first | exact o2 | omega⟩, ⟨by first | exact g1 | omega, by first | exact o4 | omega⟩, ⟨by first | exact o5 | omega, by first | exact o6 | omega⟩, ⟨by first | exact o7 | omega, by first | exact o8 | omega⟩, ⟨by first | exact o9 | omega, by first | exact o10 | omega⟩, ⟨by first | exact o11 | omega, by first | exact o12 | omega⟩, by first | exact o13 | omega, hn4⟩) _) hT (pr := []) (pcs := [wd_Tok cs h r (fun _ => some tp) f a g, [(tp, .inl (cs 1, 2048, .inl tb))]]) hw px_X.tt (px_recv hT hw 0 0 rfl rfl rfl) m3_186 m3_183 m3_185 ms_1_6 m1_2 q_Tok_byteAt ⟨Nat.le_of_ble_eq_true rfl, Nat.le_of_ble_eq_true rfl⟩ hl.1 rfl (Nat.le_of_ble_eq_true rfl) d_Tok_mark_91 ⟨Nat.le_of_ble_eq_true rfl, Nat.le_of_ble_eq_true rfl⟩) hw hA (fun v79 p78 H locs hp78 hw => ?_)
            obtain ⟨rfl, e80, e81, e82, e83, e84⟩ := hp78
            have e80 : -1 ≤ v79.toInt := e80
            have e81 : v79.toInt ≤ 255 := e81
            have e82 : 0 ≤ v79.toInt → 0 ≤ z77.toInt ∧ z77.toInt < (f 7).toInt := e82
            have e83 : By tb (f 7) z77 v79 := e83
            have e84 : R_t2_byteAt tb f z77 v79 := e84
            have lv79 := Int32.le_toInt v79
            have uv79 := Int32.toInt_lt v79
            refine lv_bipush (v := 61) S.x S.b d_Tok_mark_94 (by decide) ?_
            refine lv_icmp_ne (tgt := 106) S.x S.b d_Tok_mark_96 (by decide) (fun c85 => ?_) (fun c85 => ?_)
            · have nc85 : ¬ v79.toInt = (61 : Int) := mt (i_eq (x := v79) (y := 61)).mpr c85
              refine lv_iconst (v := 0) S.x S.b d_Tok_mark_106 (by decide) ?_
              refine lv_istore (lv' := [(5, .int 0), (3, .int 2), (2, .int v48), (4, .int v48), (0, .ref h), (1, .int p0)]) S.x S.b d_Tok_mark_107 hl (by decide) rfl (fun ls hl => ?_)
              refine lv_iload S.x S.b d_Tok_mark_109 (lv_at hl 0 rfl) ?_
              refine lv_if_le (tgt := 120) S.x S.b d_Tok_mark_111 (by decide) (fun c87 => ?_) (fun c87 => ?_)
              ·
                refine lv_aload_n S.x S.b d_Tok_mark_120 rfl (lv_at hl 4 rfl) ?_
                refine lv_dup S.x S.b d_Tok_mark_121 rfl ?_
                refine px_get S k_Tok hT hw 0 0 8 (v := .int (f 8)) rfl rfl rfl (by decide) m1_111 d_Tok_mark_122 ?_
                refine lv_iload_n S.x S.b d_Tok_mark_125 rfl (lv_at hl 1 rfl) ?_
                refine lv_iadd S.x S.b d_Tok_mark_126 ?_
                have lr88 := Int32.le_toInt (f 8)
                have ur88 := Int32.toInt_lt (f 8)
                refine lv_topi (fun z89 ez89 => ?_)
                have tz89 : z89.toInt = ((f 8).toInt + (2 : Int) + 2147483648) % 4294967296 - 2147483648 := by rw [ez89]; exact i_add (f 8) 2
                have lz89 := Int32.le_toInt z89
                have uz89 := Int32.toInt_lt z89
                try replace tz89 : z89.toInt = (f 8).toInt + (2 : Int) := by omega
                refine px_put S k_Tok hT hw 0 0 8 rfl rfl (by decide) m1_111 rfl rfl rfl (Nat.le_of_ble_eq_true rfl) d_Tok_mark_127 (w' := wd_Tok cs h r (fun _ => some tp) (upd f 8 z89) a g) (ps' := [wd_Tok cs h r (fun _ => some tp) (upd f 8 z89) a g, [(tp, .inl (cs 1, 2048, .inl tb))]]) rfl rfl (fun H locs hw => ?_)
                refine lv_iload_n S.x S.b d_Tok_mark_130 rfl (lv_at hl 2 rfl) ?_
                first | exact px_iret (v := v48) S hr rfl hlk hAe hw (Nat.le_of_ble_eq_true rfl) (Nat.le_of_ble_eq_true rfl) (⟨(upd f 8 z89), a, rfl, (show TokOk (f 7) z89 (f 10) (f 11) (f 12) (f 13) (f 17) (a 4) from ⟨⟨o1, o2⟩, ⟨(oz_6c4a1e09c3 tz89 g1), (oz_26c995f1f8 g2 tz89)⟩, ⟨o5, o6⟩, ⟨o7, o8⟩, ⟨o9, o10⟩, ⟨o11, o12⟩, o13, hn4⟩), (show (f 7).toInt = (f 7).toInt from rfl), (show (f 10).toInt = (f 10).toInt from rfl), (show (f 15).toInt = (f 15).toInt from rfl), (show v48.toInt = 19 ∨ (f 8).toInt + 1 ≤ z89.toInt from by omega), (show Q5 (a 5) from hq5), (show R_t2_mark sn sb tb p0 f a (upd f 8 z89) a v48 from (Or.inl (Or.inl ⟨nc1, z3, ez3, v5, e6, Or.inr ⟨nc7, Or.inl ⟨nc9, z12, ez12, v14, e19, Or.inr ⟨nc20, v48, e49, Or.inr ⟨nc50, z77, ez77, v79, e84, Or.inl ⟨nc85, z89, ez89, rfl, rfl, rfl⟩⟩⟩⟩⟩⟩)))⟩) d_Tok_mark_131 | exact px_iret (v := v48) S hr rfl hlk hAe hw (Nat.le_of_ble_eq_true rfl) (Nat.le_of_ble_eq_true rfl) (⟨(upd f 8 z89), a, rfl, (show TokOk (f 7) z89 (f 10) (f 11) (f 12) (f 13) (f 17) (a 4) from ⟨⟨by first | exact o1 | omega, by first | exact o2 | omega⟩, ⟨by first | exact oz_6c4a1e09c3 tz89 g1 | omega, by first | exact oz_26c995f1f8 g2 tz89 | omega⟩, ⟨by first | exact o5 | omega, by first | exact o6 | omega⟩, ⟨by first | exact o7 | omega, by first | exact o8 | omega⟩, ⟨by first | exact o9 | omega, by first | exact o10 | omega⟩, ⟨by first | exact o11 | omega, by first | exact o12 | omega⟩, by first | exact o13 | omega, hn4⟩), (show (f 7).toInt = (f 7).toInt from rfl), (show (f 10).toInt = (f 10).toInt from rfl), (show (f 15).toInt = (f 15).toInt from rfl), (show v48.toInt = 19 ∨ (f 8).toInt + 1 ≤ z89.toInt from by omega), (show Q5 (a 5) from hq5), (show R_t2_mark sn sb tb p0 f a (upd f 8 z89) a v48 from (Or.inl (Or.inl ⟨nc1, z3, ez3, v5, e6, Or.inr ⟨nc7, Or.inl ⟨nc9, z12, ez12, v14, e19, Or.inr ⟨nc20, v48, e49, Or.inr ⟨nc50, z77, ez77, v79, e84, Or.inl ⟨nc85, z89, ez89, rfl, rfl, rfl⟩⟩⟩⟩⟩⟩)))⟩) d_Tok_mark_131
              · exact absurd c87 (by decide)
            · have nc85 : v79.toInt = (61 : Int) := (i_eq (x := v79) (y := 61)).mp c85
              refine lv_iload_n S.x S.b d_Tok_mark_99 rfl (lv_at hl 1 rfl) ?_
              refine px_calli (pr := [wd_Tok cs h r (fun _ => some tp) f a g, [(tp, .inl (cs 1, 2048, .inl tb))]]) (px_runS (As := [.int v48]) (rest := []) S (c_t2_withEquals l D cs  v48   _) hT (pr := [wd_Tok cs h r (fun _ => some tp) f a g, [(tp, .inl (cs 1, 2048, .inl tb))]]) (pcs := []) hw px_X.tt m4_67 m4_65 m4_66 m1_2 q_Tok_withEquals ⟨Nat.le_of_ble_eq_true rfl, Nat.le_of_ble_eq_true rfl⟩ hl.1 rfl (Nat.le_of_ble_eq_true rfl) d_Tok_mark_100 ⟨Nat.le_of_ble_eq_true rfl, Nat.le_of_ble_eq_true rfl⟩) hw hA (fun v91 p90 H locs hp90 hw => ?_)
              obtain ⟨rfl, e92⟩ := hp90
              have e92 : R_t2_withEquals v48 v91 := e92
              have lv91 := Int32.le_toInt v91
              have uv91 := Int32.toInt_lt v91
              refine lv_goto (tgt := 107) S.x S.b d_Tok_mark_103 (by decide) ?_
              refine lv_istore (lv' := [(5, .int v91), (3, .int 2), (2, .int v48), (4, .int v48), (0, .ref h), (1, .int p0)]) S.x S.b d_Tok_mark_107 hl (by decide) rfl (fun ls hl => ?_)
              refine lv_iload S.x S.b d_Tok_mark_109 (lv_at hl 0 rfl) ?_
              refine lv_if_le (tgt := 120) S.x S.b d_Tok_mark_111 (by decide) (fun c93 => ?_) (fun c93 => ?_)
              · have nc93 : v91.toInt ≤ (0 : Int) := (i_le (x := v91) (y := 0)).mp c93
                refine lv_aload_n S.x S.b d_Tok_mark_120 rfl (lv_at hl 4 rfl) ?_
                refine lv_dup S.x S.b d_Tok_mark_121 rfl ?_
                refine px_get S k_Tok hT hw 0 0 8 (v := .int (f 8)) rfl rfl rfl (by decide) m1_111 d_Tok_mark_122 ?_
                refine lv_iload_n S.x S.b d_Tok_mark_125 rfl (lv_at hl 1 rfl) ?_
                refine lv_iadd S.x S.b d_Tok_mark_126 ?_
                have lr95 := Int32.le_toInt (f 8)
                have ur95 := Int32.toInt_lt (f 8)
                refine lv_topi (fun z96 ez96 => ?_)
                have tz96 : z96.toInt = ((f 8).toInt + (2 : Int) + 2147483648) % 4294967296 - 2147483648 := by rw [ez96]; exact i_add (f 8) 2
                have lz96 := Int32.le_toInt z96
                have uz96 := Int32.toInt_lt z96
                try replace tz96 : z96.toInt = (f 8).toInt + (2 : Int) := by omega
                refine px_put S k_Tok hT hw 0 0 8 rfl rfl (by decide) m1_111 rfl rfl rfl (Nat.le_of_ble_eq_true rfl) d_Tok_mark_127 (w' := wd_Tok cs h r (fun _ => some tp) (upd f 8 z96) a g) (ps' := [wd_Tok cs h r (fun _ => some tp) (upd f 8 z96) a g, [(tp, .inl (cs 1, 2048, .inl tb))]]) rfl rfl (fun H locs hw => ?_)
                refine lv_iload_n S.x S.b d_Tok_mark_130 rfl (lv_at hl 2 rfl) ?_
                first | exact px_iret (v := v48) S hr rfl hlk hAe hw (Nat.le_of_ble_eq_true rfl) (Nat.le_of_ble_eq_true rfl) (⟨(upd f 8 z96), a, rfl, (show TokOk (f 7) z96 (f 10) (f 11) (f 12) (f 13) (f 17) (a 4) from ⟨⟨o1, o2⟩, ⟨(oz_6c4a1e09c3 tz96 g1), (oz_26c995f1f8 g2 tz96)⟩, ⟨o5, o6⟩, ⟨o7, o8⟩, ⟨o9, o10⟩, ⟨o11, o12⟩, o13, hn4⟩), (show (f 7).toInt = (f 7).toInt from rfl), (show (f 10).toInt = (f 10).toInt from rfl), (show (f 15).toInt = (f 15).toInt from rfl), (show v48.toInt = 19 ∨ (f 8).toInt + 1 ≤ z96.toInt from by omega), (show Q5 (a 5) from hq5), (show R_t2_mark sn sb tb p0 f a (upd f 8 z96) a v48 from (Or.inl (Or.inl ⟨nc1, z3, ez3, v5, e6, Or.inr ⟨nc7, Or.inl ⟨nc9, z12, ez12, v14, e19, Or.inr ⟨nc20, v48, e49, Or.inr ⟨nc50, z77, ez77, v79, e84, Or.inr ⟨nc85, v91, e92, Or.inl ⟨nc93, z96, ez96, rfl, rfl, rfl⟩⟩⟩⟩⟩⟩⟩)))⟩) d_Tok_mark_131 | exact px_iret (v := v48) S hr rfl hlk hAe hw (Nat.le_of_ble_eq_true rfl) (Nat.le_of_ble_eq_true rfl) (⟨(upd f 8 z96), a, rfl, (show TokOk (f 7) z96 (f 10) (f 11) (f 12) (f 13) (f 17) (a 4) from ⟨⟨by first | exact o1 | omega, by first | exact o2 | omega⟩, ⟨by first | exact oz_6c4a1e09c3 tz96 g1 | omega, by first | exact oz_26c995f1f8 g2 tz96 | omega⟩, ⟨by first | exact o5 | omega, by first | exact o6 | omega⟩, ⟨by first | exact o7 | omega, by first | exact o8 | omega⟩, ⟨by first | exact o9 | omega, by first | exact o10 | omega⟩, ⟨by first | exact o11 | omega, by first | exact o12 | omega⟩, by first | exact o13 | omega, hn4⟩), (show (f 7).toInt = (f 7).toInt from rfl), (show (f 10).toInt = (f 10).toInt from rfl), (show (f 15).toInt = (f 15).toInt from rfl), (show v48.toInt = 19 ∨ (f 8).toInt + 1 ≤ z96.toInt from by omega), (show Q5 (a 5) from hq5), (show R_t2_mark sn sb tb p0 f a (upd f 8 z96) a v48 from (Or.inl (Or.inl ⟨nc1, z3, ez3, v5, e6, Or.inr ⟨nc7, Or.inl ⟨nc9, z12, ez12, v14, e19, Or.inr ⟨nc20, v48, e49, Or.inr ⟨nc50, z77, ez77, v79, e84, Or.inr ⟨nc85, v91, e92, Or.inl ⟨nc93, z96, ez96, rfl, rfl, rfl⟩⟩⟩⟩⟩⟩⟩)))⟩) d_Tok_mark_131
              · have nc93 : ¬ v91.toInt ≤ (0 : Int) := mt (i_le (x := v91) (y := 0)).mpr c93
                refine lv_iload S.x S.b d_Tok_mark_114 (lv_at hl 0 rfl) ?_
                refine lv_istore_n (lv' := [(2, .int v91), (5, .int v91), (3, .int 2), (4, .int v48), (0, .ref h), (1, .int p0)]) S.x S.b d_Tok_mark_116 rfl hl (by decide) rfl (fun ls hl => ?_)
                obtain ⟨z97, ez97⟩ : ∃ y : Int32, y = 2 + 1 := ⟨_, rfl⟩
                have tz97 : z97.toInt = ((2 : Int) + 1 + 2147483648) % 4294967296 - 2147483648 := by rw [ez97]; exact i_add 2 1
                have lz97 := Int32.le_toInt z97
                have uz97 := Int32.toInt_lt z97
                try replace tz97 : z97.toInt = (2 : Int) + 1 := by omega
                refine lv_iinc (v := z97) (lv' := [(3, .int z97), (2, .int v91), (5, .int v91), (4, .int v48), (0, .ref h), (1, .int p0)]) S.x S.b d_Tok_mark_117 hl (k := 2) rfl (by rw [ez97]; rfl) (by decide) rfl (fun ls hl => ?_)
                refine lv_aload_n S.x S.b d_Tok_mark_120 rfl (lv_at hl 4 rfl) ?_
                refine lv_dup S.x S.b d_Tok_mark_121 rfl ?_
                refine px_get S k_Tok hT hw 0 0 8 (v := .int (f 8)) rfl rfl rfl (by decide) m1_111 d_Tok_mark_122 ?_
                refine lv_iload_n S.x S.b d_Tok_mark_125 rfl (lv_at hl 0 rfl) ?_
                refine lv_iadd S.x S.b d_Tok_mark_126 ?_
                have lr98 := Int32.le_toInt (f 8)
                have ur98 := Int32.toInt_lt (f 8)
                refine lv_topi (fun z99 ez99 => ?_)
                have tz99 : z99.toInt = ((f 8).toInt + z97.toInt + 2147483648) % 4294967296 - 2147483648 := by rw [ez99]; exact i_add (f 8) z97
                have lz99 := Int32.le_toInt z99
                have uz99 := Int32.toInt_lt z99
                try replace tz99 : z99.toInt = (f 8).toInt + z97.toInt := by omega
                refine px_put S k_Tok hT hw 0 0 8 rfl rfl (by decide) m1_111 rfl rfl rfl (Nat.le_of_ble_eq_true rfl) d_Tok_mark_127 (w' := wd_Tok cs h r (fun _ => some tp) (upd f 8 z99) a g) (ps' := [wd_Tok cs h r (fun _ => some tp) (upd f 8 z99) a g, [(tp, .inl (cs 1, 2048, .inl tb))]]) rfl rfl (fun H locs hw => ?_)
                refine lv_iload_n S.x S.b d_Tok_mark_130 rfl (lv_at hl 1 rfl) ?_
                first | exact px_iret (v := v91) S hr rfl hlk hAe hw (Nat.le_of_ble_eq_true rfl) (Nat.le_of_ble_eq_true rfl) (⟨(upd f 8 z99), a, rfl, (show TokOk (f 7) z99 (f 10) (f 11) (f 12) (f 13) (f 17) (a 4) from ⟨⟨o1, o2⟩, ⟨(oz_5872ca9df2 tz99 g1 tz97), (oz_0136642c8e g2 tz99 tz97)⟩, ⟨o5, o6⟩, ⟨o7, o8⟩, ⟨o9, o10⟩, ⟨o11, o12⟩, o13, hn4⟩), (show (f 7).toInt = (f 7).toInt from rfl), (show (f 10).toInt = (f 10).toInt from rfl), (show (f 15).toInt = (f 15).toInt from rfl), (show v91.toInt = 19 ∨ (f 8).toInt + 1 ≤ z99.toInt from by omega), (show Q5 (a 5) from hq5), (show R_t2_mark sn sb tb p0 f a (upd f 8 z99) a v91 from (Or.inl (Or.inl ⟨nc1, z3, ez3, v5, e6, Or.inr ⟨nc7, Or.inl ⟨nc9, z12, ez12, v14, e19, Or.inr ⟨nc20, v48, e49, Or.inr ⟨nc50, z77, ez77, v79, e84, Or.inr ⟨nc85, v91, e92, Or.inr ⟨nc93, z97, ez97, z99, ez99, rfl, rfl, rfl⟩⟩⟩⟩⟩⟩⟩)))⟩) d_Tok_mark_131 | exact px_iret (v := v91) S hr rfl hlk hAe hw (Nat.le_of_ble_eq_true rfl) (Nat.le_of_ble_eq_true rfl) (⟨(upd f 8 z99), a, rfl, (show TokOk (f 7) z99 (f 10) (f 11) (f 12) (f 13) (f 17) (a 4) from ⟨⟨by first | exact o1 | omega, by first | exact o2 | omega⟩, ⟨by first | exact oz_5872ca9df2 tz99 g1 tz97 | omega, by first | exact oz_0136642c8e g2 tz99 tz97 | omega⟩, ⟨by first | exact o5 | omega, by first | exact o6 | omega⟩, ⟨by first | exact o7 | omega, by first | exact o8 | omega⟩, ⟨by first | exact o9 | omega, by first | exact o10 | omega⟩, ⟨by first | exact o11 | omega, by first | exact o12 | omega⟩, by first | exact o13 | omega, hn4⟩), (show (f 7).toInt = (f 7).toInt from rfl), (show (f 10).toInt = (f 10).toInt from rfl), (show (f 15).toInt = (f 15).toInt from rfl), (show v91.toInt = 19 ∨ (f 8).toInt + 1 ≤ z99.toInt from by omega), (show Q5 (a 5) from hq5), (show R_t2_mark sn sb tb p0 f a (upd f 8 z99) a v91 from (Or.inl (Or.inl ⟨nc1, z3, ez3, v5, e6, Or.inr ⟨nc7, Or.inl ⟨nc9, z12, ez12, v14, e19, Or.inr ⟨nc20, v48, e49, Or.inr ⟨nc50, z77, ez77, v79, e84, Or.inr ⟨nc85, v91, e92, Or.inr ⟨nc93, z97, ez97, z99, ez99, rfl, rfl, rfl⟩⟩⟩⟩⟩⟩⟩)))⟩) d_Tok_mark_131
      · have nc9 : p0.toInt = (47 : Int) := (i_eq (x := p0) (y := 47)).mp c9
        refine lv_aload_n S.x S.b d_Tok_mark_32 rfl (lv_at hl 2 rfl) ?_
        refine lv_aload_n S.x S.b d_Tok_mark_33 rfl (lv_at hl 2 rfl) ?_
        refine px_get S k_Tok hT hw 0 0 8 (v := .int (f 8)) rfl rfl rfl (by decide) m1_111 d_Tok_mark_34 ?_
        refine lv_iconst (v := 1) S.x S.b d_Tok_mark_37 (by decide) ?_
        refine lv_iadd S.x S.b d_Tok_mark_38 ?_
        have lr100 := Int32.le_toInt (f 8)
        have ur100 := Int32.toInt_lt (f 8)
        refine lv_topi (fun z101 ez101 => ?_)
        have tz101 : z101.toInt = ((f 8).toInt + (1 : Int) + 2147483648) % 4294967296 - 2147483648 := by rw [ez101]; exact i_add (f 8) 1
        have lz101 := Int32.le_toInt z101
        have uz101 := Int32.toInt_lt z101
        try replace tz101 : z101.toInt = (f 8).toInt + (1 : Int) := by omega
        first | refine px_calli (pr := []) (px_runV (As := [.int z101]) (rest := []) S (c_t2_byteAt l D cs h r tp tb g f a z101  (show TokOk (f 7) (f 8) (f 10) (f 11) (f 12) (f 13) (f 17) (a 4) from ⟨⟨o1, o2⟩, ⟨g1, o4⟩, ⟨o5, o6⟩, ⟨o7, o8⟩, ⟨o9, o10⟩, ⟨o11, o12⟩, o13, hn4⟩) _) hT (pr := []) (pcs := [wd_Tok cs h r (fun _ => some tp) f a g, [(tp, .inl (cs 1, 2048, .inl tb))]]) hw px_X.tt (px_recv hT hw 0 0 rfl rfl rfl) m3_186 m3_183 m3_185 ms_1_6 m1_2 q_Tok_byteAt ⟨Nat.le_of_ble_eq_true rfl, Nat.le_of_ble_eq_true rfl⟩ hl.1 rfl (Nat.le_of_ble_eq_true rfl) d_Tok_mark_39 ⟨Nat.le_of_ble_eq_true rfl, Nat.le_of_ble_eq_true rfl⟩) hw hA (fun v103 p102 H locs hp102 hw => ?_) | refine px_calli (pr := []) (px_runV (As := [.int z101]) (rest := []) S (c_t2_byteAt l D cs h r tp tb g f a z101  (show TokOk (f 7) (f 8) (f 10) (f 11) (f 12) (f 13) (f 17) (a 4) from ⟨⟨by first | exact o1 | omega, by first | exact o2 | omega⟩, ⟨by first | exact g1 | omega, by first | exact o4 | omega⟩, ⟨by first | exact o5 | omega, by first | exact o6 | omega⟩, ⟨by first | exact o7 | omega, by first | exact o8 | omega⟩, ⟨by first | exact o9 | omega, by first | exact o10 | omega⟩, ⟨by first | exact o11 | omega, by first | exact o12 | omega⟩, by first | exact o13 | omega, hn4⟩) _) hT (pr := []) (pcs := [wd_Tok cs h r (fun _ => some tp) f a g, [(tp, .inl (cs 1, 2048, .inl tb))]]) hw px_X.tt (px_recv hT hw 0 0 rfl rfl rfl) m3_186 m3_183 m3_185 ms_1_6 m1_2 q_Tok_byteAt ⟨Nat.le_of_ble_eq_true rfl, Nat.le_of_ble_eq_true rfl⟩ hl.1 rfl (Nat.le_of_ble_eq_true rfl) d_Tok_mark_39 ⟨Nat.le_of_ble_eq_true rfl, Nat.le_of_ble_eq_true rfl⟩) hw hA (fun v103 p102 H locs hp102 hw => ?_)
        obtain ⟨rfl, e104, e105, e106, e107, e108⟩ := hp102
        have e104 : -1 ≤ v103.toInt := e104
        have e105 : v103.toInt ≤ 255 := e105
        have e106 : 0 ≤ v103.toInt → 0 ≤ z101.toInt ∧ z101.toInt < (f 7).toInt := e106
        have e107 : By tb (f 7) z101 v103 := e107
        have e108 : R_t2_byteAt tb f z101 v103 := e108
        have lv103 := Int32.le_toInt v103
        have uv103 := Int32.toInt_lt v103
        refine lv_bipush (v := 42) S.x S.b d_Tok_mark_42 (by decide) ?_
        refine lv_icmp_ne (tgt := 50) S.x S.b d_Tok_mark_44 (by decide) (fun c109 => ?_) (fun c109 => ?_)
        · have nc109 : ¬ v103.toInt = (42 : Int) := mt (i_eq (x := v103) (y := 42)).mpr c109
          refine lv_aload_n S.x S.b d_Tok_mark_50 rfl (lv_at hl 2 rfl) ?_
          refine lv_aload_n S.x S.b d_Tok_mark_51 rfl (lv_at hl 2 rfl) ?_
          refine px_get S k_Tok hT hw 0 0 8 (v := .int (f 8)) rfl rfl rfl (by decide) m1_111 d_Tok_mark_52 ?_
          refine lv_iconst (v := 1) S.x S.b d_Tok_mark_55 (by decide) ?_
          refine lv_iadd S.x S.b d_Tok_mark_56 ?_
          have lr111 := Int32.le_toInt (f 8)
          have ur111 := Int32.toInt_lt (f 8)
          refine lv_topi (fun z112 ez112 => ?_)
          have tz112 : z112.toInt = ((f 8).toInt + (1 : Int) + 2147483648) % 4294967296 - 2147483648 := by rw [ez112]; exact i_add (f 8) 1
          have lz112 := Int32.le_toInt z112
          have uz112 := Int32.toInt_lt z112
          try replace tz112 : z112.toInt = (f 8).toInt + (1 : Int) := by omega
          first | refine px_calli (pr := []) (px_runV (As := [.int z112]) (rest := []) S (c_t2_byteAt l D cs h r tp tb g f a z112  (show TokOk (f 7) (f 8) (f 10) (f 11) (f 12) (f 13) (f 17) (a 4) from ⟨⟨o1, o2⟩, ⟨g1, o4⟩, ⟨o5, o6⟩, ⟨o7, o8⟩, ⟨o9, o10⟩, ⟨o11, o12⟩, o13, hn4⟩) _) hT (pr := []) (pcs := [wd_Tok cs h r (fun _ => some tp) f a g, [(tp, .inl (cs 1, 2048, .inl tb))]]) hw px_X.tt (px_recv hT hw 0 0 rfl rfl rfl) m3_186 m3_183 m3_185 ms_1_6 m1_2 q_Tok_byteAt ⟨Nat.le_of_ble_eq_true rfl, Nat.le_of_ble_eq_true rfl⟩ hl.1 rfl (Nat.le_of_ble_eq_true rfl) d_Tok_mark_57 ⟨Nat.le_of_ble_eq_true rfl, Nat.le_of_ble_eq_true rfl⟩) hw hA (fun v114 p113 H locs hp113 hw => ?_) | refine px_calli (pr := []) (px_runV (As := [.int z112]) (rest := []) S (c_t2_byteAt l D cs h r tp tb g f a z112  (show TokOk (f 7) (f 8) (f 10) (f 11) (f 12) (f 13) (f 17) (a 4) from ⟨⟨by first | exact o1 | omega, by first | exact o2 | omega⟩, ⟨by first | exact g1 | omega, by first | exact o4 | omega⟩, ⟨by first | exact o5 | omega, by first | exact o6 | omega⟩, ⟨by first | exact o7 | omega, by first | exact o8 | omega⟩, ⟨by first | exact o9 | omega, by first | exact o10 | omega⟩, ⟨by first | exact o11 | omega, by first | exact o12 | omega⟩, by first | exact o13 | omega, hn4⟩) _) hT (pr := []) (pcs := [wd_Tok cs h r (fun _ => some tp) f a g, [(tp, .inl (cs 1, 2048, .inl tb))]]) hw px_X.tt (px_recv hT hw 0 0 rfl rfl rfl) m3_186 m3_183 m3_185 ms_1_6 m1_2 q_Tok_byteAt ⟨Nat.le_of_ble_eq_true rfl, Nat.le_of_ble_eq_true rfl⟩ hl.1 rfl (Nat.le_of_ble_eq_true rfl) d_Tok_mark_57 ⟨Nat.le_of_ble_eq_true rfl, Nat.le_of_ble_eq_true rfl⟩) hw hA (fun v114 p113 H locs hp113 hw => ?_)
          obtain ⟨rfl, e115, e116, e117, e118, e119⟩ := hp113
          have e115 : -1 ≤ v114.toInt := e115
          have e116 : v114.toInt ≤ 255 := e116
          have e117 : 0 ≤ v114.toInt → 0 ≤ z112.toInt ∧ z112.toInt < (f 7).toInt := e117
          have e118 : By tb (f 7) z112 v114 := e118
          have e119 : R_t2_byteAt tb f z112 v114 := e119
          have lv114 := Int32.le_toInt v114
          have uv114 := Int32.toInt_lt v114
          refine lv_iload_n S.x S.b d_Tok_mark_60 rfl (lv_at hl 3 rfl) ?_
          refine lv_icmp_ne (tgt := 71) S.x S.b d_Tok_mark_61 (by decide) (fun c120 => ?_) (fun c120 => ?_)
          · have nc120 : ¬ v114.toInt = p0.toInt := mt (i_eq (x := v114) (y := p0)).mpr c120
            refine lv_iconst (v := 0) S.x S.b d_Tok_mark_71 (by decide) ?_
            refine lv_istore (lv' := [(4, .int 0), (3, .int 1), (2, .int p0), (0, .ref h), (1, .int p0)]) S.x S.b d_Tok_mark_72 hl (by decide) rfl (fun ls hl => ?_)
            refine lv_iload S.x S.b d_Tok_mark_74 (lv_at hl 0 rfl) ?_
            refine lv_if_le (tgt := 84) S.x S.b d_Tok_mark_76 (by decide) (fun c122 => ?_) (fun c122 => ?_)
            ·
              refine lv_aload_n S.x S.b d_Tok_mark_84 rfl (lv_at hl 3 rfl) ?_
              refine lv_aload_n S.x S.b d_Tok_mark_85 rfl (lv_at hl 3 rfl) ?_
              refine px_get S k_Tok hT hw 0 0 8 (v := .int (f 8)) rfl rfl rfl (by decide) m1_111 d_Tok_mark_86 ?_
              refine lv_iload_n S.x S.b d_Tok_mark_89 rfl (lv_at hl 1 rfl) ?_
              refine lv_iadd S.x S.b d_Tok_mark_90 ?_
              have lr123 := Int32.le_toInt (f 8)
              have ur123 := Int32.toInt_lt (f 8)
              refine lv_topi (fun z124 ez124 => ?_)
              have tz124 : z124.toInt = ((f 8).toInt + (1 : Int) + 2147483648) % 4294967296 - 2147483648 := by rw [ez124]; exact i_add (f 8) 1
              have lz124 := Int32.le_toInt z124
              have uz124 := Int32.toInt_lt z124
              try replace tz124 : z124.toInt = (f 8).toInt + (1 : Int) := by omega
              first | refine px_calli (pr := []) (px_runV (As := [.int z124]) (rest := []) S (c_t2_byteAt l D cs h r tp tb g f a z124  (show TokOk (f 7) (f 8) (f 10) (f 11) (f 12) (f 13) (f 17) (a 4) from ⟨⟨o1, o2⟩, ⟨g1, o4⟩, ⟨o5, o6⟩, ⟨o7, o8⟩, ⟨o9, o10⟩, ⟨o11, o12⟩, o13, hn4⟩) _) hT (pr := []) (pcs := [wd_Tok cs h r (fun _ => some tp) f a g, [(tp, .inl (cs 1, 2048, .inl tb))]]) hw px_X.tt (px_recv hT hw 0 0 rfl rfl rfl) m3_186 m3_183 m3_185 ms_1_6 m1_2 q_Tok_byteAt ⟨Nat.le_of_ble_eq_true rfl, Nat.le_of_ble_eq_true rfl⟩ hl.1 rfl (Nat.le_of_ble_eq_true rfl) d_Tok_mark_91 ⟨Nat.le_of_ble_eq_true rfl, Nat.le_of_ble_eq_true rfl⟩) hw hA (fun v126 p125 H locs hp125 hw => ?_) | refine px_calli (pr := []) (px_runV (As := [.int z124]) (rest := []) S (c_t2_byteAt l D cs h r tp tb g f a z124  (show TokOk (f 7) (f 8) (f 10) (f 11) (f 12) (f 13) (f 17) (a 4) from ⟨⟨by first | exact o1 | omega, by first | exact o2 | omega⟩, ⟨by first | exact g1 | omega, by first | exact o4 | omega⟩, ⟨by first | exact o5 | omega, by first | exact o6 | omega⟩, ⟨by first | exact o7 | omega, by first | exact o8 | omega⟩, ⟨by first | exact o9 | omega, by first | exact o10 | omega⟩, ⟨by first | exact o11 | omega, by first | exact o12 | omega⟩, by first | exact o13 | omega, hn4⟩) _) hT (pr := []) (pcs := [wd_Tok cs h r (fun _ => some tp) f a g, [(tp, .inl (cs 1, 2048, .inl tb))]]) hw px_X.tt (px_recv hT hw 0 0 rfl rfl rfl) m3_186 m3_183 m3_185 ms_1_6 m1_2 q_Tok_byteAt ⟨Nat.le_of_ble_eq_true rfl, Nat.le_of_ble_eq_true rfl⟩ hl.1 rfl (Nat.le_of_ble_eq_true rfl) d_Tok_mark_91 ⟨Nat.le_of_ble_eq_true rfl, Nat.le_of_ble_eq_true rfl⟩) hw hA (fun v126 p125 H locs hp125 hw => ?_)
              obtain ⟨rfl, e127, e128, e129, e130, e131⟩ := hp125
              have e127 : -1 ≤ v126.toInt := e127
              have e128 : v126.toInt ≤ 255 := e128
              have e129 : 0 ≤ v126.toInt → 0 ≤ z124.toInt ∧ z124.toInt < (f 7).toInt := e129
              have e130 : By tb (f 7) z124 v126 := e130
              have e131 : R_t2_byteAt tb f z124 v126 := e131
              have lv126 := Int32.le_toInt v126
              have uv126 := Int32.toInt_lt v126
              refine lv_bipush (v := 61) S.x S.b d_Tok_mark_94 (by decide) ?_
              refine lv_icmp_ne (tgt := 106) S.x S.b d_Tok_mark_96 (by decide) (fun c132 => ?_) (fun c132 => ?_)
              · have nc132 : ¬ v126.toInt = (61 : Int) := mt (i_eq (x := v126) (y := 61)).mpr c132
                refine lv_iconst (v := 0) S.x S.b d_Tok_mark_106 (by decide) ?_
                refine lv_istore (lv' := [(5, .int 0), (4, .int 0), (3, .int 1), (2, .int p0), (0, .ref h), (1, .int p0)]) S.x S.b d_Tok_mark_107 hl (by decide) rfl (fun ls hl => ?_)
                refine lv_iload S.x S.b d_Tok_mark_109 (lv_at hl 0 rfl) ?_
                refine lv_if_le (tgt := 120) S.x S.b d_Tok_mark_111 (by decide) (fun c134 => ?_) (fun c134 => ?_)
                ·
                  refine lv_aload_n S.x S.b d_Tok_mark_120 rfl (lv_at hl 4 rfl) ?_
                  refine lv_dup S.x S.b d_Tok_mark_121 rfl ?_
                  refine px_get S k_Tok hT hw 0 0 8 (v := .int (f 8)) rfl rfl rfl (by decide) m1_111 d_Tok_mark_122 ?_
                  refine lv_iload_n S.x S.b d_Tok_mark_125 rfl (lv_at hl 2 rfl) ?_
                  refine lv_iadd S.x S.b d_Tok_mark_126 ?_
                  have lr135 := Int32.le_toInt (f 8)
                  have ur135 := Int32.toInt_lt (f 8)
                  refine lv_topi (fun z136 ez136 => ?_)
                  have tz136 : z136.toInt = ((f 8).toInt + (1 : Int) + 2147483648) % 4294967296 - 2147483648 := by rw [ez136]; exact i_add (f 8) 1
                  have lz136 := Int32.le_toInt z136
                  have uz136 := Int32.toInt_lt z136
                  try replace tz136 : z136.toInt = (f 8).toInt + (1 : Int) := by omega
                  refine px_put S k_Tok hT hw 0 0 8 rfl rfl (by decide) m1_111 rfl rfl rfl (Nat.le_of_ble_eq_true rfl) d_Tok_mark_127 (w' := wd_Tok cs h r (fun _ => some tp) (upd f 8 z136) a g) (ps' := [wd_Tok cs h r (fun _ => some tp) (upd f 8 z136) a g, [(tp, .inl (cs 1, 2048, .inl tb))]]) rfl rfl (fun H locs hw => ?_)
                  refine lv_iload_n S.x S.b d_Tok_mark_130 rfl (lv_at hl 3 rfl) ?_
                  first | exact px_iret (v := p0) S hr rfl hlk hAe hw (Nat.le_of_ble_eq_true rfl) (Nat.le_of_ble_eq_true rfl) (⟨(upd f 8 z136), a, rfl, (show TokOk (f 7) z136 (f 10) (f 11) (f 12) (f 13) (f 17) (a 4) from ⟨⟨o1, o2⟩, ⟨(oz_b3b25f0e49 tz136 g1), (oz_8964937ede g2 tz136)⟩, ⟨o5, o6⟩, ⟨o7, o8⟩, ⟨o9, o10⟩, ⟨o11, o12⟩, o13, hn4⟩), (show (f 7).toInt = (f 7).toInt from rfl), (show (f 10).toInt = (f 10).toInt from rfl), (show (f 15).toInt = (f 15).toInt from rfl), (show p0.toInt = 19 ∨ (f 8).toInt + 1 ≤ z136.toInt from by omega), (show Q5 (a 5) from hq5), (show R_t2_mark sn sb tb p0 f a (upd f 8 z136) a p0 from (Or.inl (Or.inl ⟨nc1, z3, ez3, v5, e6, Or.inr ⟨nc7, Or.inr ⟨nc9, z101, ez101, v103, e108, Or.inl ⟨nc109, z112, ez112, v114, e119, Or.inl ⟨nc120, z124, ez124, v126, e131, Or.inl ⟨nc132, z136, ez136, rfl, rfl, rfl⟩⟩⟩⟩⟩⟩)))⟩) d_Tok_mark_131 | exact px_iret (v := p0) S hr rfl hlk hAe hw (Nat.le_of_ble_eq_true rfl) (Nat.le_of_ble_eq_true rfl) (⟨(upd f 8 z136), a, rfl, (show TokOk (f 7) z136 (f 10) (f 11) (f 12) (f 13) (f 17) (a 4) from ⟨⟨by first | exact o1 | omega, by first | exact o2 | omega⟩, ⟨by first | exact oz_b3b25f0e49 tz136 g1 | omega, by first | exact oz_8964937ede g2 tz136 | omega⟩, ⟨by first | exact o5 | omega, by first | exact o6 | omega⟩, ⟨by first | exact o7 | omega, by first | exact o8 | omega⟩, ⟨by first | exact o9 | omega, by first | exact o10 | omega⟩, ⟨by first | exact o11 | omega, by first | exact o12 | omega⟩, by first | exact o13 | omega, hn4⟩), (show (f 7).toInt = (f 7).toInt from rfl), (show (f 10).toInt = (f 10).toInt from rfl), (show (f 15).toInt = (f 15).toInt from rfl), (show p0.toInt = 19 ∨ (f 8).toInt + 1 ≤ z136.toInt from by omega), (show Q5 (a 5) from hq5), (show R_t2_mark sn sb tb p0 f a (upd f 8 z136) a p0 from (Or.inl (Or.inl ⟨nc1, z3, ez3, v5, e6, Or.inr ⟨nc7, Or.inr ⟨nc9, z101, ez101, v103, e108, Or.inl ⟨nc109, z112, ez112, v114, e119, Or.inl ⟨nc120, z124, ez124, v126, e131, Or.inl ⟨nc132, z136, ez136, rfl, rfl, rfl⟩⟩⟩⟩⟩⟩)))⟩) d_Tok_mark_131
                · exact absurd c134 (by decide)
              · have nc132 : v126.toInt = (61 : Int) := (i_eq (x := v126) (y := 61)).mp c132
                refine lv_iload_n S.x S.b d_Tok_mark_99 rfl (lv_at hl 2 rfl) ?_
                refine px_calli (pr := [wd_Tok cs h r (fun _ => some tp) f a g, [(tp, .inl (cs 1, 2048, .inl tb))]]) (px_runS (As := [.int p0]) (rest := []) S (c_t2_withEquals l D cs  p0   _) hT (pr := [wd_Tok cs h r (fun _ => some tp) f a g, [(tp, .inl (cs 1, 2048, .inl tb))]]) (pcs := []) hw px_X.tt m4_67 m4_65 m4_66 m1_2 q_Tok_withEquals ⟨Nat.le_of_ble_eq_true rfl, Nat.le_of_ble_eq_true rfl⟩ hl.1 rfl (Nat.le_of_ble_eq_true rfl) d_Tok_mark_100 ⟨Nat.le_of_ble_eq_true rfl, Nat.le_of_ble_eq_true rfl⟩) hw hA (fun v138 p137 H locs hp137 hw => ?_)
                obtain ⟨rfl, e139⟩ := hp137
                have e139 : R_t2_withEquals p0 v138 := e139
                have lv138 := Int32.le_toInt v138
                have uv138 := Int32.toInt_lt v138
                refine lv_goto (tgt := 107) S.x S.b d_Tok_mark_103 (by decide) ?_
                refine lv_istore (lv' := [(5, .int v138), (4, .int 0), (3, .int 1), (2, .int p0), (0, .ref h), (1, .int p0)]) S.x S.b d_Tok_mark_107 hl (by decide) rfl (fun ls hl => ?_)
                refine lv_iload S.x S.b d_Tok_mark_109 (lv_at hl 0 rfl) ?_
                refine lv_if_le (tgt := 120) S.x S.b d_Tok_mark_111 (by decide) (fun c140 => ?_) (fun c140 => ?_)
                · have nc140 : v138.toInt ≤ (0 : Int) := (i_le (x := v138) (y := 0)).mp c140
                  refine lv_aload_n S.x S.b d_Tok_mark_120 rfl (lv_at hl 4 rfl) ?_
                  refine lv_dup S.x S.b d_Tok_mark_121 rfl ?_
                  refine px_get S k_Tok hT hw 0 0 8 (v := .int (f 8)) rfl rfl rfl (by decide) m1_111 d_Tok_mark_122 ?_
                  refine lv_iload_n S.x S.b d_Tok_mark_125 rfl (lv_at hl 2 rfl) ?_
                  refine lv_iadd S.x S.b d_Tok_mark_126 ?_
                  have lr142 := Int32.le_toInt (f 8)
                  have ur142 := Int32.toInt_lt (f 8)
                  refine lv_topi (fun z143 ez143 => ?_)
                  have tz143 : z143.toInt = ((f 8).toInt + (1 : Int) + 2147483648) % 4294967296 - 2147483648 := by rw [ez143]; exact i_add (f 8) 1
                  have lz143 := Int32.le_toInt z143
                  have uz143 := Int32.toInt_lt z143
                  try replace tz143 : z143.toInt = (f 8).toInt + (1 : Int) := by omega
                  refine px_put S k_Tok hT hw 0 0 8 rfl rfl (by decide) m1_111 rfl rfl rfl (Nat.le_of_ble_eq_true rfl) d_Tok_mark_127 (w' := wd_Tok cs h r (fun _ => some tp) (upd f 8 z143) a g) (ps' := [wd_Tok cs h r (fun _ => some tp) (upd f 8 z143) a g, [(tp, .inl (cs 1, 2048, .inl tb))]]) rfl rfl (fun H locs hw => ?_)
                  refine lv_iload_n S.x S.b d_Tok_mark_130 rfl (lv_at hl 3 rfl) ?_
                  first | exact px_iret (v := p0) S hr rfl hlk hAe hw (Nat.le_of_ble_eq_true rfl) (Nat.le_of_ble_eq_true rfl) (⟨(upd f 8 z143), a, rfl, (show TokOk (f 7) z143 (f 10) (f 11) (f 12) (f 13) (f 17) (a 4) from ⟨⟨o1, o2⟩, ⟨(oz_b3b25f0e49 tz143 g1), (oz_8964937ede g2 tz143)⟩, ⟨o5, o6⟩, ⟨o7, o8⟩, ⟨o9, o10⟩, ⟨o11, o12⟩, o13, hn4⟩), (show (f 7).toInt = (f 7).toInt from rfl), (show (f 10).toInt = (f 10).toInt from rfl), (show (f 15).toInt = (f 15).toInt from rfl), (show p0.toInt = 19 ∨ (f 8).toInt + 1 ≤ z143.toInt from by omega), (show Q5 (a 5) from hq5), (show R_t2_mark sn sb tb p0 f a (upd f 8 z143) a p0 from (Or.inl (Or.inl ⟨nc1, z3, ez3, v5, e6, Or.inr ⟨nc7, Or.inr ⟨nc9, z101, ez101, v103, e108, Or.inl ⟨nc109, z112, ez112, v114, e119, Or.inl ⟨nc120, z124, ez124, v126, e131, Or.inr ⟨nc132, v138, e139, Or.inl ⟨nc140, z143, ez143, rfl, rfl, rfl⟩⟩⟩⟩⟩⟩⟩)))⟩) d_Tok_mark_131 | exact px_iret (v := p0) S hr rfl hlk hAe hw (Nat.le_of_ble_eq_true rfl) (Nat.le_of_ble_eq_true rfl) (⟨(upd f 8 z143), a, rfl, (show TokOk (f 7) z143 (f 10) (f 11) (f 12) (f 13) (f 17) (a 4) from ⟨⟨by first | exact o1 | omega, by first | exact o2 | omega⟩, ⟨by first | exact oz_b3b25f0e49 tz143 g1 | omega, by first | exact oz_8964937ede g2 tz143 | omega⟩, ⟨by first | exact o5 | omega, by first | exact o6 | omega⟩, ⟨by first | exact o7 | omega, by first | exact o8 | omega⟩, ⟨by first | exact o9 | omega, by first | exact o10 | omega⟩, ⟨by first | exact o11 | omega, by first | exact o12 | omega⟩, by first | exact o13 | omega, hn4⟩), (show (f 7).toInt = (f 7).toInt from rfl), (show (f 10).toInt = (f 10).toInt from rfl), (show (f 15).toInt = (f 15).toInt from rfl), (show p0.toInt = 19 ∨ (f 8).toInt + 1 ≤ z143.toInt from by omega), (show Q5 (a 5) from hq5), (show R_t2_mark sn sb tb p0 f a (upd f 8 z143) a p0 from (Or.inl (Or.inl ⟨nc1, z3, ez3, v5, e6, Or.inr ⟨nc7, Or.inr ⟨nc9, z101, ez101, v103, e108, Or.inl ⟨nc109, z112, ez112, v114, e119, Or.inl ⟨nc120, z124, ez124, v126, e131, Or.inr ⟨nc132, v138, e139, Or.inl ⟨nc140, z143, ez143, rfl, rfl, rfl⟩⟩⟩⟩⟩⟩⟩)))⟩) d_Tok_mark_131
                · have nc140 : ¬ v138.toInt ≤ (0 : Int) := mt (i_le (x := v138) (y := 0)).mpr c140
                  refine lv_iload S.x S.b d_Tok_mark_114 (lv_at hl 0 rfl) ?_
                  refine lv_istore_n (lv' := [(2, .int v138), (5, .int v138), (4, .int 0), (3, .int 1), (0, .ref h), (1, .int p0)]) S.x S.b d_Tok_mark_116 rfl hl (by decide) rfl (fun ls hl => ?_)
                  obtain ⟨z144, ez144⟩ : ∃ y : Int32, y = 1 + 1 := ⟨_, rfl⟩
                  have tz144 : z144.toInt = ((1 : Int) + 1 + 2147483648) % 4294967296 - 2147483648 := by rw [ez144]; exact i_add 1 1
                  have lz144 := Int32.le_toInt z144
                  have uz144 := Int32.toInt_lt z144
                  try replace tz144 : z144.toInt = (1 : Int) + 1 := by omega
                  refine lv_iinc (v := z144) (lv' := [(3, .int z144), (2, .int v138), (5, .int v138), (4, .int 0), (0, .ref h), (1, .int p0)]) S.x S.b d_Tok_mark_117 hl (k := 3) rfl (by rw [ez144]; rfl) (by decide) rfl (fun ls hl => ?_)
                  refine lv_aload_n S.x S.b d_Tok_mark_120 rfl (lv_at hl 4 rfl) ?_
                  refine lv_dup S.x S.b d_Tok_mark_121 rfl ?_
                  refine px_get S k_Tok hT hw 0 0 8 (v := .int (f 8)) rfl rfl rfl (by decide) m1_111 d_Tok_mark_122 ?_
                  refine lv_iload_n S.x S.b d_Tok_mark_125 rfl (lv_at hl 0 rfl) ?_
                  refine lv_iadd S.x S.b d_Tok_mark_126 ?_
                  have lr145 := Int32.le_toInt (f 8)
                  have ur145 := Int32.toInt_lt (f 8)
                  refine lv_topi (fun z146 ez146 => ?_)
                  have tz146 : z146.toInt = ((f 8).toInt + z144.toInt + 2147483648) % 4294967296 - 2147483648 := by rw [ez146]; exact i_add (f 8) z144
                  have lz146 := Int32.le_toInt z146
                  have uz146 := Int32.toInt_lt z146
                  try replace tz146 : z146.toInt = (f 8).toInt + z144.toInt := by omega
                  refine px_put S k_Tok hT hw 0 0 8 rfl rfl (by decide) m1_111 rfl rfl rfl (Nat.le_of_ble_eq_true rfl) d_Tok_mark_127 (w' := wd_Tok cs h r (fun _ => some tp) (upd f 8 z146) a g) (ps' := [wd_Tok cs h r (fun _ => some tp) (upd f 8 z146) a g, [(tp, .inl (cs 1, 2048, .inl tb))]]) rfl rfl (fun H locs hw => ?_)
                  refine lv_iload_n S.x S.b d_Tok_mark_130 rfl (lv_at hl 1 rfl) ?_
                  first | exact px_iret (v := v138) S hr rfl hlk hAe hw (Nat.le_of_ble_eq_true rfl) (Nat.le_of_ble_eq_true rfl) (⟨(upd f 8 z146), a, rfl, (show TokOk (f 7) z146 (f 10) (f 11) (f 12) (f 13) (f 17) (a 4) from ⟨⟨o1, o2⟩, ⟨(oz_0aba5895db tz146 g1 tz144), (oz_034949d2cd g2 tz146 tz144)⟩, ⟨o5, o6⟩, ⟨o7, o8⟩, ⟨o9, o10⟩, ⟨o11, o12⟩, o13, hn4⟩), (show (f 7).toInt = (f 7).toInt from rfl), (show (f 10).toInt = (f 10).toInt from rfl), (show (f 15).toInt = (f 15).toInt from rfl), (show v138.toInt = 19 ∨ (f 8).toInt + 1 ≤ z146.toInt from by omega), (show Q5 (a 5) from hq5), (show R_t2_mark sn sb tb p0 f a (upd f 8 z146) a v138 from (Or.inl (Or.inl ⟨nc1, z3, ez3, v5, e6, Or.inr ⟨nc7, Or.inr ⟨nc9, z101, ez101, v103, e108, Or.inl ⟨nc109, z112, ez112, v114, e119, Or.inl ⟨nc120, z124, ez124, v126, e131, Or.inr ⟨nc132, v138, e139, Or.inr ⟨nc140, z144, ez144, z146, ez146, rfl, rfl, rfl⟩⟩⟩⟩⟩⟩⟩)))⟩) d_Tok_mark_131 | exact px_iret (v := v138) S hr rfl hlk hAe hw (Nat.le_of_ble_eq_true rfl) (Nat.le_of_ble_eq_true rfl) (⟨(upd f 8 z146), a, rfl, (show TokOk (f 7) z146 (f 10) (f 11) (f 12) (f 13) (f 17) (a 4) from ⟨⟨by first | exact o1 | omega, by first | exact o2 | omega⟩, ⟨by first | exact oz_0aba5895db tz146 g1 tz144 | omega, by first | exact oz_034949d2cd g2 tz146 tz144 | omega⟩, ⟨by first | exact o5 | omega, by first | exact o6 | omega⟩, ⟨by first | exact o7 | omega, by first | exact o8 | omega⟩, ⟨by first | exact o9 | omega, by first | exact o10 | omega⟩, ⟨by first | exact o11 | omega, by first | exact o12 | omega⟩, by first | exact o13 | omega, hn4⟩), (show (f 7).toInt = (f 7).toInt from rfl), (show (f 10).toInt = (f 10).toInt from rfl), (show (f 15).toInt = (f 15).toInt from rfl), (show v138.toInt = 19 ∨ (f 8).toInt + 1 ≤ z146.toInt from by omega), (show Q5 (a 5) from hq5), (show R_t2_mark sn sb tb p0 f a (upd f 8 z146) a v138 from (Or.inl (Or.inl ⟨nc1, z3, ez3, v5, e6, Or.inr ⟨nc7, Or.inr ⟨nc9, z101, ez101, v103, e108, Or.inl ⟨nc109, z112, ez112, v114, e119, Or.inl ⟨nc120, z124, ez124, v126, e131, Or.inr ⟨nc132, v138, e139, Or.inr ⟨nc140, z144, ez144, z146, ez146, rfl, rfl, rfl⟩⟩⟩⟩⟩⟩⟩)))⟩) d_Tok_mark_131
            · exact absurd c122 (by decide)
          · have nc120 : v114.toInt = p0.toInt := (i_eq (x := v114) (y := p0)).mp c120
            refine lv_iload_n S.x S.b d_Tok_mark_64 rfl (lv_at hl 3 rfl) ?_
            refine px_calli (pr := [wd_Tok cs h r (fun _ => some tp) f a g, [(tp, .inl (cs 1, 2048, .inl tb))]]) (px_runS (As := [.int p0]) (rest := []) S (c_t2_doubled l D cs  p0   _) hT (pr := [wd_Tok cs h r (fun _ => some tp) f a g, [(tp, .inl (cs 1, 2048, .inl tb))]]) (pcs := []) hw px_X.tt m4_64 m4_62 m4_63 m1_2 q_Tok_doubled ⟨Nat.le_of_ble_eq_true rfl, Nat.le_of_ble_eq_true rfl⟩ hl.1 rfl (Nat.le_of_ble_eq_true rfl) d_Tok_mark_65 ⟨Nat.le_of_ble_eq_true rfl, Nat.le_of_ble_eq_true rfl⟩) hw hA (fun v148 p147 H locs hp147 hw => ?_)
            obtain ⟨rfl, e149⟩ := hp147
            have e149 : R_t2_doubled p0 v148 := e149
            have lv148 := Int32.le_toInt v148
            have uv148 := Int32.toInt_lt v148
            refine lv_goto (tgt := 72) S.x S.b d_Tok_mark_68 (by decide) ?_
            refine lv_istore (lv' := [(4, .int v148), (3, .int 1), (2, .int p0), (0, .ref h), (1, .int p0)]) S.x S.b d_Tok_mark_72 hl (by decide) rfl (fun ls hl => ?_)
            refine lv_iload S.x S.b d_Tok_mark_74 (lv_at hl 0 rfl) ?_
            refine lv_if_le (tgt := 84) S.x S.b d_Tok_mark_76 (by decide) (fun c150 => ?_) (fun c150 => ?_)
            · have nc150 : v148.toInt ≤ (0 : Int) := (i_le (x := v148) (y := 0)).mp c150
              refine lv_aload_n S.x S.b d_Tok_mark_84 rfl (lv_at hl 3 rfl) ?_
              refine lv_aload_n S.x S.b d_Tok_mark_85 rfl (lv_at hl 3 rfl) ?_
              refine px_get S k_Tok hT hw 0 0 8 (v := .int (f 8)) rfl rfl rfl (by decide) m1_111 d_Tok_mark_86 ?_
              refine lv_iload_n S.x S.b d_Tok_mark_89 rfl (lv_at hl 1 rfl) ?_
              refine lv_iadd S.x S.b d_Tok_mark_90 ?_
              have lr152 := Int32.le_toInt (f 8)
              have ur152 := Int32.toInt_lt (f 8)
              refine lv_topi (fun z153 ez153 => ?_)
              have tz153 : z153.toInt = ((f 8).toInt + (1 : Int) + 2147483648) % 4294967296 - 2147483648 := by rw [ez153]; exact i_add (f 8) 1
              have lz153 := Int32.le_toInt z153
              have uz153 := Int32.toInt_lt z153
              try replace tz153 : z153.toInt = (f 8).toInt + (1 : Int) := by omega
              first | refine px_calli (pr := []) (px_runV (As := [.int z153]) (rest := []) S (c_t2_byteAt l D cs h r tp tb g f a z153  (show TokOk (f 7) (f 8) (f 10) (f 11) (f 12) (f 13) (f 17) (a 4) from ⟨⟨o1, o2⟩, ⟨g1, o4⟩, ⟨o5, o6⟩, ⟨o7, o8⟩, ⟨o9, o10⟩, ⟨o11, o12⟩, o13, hn4⟩) _) hT (pr := []) (pcs := [wd_Tok cs h r (fun _ => some tp) f a g, [(tp, .inl (cs 1, 2048, .inl tb))]]) hw px_X.tt (px_recv hT hw 0 0 rfl rfl rfl) m3_186 m3_183 m3_185 ms_1_6 m1_2 q_Tok_byteAt ⟨Nat.le_of_ble_eq_true rfl, Nat.le_of_ble_eq_true rfl⟩ hl.1 rfl (Nat.le_of_ble_eq_true rfl) d_Tok_mark_91 ⟨Nat.le_of_ble_eq_true rfl, Nat.le_of_ble_eq_true rfl⟩) hw hA (fun v155 p154 H locs hp154 hw => ?_) | refine px_calli (pr := []) (px_runV (As := [.int z153]) (rest := []) S (c_t2_byteAt l D cs h r tp tb g f a z153  (show TokOk (f 7) (f 8) (f 10) (f 11) (f 12) (f 13) (f 17) (a 4) from ⟨⟨by first | exact o1 | omega, by first | exact o2 | omega⟩, ⟨by first | exact g1 | omega, by first | exact o4 | omega⟩, ⟨by first | exact o5 | omega, by first | exact o6 | omega⟩, ⟨by first | exact o7 | omega, by first | exact o8 | omega⟩, ⟨by first | exact o9 | omega, by first | exact o10 | omega⟩, ⟨by first | exact o11 | omega, by first | exact o12 | omega⟩, by first | exact o13 | omega, hn4⟩) _) hT (pr := []) (pcs := [wd_Tok cs h r (fun _ => some tp) f a g, [(tp, .inl (cs 1, 2048, .inl tb))]]) hw px_X.tt (px_recv hT hw 0 0 rfl rfl rfl) m3_186 m3_183 m3_185 ms_1_6 m1_2 q_Tok_byteAt ⟨Nat.le_of_ble_eq_true rfl, Nat.le_of_ble_eq_true rfl⟩ hl.1 rfl (Nat.le_of_ble_eq_true rfl) d_Tok_mark_91 ⟨Nat.le_of_ble_eq_true rfl, Nat.le_of_ble_eq_true rfl⟩) hw hA (fun v155 p154 H locs hp154 hw => ?_)
              obtain ⟨rfl, e156, e157, e158, e159, e160⟩ := hp154
              have e156 : -1 ≤ v155.toInt := e156
              have e157 : v155.toInt ≤ 255 := e157
              have e158 : 0 ≤ v155.toInt → 0 ≤ z153.toInt ∧ z153.toInt < (f 7).toInt := e158
              have e159 : By tb (f 7) z153 v155 := e159
              have e160 : R_t2_byteAt tb f z153 v155 := e160
              have lv155 := Int32.le_toInt v155
              have uv155 := Int32.toInt_lt v155
              refine lv_bipush (v := 61) S.x S.b d_Tok_mark_94 (by decide) ?_
              refine lv_icmp_ne (tgt := 106) S.x S.b d_Tok_mark_96 (by decide) (fun c161 => ?_) (fun c161 => ?_)
              · have nc161 : ¬ v155.toInt = (61 : Int) := mt (i_eq (x := v155) (y := 61)).mpr c161
                refine lv_iconst (v := 0) S.x S.b d_Tok_mark_106 (by decide) ?_
                refine lv_istore (lv' := [(5, .int 0), (4, .int v148), (3, .int 1), (2, .int p0), (0, .ref h), (1, .int p0)]) S.x S.b d_Tok_mark_107 hl (by decide) rfl (fun ls hl => ?_)
                refine lv_iload S.x S.b d_Tok_mark_109 (lv_at hl 0 rfl) ?_
                refine lv_if_le (tgt := 120) S.x S.b d_Tok_mark_111 (by decide) (fun c163 => ?_) (fun c163 => ?_)
                ·
                  refine lv_aload_n S.x S.b d_Tok_mark_120 rfl (lv_at hl 4 rfl) ?_
                  refine lv_dup S.x S.b d_Tok_mark_121 rfl ?_
                  refine px_get S k_Tok hT hw 0 0 8 (v := .int (f 8)) rfl rfl rfl (by decide) m1_111 d_Tok_mark_122 ?_
                  refine lv_iload_n S.x S.b d_Tok_mark_125 rfl (lv_at hl 2 rfl) ?_
                  refine lv_iadd S.x S.b d_Tok_mark_126 ?_
                  have lr164 := Int32.le_toInt (f 8)
                  have ur164 := Int32.toInt_lt (f 8)
                  refine lv_topi (fun z165 ez165 => ?_)
                  have tz165 : z165.toInt = ((f 8).toInt + (1 : Int) + 2147483648) % 4294967296 - 2147483648 := by rw [ez165]; exact i_add (f 8) 1
                  have lz165 := Int32.le_toInt z165
                  have uz165 := Int32.toInt_lt z165
                  try replace tz165 : z165.toInt = (f 8).toInt + (1 : Int) := by omega
                  refine px_put S k_Tok hT hw 0 0 8 rfl rfl (by decide) m1_111 rfl rfl rfl (Nat.le_of_ble_eq_true rfl) d_Tok_mark_127 (w' := wd_Tok cs h r (fun _ => some tp) (upd f 8 z165) a g) (ps' := [wd_Tok cs h r (fun _ => some tp) (upd f 8 z165) a g, [(tp, .inl (cs 1, 2048, .inl tb))]]) rfl rfl (fun H locs hw => ?_)
                  refine lv_iload_n S.x S.b d_Tok_mark_130 rfl (lv_at hl 3 rfl) ?_
                  first | exact px_iret (v := p0) S hr rfl hlk hAe hw (Nat.le_of_ble_eq_true rfl) (Nat.le_of_ble_eq_true rfl) (⟨(upd f 8 z165), a, rfl, (show TokOk (f 7) z165 (f 10) (f 11) (f 12) (f 13) (f 17) (a 4) from ⟨⟨o1, o2⟩, ⟨(oz_b3b25f0e49 tz165 g1), (oz_8964937ede g2 tz165)⟩, ⟨o5, o6⟩, ⟨o7, o8⟩, ⟨o9, o10⟩, ⟨o11, o12⟩, o13, hn4⟩), (show (f 7).toInt = (f 7).toInt from rfl), (show (f 10).toInt = (f 10).toInt from rfl), (show (f 15).toInt = (f 15).toInt from rfl), (show p0.toInt = 19 ∨ (f 8).toInt + 1 ≤ z165.toInt from by omega), (show Q5 (a 5) from hq5), (show R_t2_mark sn sb tb p0 f a (upd f 8 z165) a p0 from (Or.inl (Or.inl ⟨nc1, z3, ez3, v5, e6, Or.inr ⟨nc7, Or.inr ⟨nc9, z101, ez101, v103, e108, Or.inl ⟨nc109, z112, ez112, v114, e119, Or.inr ⟨nc120, v148, e149, Or.inl ⟨nc150, z153, ez153, v155, e160, Or.inl ⟨nc161, z165, ez165, rfl, rfl, rfl⟩⟩⟩⟩⟩⟩⟩)))⟩) d_Tok_mark_131 | exact px_iret (v := p0) S hr rfl hlk hAe hw (Nat.le_of_ble_eq_true rfl) (Nat.le_of_ble_eq_true rfl) (⟨(upd f 8 z165), a, rfl, (show TokOk (f 7) z165 (f 10) (f 11) (f 12) (f 13) (f 17) (a 4) from ⟨⟨by first | exact o1 | omega, by first | exact o2 | omega⟩, ⟨by first | exact oz_b3b25f0e49 tz165 g1 | omega, by first | exact oz_8964937ede g2 tz165 | omega⟩, ⟨by first | exact o5 | omega, by first | exact o6 | omega⟩, ⟨by first | exact o7 | omega, by first | exact o8 | omega⟩, ⟨by first | exact o9 | omega, by first | exact o10 | omega⟩, ⟨by first | exact o11 | omega, by first | exact o12 | omega⟩, by first | exact o13 | omega, hn4⟩), (show (f 7).toInt = (f 7).toInt from rfl), (show (f 10).toInt = (f 10).toInt from rfl), (show (f 15).toInt = (f 15).toInt from rfl), (show p0.toInt = 19 ∨ (f 8).toInt + 1 ≤ z165.toInt from by omega), (show Q5 (a 5) from hq5), (show R_t2_mark sn sb tb p0 f a (upd f 8 z165) a p0 from (Or.inl (Or.inl ⟨nc1, z3, ez3, v5, e6, Or.inr ⟨nc7, Or.inr ⟨nc9, z101, ez101, v103, e108, Or.inl ⟨nc109, z112, ez112, v114, e119, Or.inr ⟨nc120, v148, e149, Or.inl ⟨nc150, z153, ez153, v155, e160, Or.inl ⟨nc161, z165, ez165, rfl, rfl, rfl⟩⟩⟩⟩⟩⟩⟩)))⟩) d_Tok_mark_131
                · exact absurd c163 (by decide)
              · have nc161 : v155.toInt = (61 : Int) := (i_eq (x := v155) (y := 61)).mp c161
                refine lv_iload_n S.x S.b d_Tok_mark_99 rfl (lv_at hl 2 rfl) ?_
                refine px_calli (pr := [wd_Tok cs h r (fun _ => some tp) f a g, [(tp, .inl (cs 1, 2048, .inl tb))]]) (px_runS (As := [.int p0]) (rest := []) S (c_t2_withEquals l D cs  p0   _) hT (pr := [wd_Tok cs h r (fun _ => some tp) f a g, [(tp, .inl (cs 1, 2048, .inl tb))]]) (pcs := []) hw px_X.tt m4_67 m4_65 m4_66 m1_2 q_Tok_withEquals ⟨Nat.le_of_ble_eq_true rfl, Nat.le_of_ble_eq_true rfl⟩ hl.1 rfl (Nat.le_of_ble_eq_true rfl) d_Tok_mark_100 ⟨Nat.le_of_ble_eq_true rfl, Nat.le_of_ble_eq_true rfl⟩) hw hA (fun v167 p166 H locs hp166 hw => ?_)
                obtain ⟨rfl, e168⟩ := hp166
                have e168 : R_t2_withEquals p0 v167 := e168
                have lv167 := Int32.le_toInt v167
                have uv167 := Int32.toInt_lt v167
                refine lv_goto (tgt := 107) S.x S.b d_Tok_mark_103 (by decide) ?_
                refine lv_istore (lv' := [(5, .int v167), (4, .int v148), (3, .int 1), (2, .int p0), (0, .ref h), (1, .int p0)]) S.x S.b d_Tok_mark_107 hl (by decide) rfl (fun ls hl => ?_)
                refine lv_iload S.x S.b d_Tok_mark_109 (lv_at hl 0 rfl) ?_
                refine lv_if_le (tgt := 120) S.x S.b d_Tok_mark_111 (by decide) (fun c169 => ?_) (fun c169 => ?_)
                · have nc169 : v167.toInt ≤ (0 : Int) := (i_le (x := v167) (y := 0)).mp c169
                  refine lv_aload_n S.x S.b d_Tok_mark_120 rfl (lv_at hl 4 rfl) ?_
                  refine lv_dup S.x S.b d_Tok_mark_121 rfl ?_
                  refine px_get S k_Tok hT hw 0 0 8 (v := .int (f 8)) rfl rfl rfl (by decide) m1_111 d_Tok_mark_122 ?_
                  refine lv_iload_n S.x S.b d_Tok_mark_125 rfl (lv_at hl 2 rfl) ?_
                  refine lv_iadd S.x S.b d_Tok_mark_126 ?_
                  have lr171 := Int32.le_toInt (f 8)
                  have ur171 := Int32.toInt_lt (f 8)
                  refine lv_topi (fun z172 ez172 => ?_)
                  have tz172 : z172.toInt = ((f 8).toInt + (1 : Int) + 2147483648) % 4294967296 - 2147483648 := by rw [ez172]; exact i_add (f 8) 1
                  have lz172 := Int32.le_toInt z172
                  have uz172 := Int32.toInt_lt z172
                  try replace tz172 : z172.toInt = (f 8).toInt + (1 : Int) := by omega
                  refine px_put S k_Tok hT hw 0 0 8 rfl rfl (by decide) m1_111 rfl rfl rfl (Nat.le_of_ble_eq_true rfl) d_Tok_mark_127 (w' := wd_Tok cs h r (fun _ => some tp) (upd f 8 z172) a g) (ps' := [wd_Tok cs h r (fun _ => some tp) (upd f 8 z172) a g, [(tp, .inl (cs 1, 2048, .inl tb))]]) rfl rfl (fun H locs hw => ?_)
                  refine lv_iload_n S.x S.b d_Tok_mark_130 rfl (lv_at hl 3 rfl) ?_
                  first | exact px_iret (v := p0) S hr rfl hlk hAe hw (Nat.le_of_ble_eq_true rfl) (Nat.le_of_ble_eq_true rfl) (⟨(upd f 8 z172), a, rfl, (show TokOk (f 7) z172 (f 10) (f 11) (f 12) (f 13) (f 17) (a 4) from ⟨⟨o1, o2⟩, ⟨(oz_b3b25f0e49 tz172 g1), (oz_8964937ede g2 tz172)⟩, ⟨o5, o6⟩, ⟨o7, o8⟩, ⟨o9, o10⟩, ⟨o11, o12⟩, o13, hn4⟩), (show (f 7).toInt = (f 7).toInt from rfl), (show (f 10).toInt = (f 10).toInt from rfl), (show (f 15).toInt = (f 15).toInt from rfl), (show p0.toInt = 19 ∨ (f 8).toInt + 1 ≤ z172.toInt from by omega), (show Q5 (a 5) from hq5), (show R_t2_mark sn sb tb p0 f a (upd f 8 z172) a p0 from (Or.inl (Or.inl ⟨nc1, z3, ez3, v5, e6, Or.inr ⟨nc7, Or.inr ⟨nc9, z101, ez101, v103, e108, Or.inl ⟨nc109, z112, ez112, v114, e119, Or.inr ⟨nc120, v148, e149, Or.inl ⟨nc150, z153, ez153, v155, e160, Or.inr ⟨nc161, v167, e168, Or.inl ⟨nc169, z172, ez172, rfl, rfl, rfl⟩⟩⟩⟩⟩⟩⟩⟩)))⟩) d_Tok_mark_131 | exact px_iret (v := p0) S hr rfl hlk hAe hw (Nat.le_of_ble_eq_true rfl) (Nat.le_of_ble_eq_true rfl) (⟨(upd f 8 z172), a, rfl, (show TokOk (f 7) z172 (f 10) (f 11) (f 12) (f 13) (f 17) (a 4) from ⟨⟨by first | exact o1 | omega, by first | exact o2 | omega⟩, ⟨by first | exact oz_b3b25f0e49 tz172 g1 | omega, by first | exact oz_8964937ede g2 tz172 | omega⟩, ⟨by first | exact o5 | omega, by first | exact o6 | omega⟩, ⟨by first | exact o7 | omega, by first | exact o8 | omega⟩, ⟨by first | exact o9 | omega, by first | exact o10 | omega⟩, ⟨by first | exact o11 | omega, by first | exact o12 | omega⟩, by first | exact o13 | omega, hn4⟩), (show (f 7).toInt = (f 7).toInt from rfl), (show (f 10).toInt = (f 10).toInt from rfl), (show (f 15).toInt = (f 15).toInt from rfl), (show p0.toInt = 19 ∨ (f 8).toInt + 1 ≤ z172.toInt from by omega), (show Q5 (a 5) from hq5), (show R_t2_mark sn sb tb p0 f a (upd f 8 z172) a p0 from (Or.inl (Or.inl ⟨nc1, z3, ez3, v5, e6, Or.inr ⟨nc7, Or.inr ⟨nc9, z101, ez101, v103, e108, Or.inl ⟨nc109, z112, ez112, v114, e119, Or.inr ⟨nc120, v148, e149, Or.inl ⟨nc150, z153, ez153, v155, e160, Or.inr ⟨nc161, v167, e168, Or.inl ⟨nc169, z172, ez172, rfl, rfl, rfl⟩⟩⟩⟩⟩⟩⟩⟩)))⟩) d_Tok_mark_131
                · have nc169 : ¬ v167.toInt ≤ (0 : Int) := mt (i_le (x := v167) (y := 0)).mpr c169
                  refine lv_iload S.x S.b d_Tok_mark_114 (lv_at hl 0 rfl) ?_
                  refine lv_istore_n (lv' := [(2, .int v167), (5, .int v167), (4, .int v148), (3, .int 1), (0, .ref h), (1, .int p0)]) S.x S.b d_Tok_mark_116 rfl hl (by decide) rfl (fun ls hl => ?_)
                  obtain ⟨z173, ez173⟩ : ∃ y : Int32, y = 1 + 1 := ⟨_, rfl⟩
                  have tz173 : z173.toInt = ((1 : Int) + 1 + 2147483648) % 4294967296 - 2147483648 := by rw [ez173]; exact i_add 1 1
                  have lz173 := Int32.le_toInt z173
                  have uz173 := Int32.toInt_lt z173
                  try replace tz173 : z173.toInt = (1 : Int) + 1 := by omega
                  refine lv_iinc (v := z173) (lv' := [(3, .int z173), (2, .int v167), (5, .int v167), (4, .int v148), (0, .ref h), (1, .int p0)]) S.x S.b d_Tok_mark_117 hl (k := 3) rfl (by rw [ez173]; rfl) (by decide) rfl (fun ls hl => ?_)
                  refine lv_aload_n S.x S.b d_Tok_mark_120 rfl (lv_at hl 4 rfl) ?_
                  refine lv_dup S.x S.b d_Tok_mark_121 rfl ?_
                  refine px_get S k_Tok hT hw 0 0 8 (v := .int (f 8)) rfl rfl rfl (by decide) m1_111 d_Tok_mark_122 ?_
                  refine lv_iload_n S.x S.b d_Tok_mark_125 rfl (lv_at hl 0 rfl) ?_
                  refine lv_iadd S.x S.b d_Tok_mark_126 ?_
                  have lr174 := Int32.le_toInt (f 8)
                  have ur174 := Int32.toInt_lt (f 8)
                  refine lv_topi (fun z175 ez175 => ?_)
                  have tz175 : z175.toInt = ((f 8).toInt + z173.toInt + 2147483648) % 4294967296 - 2147483648 := by rw [ez175]; exact i_add (f 8) z173
                  have lz175 := Int32.le_toInt z175
                  have uz175 := Int32.toInt_lt z175
                  try replace tz175 : z175.toInt = (f 8).toInt + z173.toInt := by omega
                  refine px_put S k_Tok hT hw 0 0 8 rfl rfl (by decide) m1_111 rfl rfl rfl (Nat.le_of_ble_eq_true rfl) d_Tok_mark_127 (w' := wd_Tok cs h r (fun _ => some tp) (upd f 8 z175) a g) (ps' := [wd_Tok cs h r (fun _ => some tp) (upd f 8 z175) a g, [(tp, .inl (cs 1, 2048, .inl tb))]]) rfl rfl (fun H locs hw => ?_)
                  refine lv_iload_n S.x S.b d_Tok_mark_130 rfl (lv_at hl 1 rfl) ?_
                  first | exact px_iret (v := v167) S hr rfl hlk hAe hw (Nat.le_of_ble_eq_true rfl) (Nat.le_of_ble_eq_true rfl) (⟨(upd f 8 z175), a, rfl, (show TokOk (f 7) z175 (f 10) (f 11) (f 12) (f 13) (f 17) (a 4) from ⟨⟨o1, o2⟩, ⟨(oz_0aba5895db tz175 g1 tz173), (oz_034949d2cd g2 tz175 tz173)⟩, ⟨o5, o6⟩, ⟨o7, o8⟩, ⟨o9, o10⟩, ⟨o11, o12⟩, o13, hn4⟩), (show (f 7).toInt = (f 7).toInt from rfl), (show (f 10).toInt = (f 10).toInt from rfl), (show (f 15).toInt = (f 15).toInt from rfl), (show v167.toInt = 19 ∨ (f 8).toInt + 1 ≤ z175.toInt from by omega), (show Q5 (a 5) from hq5), (show R_t2_mark sn sb tb p0 f a (upd f 8 z175) a v167 from (Or.inl (Or.inl ⟨nc1, z3, ez3, v5, e6, Or.inr ⟨nc7, Or.inr ⟨nc9, z101, ez101, v103, e108, Or.inl ⟨nc109, z112, ez112, v114, e119, Or.inr ⟨nc120, v148, e149, Or.inl ⟨nc150, z153, ez153, v155, e160, Or.inr ⟨nc161, v167, e168, Or.inr ⟨nc169, z173, ez173, z175, ez175, rfl, rfl, rfl⟩⟩⟩⟩⟩⟩⟩⟩)))⟩) d_Tok_mark_131 | exact px_iret (v := v167) S hr rfl hlk hAe hw (Nat.le_of_ble_eq_true rfl) (Nat.le_of_ble_eq_true rfl) (⟨(upd f 8 z175), a, rfl, (show TokOk (f 7) z175 (f 10) (f 11) (f 12) (f 13) (f 17) (a 4) from ⟨⟨by first | exact o1 | omega, by first | exact o2 | omega⟩, ⟨by first | exact oz_0aba5895db tz175 g1 tz173 | omega, by first | exact oz_034949d2cd g2 tz175 tz173 | omega⟩, ⟨by first | exact o5 | omega, by first | exact o6 | omega⟩, ⟨by first | exact o7 | omega, by first | exact o8 | omega⟩, ⟨by first | exact o9 | omega, by first | exact o10 | omega⟩, ⟨by first | exact o11 | omega, by first | exact o12 | omega⟩, by first | exact o13 | omega, hn4⟩), (show (f 7).toInt = (f 7).toInt from rfl), (show (f 10).toInt = (f 10).toInt from rfl), (show (f 15).toInt = (f 15).toInt from rfl), (show v167.toInt = 19 ∨ (f 8).toInt + 1 ≤ z175.toInt from by omega), (show Q5 (a 5) from hq5), (show R_t2_mark sn sb tb p0 f a (upd f 8 z175) a v167 from (Or.inl (Or.inl ⟨nc1, z3, ez3, v5, e6, Or.inr ⟨nc7, Or.inr ⟨nc9, z101, ez101, v103, e108, Or.inl ⟨nc109, z112, ez112, v114, e119, Or.inr ⟨nc120, v148, e149, Or.inl ⟨nc150, z153, ez153, v155, e160, Or.inr ⟨nc161, v167, e168, Or.inr ⟨nc169, z173, ez173, z175, ez175, rfl, rfl, rfl⟩⟩⟩⟩⟩⟩⟩⟩)))⟩) d_Tok_mark_131
            · have nc150 : ¬ v148.toInt ≤ (0 : Int) := mt (i_le (x := v148) (y := 0)).mpr c150
              refine lv_iload S.x S.b d_Tok_mark_79 (lv_at hl 0 rfl) ?_
              refine lv_istore_n (lv' := [(2, .int v148), (4, .int v148), (3, .int 1), (0, .ref h), (1, .int p0)]) S.x S.b d_Tok_mark_81 rfl hl (by decide) rfl (fun ls hl => ?_)
              refine lv_iconst (v := 2) S.x S.b d_Tok_mark_82 (by decide) ?_
              refine lv_istore_n (lv' := [(3, .int 2), (2, .int v148), (4, .int v148), (0, .ref h), (1, .int p0)]) S.x S.b d_Tok_mark_83 rfl hl (by decide) rfl (fun ls hl => ?_)
              refine lv_aload_n S.x S.b d_Tok_mark_84 rfl (lv_at hl 3 rfl) ?_
              refine lv_aload_n S.x S.b d_Tok_mark_85 rfl (lv_at hl 3 rfl) ?_
              refine px_get S k_Tok hT hw 0 0 8 (v := .int (f 8)) rfl rfl rfl (by decide) m1_111 d_Tok_mark_86 ?_
              refine lv_iload_n S.x S.b d_Tok_mark_89 rfl (lv_at hl 0 rfl) ?_
              refine lv_iadd S.x S.b d_Tok_mark_90 ?_
              have lr176 := Int32.le_toInt (f 8)
              have ur176 := Int32.toInt_lt (f 8)
              refine lv_topi (fun z177 ez177 => ?_)
              have tz177 : z177.toInt = ((f 8).toInt + (2 : Int) + 2147483648) % 4294967296 - 2147483648 := by rw [ez177]; exact i_add (f 8) 2
              have lz177 := Int32.le_toInt z177
              have uz177 := Int32.toInt_lt z177
              try replace tz177 : z177.toInt = (f 8).toInt + (2 : Int) := by omega
              first | refine px_calli (pr := []) (px_runV (As := [.int z177]) (rest := []) S (c_t2_byteAt l D cs h r tp tb g f a z177  (show TokOk (f 7) (f 8) (f 10) (f 11) (f 12) (f 13) (f 17) (a 4) from ⟨⟨o1, o2⟩, ⟨g1, o4⟩, ⟨o5, o6⟩, ⟨o7, o8⟩, ⟨o9, o10⟩, ⟨o11, o12⟩, o13, hn4⟩) _) hT (pr := []) (pcs := [wd_Tok cs h r (fun _ => some tp) f a g, [(tp, .inl (cs 1, 2048, .inl tb))]]) hw px_X.tt (px_recv hT hw 0 0 rfl rfl rfl) m3_186 m3_183 m3_185 ms_1_6 m1_2 q_Tok_byteAt ⟨Nat.le_of_ble_eq_true rfl, Nat.le_of_ble_eq_true rfl⟩ hl.1 rfl (Nat.le_of_ble_eq_true rfl) d_Tok_mark_91 ⟨Nat.le_of_ble_eq_true rfl, Nat.le_of_ble_eq_true rfl⟩) hw hA (fun v179 p178 H locs hp178 hw => ?_) | refine px_calli (pr := []) (px_runV (As := [.int z177]) (rest := []) S (c_t2_byteAt l D cs h r tp tb g f a z177  (show TokOk (f 7) (f 8) (f 10) (f 11) (f 12) (f 13) (f 17) (a 4) from ⟨⟨by first | exact o1 | omega, by first | exact o2 | omega⟩, ⟨by first | exact g1 | omega, by first | exact o4 | omega⟩, ⟨by first | exact o5 | omega, by first | exact o6 | omega⟩, ⟨by first | exact o7 | omega, by first | exact o8 | omega⟩, ⟨by first | exact o9 | omega, by first | exact o10 | omega⟩, ⟨by first | exact o11 | omega, by first | exact o12 | omega⟩, by first | exact o13 | omega, hn4⟩) _) hT (pr := []) (pcs := [wd_Tok cs h r (fun _ => some tp) f a g, [(tp, .inl (cs 1, 2048, .inl tb))]]) hw px_X.tt (px_recv hT hw 0 0 rfl rfl rfl) m3_186 m3_183 m3_185 ms_1_6 m1_2 q_Tok_byteAt ⟨Nat.le_of_ble_eq_true rfl, Nat.le_of_ble_eq_true rfl⟩ hl.1 rfl (Nat.le_of_ble_eq_true rfl) d_Tok_mark_91 ⟨Nat.le_of_ble_eq_true rfl, Nat.le_of_ble_eq_true rfl⟩) hw hA (fun v179 p178 H locs hp178 hw => ?_)
              obtain ⟨rfl, e180, e181, e182, e183, e184⟩ := hp178
              have e180 : -1 ≤ v179.toInt := e180
              have e181 : v179.toInt ≤ 255 := e181
              have e182 : 0 ≤ v179.toInt → 0 ≤ z177.toInt ∧ z177.toInt < (f 7).toInt := e182
              have e183 : By tb (f 7) z177 v179 := e183
              have e184 : R_t2_byteAt tb f z177 v179 := e184
              have lv179 := Int32.le_toInt v179
              have uv179 := Int32.toInt_lt v179
              refine lv_bipush (v := 61) S.x S.b d_Tok_mark_94 (by decide) ?_
              refine lv_icmp_ne (tgt := 106) S.x S.b d_Tok_mark_96 (by decide) (fun c185 => ?_) (fun c185 => ?_)
              · have nc185 : ¬ v179.toInt = (61 : Int) := mt (i_eq (x := v179) (y := 61)).mpr c185
                refine lv_iconst (v := 0) S.x S.b d_Tok_mark_106 (by decide) ?_
                refine lv_istore (lv' := [(5, .int 0), (3, .int 2), (2, .int v148), (4, .int v148), (0, .ref h), (1, .int p0)]) S.x S.b d_Tok_mark_107 hl (by decide) rfl (fun ls hl => ?_)
                refine lv_iload S.x S.b d_Tok_mark_109 (lv_at hl 0 rfl) ?_
                refine lv_if_le (tgt := 120) S.x S.b d_Tok_mark_111 (by decide) (fun c187 => ?_) (fun c187 => ?_)
                ·
                  refine lv_aload_n S.x S.b d_Tok_mark_120 rfl (lv_at hl 4 rfl) ?_
                  refine lv_dup S.x S.b d_Tok_mark_121 rfl ?_
                  refine px_get S k_Tok hT hw 0 0 8 (v := .int (f 8)) rfl rfl rfl (by decide) m1_111 d_Tok_mark_122 ?_
                  refine lv_iload_n S.x S.b d_Tok_mark_125 rfl (lv_at hl 1 rfl) ?_
                  refine lv_iadd S.x S.b d_Tok_mark_126 ?_
                  have lr188 := Int32.le_toInt (f 8)
                  have ur188 := Int32.toInt_lt (f 8)
                  refine lv_topi (fun z189 ez189 => ?_)
                  have tz189 : z189.toInt = ((f 8).toInt + (2 : Int) + 2147483648) % 4294967296 - 2147483648 := by rw [ez189]; exact i_add (f 8) 2
                  have lz189 := Int32.le_toInt z189
                  have uz189 := Int32.toInt_lt z189
                  try replace tz189 : z189.toInt = (f 8).toInt + (2 : Int) := by omega
                  refine px_put S k_Tok hT hw 0 0 8 rfl rfl (by decide) m1_111 rfl rfl rfl (Nat.le_of_ble_eq_true rfl) d_Tok_mark_127 (w' := wd_Tok cs h r (fun _ => some tp) (upd f 8 z189) a g) (ps' := [wd_Tok cs h r (fun _ => some tp) (upd f 8 z189) a g, [(tp, .inl (cs 1, 2048, .inl tb))]]) rfl rfl (fun H locs hw => ?_)
                  refine lv_iload_n S.x S.b d_Tok_mark_130 rfl (lv_at hl 2 rfl) ?_
                  first | exact px_iret (v := v148) S hr rfl hlk hAe hw (Nat.le_of_ble_eq_true rfl) (Nat.le_of_ble_eq_true rfl) (⟨(upd f 8 z189), a, rfl, (show TokOk (f 7) z189 (f 10) (f 11) (f 12) (f 13) (f 17) (a 4) from ⟨⟨o1, o2⟩, ⟨(oz_6c4a1e09c3 tz189 g1), (oz_26c995f1f8 g2 tz189)⟩, ⟨o5, o6⟩, ⟨o7, o8⟩, ⟨o9, o10⟩, ⟨o11, o12⟩, o13, hn4⟩), (show (f 7).toInt = (f 7).toInt from rfl), (show (f 10).toInt = (f 10).toInt from rfl), (show (f 15).toInt = (f 15).toInt from rfl), (show v148.toInt = 19 ∨ (f 8).toInt + 1 ≤ z189.toInt from by omega), (show Q5 (a 5) from hq5), (show R_t2_mark sn sb tb p0 f a (upd f 8 z189) a v148 from (Or.inl (Or.inl ⟨nc1, z3, ez3, v5, e6, Or.inr ⟨nc7, Or.inr ⟨nc9, z101, ez101, v103, e108, Or.inl ⟨nc109, z112, ez112, v114, e119, Or.inr ⟨nc120, v148, e149, Or.inr ⟨nc150, z177, ez177, v179, e184, Or.inl ⟨nc185, z189, ez189, rfl, rfl, rfl⟩⟩⟩⟩⟩⟩⟩)))⟩) d_Tok_mark_131 | exact px_iret (v := v148) S hr rfl hlk hAe hw (Nat.le_of_ble_eq_true rfl) (Nat.le_of_ble_eq_true rfl) (⟨(upd f 8 z189), a, rfl, (show TokOk (f 7) z189 (f 10) (f 11) (f 12) (f 13) (f 17) (a 4) from ⟨⟨by first | exact o1 | omega, by first | exact o2 | omega⟩, ⟨by first | exact oz_6c4a1e09c3 tz189 g1 | omega, by first | exact oz_26c995f1f8 g2 tz189 | omega⟩, ⟨by first | exact o5 | omega, by first | exact o6 | omega⟩, ⟨by first | exact o7 | omega, by first | exact o8 | omega⟩, ⟨by first | exact o9 | omega, by first | exact o10 | omega⟩, ⟨by first | exact o11 | omega, by first | exact o12 | omega⟩, by first | exact o13 | omega, hn4⟩), (show (f 7).toInt = (f 7).toInt from rfl), (show (f 10).toInt = (f 10).toInt from rfl), (show (f 15).toInt = (f 15).toInt from rfl), (show v148.toInt = 19 ∨ (f 8).toInt + 1 ≤ z189.toInt from by omega), (show Q5 (a 5) from hq5), (show R_t2_mark sn sb tb p0 f a (upd f 8 z189) a v148 from (Or.inl (Or.inl ⟨nc1, z3, ez3, v5, e6, Or.inr ⟨nc7, Or.inr ⟨nc9, z101, ez101, v103, e108, Or.inl ⟨nc109, z112, ez112, v114, e119, Or.inr ⟨nc120, v148, e149, Or.inr ⟨nc150, z177, ez177, v179, e184, Or.inl ⟨nc185, z189, ez189, rfl, rfl, rfl⟩⟩⟩⟩⟩⟩⟩)))⟩) d_Tok_mark_131
                · exact absurd c187 (by decide)
              · have nc185 : v179.toInt = (61 : Int) := (i_eq (x := v179) (y := 61)).mp c185
                refine lv_iload_n S.x S.b d_Tok_mark_99 rfl (lv_at hl 1 rfl) ?_
                refine px_calli (pr := [wd_Tok cs h r (fun _ => some tp) f a g, [(tp, .inl (cs 1, 2048, .inl tb))]]) (px_runS (As := [.int v148]) (rest := []) S (c_t2_withEquals l D cs  v148   _) hT (pr := [wd_Tok cs h r (fun _ => some tp) f a g, [(tp, .inl (cs 1, 2048, .inl tb))]]) (pcs := []) hw px_X.tt m4_67 m4_65 m4_66 m1_2 q_Tok_withEquals ⟨Nat.le_of_ble_eq_true rfl, Nat.le_of_ble_eq_true rfl⟩ hl.1 rfl (Nat.le_of_ble_eq_true rfl) d_Tok_mark_100 ⟨Nat.le_of_ble_eq_true rfl, Nat.le_of_ble_eq_true rfl⟩) hw hA (fun v191 p190 H locs hp190 hw => ?_)
                obtain ⟨rfl, e192⟩ := hp190
                have e192 : R_t2_withEquals v148 v191 := e192
                have lv191 := Int32.le_toInt v191
                have uv191 := Int32.toInt_lt v191
                refine lv_goto (tgt := 107) S.x S.b d_Tok_mark_103 (by decide) ?_
                refine lv_istore (lv' := [(5, .int v191), (3, .int 2), (2, .int v148), (4, .int v148), (0, .ref h), (1, .int p0)]) S.x S.b d_Tok_mark_107 hl (by decide) rfl (fun ls hl => ?_)
                refine lv_iload S.x S.b d_Tok_mark_109 (lv_at hl 0 rfl) ?_
                refine lv_if_le (tgt := 120) S.x S.b d_Tok_mark_111 (by decide) (fun c193 => ?_) (fun c193 => ?_)
                · have nc193 : v191.toInt ≤ (0 : Int) := (i_le (x := v191) (y := 0)).mp c193
                  refine lv_aload_n S.x S.b d_Tok_mark_120 rfl (lv_at hl 4 rfl) ?_
                  refine lv_dup S.x S.b d_Tok_mark_121 rfl ?_
                  refine px_get S k_Tok hT hw 0 0 8 (v := .int (f 8)) rfl rfl rfl (by decide) m1_111 d_Tok_mark_122 ?_
                  refine lv_iload_n S.x S.b d_Tok_mark_125 rfl (lv_at hl 1 rfl) ?_
                  refine lv_iadd S.x S.b d_Tok_mark_126 ?_
                  have lr195 := Int32.le_toInt (f 8)
                  have ur195 := Int32.toInt_lt (f 8)
                  refine lv_topi (fun z196 ez196 => ?_)
                  have tz196 : z196.toInt = ((f 8).toInt + (2 : Int) + 2147483648) % 4294967296 - 2147483648 := by rw [ez196]; exact i_add (f 8) 2
                  have lz196 := Int32.le_toInt z196
                  have uz196 := Int32.toInt_lt z196
                  try replace tz196 : z196.toInt = (f 8).toInt + (2 : Int) := by omega
                  refine px_put S k_Tok hT hw 0 0 8 rfl rfl (by decide) m1_111 rfl rfl rfl (Nat.le_of_ble_eq_true rfl) d_Tok_mark_127 (w' := wd_Tok cs h r (fun _ => some tp) (upd f 8 z196) a g) (ps' := [wd_Tok cs h r (fun _ => some tp) (upd f 8 z196) a g, [(tp, .inl (cs 1, 2048, .inl tb))]]) rfl rfl (fun H locs hw => ?_)
                  refine lv_iload_n S.x S.b d_Tok_mark_130 rfl (lv_at hl 2 rfl) ?_
                  first | exact px_iret (v := v148) S hr rfl hlk hAe hw (Nat.le_of_ble_eq_true rfl) (Nat.le_of_ble_eq_true rfl) (⟨(upd f 8 z196), a, rfl, (show TokOk (f 7) z196 (f 10) (f 11) (f 12) (f 13) (f 17) (a 4) from ⟨⟨o1, o2⟩, ⟨(oz_6c4a1e09c3 tz196 g1), (oz_26c995f1f8 g2 tz196)⟩, ⟨o5, o6⟩, ⟨o7, o8⟩, ⟨o9, o10⟩, ⟨o11, o12⟩, o13, hn4⟩), (show (f 7).toInt = (f 7).toInt from rfl), (show (f 10).toInt = (f 10).toInt from rfl), (show (f 15).toInt = (f 15).toInt from rfl), (show v148.toInt = 19 ∨ (f 8).toInt + 1 ≤ z196.toInt from by omega), (show Q5 (a 5) from hq5), (show R_t2_mark sn sb tb p0 f a (upd f 8 z196) a v148 from (Or.inl (Or.inl ⟨nc1, z3, ez3, v5, e6, Or.inr ⟨nc7, Or.inr ⟨nc9, z101, ez101, v103, e108, Or.inl ⟨nc109, z112, ez112, v114, e119, Or.inr ⟨nc120, v148, e149, Or.inr ⟨nc150, z177, ez177, v179, e184, Or.inr ⟨nc185, v191, e192, Or.inl ⟨nc193, z196, ez196, rfl, rfl, rfl⟩⟩⟩⟩⟩⟩⟩⟩)))⟩) d_Tok_mark_131 | exact px_iret (v := v148) S hr rfl hlk hAe hw (Nat.le_of_ble_eq_true rfl) (Nat.le_of_ble_eq_true rfl) (⟨(upd f 8 z196), a, rfl, (show TokOk (f 7) z196 (f 10) (f 11) (f 12) (f 13) (f 17) (a 4) from ⟨⟨by first | exact o1 | omega, by first | exact o2 | omega⟩, ⟨by first | exact oz_6c4a1e09c3 tz196 g1 | omega, by first | exact oz_26c995f1f8 g2 tz196 | omega⟩, ⟨by first | exact o5 | omega, by first | exact o6 | omega⟩, ⟨by first | exact o7 | omega, by first | exact o8 | omega⟩, ⟨by first | exact o9 | omega, by first | exact o10 | omega⟩, ⟨by first | exact o11 | omega, by first | exact o12 | omega⟩, by first | exact o13 | omega, hn4⟩), (show (f 7).toInt = (f 7).toInt from rfl), (show (f 10).toInt = (f 10).toInt from rfl), (show (f 15).toInt = (f 15).toInt from rfl), (show v148.toInt = 19 ∨ (f 8).toInt + 1 ≤ z196.toInt from by omega), (show Q5 (a 5) from hq5), (show R_t2_mark sn sb tb p0 f a (upd f 8 z196) a v148 from (Or.inl (Or.inl ⟨nc1, z3, ez3, v5, e6, Or.inr ⟨nc7, Or.inr ⟨nc9, z101, ez101, v103, e108, Or.inl ⟨nc109, z112, ez112, v114, e119, Or.inr ⟨nc120, v148, e149, Or.inr ⟨nc150, z177, ez177, v179, e184, Or.inr ⟨nc185, v191, e192, Or.inl ⟨nc193, z196, ez196, rfl, rfl, rfl⟩⟩⟩⟩⟩⟩⟩⟩)))⟩) d_Tok_mark_131
                · have nc193 : ¬ v191.toInt ≤ (0 : Int) := mt (i_le (x := v191) (y := 0)).mpr c193
                  refine lv_iload S.x S.b d_Tok_mark_114 (lv_at hl 0 rfl) ?_
                  refine lv_istore_n (lv' := [(2, .int v191), (5, .int v191), (3, .int 2), (4, .int v148), (0, .ref h), (1, .int p0)]) S.x S.b d_Tok_mark_116 rfl hl (by decide) rfl (fun ls hl => ?_)
                  obtain ⟨z197, ez197⟩ : ∃ y : Int32, y = 2 + 1 := ⟨_, rfl⟩
                  have tz197 : z197.toInt = ((2 : Int) + 1 + 2147483648) % 4294967296 - 2147483648 := by rw [ez197]; exact i_add 2 1
                  have lz197 := Int32.le_toInt z197
                  have uz197 := Int32.toInt_lt z197
                  try replace tz197 : z197.toInt = (2 : Int) + 1 := by omega
                  refine lv_iinc (v := z197) (lv' := [(3, .int z197), (2, .int v191), (5, .int v191), (4, .int v148), (0, .ref h), (1, .int p0)]) S.x S.b d_Tok_mark_117 hl (k := 2) rfl (by rw [ez197]; rfl) (by decide) rfl (fun ls hl => ?_)
                  refine lv_aload_n S.x S.b d_Tok_mark_120 rfl (lv_at hl 4 rfl) ?_
                  refine lv_dup S.x S.b d_Tok_mark_121 rfl ?_
                  refine px_get S k_Tok hT hw 0 0 8 (v := .int (f 8)) rfl rfl rfl (by decide) m1_111 d_Tok_mark_122 ?_
                  refine lv_iload_n S.x S.b d_Tok_mark_125 rfl (lv_at hl 0 rfl) ?_
                  refine lv_iadd S.x S.b d_Tok_mark_126 ?_
                  have lr198 := Int32.le_toInt (f 8)
                  have ur198 := Int32.toInt_lt (f 8)
                  refine lv_topi (fun z199 ez199 => ?_)
                  have tz199 : z199.toInt = ((f 8).toInt + z197.toInt + 2147483648) % 4294967296 - 2147483648 := by rw [ez199]; exact i_add (f 8) z197
                  have lz199 := Int32.le_toInt z199
                  have uz199 := Int32.toInt_lt z199
                  try replace tz199 : z199.toInt = (f 8).toInt + z197.toInt := by omega
                  refine px_put S k_Tok hT hw 0 0 8 rfl rfl (by decide) m1_111 rfl rfl rfl (Nat.le_of_ble_eq_true rfl) d_Tok_mark_127 (w' := wd_Tok cs h r (fun _ => some tp) (upd f 8 z199) a g) (ps' := [wd_Tok cs h r (fun _ => some tp) (upd f 8 z199) a g, [(tp, .inl (cs 1, 2048, .inl tb))]]) rfl rfl (fun H locs hw => ?_)
                  refine lv_iload_n S.x S.b d_Tok_mark_130 rfl (lv_at hl 1 rfl) ?_
                  first | exact px_iret (v := v191) S hr rfl hlk hAe hw (Nat.le_of_ble_eq_true rfl) (Nat.le_of_ble_eq_true rfl) (⟨(upd f 8 z199), a, rfl, (show TokOk (f 7) z199 (f 10) (f 11) (f 12) (f 13) (f 17) (a 4) from ⟨⟨o1, o2⟩, ⟨(oz_5872ca9df2 tz199 g1 tz197), (oz_0136642c8e g2 tz199 tz197)⟩, ⟨o5, o6⟩, ⟨o7, o8⟩, ⟨o9, o10⟩, ⟨o11, o12⟩, o13, hn4⟩), (show (f 7).toInt = (f 7).toInt from rfl), (show (f 10).toInt = (f 10).toInt from rfl), (show (f 15).toInt = (f 15).toInt from rfl), (show v191.toInt = 19 ∨ (f 8).toInt + 1 ≤ z199.toInt from by omega), (show Q5 (a 5) from hq5), (show R_t2_mark sn sb tb p0 f a (upd f 8 z199) a v191 from (Or.inl (Or.inl ⟨nc1, z3, ez3, v5, e6, Or.inr ⟨nc7, Or.inr ⟨nc9, z101, ez101, v103, e108, Or.inl ⟨nc109, z112, ez112, v114, e119, Or.inr ⟨nc120, v148, e149, Or.inr ⟨nc150, z177, ez177, v179, e184, Or.inr ⟨nc185, v191, e192, Or.inr ⟨nc193, z197, ez197, z199, ez199, rfl, rfl, rfl⟩⟩⟩⟩⟩⟩⟩⟩)))⟩) d_Tok_mark_131 | exact px_iret (v := v191) S hr rfl hlk hAe hw (Nat.le_of_ble_eq_true rfl) (Nat.le_of_ble_eq_true rfl) (⟨(upd f 8 z199), a, rfl, (show TokOk (f 7) z199 (f 10) (f 11) (f 12) (f 13) (f 17) (a 4) from ⟨⟨by first | exact o1 | omega, by first | exact o2 | omega⟩, ⟨by first | exact oz_5872ca9df2 tz199 g1 tz197 | omega, by first | exact oz_0136642c8e g2 tz199 tz197 | omega⟩, ⟨by first | exact o5 | omega, by first | exact o6 | omega⟩, ⟨by first | exact o7 | omega, by first | exact o8 | omega⟩, ⟨by first | exact o9 | omega, by first | exact o10 | omega⟩, ⟨by first | exact o11 | omega, by first | exact o12 | omega⟩, by first | exact o13 | omega, hn4⟩), (show (f 7).toInt = (f 7).toInt from rfl), (show (f 10).toInt = (f 10).toInt from rfl), (show (f 15).toInt = (f 15).toInt from rfl), (show v191.toInt = 19 ∨ (f 8).toInt + 1 ≤ z199.toInt from by omega), (show Q5 (a 5) from hq5), (show R_t2_mark sn sb tb p0 f a (upd f 8 z199) a v191 from (Or.inl (Or.inl ⟨nc1, z3, ez3, v5, e6, Or.inr ⟨nc7, Or.inr ⟨nc9, z101, ez101, v103, e108, Or.inl ⟨nc109, z112, ez112, v114, e119, Or.inr ⟨nc120, v148, e149, Or.inr ⟨nc150, z177, ez177, v179, e184, Or.inr ⟨nc185, v191, e192, Or.inr ⟨nc193, z197, ez197, z199, ez199, rfl, rfl, rfl⟩⟩⟩⟩⟩⟩⟩⟩)))⟩) d_Tok_mark_131
        · have nc109 : v103.toInt = (42 : Int) := (i_eq (x := v103) (y := 42)).mp c109
          refine lv_bipush (v := 19) S.x S.b d_Tok_mark_47 (by decide) ?_
          first | exact px_iret (v := 19) S hr rfl hlk hAe hw (Nat.le_of_ble_eq_true rfl) (Nat.le_of_ble_eq_true rfl) (⟨f, a, rfl, (show TokOk (f 7) (f 8) (f 10) (f 11) (f 12) (f 13) (f 17) (a 4) from ⟨⟨o1, o2⟩, ⟨g1, o4⟩, ⟨o5, o6⟩, ⟨o7, o8⟩, ⟨o9, o10⟩, ⟨o11, o12⟩, o13, hn4⟩), (show (f 7).toInt = (f 7).toInt from rfl), (show (f 10).toInt = (f 10).toInt from rfl), (show (f 15).toInt = (f 15).toInt from rfl), (show (19 : Int) = 19 ∨ (f 8).toInt + 1 ≤ (f 8).toInt from by omega), (show Q5 (a 5) from hq5), (show R_t2_mark sn sb tb p0 f a f a (19 : Int32) from (Or.inl (Or.inl ⟨nc1, z3, ez3, v5, e6, Or.inr ⟨nc7, Or.inr ⟨nc9, z101, ez101, v103, e108, Or.inr ⟨nc109, rfl, rfl, rfl⟩⟩⟩⟩)))⟩) d_Tok_mark_49 | exact px_iret (v := 19) S hr rfl hlk hAe hw (Nat.le_of_ble_eq_true rfl) (Nat.le_of_ble_eq_true rfl) (⟨f, a, rfl, (show TokOk (f 7) (f 8) (f 10) (f 11) (f 12) (f 13) (f 17) (a 4) from ⟨⟨by first | exact o1 | omega, by first | exact o2 | omega⟩, ⟨by first | exact g1 | omega, by first | exact o4 | omega⟩, ⟨by first | exact o5 | omega, by first | exact o6 | omega⟩, ⟨by first | exact o7 | omega, by first | exact o8 | omega⟩, ⟨by first | exact o9 | omega, by first | exact o10 | omega⟩, ⟨by first | exact o11 | omega, by first | exact o12 | omega⟩, by first | exact o13 | omega, hn4⟩), (show (f 7).toInt = (f 7).toInt from rfl), (show (f 10).toInt = (f 10).toInt from rfl), (show (f 15).toInt = (f 15).toInt from rfl), (show (19 : Int) = 19 ∨ (f 8).toInt + 1 ≤ (f 8).toInt from by omega), (show Q5 (a 5) from hq5), (show R_t2_mark sn sb tb p0 f a f a (19 : Int32) from (Or.inl (Or.inl ⟨nc1, z3, ez3, v5, e6, Or.inr ⟨nc7, Or.inr ⟨nc9, z101, ez101, v103, e108, Or.inr ⟨nc109, rfl, rfl, rfl⟩⟩⟩⟩)))⟩) d_Tok_mark_49
  · have nc1 : p0.toInt = (61 : Int) := (i_eq (x := p0) (y := 61)).mp c1
    refine lv_sipush (v := 256) S.x S.b d_Tok_mark_6 (by decide) ?_
    refine lv_goto (tgt := 13) S.x S.b d_Tok_mark_9 (by decide) ?_
    refine lv_istore_n (lv' := [(2, .int 256), (0, .ref h), (1, .int p0)]) S.x S.b d_Tok_mark_13 rfl hl (by decide) rfl (fun ls hl => ?_)
    refine lv_iconst (v := 1) S.x S.b d_Tok_mark_14 (by decide) ?_
    refine lv_istore_n (lv' := [(3, .int 1), (2, .int 256), (0, .ref h), (1, .int p0)]) S.x S.b d_Tok_mark_15 rfl hl (by decide) rfl (fun ls hl => ?_)
    refine va_ldcS S.x S.b S.own hL d_Tok_mark_16 ?_
    refine lv_iload_n S.x S.b d_Tok_mark_18 rfl (lv_at hl 3 rfl) ?_
    refine lv_i2c S.x S.b d_Tok_mark_19 rfl ?_
    refine lv_topi (fun z200 ez200 => ?_)
    have lz200 := Int32.le_toInt z200
    have uz200 := Int32.toInt_lt z200
    first | refine px_calli (pr := [wd_Tok cs h r (fun _ => some tp) f a g, [(tp, .inl (cs 1, 2048, .inl tb))]]) (px_runV (As := [.int z200]) (rest := []) S (c_String_indexOf1 l D cs sk st sn sb z200  (show sn ≤ 1000000 from g0) _) hT (pr := [wd_Tok cs h r (fun _ => some tp) f a g, [(tp, .inl (cs 1, 2048, .inl tb))]]) (pcs := []) hw (oX_call (P := (fun A U H => (oZ A U H) ∧ (oS A sk st sn sb U H))) (pr := [wd_Tok cs h r (fun _ => some tp) f a g, [(tp, .inl (cs 1, 2048, .inl tb))]]) (oG_and oG_Z oG_S) hw hA ⟨hZ, hS⟩) (oS_recv hw hS) m4_10 m4_7 m4_8 m4_9 m1_3 q_String_indexOf2 ⟨Nat.le_of_ble_eq_true rfl, Nat.le_of_ble_eq_true rfl⟩ hl.1 rfl (Nat.le_of_ble_eq_true rfl) d_Tok_mark_20 ⟨Nat.le_of_ble_eq_true rfl, Nat.le_of_ble_eq_true rfl⟩) hw hA (fun v202 p201 H locs hp201 hw => ?_) | refine px_calli (pr := [wd_Tok cs h r (fun _ => some tp) f a g, [(tp, .inl (cs 1, 2048, .inl tb))]]) (px_runV (As := [.int z200]) (rest := []) S (c_String_indexOf1 l D cs sk st sn sb z200  (show sn ≤ 1000000 from by first | exact g0 | omega) _) hT (pr := [wd_Tok cs h r (fun _ => some tp) f a g, [(tp, .inl (cs 1, 2048, .inl tb))]]) (pcs := []) hw (oX_call (P := (fun A U H => (oZ A U H) ∧ (oS A sk st sn sb U H))) (pr := [wd_Tok cs h r (fun _ => some tp) f a g, [(tp, .inl (cs 1, 2048, .inl tb))]]) (oG_and oG_Z oG_S) hw hA ⟨hZ, hS⟩) (oS_recv hw hS) m4_10 m4_7 m4_8 m4_9 m1_3 q_String_indexOf2 ⟨Nat.le_of_ble_eq_true rfl, Nat.le_of_ble_eq_true rfl⟩ hl.1 rfl (Nat.le_of_ble_eq_true rfl) d_Tok_mark_20 ⟨Nat.le_of_ble_eq_true rfl, Nat.le_of_ble_eq_true rfl⟩) hw hA (fun v202 p201 H locs hp201 hw => ?_)
    obtain ⟨rfl, e203⟩ := hp201
    have e203 : R_String_indexOf1 sn sb z200 v202 := e203
    have lv202 := Int32.le_toInt v202
    have uv202 := Int32.toInt_lt v202
    refine lv_if_lt (tgt := 47) S.x S.b d_Tok_mark_23 (by decide) (fun c204 => ?_) (fun c204 => ?_)
    · have nc204 : v202.toInt < (0 : Int) := (i_lt (x := v202) (y := 0)).mp c204
      refine lv_bipush (v := 19) S.x S.b d_Tok_mark_47 (by decide) ?_
      first | exact px_iret (v := 19) S hr rfl hlk hAe hw (Nat.le_of_ble_eq_true rfl) (Nat.le_of_ble_eq_true rfl) (⟨f, a, rfl, (show TokOk (f 7) (f 8) (f 10) (f 11) (f 12) (f 13) (f 17) (a 4) from ⟨⟨o1, o2⟩, ⟨g1, o4⟩, ⟨o5, o6⟩, ⟨o7, o8⟩, ⟨o9, o10⟩, ⟨o11, o12⟩, o13, hn4⟩), (show (f 7).toInt = (f 7).toInt from rfl), (show (f 10).toInt = (f 10).toInt from rfl), (show (f 15).toInt = (f 15).toInt from rfl), (show (19 : Int) = 19 ∨ (f 8).toInt + 1 ≤ (f 8).toInt from by omega), (show Q5 (a 5) from hq5), (show R_t2_mark sn sb tb p0 f a f a (19 : Int32) from (Or.inl (Or.inr ⟨nc1, z200, ez200, v202, e203, Or.inl ⟨nc204, rfl, rfl, rfl⟩⟩)))⟩) d_Tok_mark_49 | exact px_iret (v := 19) S hr rfl hlk hAe hw (Nat.le_of_ble_eq_true rfl) (Nat.le_of_ble_eq_true rfl) (⟨f, a, rfl, (show TokOk (f 7) (f 8) (f 10) (f 11) (f 12) (f 13) (f 17) (a 4) from ⟨⟨by first | exact o1 | omega, by first | exact o2 | omega⟩, ⟨by first | exact g1 | omega, by first | exact o4 | omega⟩, ⟨by first | exact o5 | omega, by first | exact o6 | omega⟩, ⟨by first | exact o7 | omega, by first | exact o8 | omega⟩, ⟨by first | exact o9 | omega, by first | exact o10 | omega⟩, ⟨by first | exact o11 | omega, by first | exact o12 | omega⟩, by first | exact o13 | omega, hn4⟩), (show (f 7).toInt = (f 7).toInt from rfl), (show (f 10).toInt = (f 10).toInt from rfl), (show (f 15).toInt = (f 15).toInt from rfl), (show (19 : Int) = 19 ∨ (f 8).toInt + 1 ≤ (f 8).toInt from by omega), (show Q5 (a 5) from hq5), (show R_t2_mark sn sb tb p0 f a f a (19 : Int32) from (Or.inl (Or.inr ⟨nc1, z200, ez200, v202, e203, Or.inl ⟨nc204, rfl, rfl, rfl⟩⟩)))⟩) d_Tok_mark_49
    · have nc204 : ¬ v202.toInt < (0 : Int) := mt (i_lt (x := v202) (y := 0)).mpr c204
      refine lv_iload_n S.x S.b d_Tok_mark_26 rfl (lv_at hl 3 rfl) ?_
      refine lv_bipush (v := 47) S.x S.b d_Tok_mark_27 (by decide) ?_
      refine lv_icmp_ne (tgt := 50) S.x S.b d_Tok_mark_29 (by decide) (fun c206 => ?_) (fun c206 => ?_)
      · have nc206 : ¬ p0.toInt = (47 : Int) := mt (i_eq (x := p0) (y := 47)).mpr c206
        refine lv_aload_n S.x S.b d_Tok_mark_50 rfl (lv_at hl 2 rfl) ?_
        refine lv_aload_n S.x S.b d_Tok_mark_51 rfl (lv_at hl 2 rfl) ?_
        refine px_get S k_Tok hT hw 0 0 8 (v := .int (f 8)) rfl rfl rfl (by decide) m1_111 d_Tok_mark_52 ?_
        refine lv_iconst (v := 1) S.x S.b d_Tok_mark_55 (by decide) ?_
        refine lv_iadd S.x S.b d_Tok_mark_56 ?_
        have lr208 := Int32.le_toInt (f 8)
        have ur208 := Int32.toInt_lt (f 8)
        refine lv_topi (fun z209 ez209 => ?_)
        have tz209 : z209.toInt = ((f 8).toInt + (1 : Int) + 2147483648) % 4294967296 - 2147483648 := by rw [ez209]; exact i_add (f 8) 1
        have lz209 := Int32.le_toInt z209
        have uz209 := Int32.toInt_lt z209
        try replace tz209 : z209.toInt = (f 8).toInt + (1 : Int) := by omega
        first | refine px_calli (pr := []) (px_runV (As := [.int z209]) (rest := []) S (c_t2_byteAt l D cs h r tp tb g f a z209  (show TokOk (f 7) (f 8) (f 10) (f 11) (f 12) (f 13) (f 17) (a 4) from ⟨⟨o1, o2⟩, ⟨g1, o4⟩, ⟨o5, o6⟩, ⟨o7, o8⟩, ⟨o9, o10⟩, ⟨o11, o12⟩, o13, hn4⟩) _) hT (pr := []) (pcs := [wd_Tok cs h r (fun _ => some tp) f a g, [(tp, .inl (cs 1, 2048, .inl tb))]]) hw px_X.tt (px_recv hT hw 0 0 rfl rfl rfl) m3_186 m3_183 m3_185 ms_1_6 m1_2 q_Tok_byteAt ⟨Nat.le_of_ble_eq_true rfl, Nat.le_of_ble_eq_true rfl⟩ hl.1 rfl (Nat.le_of_ble_eq_true rfl) d_Tok_mark_57 ⟨Nat.le_of_ble_eq_true rfl, Nat.le_of_ble_eq_true rfl⟩) hw hA (fun v211 p210 H locs hp210 hw => ?_) | refine px_calli (pr := []) (px_runV (As := [.int z209]) (rest := []) S (c_t2_byteAt l D cs h r tp tb g f a z209  (show TokOk (f 7) (f 8) (f 10) (f 11) (f 12) (f 13) (f 17) (a 4) from ⟨⟨by first | exact o1 | omega, by first | exact o2 | omega⟩, ⟨by first | exact g1 | omega, by first | exact o4 | omega⟩, ⟨by first | exact o5 | omega, by first | exact o6 | omega⟩, ⟨by first | exact o7 | omega, by first | exact o8 | omega⟩, ⟨by first | exact o9 | omega, by first | exact o10 | omega⟩, ⟨by first | exact o11 | omega, by first | exact o12 | omega⟩, by first | exact o13 | omega, hn4⟩) _) hT (pr := []) (pcs := [wd_Tok cs h r (fun _ => some tp) f a g, [(tp, .inl (cs 1, 2048, .inl tb))]]) hw px_X.tt (px_recv hT hw 0 0 rfl rfl rfl) m3_186 m3_183 m3_185 ms_1_6 m1_2 q_Tok_byteAt ⟨Nat.le_of_ble_eq_true rfl, Nat.le_of_ble_eq_true rfl⟩ hl.1 rfl (Nat.le_of_ble_eq_true rfl) d_Tok_mark_57 ⟨Nat.le_of_ble_eq_true rfl, Nat.le_of_ble_eq_true rfl⟩) hw hA (fun v211 p210 H locs hp210 hw => ?_)
        obtain ⟨rfl, e212, e213, e214, e215, e216⟩ := hp210
        have e212 : -1 ≤ v211.toInt := e212
        have e213 : v211.toInt ≤ 255 := e213
        have e214 : 0 ≤ v211.toInt → 0 ≤ z209.toInt ∧ z209.toInt < (f 7).toInt := e214
        have e215 : By tb (f 7) z209 v211 := e215
        have e216 : R_t2_byteAt tb f z209 v211 := e216
        have lv211 := Int32.le_toInt v211
        have uv211 := Int32.toInt_lt v211
        refine lv_iload_n S.x S.b d_Tok_mark_60 rfl (lv_at hl 3 rfl) ?_
        refine lv_icmp_ne (tgt := 71) S.x S.b d_Tok_mark_61 (by decide) (fun c217 => ?_) (fun c217 => ?_)
        · have nc217 : ¬ v211.toInt = p0.toInt := mt (i_eq (x := v211) (y := p0)).mpr c217
          refine lv_iconst (v := 0) S.x S.b d_Tok_mark_71 (by decide) ?_
          refine lv_istore (lv' := [(4, .int 0), (3, .int 1), (2, .int 256), (0, .ref h), (1, .int p0)]) S.x S.b d_Tok_mark_72 hl (by decide) rfl (fun ls hl => ?_)
          refine lv_iload S.x S.b d_Tok_mark_74 (lv_at hl 0 rfl) ?_
          refine lv_if_le (tgt := 84) S.x S.b d_Tok_mark_76 (by decide) (fun c219 => ?_) (fun c219 => ?_)
          ·
            refine lv_aload_n S.x S.b d_Tok_mark_84 rfl (lv_at hl 3 rfl) ?_
            refine lv_aload_n S.x S.b d_Tok_mark_85 rfl (lv_at hl 3 rfl) ?_
            refine px_get S k_Tok hT hw 0 0 8 (v := .int (f 8)) rfl rfl rfl (by decide) m1_111 d_Tok_mark_86 ?_
            refine lv_iload_n S.x S.b d_Tok_mark_89 rfl (lv_at hl 1 rfl) ?_
            refine lv_iadd S.x S.b d_Tok_mark_90 ?_
            have lr220 := Int32.le_toInt (f 8)
            have ur220 := Int32.toInt_lt (f 8)
            refine lv_topi (fun z221 ez221 => ?_)
            have tz221 : z221.toInt = ((f 8).toInt + (1 : Int) + 2147483648) % 4294967296 - 2147483648 := by rw [ez221]; exact i_add (f 8) 1
            have lz221 := Int32.le_toInt z221
            have uz221 := Int32.toInt_lt z221
            try replace tz221 : z221.toInt = (f 8).toInt + (1 : Int) := by omega
            first | refine px_calli (pr := []) (px_runV (As := [.int z221]) (rest := []) S (c_t2_byteAt l D cs h r tp tb g f a z221  (show TokOk (f 7) (f 8) (f 10) (f 11) (f 12) (f 13) (f 17) (a 4) from ⟨⟨o1, o2⟩, ⟨g1, o4⟩, ⟨o5, o6⟩, ⟨o7, o8⟩, ⟨o9, o10⟩, ⟨o11, o12⟩, o13, hn4⟩) _) hT (pr := []) (pcs := [wd_Tok cs h r (fun _ => some tp) f a g, [(tp, .inl (cs 1, 2048, .inl tb))]]) hw px_X.tt (px_recv hT hw 0 0 rfl rfl rfl) m3_186 m3_183 m3_185 ms_1_6 m1_2 q_Tok_byteAt ⟨Nat.le_of_ble_eq_true rfl, Nat.le_of_ble_eq_true rfl⟩ hl.1 rfl (Nat.le_of_ble_eq_true rfl) d_Tok_mark_91 ⟨Nat.le_of_ble_eq_true rfl, Nat.le_of_ble_eq_true rfl⟩) hw hA (fun v223 p222 H locs hp222 hw => ?_) | refine px_calli (pr := []) (px_runV (As := [.int z221]) (rest := []) S (c_t2_byteAt l D cs h r tp tb g f a z221  (show TokOk (f 7) (f 8) (f 10) (f 11) (f 12) (f 13) (f 17) (a 4) from ⟨⟨by first | exact o1 | omega, by first | exact o2 | omega⟩, ⟨by first | exact g1 | omega, by first | exact o4 | omega⟩, ⟨by first | exact o5 | omega, by first | exact o6 | omega⟩, ⟨by first | exact o7 | omega, by first | exact o8 | omega⟩, ⟨by first | exact o9 | omega, by first | exact o10 | omega⟩, ⟨by first | exact o11 | omega, by first | exact o12 | omega⟩, by first | exact o13 | omega, hn4⟩) _) hT (pr := []) (pcs := [wd_Tok cs h r (fun _ => some tp) f a g, [(tp, .inl (cs 1, 2048, .inl tb))]]) hw px_X.tt (px_recv hT hw 0 0 rfl rfl rfl) m3_186 m3_183 m3_185 ms_1_6 m1_2 q_Tok_byteAt ⟨Nat.le_of_ble_eq_true rfl, Nat.le_of_ble_eq_true rfl⟩ hl.1 rfl (Nat.le_of_ble_eq_true rfl) d_Tok_mark_91 ⟨Nat.le_of_ble_eq_true rfl, Nat.le_of_ble_eq_true rfl⟩) hw hA (fun v223 p222 H locs hp222 hw => ?_)
            obtain ⟨rfl, e224, e225, e226, e227, e228⟩ := hp222
            have e224 : -1 ≤ v223.toInt := e224
            have e225 : v223.toInt ≤ 255 := e225
            have e226 : 0 ≤ v223.toInt → 0 ≤ z221.toInt ∧ z221.toInt < (f 7).toInt := e226
            have e227 : By tb (f 7) z221 v223 := e227
            have e228 : R_t2_byteAt tb f z221 v223 := e228
            have lv223 := Int32.le_toInt v223
            have uv223 := Int32.toInt_lt v223
            refine lv_bipush (v := 61) S.x S.b d_Tok_mark_94 (by decide) ?_
            refine lv_icmp_ne (tgt := 106) S.x S.b d_Tok_mark_96 (by decide) (fun c229 => ?_) (fun c229 => ?_)
            · have nc229 : ¬ v223.toInt = (61 : Int) := mt (i_eq (x := v223) (y := 61)).mpr c229
              refine lv_iconst (v := 0) S.x S.b d_Tok_mark_106 (by decide) ?_
              refine lv_istore (lv' := [(5, .int 0), (4, .int 0), (3, .int 1), (2, .int 256), (0, .ref h), (1, .int p0)]) S.x S.b d_Tok_mark_107 hl (by decide) rfl (fun ls hl => ?_)
              refine lv_iload S.x S.b d_Tok_mark_109 (lv_at hl 0 rfl) ?_
              refine lv_if_le (tgt := 120) S.x S.b d_Tok_mark_111 (by decide) (fun c231 => ?_) (fun c231 => ?_)
              ·
                refine lv_aload_n S.x S.b d_Tok_mark_120 rfl (lv_at hl 4 rfl) ?_
                refine lv_dup S.x S.b d_Tok_mark_121 rfl ?_
                refine px_get S k_Tok hT hw 0 0 8 (v := .int (f 8)) rfl rfl rfl (by decide) m1_111 d_Tok_mark_122 ?_
                refine lv_iload_n S.x S.b d_Tok_mark_125 rfl (lv_at hl 2 rfl) ?_
                refine lv_iadd S.x S.b d_Tok_mark_126 ?_
                have lr232 := Int32.le_toInt (f 8)
                have ur232 := Int32.toInt_lt (f 8)
                refine lv_topi (fun z233 ez233 => ?_)
                have tz233 : z233.toInt = ((f 8).toInt + (1 : Int) + 2147483648) % 4294967296 - 2147483648 := by rw [ez233]; exact i_add (f 8) 1
                have lz233 := Int32.le_toInt z233
                have uz233 := Int32.toInt_lt z233
                try replace tz233 : z233.toInt = (f 8).toInt + (1 : Int) := by omega
                refine px_put S k_Tok hT hw 0 0 8 rfl rfl (by decide) m1_111 rfl rfl rfl (Nat.le_of_ble_eq_true rfl) d_Tok_mark_127 (w' := wd_Tok cs h r (fun _ => some tp) (upd f 8 z233) a g) (ps' := [wd_Tok cs h r (fun _ => some tp) (upd f 8 z233) a g, [(tp, .inl (cs 1, 2048, .inl tb))]]) rfl rfl (fun H locs hw => ?_)
                refine lv_iload_n S.x S.b d_Tok_mark_130 rfl (lv_at hl 3 rfl) ?_
                first | exact px_iret (v := 256) S hr rfl hlk hAe hw (Nat.le_of_ble_eq_true rfl) (Nat.le_of_ble_eq_true rfl) (⟨(upd f 8 z233), a, rfl, (show TokOk (f 7) z233 (f 10) (f 11) (f 12) (f 13) (f 17) (a 4) from ⟨⟨o1, o2⟩, ⟨(oz_b3b25f0e49 tz233 g1), (oz_8964937ede g2 tz233)⟩, ⟨o5, o6⟩, ⟨o7, o8⟩, ⟨o9, o10⟩, ⟨o11, o12⟩, o13, hn4⟩), (show (f 7).toInt = (f 7).toInt from rfl), (show (f 10).toInt = (f 10).toInt from rfl), (show (f 15).toInt = (f 15).toInt from rfl), (show (256 : Int) = 19 ∨ (f 8).toInt + 1 ≤ z233.toInt from by omega), (show Q5 (a 5) from hq5), (show R_t2_mark sn sb tb p0 f a (upd f 8 z233) a (256 : Int32) from (Or.inl (Or.inr ⟨nc1, z200, ez200, v202, e203, Or.inr ⟨nc204, Or.inl ⟨nc206, z209, ez209, v211, e216, Or.inl ⟨nc217, z221, ez221, v223, e228, Or.inl ⟨nc229, z233, ez233, rfl, rfl, rfl⟩⟩⟩⟩⟩)))⟩) d_Tok_mark_131 | exact px_iret (v := 256) S hr rfl hlk hAe hw (Nat.le_of_ble_eq_true rfl) (Nat.le_of_ble_eq_true rfl) (⟨(upd f 8 z233), a, rfl, (show TokOk (f 7) z233 (f 10) (f 11) (f 12) (f 13) (f 17) (a 4) from ⟨⟨by first | exact o1 | omega, by first | exact o2 | omega⟩, ⟨by first | exact oz_b3b25f0e49 tz233 g1 | omega, by first | exact oz_8964937ede g2 tz233 | omega⟩, ⟨by first | exact o5 | omega, by first | exact o6 | omega⟩, ⟨by first | exact o7 | omega, by first | exact o8 | omega⟩, ⟨by first | exact o9 | omega, by first | exact o10 | omega⟩, ⟨by first | exact o11 | omega, by first | exact o12 | omega⟩, by first | exact o13 | omega, hn4⟩), (show (f 7).toInt = (f 7).toInt from rfl), (show (f 10).toInt = (f 10).toInt from rfl), (show (f 15).toInt = (f 15).toInt from rfl), (show (256 : Int) = 19 ∨ (f 8).toInt + 1 ≤ z233.toInt from by omega), (show Q5 (a 5) from hq5), (show R_t2_mark sn sb tb p0 f a (upd f 8 z233) a (256 : Int32) from (Or.inl (Or.inr ⟨nc1, z200, ez200, v202, e203, Or.inr ⟨nc204, Or.inl ⟨nc206, z209, ez209, v211, e216, Or.inl ⟨nc217, z221, ez221, v223, e228, Or.inl ⟨nc229, z233, ez233, rfl, rfl, rfl⟩⟩⟩⟩⟩)))⟩) d_Tok_mark_131
              · exact absurd c231 (by decide)
            · have nc229 : v223.toInt = (61 : Int) := (i_eq (x := v223) (y := 61)).mp c229
              refine lv_iload_n S.x S.b d_Tok_mark_99 rfl (lv_at hl 2 rfl) ?_
              refine px_calli (pr := [wd_Tok cs h r (fun _ => some tp) f a g, [(tp, .inl (cs 1, 2048, .inl tb))]]) (px_runS (As := [.int 256]) (rest := []) S (c_t2_withEquals l D cs  256   _) hT (pr := [wd_Tok cs h r (fun _ => some tp) f a g, [(tp, .inl (cs 1, 2048, .inl tb))]]) (pcs := []) hw px_X.tt m4_67 m4_65 m4_66 m1_2 q_Tok_withEquals ⟨Nat.le_of_ble_eq_true rfl, Nat.le_of_ble_eq_true rfl⟩ hl.1 rfl (Nat.le_of_ble_eq_true rfl) d_Tok_mark_100 ⟨Nat.le_of_ble_eq_true rfl, Nat.le_of_ble_eq_true rfl⟩) hw hA (fun v235 p234 H locs hp234 hw => ?_)
              obtain ⟨rfl, e236⟩ := hp234
              have e236 : R_t2_withEquals (256 : Int32) v235 := e236
              have lv235 := Int32.le_toInt v235
              have uv235 := Int32.toInt_lt v235
              refine lv_goto (tgt := 107) S.x S.b d_Tok_mark_103 (by decide) ?_
              refine lv_istore (lv' := [(5, .int v235), (4, .int 0), (3, .int 1), (2, .int 256), (0, .ref h), (1, .int p0)]) S.x S.b d_Tok_mark_107 hl (by decide) rfl (fun ls hl => ?_)
              refine lv_iload S.x S.b d_Tok_mark_109 (lv_at hl 0 rfl) ?_
              refine lv_if_le (tgt := 120) S.x S.b d_Tok_mark_111 (by decide) (fun c237 => ?_) (fun c237 => ?_)
              · have nc237 : v235.toInt ≤ (0 : Int) := (i_le (x := v235) (y := 0)).mp c237
                refine lv_aload_n S.x S.b d_Tok_mark_120 rfl (lv_at hl 4 rfl) ?_
                refine lv_dup S.x S.b d_Tok_mark_121 rfl ?_
                refine px_get S k_Tok hT hw 0 0 8 (v := .int (f 8)) rfl rfl rfl (by decide) m1_111 d_Tok_mark_122 ?_
                refine lv_iload_n S.x S.b d_Tok_mark_125 rfl (lv_at hl 2 rfl) ?_
                refine lv_iadd S.x S.b d_Tok_mark_126 ?_
                have lr239 := Int32.le_toInt (f 8)
                have ur239 := Int32.toInt_lt (f 8)
                refine lv_topi (fun z240 ez240 => ?_)
                have tz240 : z240.toInt = ((f 8).toInt + (1 : Int) + 2147483648) % 4294967296 - 2147483648 := by rw [ez240]; exact i_add (f 8) 1
                have lz240 := Int32.le_toInt z240
                have uz240 := Int32.toInt_lt z240
                try replace tz240 : z240.toInt = (f 8).toInt + (1 : Int) := by omega
                refine px_put S k_Tok hT hw 0 0 8 rfl rfl (by decide) m1_111 rfl rfl rfl (Nat.le_of_ble_eq_true rfl) d_Tok_mark_127 (w' := wd_Tok cs h r (fun _ => some tp) (upd f 8 z240) a g) (ps' := [wd_Tok cs h r (fun _ => some tp) (upd f 8 z240) a g, [(tp, .inl (cs 1, 2048, .inl tb))]]) rfl rfl (fun H locs hw => ?_)
                refine lv_iload_n S.x S.b d_Tok_mark_130 rfl (lv_at hl 3 rfl) ?_
                first | exact px_iret (v := 256) S hr rfl hlk hAe hw (Nat.le_of_ble_eq_true rfl) (Nat.le_of_ble_eq_true rfl) (⟨(upd f 8 z240), a, rfl, (show TokOk (f 7) z240 (f 10) (f 11) (f 12) (f 13) (f 17) (a 4) from ⟨⟨o1, o2⟩, ⟨(oz_b3b25f0e49 tz240 g1), (oz_8964937ede g2 tz240)⟩, ⟨o5, o6⟩, ⟨o7, o8⟩, ⟨o9, o10⟩, ⟨o11, o12⟩, o13, hn4⟩), (show (f 7).toInt = (f 7).toInt from rfl), (show (f 10).toInt = (f 10).toInt from rfl), (show (f 15).toInt = (f 15).toInt from rfl), (show (256 : Int) = 19 ∨ (f 8).toInt + 1 ≤ z240.toInt from by omega), (show Q5 (a 5) from hq5), (show R_t2_mark sn sb tb p0 f a (upd f 8 z240) a (256 : Int32) from (Or.inl (Or.inr ⟨nc1, z200, ez200, v202, e203, Or.inr ⟨nc204, Or.inl ⟨nc206, z209, ez209, v211, e216, Or.inl ⟨nc217, z221, ez221, v223, e228, Or.inr ⟨nc229, v235, e236, Or.inl ⟨nc237, z240, ez240, rfl, rfl, rfl⟩⟩⟩⟩⟩⟩)))⟩) d_Tok_mark_131 | exact px_iret (v := 256) S hr rfl hlk hAe hw (Nat.le_of_ble_eq_true rfl) (Nat.le_of_ble_eq_true rfl) (⟨(upd f 8 z240), a, rfl, (show TokOk (f 7) z240 (f 10) (f 11) (f 12) (f 13) (f 17) (a 4) from ⟨⟨by first | exact o1 | omega, by first | exact o2 | omega⟩, ⟨by first | exact oz_b3b25f0e49 tz240 g1 | omega, by first | exact oz_8964937ede g2 tz240 | omega⟩, ⟨by first | exact o5 | omega, by first | exact o6 | omega⟩, ⟨by first | exact o7 | omega, by first | exact o8 | omega⟩, ⟨by first | exact o9 | omega, by first | exact o10 | omega⟩, ⟨by first | exact o11 | omega, by first | exact o12 | omega⟩, by first | exact o13 | omega, hn4⟩), (show (f 7).toInt = (f 7).toInt from rfl), (show (f 10).toInt = (f 10).toInt from rfl), (show (f 15).toInt = (f 15).toInt from rfl), (show (256 : Int) = 19 ∨ (f 8).toInt + 1 ≤ z240.toInt from by omega), (show Q5 (a 5) from hq5), (show R_t2_mark sn sb tb p0 f a (upd f 8 z240) a (256 : Int32) from (Or.inl (Or.inr ⟨nc1, z200, ez200, v202, e203, Or.inr ⟨nc204, Or.inl ⟨nc206, z209, ez209, v211, e216, Or.inl ⟨nc217, z221, ez221, v223, e228, Or.inr ⟨nc229, v235, e236, Or.inl ⟨nc237, z240, ez240, rfl, rfl, rfl⟩⟩⟩⟩⟩⟩)))⟩) d_Tok_mark_131
              · have nc237 : ¬ v235.toInt ≤ (0 : Int) := mt (i_le (x := v235) (y := 0)).mpr c237
                refine lv_iload S.x S.b d_Tok_mark_114 (lv_at hl 0 rfl) ?_
                refine lv_istore_n (lv' := [(2, .int v235), (5, .int v235), (4, .int 0), (3, .int 1), (0, .ref h), (1, .int p0)]) S.x S.b d_Tok_mark_116 rfl hl (by decide) rfl (fun ls hl => ?_)
                obtain ⟨z241, ez241⟩ : ∃ y : Int32, y = 1 + 1 := ⟨_, rfl⟩
                have tz241 : z241.toInt = ((1 : Int) + 1 + 2147483648) % 4294967296 - 2147483648 := by rw [ez241]; exact i_add 1 1
                have lz241 := Int32.le_toInt z241
                have uz241 := Int32.toInt_lt z241
                try replace tz241 : z241.toInt = (1 : Int) + 1 := by omega
                refine lv_iinc (v := z241) (lv' := [(3, .int z241), (2, .int v235), (5, .int v235), (4, .int 0), (0, .ref h), (1, .int p0)]) S.x S.b d_Tok_mark_117 hl (k := 3) rfl (by rw [ez241]; rfl) (by decide) rfl (fun ls hl => ?_)
                refine lv_aload_n S.x S.b d_Tok_mark_120 rfl (lv_at hl 4 rfl) ?_
                refine lv_dup S.x S.b d_Tok_mark_121 rfl ?_
                refine px_get S k_Tok hT hw 0 0 8 (v := .int (f 8)) rfl rfl rfl (by decide) m1_111 d_Tok_mark_122 ?_
                refine lv_iload_n S.x S.b d_Tok_mark_125 rfl (lv_at hl 0 rfl) ?_
                refine lv_iadd S.x S.b d_Tok_mark_126 ?_
                have lr242 := Int32.le_toInt (f 8)
                have ur242 := Int32.toInt_lt (f 8)
                refine lv_topi (fun z243 ez243 => ?_)
                have tz243 : z243.toInt = ((f 8).toInt + z241.toInt + 2147483648) % 4294967296 - 2147483648 := by rw [ez243]; exact i_add (f 8) z241
                have lz243 := Int32.le_toInt z243
                have uz243 := Int32.toInt_lt z243
                try replace tz243 : z243.toInt = (f 8).toInt + z241.toInt := by omega
                refine px_put S k_Tok hT hw 0 0 8 rfl rfl (by decide) m1_111 rfl rfl rfl (Nat.le_of_ble_eq_true rfl) d_Tok_mark_127 (w' := wd_Tok cs h r (fun _ => some tp) (upd f 8 z243) a g) (ps' := [wd_Tok cs h r (fun _ => some tp) (upd f 8 z243) a g, [(tp, .inl (cs 1, 2048, .inl tb))]]) rfl rfl (fun H locs hw => ?_)
                refine lv_iload_n S.x S.b d_Tok_mark_130 rfl (lv_at hl 1 rfl) ?_
                first | exact px_iret (v := v235) S hr rfl hlk hAe hw (Nat.le_of_ble_eq_true rfl) (Nat.le_of_ble_eq_true rfl) (⟨(upd f 8 z243), a, rfl, (show TokOk (f 7) z243 (f 10) (f 11) (f 12) (f 13) (f 17) (a 4) from ⟨⟨o1, o2⟩, ⟨(oz_0aba5895db tz243 g1 tz241), (oz_034949d2cd g2 tz243 tz241)⟩, ⟨o5, o6⟩, ⟨o7, o8⟩, ⟨o9, o10⟩, ⟨o11, o12⟩, o13, hn4⟩), (show (f 7).toInt = (f 7).toInt from rfl), (show (f 10).toInt = (f 10).toInt from rfl), (show (f 15).toInt = (f 15).toInt from rfl), (show v235.toInt = 19 ∨ (f 8).toInt + 1 ≤ z243.toInt from by omega), (show Q5 (a 5) from hq5), (show R_t2_mark sn sb tb p0 f a (upd f 8 z243) a v235 from (Or.inl (Or.inr ⟨nc1, z200, ez200, v202, e203, Or.inr ⟨nc204, Or.inl ⟨nc206, z209, ez209, v211, e216, Or.inl ⟨nc217, z221, ez221, v223, e228, Or.inr ⟨nc229, v235, e236, Or.inr ⟨nc237, z241, ez241, z243, ez243, rfl, rfl, rfl⟩⟩⟩⟩⟩⟩)))⟩) d_Tok_mark_131 | exact px_iret (v := v235) S hr rfl hlk hAe hw (Nat.le_of_ble_eq_true rfl) (Nat.le_of_ble_eq_true rfl) (⟨(upd f 8 z243), a, rfl, (show TokOk (f 7) z243 (f 10) (f 11) (f 12) (f 13) (f 17) (a 4) from ⟨⟨by first | exact o1 | omega, by first | exact o2 | omega⟩, ⟨by first | exact oz_0aba5895db tz243 g1 tz241 | omega, by first | exact oz_034949d2cd g2 tz243 tz241 | omega⟩, ⟨by first | exact o5 | omega, by first | exact o6 | omega⟩, ⟨by first | exact o7 | omega, by first | exact o8 | omega⟩, ⟨by first | exact o9 | omega, by first | exact o10 | omega⟩, ⟨by first | exact o11 | omega, by first | exact o12 | omega⟩, by first | exact o13 | omega, hn4⟩), (show (f 7).toInt = (f 7).toInt from rfl), (show (f 10).toInt = (f 10).toInt from rfl), (show (f 15).toInt = (f 15).toInt from rfl), (show v235.toInt = 19 ∨ (f 8).toInt + 1 ≤ z243.toInt from by omega), (show Q5 (a 5) from hq5), (show R_t2_mark sn sb tb p0 f a (upd f 8 z243) a v235 from (Or.inl (Or.inr ⟨nc1, z200, ez200, v202, e203, Or.inr ⟨nc204, Or.inl ⟨nc206, z209, ez209, v211, e216, Or.inl ⟨nc217, z221, ez221, v223, e228, Or.inr ⟨nc229, v235, e236, Or.inr ⟨nc237, z241, ez241, z243, ez243, rfl, rfl, rfl⟩⟩⟩⟩⟩⟩)))⟩) d_Tok_mark_131
          · exact absurd c219 (by decide)
        · have nc217 : v211.toInt = p0.toInt := (i_eq (x := v211) (y := p0)).mp c217
          refine lv_iload_n S.x S.b d_Tok_mark_64 rfl (lv_at hl 3 rfl) ?_
          refine px_calli (pr := [wd_Tok cs h r (fun _ => some tp) f a g, [(tp, .inl (cs 1, 2048, .inl tb))]]) (px_runS (As := [.int p0]) (rest := []) S (c_t2_doubled l D cs  p0   _) hT (pr := [wd_Tok cs h r (fun _ => some tp) f a g, [(tp, .inl (cs 1, 2048, .inl tb))]]) (pcs := []) hw px_X.tt m4_64 m4_62 m4_63 m1_2 q_Tok_doubled ⟨Nat.le_of_ble_eq_true rfl, Nat.le_of_ble_eq_true rfl⟩ hl.1 rfl (Nat.le_of_ble_eq_true rfl) d_Tok_mark_65 ⟨Nat.le_of_ble_eq_true rfl, Nat.le_of_ble_eq_true rfl⟩) hw hA (fun v245 p244 H locs hp244 hw => ?_)
          obtain ⟨rfl, e246⟩ := hp244
          have e246 : R_t2_doubled p0 v245 := e246
          have lv245 := Int32.le_toInt v245
          have uv245 := Int32.toInt_lt v245
          refine lv_goto (tgt := 72) S.x S.b d_Tok_mark_68 (by decide) ?_
          refine lv_istore (lv' := [(4, .int v245), (3, .int 1), (2, .int 256), (0, .ref h), (1, .int p0)]) S.x S.b d_Tok_mark_72 hl (by decide) rfl (fun ls hl => ?_)
          refine lv_iload S.x S.b d_Tok_mark_74 (lv_at hl 0 rfl) ?_
          refine lv_if_le (tgt := 84) S.x S.b d_Tok_mark_76 (by decide) (fun c247 => ?_) (fun c247 => ?_)
          · have nc247 : v245.toInt ≤ (0 : Int) := (i_le (x := v245) (y := 0)).mp c247
            refine lv_aload_n S.x S.b d_Tok_mark_84 rfl (lv_at hl 3 rfl) ?_
            refine lv_aload_n S.x S.b d_Tok_mark_85 rfl (lv_at hl 3 rfl) ?_
            refine px_get S k_Tok hT hw 0 0 8 (v := .int (f 8)) rfl rfl rfl (by decide) m1_111 d_Tok_mark_86 ?_
            refine lv_iload_n S.x S.b d_Tok_mark_89 rfl (lv_at hl 1 rfl) ?_
            refine lv_iadd S.x S.b d_Tok_mark_90 ?_
            have lr249 := Int32.le_toInt (f 8)
            have ur249 := Int32.toInt_lt (f 8)
            refine lv_topi (fun z250 ez250 => ?_)
            have tz250 : z250.toInt = ((f 8).toInt + (1 : Int) + 2147483648) % 4294967296 - 2147483648 := by rw [ez250]; exact i_add (f 8) 1
            have lz250 := Int32.le_toInt z250
            have uz250 := Int32.toInt_lt z250
            try replace tz250 : z250.toInt = (f 8).toInt + (1 : Int) := by omega
            first | refine px_calli (pr := []) (px_runV (As := [.int z250]) (rest := []) S (c_t2_byteAt l D cs h r tp tb g f a z250  (show TokOk (f 7) (f 8) (f 10) (f 11) (f 12) (f 13) (f 17) (a 4) from ⟨⟨o1, o2⟩, ⟨g1, o4⟩, ⟨o5, o6⟩, ⟨o7, o8⟩, ⟨o9, o10⟩, ⟨o11, o12⟩, o13, hn4⟩) _) hT (pr := []) (pcs := [wd_Tok cs h r (fun _ => some tp) f a g, [(tp, .inl (cs 1, 2048, .inl tb))]]) hw px_X.tt (px_recv hT hw 0 0 rfl rfl rfl) m3_186 m3_183 m3_185 ms_1_6 m1_2 q_Tok_byteAt ⟨Nat.le_of_ble_eq_true rfl, Nat.le_of_ble_eq_true rfl⟩ hl.1 rfl (Nat.le_of_ble_eq_true rfl) d_Tok_mark_91 ⟨Nat.le_of_ble_eq_true rfl, Nat.le_of_ble_eq_true rfl⟩) hw hA (fun v252 p251 H locs hp251 hw => ?_) | refine px_calli (pr := []) (px_runV (As := [.int z250]) (rest := []) S (c_t2_byteAt l D cs h r tp tb g f a z250  (show TokOk (f 7) (f 8) (f 10) (f 11) (f 12) (f 13) (f 17) (a 4) from ⟨⟨by first | exact o1 | omega, by first | exact o2 | omega⟩, ⟨by first | exact g1 | omega, by first | exact o4 | omega⟩, ⟨by first | exact o5 | omega, by first | exact o6 | omega⟩, ⟨by first | exact o7 | omega, by first | exact o8 | omega⟩, ⟨by first | exact o9 | omega, by first | exact o10 | omega⟩, ⟨by first | exact o11 | omega, by first | exact o12 | omega⟩, by first | exact o13 | omega, hn4⟩) _) hT (pr := []) (pcs := [wd_Tok cs h r (fun _ => some tp) f a g, [(tp, .inl (cs 1, 2048, .inl tb))]]) hw px_X.tt (px_recv hT hw 0 0 rfl rfl rfl) m3_186 m3_183 m3_185 ms_1_6 m1_2 q_Tok_byteAt ⟨Nat.le_of_ble_eq_true rfl, Nat.le_of_ble_eq_true rfl⟩ hl.1 rfl (Nat.le_of_ble_eq_true rfl) d_Tok_mark_91 ⟨Nat.le_of_ble_eq_true rfl, Nat.le_of_ble_eq_true rfl⟩) hw hA (fun v252 p251 H locs hp251 hw => ?_)
            obtain ⟨rfl, e253, e254, e255, e256, e257⟩ := hp251
            have e253 : -1 ≤ v252.toInt := e253
            have e254 : v252.toInt ≤ 255 := e254
            have e255 : 0 ≤ v252.toInt → 0 ≤ z250.toInt ∧ z250.toInt < (f 7).toInt := e255
            have e256 : By tb (f 7) z250 v252 := e256
            have e257 : R_t2_byteAt tb f z250 v252 := e257
            have lv252 := Int32.le_toInt v252
            have uv252 := Int32.toInt_lt v252
            refine lv_bipush (v := 61) S.x S.b d_Tok_mark_94 (by decide) ?_
            refine lv_icmp_ne (tgt := 106) S.x S.b d_Tok_mark_96 (by decide) (fun c258 => ?_) (fun c258 => ?_)
            · have nc258 : ¬ v252.toInt = (61 : Int) := mt (i_eq (x := v252) (y := 61)).mpr c258
              refine lv_iconst (v := 0) S.x S.b d_Tok_mark_106 (by decide) ?_
              refine lv_istore (lv' := [(5, .int 0), (4, .int v245), (3, .int 1), (2, .int 256), (0, .ref h), (1, .int p0)]) S.x S.b d_Tok_mark_107 hl (by decide) rfl (fun ls hl => ?_)
              refine lv_iload S.x S.b d_Tok_mark_109 (lv_at hl 0 rfl) ?_
              refine lv_if_le (tgt := 120) S.x S.b d_Tok_mark_111 (by decide) (fun c260 => ?_) (fun c260 => ?_)
              ·
                refine lv_aload_n S.x S.b d_Tok_mark_120 rfl (lv_at hl 4 rfl) ?_
                refine lv_dup S.x S.b d_Tok_mark_121 rfl ?_
                refine px_get S k_Tok hT hw 0 0 8 (v := .int (f 8)) rfl rfl rfl (by decide) m1_111 d_Tok_mark_122 ?_
                refine lv_iload_n S.x S.b d_Tok_mark_125 rfl (lv_at hl 2 rfl) ?_
                refine lv_iadd S.x S.b d_Tok_mark_126 ?_
                have lr261 := Int32.le_toInt (f 8)
                have ur261 := Int32.toInt_lt (f 8)
                refine lv_topi (fun z262 ez262 => ?_)
                have tz262 : z262.toInt = ((f 8).toInt + (1 : Int) + 2147483648) % 4294967296 - 2147483648 := by rw [ez262]; exact i_add (f 8) 1
                have lz262 := Int32.le_toInt z262
                have uz262 := Int32.toInt_lt z262
                try replace tz262 : z262.toInt = (f 8).toInt + (1 : Int) := by omega
                refine px_put S k_Tok hT hw 0 0 8 rfl rfl (by decide) m1_111 rfl rfl rfl (Nat.le_of_ble_eq_true rfl) d_Tok_mark_127 (w' := wd_Tok cs h r (fun _ => some tp) (upd f 8 z262) a g) (ps' := [wd_Tok cs h r (fun _ => some tp) (upd f 8 z262) a g, [(tp, .inl (cs 1, 2048, .inl tb))]]) rfl rfl (fun H locs hw => ?_)
                refine lv_iload_n S.x S.b d_Tok_mark_130 rfl (lv_at hl 3 rfl) ?_
                first | exact px_iret (v := 256) S hr rfl hlk hAe hw (Nat.le_of_ble_eq_true rfl) (Nat.le_of_ble_eq_true rfl) (⟨(upd f 8 z262), a, rfl, (show TokOk (f 7) z262 (f 10) (f 11) (f 12) (f 13) (f 17) (a 4) from ⟨⟨o1, o2⟩, ⟨(oz_b3b25f0e49 tz262 g1), (oz_8964937ede g2 tz262)⟩, ⟨o5, o6⟩, ⟨o7, o8⟩, ⟨o9, o10⟩, ⟨o11, o12⟩, o13, hn4⟩), (show (f 7).toInt = (f 7).toInt from rfl), (show (f 10).toInt = (f 10).toInt from rfl), (show (f 15).toInt = (f 15).toInt from rfl), (show (256 : Int) = 19 ∨ (f 8).toInt + 1 ≤ z262.toInt from by omega), (show Q5 (a 5) from hq5), (show R_t2_mark sn sb tb p0 f a (upd f 8 z262) a (256 : Int32) from (Or.inl (Or.inr ⟨nc1, z200, ez200, v202, e203, Or.inr ⟨nc204, Or.inl ⟨nc206, z209, ez209, v211, e216, Or.inr ⟨nc217, v245, e246, Or.inl ⟨nc247, z250, ez250, v252, e257, Or.inl ⟨nc258, z262, ez262, rfl, rfl, rfl⟩⟩⟩⟩⟩⟩)))⟩) d_Tok_mark_131 | exact px_iret (v := 256) S hr rfl hlk hAe hw (Nat.le_of_ble_eq_true rfl) (Nat.le_of_ble_eq_true rfl) (⟨(upd f 8 z262), a, rfl, (show TokOk (f 7) z262 (f 10) (f 11) (f 12) (f 13) (f 17) (a 4) from ⟨⟨by first | exact o1 | omega, by first | exact o2 | omega⟩, ⟨by first | exact oz_b3b25f0e49 tz262 g1 | omega, by first | exact oz_8964937ede g2 tz262 | omega⟩, ⟨by first | exact o5 | omega, by first | exact o6 | omega⟩, ⟨by first | exact o7 | omega, by first | exact o8 | omega⟩, ⟨by first | exact o9 | omega, by first | exact o10 | omega⟩, ⟨by first | exact o11 | omega, by first | exact o12 | omega⟩, by first | exact o13 | omega, hn4⟩), (show (f 7).toInt = (f 7).toInt from rfl), (show (f 10).toInt = (f 10).toInt from rfl), (show (f 15).toInt = (f 15).toInt from rfl), (show (256 : Int) = 19 ∨ (f 8).toInt + 1 ≤ z262.toInt from by omega), (show Q5 (a 5) from hq5), (show R_t2_mark sn sb tb p0 f a (upd f 8 z262) a (256 : Int32) from (Or.inl (Or.inr ⟨nc1, z200, ez200, v202, e203, Or.inr ⟨nc204, Or.inl ⟨nc206, z209, ez209, v211, e216, Or.inr ⟨nc217, v245, e246, Or.inl ⟨nc247, z250, ez250, v252, e257, Or.inl ⟨nc258, z262, ez262, rfl, rfl, rfl⟩⟩⟩⟩⟩⟩)))⟩) d_Tok_mark_131
              · exact absurd c260 (by decide)
            · have nc258 : v252.toInt = (61 : Int) := (i_eq (x := v252) (y := 61)).mp c258
              refine lv_iload_n S.x S.b d_Tok_mark_99 rfl (lv_at hl 2 rfl) ?_
              refine px_calli (pr := [wd_Tok cs h r (fun _ => some tp) f a g, [(tp, .inl (cs 1, 2048, .inl tb))]]) (px_runS (As := [.int 256]) (rest := []) S (c_t2_withEquals l D cs  256   _) hT (pr := [wd_Tok cs h r (fun _ => some tp) f a g, [(tp, .inl (cs 1, 2048, .inl tb))]]) (pcs := []) hw px_X.tt m4_67 m4_65 m4_66 m1_2 q_Tok_withEquals ⟨Nat.le_of_ble_eq_true rfl, Nat.le_of_ble_eq_true rfl⟩ hl.1 rfl (Nat.le_of_ble_eq_true rfl) d_Tok_mark_100 ⟨Nat.le_of_ble_eq_true rfl, Nat.le_of_ble_eq_true rfl⟩) hw hA (fun v264 p263 H locs hp263 hw => ?_)
              obtain ⟨rfl, e265⟩ := hp263
              have e265 : R_t2_withEquals (256 : Int32) v264 := e265
              have lv264 := Int32.le_toInt v264
              have uv264 := Int32.toInt_lt v264
              refine lv_goto (tgt := 107) S.x S.b d_Tok_mark_103 (by decide) ?_
              refine lv_istore (lv' := [(5, .int v264), (4, .int v245), (3, .int 1), (2, .int 256), (0, .ref h), (1, .int p0)]) S.x S.b d_Tok_mark_107 hl (by decide) rfl (fun ls hl => ?_)
              refine lv_iload S.x S.b d_Tok_mark_109 (lv_at hl 0 rfl) ?_
              refine lv_if_le (tgt := 120) S.x S.b d_Tok_mark_111 (by decide) (fun c266 => ?_) (fun c266 => ?_)
              · have nc266 : v264.toInt ≤ (0 : Int) := (i_le (x := v264) (y := 0)).mp c266
                refine lv_aload_n S.x S.b d_Tok_mark_120 rfl (lv_at hl 4 rfl) ?_
                refine lv_dup S.x S.b d_Tok_mark_121 rfl ?_
                refine px_get S k_Tok hT hw 0 0 8 (v := .int (f 8)) rfl rfl rfl (by decide) m1_111 d_Tok_mark_122 ?_
                refine lv_iload_n S.x S.b d_Tok_mark_125 rfl (lv_at hl 2 rfl) ?_
                refine lv_iadd S.x S.b d_Tok_mark_126 ?_
                have lr268 := Int32.le_toInt (f 8)
                have ur268 := Int32.toInt_lt (f 8)
                refine lv_topi (fun z269 ez269 => ?_)
                have tz269 : z269.toInt = ((f 8).toInt + (1 : Int) + 2147483648) % 4294967296 - 2147483648 := by rw [ez269]; exact i_add (f 8) 1
                have lz269 := Int32.le_toInt z269
                have uz269 := Int32.toInt_lt z269
                try replace tz269 : z269.toInt = (f 8).toInt + (1 : Int) := by omega
                refine px_put S k_Tok hT hw 0 0 8 rfl rfl (by decide) m1_111 rfl rfl rfl (Nat.le_of_ble_eq_true rfl) d_Tok_mark_127 (w' := wd_Tok cs h r (fun _ => some tp) (upd f 8 z269) a g) (ps' := [wd_Tok cs h r (fun _ => some tp) (upd f 8 z269) a g, [(tp, .inl (cs 1, 2048, .inl tb))]]) rfl rfl (fun H locs hw => ?_)
                refine lv_iload_n S.x S.b d_Tok_mark_130 rfl (lv_at hl 3 rfl) ?_
                first | exact px_iret (v := 256) S hr rfl hlk hAe hw (Nat.le_of_ble_eq_true rfl) (Nat.le_of_ble_eq_true rfl) (⟨(upd f 8 z269), a, rfl, (show TokOk (f 7) z269 (f 10) (f 11) (f 12) (f 13) (f 17) (a 4) from ⟨⟨o1, o2⟩, ⟨(oz_b3b25f0e49 tz269 g1), (oz_8964937ede g2 tz269)⟩, ⟨o5, o6⟩, ⟨o7, o8⟩, ⟨o9, o10⟩, ⟨o11, o12⟩, o13, hn4⟩), (show (f 7).toInt = (f 7).toInt from rfl), (show (f 10).toInt = (f 10).toInt from rfl), (show (f 15).toInt = (f 15).toInt from rfl), (show (256 : Int) = 19 ∨ (f 8).toInt + 1 ≤ z269.toInt from by omega), (show Q5 (a 5) from hq5), (show R_t2_mark sn sb tb p0 f a (upd f 8 z269) a (256 : Int32) from (Or.inl (Or.inr ⟨nc1, z200, ez200, v202, e203, Or.inr ⟨nc204, Or.inl ⟨nc206, z209, ez209, v211, e216, Or.inr ⟨nc217, v245, e246, Or.inl ⟨nc247, z250, ez250, v252, e257, Or.inr ⟨nc258, v264, e265, Or.inl ⟨nc266, z269, ez269, rfl, rfl, rfl⟩⟩⟩⟩⟩⟩⟩)))⟩) d_Tok_mark_131 | exact px_iret (v := 256) S hr rfl hlk hAe hw (Nat.le_of_ble_eq_true rfl) (Nat.le_of_ble_eq_true rfl) (⟨(upd f 8 z269), a, rfl, (show TokOk (f 7) z269 (f 10) (f 11) (f 12) (f 13) (f 17) (a 4) from ⟨⟨by first | exact o1 | omega, by first | exact o2 | omega⟩, ⟨by first | exact oz_b3b25f0e49 tz269 g1 | omega, by first | exact oz_8964937ede g2 tz269 | omega⟩, ⟨by first | exact o5 | omega, by first | exact o6 | omega⟩, ⟨by first | exact o7 | omega, by first | exact o8 | omega⟩, ⟨by first | exact o9 | omega, by first | exact o10 | omega⟩, ⟨by first | exact o11 | omega, by first | exact o12 | omega⟩, by first | exact o13 | omega, hn4⟩), (show (f 7).toInt = (f 7).toInt from rfl), (show (f 10).toInt = (f 10).toInt from rfl), (show (f 15).toInt = (f 15).toInt from rfl), (show (256 : Int) = 19 ∨ (f 8).toInt + 1 ≤ z269.toInt from by omega), (show Q5 (a 5) from hq5), (show R_t2_mark sn sb tb p0 f a (upd f 8 z269) a (256 : Int32) from (Or.inl (Or.inr ⟨nc1, z200, ez200, v202, e203, Or.inr ⟨nc204, Or.inl ⟨nc206, z209, ez209, v211, e216, Or.inr ⟨nc217, v245, e246, Or.inl ⟨nc247, z250, ez250, v252, e257, Or.inr ⟨nc258, v264, e265, Or.inl ⟨nc266, z269, ez269, rfl, rfl, rfl⟩⟩⟩⟩⟩⟩⟩)))⟩) d_Tok_mark_131
              · have nc266 : ¬ v264.toInt ≤ (0 : Int) := mt (i_le (x := v264) (y := 0)).mpr c266
                refine lv_iload S.x S.b d_Tok_mark_114 (lv_at hl 0 rfl) ?_
                refine lv_istore_n (lv' := [(2, .int v264), (5, .int v264), (4, .int v245), (3, .int 1), (0, .ref h), (1, .int p0)]) S.x S.b d_Tok_mark_116 rfl hl (by decide) rfl (fun ls hl => ?_)
                obtain ⟨z270, ez270⟩ : ∃ y : Int32, y = 1 + 1 := ⟨_, rfl⟩
                have tz270 : z270.toInt = ((1 : Int) + 1 + 2147483648) % 4294967296 - 2147483648 := by rw [ez270]; exact i_add 1 1
                have lz270 := Int32.le_toInt z270
                have uz270 := Int32.toInt_lt z270
                try replace tz270 : z270.toInt = (1 : Int) + 1 := by omega
                refine lv_iinc (v := z270) (lv' := [(3, .int z270), (2, .int v264), (5, .int v264), (4, .int v245), (0, .ref h), (1, .int p0)]) S.x S.b d_Tok_mark_117 hl (k := 3) rfl (by rw [ez270]; rfl) (by decide) rfl (fun ls hl => ?_)
                refine lv_aload_n S.x S.b d_Tok_mark_120 rfl (lv_at hl 4 rfl) ?_
                refine lv_dup S.x S.b d_Tok_mark_121 rfl ?_
                refine px_get S k_Tok hT hw 0 0 8 (v := .int (f 8)) rfl rfl rfl (by decide) m1_111 d_Tok_mark_122 ?_
                refine lv_iload_n S.x S.b d_Tok_mark_125 rfl (lv_at hl 0 rfl) ?_
                refine lv_iadd S.x S.b d_Tok_mark_126 ?_
                have lr271 := Int32.le_toInt (f 8)
                have ur271 := Int32.toInt_lt (f 8)
                refine lv_topi (fun z272 ez272 => ?_)
                have tz272 : z272.toInt = ((f 8).toInt + z270.toInt + 2147483648) % 4294967296 - 2147483648 := by rw [ez272]; exact i_add (f 8) z270
                have lz272 := Int32.le_toInt z272
                have uz272 := Int32.toInt_lt z272
                try replace tz272 : z272.toInt = (f 8).toInt + z270.toInt := by omega
                refine px_put S k_Tok hT hw 0 0 8 rfl rfl (by decide) m1_111 rfl rfl rfl (Nat.le_of_ble_eq_true rfl) d_Tok_mark_127 (w' := wd_Tok cs h r (fun _ => some tp) (upd f 8 z272) a g) (ps' := [wd_Tok cs h r (fun _ => some tp) (upd f 8 z272) a g, [(tp, .inl (cs 1, 2048, .inl tb))]]) rfl rfl (fun H locs hw => ?_)
                refine lv_iload_n S.x S.b d_Tok_mark_130 rfl (lv_at hl 1 rfl) ?_
                first | exact px_iret (v := v264) S hr rfl hlk hAe hw (Nat.le_of_ble_eq_true rfl) (Nat.le_of_ble_eq_true rfl) (⟨(upd f 8 z272), a, rfl, (show TokOk (f 7) z272 (f 10) (f 11) (f 12) (f 13) (f 17) (a 4) from ⟨⟨o1, o2⟩, ⟨(oz_0aba5895db tz272 g1 tz270), (oz_034949d2cd g2 tz272 tz270)⟩, ⟨o5, o6⟩, ⟨o7, o8⟩, ⟨o9, o10⟩, ⟨o11, o12⟩, o13, hn4⟩), (show (f 7).toInt = (f 7).toInt from rfl), (show (f 10).toInt = (f 10).toInt from rfl), (show (f 15).toInt = (f 15).toInt from rfl), (show v264.toInt = 19 ∨ (f 8).toInt + 1 ≤ z272.toInt from by omega), (show Q5 (a 5) from hq5), (show R_t2_mark sn sb tb p0 f a (upd f 8 z272) a v264 from (Or.inl (Or.inr ⟨nc1, z200, ez200, v202, e203, Or.inr ⟨nc204, Or.inl ⟨nc206, z209, ez209, v211, e216, Or.inr ⟨nc217, v245, e246, Or.inl ⟨nc247, z250, ez250, v252, e257, Or.inr ⟨nc258, v264, e265, Or.inr ⟨nc266, z270, ez270, z272, ez272, rfl, rfl, rfl⟩⟩⟩⟩⟩⟩⟩)))⟩) d_Tok_mark_131 | exact px_iret (v := v264) S hr rfl hlk hAe hw (Nat.le_of_ble_eq_true rfl) (Nat.le_of_ble_eq_true rfl) (⟨(upd f 8 z272), a, rfl, (show TokOk (f 7) z272 (f 10) (f 11) (f 12) (f 13) (f 17) (a 4) from ⟨⟨by first | exact o1 | omega, by first | exact o2 | omega⟩, ⟨by first | exact oz_0aba5895db tz272 g1 tz270 | omega, by first | exact oz_034949d2cd g2 tz272 tz270 | omega⟩, ⟨by first | exact o5 | omega, by first | exact o6 | omega⟩, ⟨by first | exact o7 | omega, by first | exact o8 | omega⟩, ⟨by first | exact o9 | omega, by first | exact o10 | omega⟩, ⟨by first | exact o11 | omega, by first | exact o12 | omega⟩, by first | exact o13 | omega, hn4⟩), (show (f 7).toInt = (f 7).toInt from rfl), (show (f 10).toInt = (f 10).toInt from rfl), (show (f 15).toInt = (f 15).toInt from rfl), (show v264.toInt = 19 ∨ (f 8).toInt + 1 ≤ z272.toInt from by omega), (show Q5 (a 5) from hq5), (show R_t2_mark sn sb tb p0 f a (upd f 8 z272) a v264 from (Or.inl (Or.inr ⟨nc1, z200, ez200, v202, e203, Or.inr ⟨nc204, Or.inl ⟨nc206, z209, ez209, v211, e216, Or.inr ⟨nc217, v245, e246, Or.inl ⟨nc247, z250, ez250, v252, e257, Or.inr ⟨nc258, v264, e265, Or.inr ⟨nc266, z270, ez270, z272, ez272, rfl, rfl, rfl⟩⟩⟩⟩⟩⟩⟩)))⟩) d_Tok_mark_131
          · have nc247 : ¬ v245.toInt ≤ (0 : Int) := mt (i_le (x := v245) (y := 0)).mpr c247
            refine lv_iload S.x S.b d_Tok_mark_79 (lv_at hl 0 rfl) ?_
            refine lv_istore_n (lv' := [(2, .int v245), (4, .int v245), (3, .int 1), (0, .ref h), (1, .int p0)]) S.x S.b d_Tok_mark_81 rfl hl (by decide) rfl (fun ls hl => ?_)
            refine lv_iconst (v := 2) S.x S.b d_Tok_mark_82 (by decide) ?_
            refine lv_istore_n (lv' := [(3, .int 2), (2, .int v245), (4, .int v245), (0, .ref h), (1, .int p0)]) S.x S.b d_Tok_mark_83 rfl hl (by decide) rfl (fun ls hl => ?_)
            refine lv_aload_n S.x S.b d_Tok_mark_84 rfl (lv_at hl 3 rfl) ?_
            refine lv_aload_n S.x S.b d_Tok_mark_85 rfl (lv_at hl 3 rfl) ?_
            refine px_get S k_Tok hT hw 0 0 8 (v := .int (f 8)) rfl rfl rfl (by decide) m1_111 d_Tok_mark_86 ?_
            refine lv_iload_n S.x S.b d_Tok_mark_89 rfl (lv_at hl 0 rfl) ?_
            refine lv_iadd S.x S.b d_Tok_mark_90 ?_
            have lr273 := Int32.le_toInt (f 8)
            have ur273 := Int32.toInt_lt (f 8)
            refine lv_topi (fun z274 ez274 => ?_)
            have tz274 : z274.toInt = ((f 8).toInt + (2 : Int) + 2147483648) % 4294967296 - 2147483648 := by rw [ez274]; exact i_add (f 8) 2
            have lz274 := Int32.le_toInt z274
            have uz274 := Int32.toInt_lt z274
            try replace tz274 : z274.toInt = (f 8).toInt + (2 : Int) := by omega
            first | refine px_calli (pr := []) (px_runV (As := [.int z274]) (rest := []) S (c_t2_byteAt l D cs h r tp tb g f a z274  (show TokOk (f 7) (f 8) (f 10) (f 11) (f 12) (f 13) (f 17) (a 4) from ⟨⟨o1, o2⟩, ⟨g1, o4⟩, ⟨o5, o6⟩, ⟨o7, o8⟩, ⟨o9, o10⟩, ⟨o11, o12⟩, o13, hn4⟩) _) hT (pr := []) (pcs := [wd_Tok cs h r (fun _ => some tp) f a g, [(tp, .inl (cs 1, 2048, .inl tb))]]) hw px_X.tt (px_recv hT hw 0 0 rfl rfl rfl) m3_186 m3_183 m3_185 ms_1_6 m1_2 q_Tok_byteAt ⟨Nat.le_of_ble_eq_true rfl, Nat.le_of_ble_eq_true rfl⟩ hl.1 rfl (Nat.le_of_ble_eq_true rfl) d_Tok_mark_91 ⟨Nat.le_of_ble_eq_true rfl, Nat.le_of_ble_eq_true rfl⟩) hw hA (fun v276 p275 H locs hp275 hw => ?_) | refine px_calli (pr := []) (px_runV (As := [.int z274]) (rest := []) S (c_t2_byteAt l D cs h r tp tb g f a z274  (show TokOk (f 7) (f 8) (f 10) (f 11) (f 12) (f 13) (f 17) (a 4) from ⟨⟨by first | exact o1 | omega, by first | exact o2 | omega⟩, ⟨by first | exact g1 | omega, by first | exact o4 | omega⟩, ⟨by first | exact o5 | omega, by first | exact o6 | omega⟩, ⟨by first | exact o7 | omega, by first | exact o8 | omega⟩, ⟨by first | exact o9 | omega, by first | exact o10 | omega⟩, ⟨by first | exact o11 | omega, by first | exact o12 | omega⟩, by first | exact o13 | omega, hn4⟩) _) hT (pr := []) (pcs := [wd_Tok cs h r (fun _ => some tp) f a g, [(tp, .inl (cs 1, 2048, .inl tb))]]) hw px_X.tt (px_recv hT hw 0 0 rfl rfl rfl) m3_186 m3_183 m3_185 ms_1_6 m1_2 q_Tok_byteAt ⟨Nat.le_of_ble_eq_true rfl, Nat.le_of_ble_eq_true rfl⟩ hl.1 rfl (Nat.le_of_ble_eq_true rfl) d_Tok_mark_91 ⟨Nat.le_of_ble_eq_true rfl, Nat.le_of_ble_eq_true rfl⟩) hw hA (fun v276 p275 H locs hp275 hw => ?_)
            obtain ⟨rfl, e277, e278, e279, e280, e281⟩ := hp275
            have e277 : -1 ≤ v276.toInt := e277
            have e278 : v276.toInt ≤ 255 := e278
            have e279 : 0 ≤ v276.toInt → 0 ≤ z274.toInt ∧ z274.toInt < (f 7).toInt := e279
            have e280 : By tb (f 7) z274 v276 := e280
            have e281 : R_t2_byteAt tb f z274 v276 := e281
            have lv276 := Int32.le_toInt v276
            have uv276 := Int32.toInt_lt v276
            refine lv_bipush (v := 61) S.x S.b d_Tok_mark_94 (by decide) ?_
            refine lv_icmp_ne (tgt := 106) S.x S.b d_Tok_mark_96 (by decide) (fun c282 => ?_) (fun c282 => ?_)
            · have nc282 : ¬ v276.toInt = (61 : Int) := mt (i_eq (x := v276) (y := 61)).mpr c282
              refine lv_iconst (v := 0) S.x S.b d_Tok_mark_106 (by decide) ?_
              refine lv_istore (lv' := [(5, .int 0), (3, .int 2), (2, .int v245), (4, .int v245), (0, .ref h), (1, .int p0)]) S.x S.b d_Tok_mark_107 hl (by decide) rfl (fun ls hl => ?_)
              refine lv_iload S.x S.b d_Tok_mark_109 (lv_at hl 0 rfl) ?_
              refine lv_if_le (tgt := 120) S.x S.b d_Tok_mark_111 (by decide) (fun c284 => ?_) (fun c284 => ?_)
              ·
                refine lv_aload_n S.x S.b d_Tok_mark_120 rfl (lv_at hl 4 rfl) ?_
                refine lv_dup S.x S.b d_Tok_mark_121 rfl ?_
                refine px_get S k_Tok hT hw 0 0 8 (v := .int (f 8)) rfl rfl rfl (by decide) m1_111 d_Tok_mark_122 ?_
                refine lv_iload_n S.x S.b d_Tok_mark_125 rfl (lv_at hl 1 rfl) ?_
                refine lv_iadd S.x S.b d_Tok_mark_126 ?_
                have lr285 := Int32.le_toInt (f 8)
                have ur285 := Int32.toInt_lt (f 8)
                refine lv_topi (fun z286 ez286 => ?_)
                have tz286 : z286.toInt = ((f 8).toInt + (2 : Int) + 2147483648) % 4294967296 - 2147483648 := by rw [ez286]; exact i_add (f 8) 2
                have lz286 := Int32.le_toInt z286
                have uz286 := Int32.toInt_lt z286
                try replace tz286 : z286.toInt = (f 8).toInt + (2 : Int) := by omega
                refine px_put S k_Tok hT hw 0 0 8 rfl rfl (by decide) m1_111 rfl rfl rfl (Nat.le_of_ble_eq_true rfl) d_Tok_mark_127 (w' := wd_Tok cs h r (fun _ => some tp) (upd f 8 z286) a g) (ps' := [wd_Tok cs h r (fun _ => some tp) (upd f 8 z286) a g, [(tp, .inl (cs 1, 2048, .inl tb))]]) rfl rfl (fun H locs hw => ?_)
                refine lv_iload_n S.x S.b d_Tok_mark_130 rfl (lv_at hl 2 rfl) ?_
                first | exact px_iret (v := v245) S hr rfl hlk hAe hw (Nat.le_of_ble_eq_true rfl) (Nat.le_of_ble_eq_true rfl) (⟨(upd f 8 z286), a, rfl, (show TokOk (f 7) z286 (f 10) (f 11) (f 12) (f 13) (f 17) (a 4) from ⟨⟨o1, o2⟩, ⟨(oz_6c4a1e09c3 tz286 g1), (oz_26c995f1f8 g2 tz286)⟩, ⟨o5, o6⟩, ⟨o7, o8⟩, ⟨o9, o10⟩, ⟨o11, o12⟩, o13, hn4⟩), (show (f 7).toInt = (f 7).toInt from rfl), (show (f 10).toInt = (f 10).toInt from rfl), (show (f 15).toInt = (f 15).toInt from rfl), (show v245.toInt = 19 ∨ (f 8).toInt + 1 ≤ z286.toInt from by omega), (show Q5 (a 5) from hq5), (show R_t2_mark sn sb tb p0 f a (upd f 8 z286) a v245 from (Or.inl (Or.inr ⟨nc1, z200, ez200, v202, e203, Or.inr ⟨nc204, Or.inl ⟨nc206, z209, ez209, v211, e216, Or.inr ⟨nc217, v245, e246, Or.inr ⟨nc247, z274, ez274, v276, e281, Or.inl ⟨nc282, z286, ez286, rfl, rfl, rfl⟩⟩⟩⟩⟩⟩)))⟩) d_Tok_mark_131 | exact px_iret (v := v245) S hr rfl hlk hAe hw (Nat.le_of_ble_eq_true rfl) (Nat.le_of_ble_eq_true rfl) (⟨(upd f 8 z286), a, rfl, (show TokOk (f 7) z286 (f 10) (f 11) (f 12) (f 13) (f 17) (a 4) from ⟨⟨by first | exact o1 | omega, by first | exact o2 | omega⟩, ⟨by first | exact oz_6c4a1e09c3 tz286 g1 | omega, by first | exact oz_26c995f1f8 g2 tz286 | omega⟩, ⟨by first | exact o5 | omega, by first | exact o6 | omega⟩, ⟨by first | exact o7 | omega, by first | exact o8 | omega⟩, ⟨by first | exact o9 | omega, by first | exact o10 | omega⟩, ⟨by first | exact o11 | omega, by first | exact o12 | omega⟩, by first | exact o13 | omega, hn4⟩), (show (f 7).toInt = (f 7).toInt from rfl), (show (f 10).toInt = (f 10).toInt from rfl), (show (f 15).toInt = (f 15).toInt from rfl), (show v245.toInt = 19 ∨ (f 8).toInt + 1 ≤ z286.toInt from by omega), (show Q5 (a 5) from hq5), (show R_t2_mark sn sb tb p0 f a (upd f 8 z286) a v245 from (Or.inl (Or.inr ⟨nc1, z200, ez200, v202, e203, Or.inr ⟨nc204, Or.inl ⟨nc206, z209, ez209, v211, e216, Or.inr ⟨nc217, v245, e246, Or.inr ⟨nc247, z274, ez274, v276, e281, Or.inl ⟨nc282, z286, ez286, rfl, rfl, rfl⟩⟩⟩⟩⟩⟩)))⟩) d_Tok_mark_131
              · exact absurd c284 (by decide)
            · have nc282 : v276.toInt = (61 : Int) := (i_eq (x := v276) (y := 61)).mp c282
              refine lv_iload_n S.x S.b d_Tok_mark_99 rfl (lv_at hl 1 rfl) ?_
              refine px_calli (pr := [wd_Tok cs h r (fun _ => some tp) f a g, [(tp, .inl (cs 1, 2048, .inl tb))]]) (px_runS (As := [.int v245]) (rest := []) S (c_t2_withEquals l D cs  v245   _) hT (pr := [wd_Tok cs h r (fun _ => some tp) f a g, [(tp, .inl (cs 1, 2048, .inl tb))]]) (pcs := []) hw px_X.tt m4_67 m4_65 m4_66 m1_2 q_Tok_withEquals ⟨Nat.le_of_ble_eq_true rfl, Nat.le_of_ble_eq_true rfl⟩ hl.1 rfl (Nat.le_of_ble_eq_true rfl) d_Tok_mark_100 ⟨Nat.le_of_ble_eq_true rfl, Nat.le_of_ble_eq_true rfl⟩) hw hA (fun v288 p287 H locs hp287 hw => ?_)
              obtain ⟨rfl, e289⟩ := hp287
              have e289 : R_t2_withEquals v245 v288 := e289
              have lv288 := Int32.le_toInt v288
              have uv288 := Int32.toInt_lt v288
              refine lv_goto (tgt := 107) S.x S.b d_Tok_mark_103 (by decide) ?_
              refine lv_istore (lv' := [(5, .int v288), (3, .int 2), (2, .int v245), (4, .int v245), (0, .ref h), (1, .int p0)]) S.x S.b d_Tok_mark_107 hl (by decide) rfl (fun ls hl => ?_)
              refine lv_iload S.x S.b d_Tok_mark_109 (lv_at hl 0 rfl) ?_
              refine lv_if_le (tgt := 120) S.x S.b d_Tok_mark_111 (by decide) (fun c290 => ?_) (fun c290 => ?_)
              · have nc290 : v288.toInt ≤ (0 : Int) := (i_le (x := v288) (y := 0)).mp c290
                refine lv_aload_n S.x S.b d_Tok_mark_120 rfl (lv_at hl 4 rfl) ?_
                refine lv_dup S.x S.b d_Tok_mark_121 rfl ?_
                refine px_get S k_Tok hT hw 0 0 8 (v := .int (f 8)) rfl rfl rfl (by decide) m1_111 d_Tok_mark_122 ?_
                refine lv_iload_n S.x S.b d_Tok_mark_125 rfl (lv_at hl 1 rfl) ?_
                refine lv_iadd S.x S.b d_Tok_mark_126 ?_
                have lr292 := Int32.le_toInt (f 8)
                have ur292 := Int32.toInt_lt (f 8)
                refine lv_topi (fun z293 ez293 => ?_)
                have tz293 : z293.toInt = ((f 8).toInt + (2 : Int) + 2147483648) % 4294967296 - 2147483648 := by rw [ez293]; exact i_add (f 8) 2
                have lz293 := Int32.le_toInt z293
                have uz293 := Int32.toInt_lt z293
                try replace tz293 : z293.toInt = (f 8).toInt + (2 : Int) := by omega
                refine px_put S k_Tok hT hw 0 0 8 rfl rfl (by decide) m1_111 rfl rfl rfl (Nat.le_of_ble_eq_true rfl) d_Tok_mark_127 (w' := wd_Tok cs h r (fun _ => some tp) (upd f 8 z293) a g) (ps' := [wd_Tok cs h r (fun _ => some tp) (upd f 8 z293) a g, [(tp, .inl (cs 1, 2048, .inl tb))]]) rfl rfl (fun H locs hw => ?_)
                refine lv_iload_n S.x S.b d_Tok_mark_130 rfl (lv_at hl 2 rfl) ?_
                first | exact px_iret (v := v245) S hr rfl hlk hAe hw (Nat.le_of_ble_eq_true rfl) (Nat.le_of_ble_eq_true rfl) (⟨(upd f 8 z293), a, rfl, (show TokOk (f 7) z293 (f 10) (f 11) (f 12) (f 13) (f 17) (a 4) from ⟨⟨o1, o2⟩, ⟨(oz_6c4a1e09c3 tz293 g1), (oz_26c995f1f8 g2 tz293)⟩, ⟨o5, o6⟩, ⟨o7, o8⟩, ⟨o9, o10⟩, ⟨o11, o12⟩, o13, hn4⟩), (show (f 7).toInt = (f 7).toInt from rfl), (show (f 10).toInt = (f 10).toInt from rfl), (show (f 15).toInt = (f 15).toInt from rfl), (show v245.toInt = 19 ∨ (f 8).toInt + 1 ≤ z293.toInt from by omega), (show Q5 (a 5) from hq5), (show R_t2_mark sn sb tb p0 f a (upd f 8 z293) a v245 from (Or.inl (Or.inr ⟨nc1, z200, ez200, v202, e203, Or.inr ⟨nc204, Or.inl ⟨nc206, z209, ez209, v211, e216, Or.inr ⟨nc217, v245, e246, Or.inr ⟨nc247, z274, ez274, v276, e281, Or.inr ⟨nc282, v288, e289, Or.inl ⟨nc290, z293, ez293, rfl, rfl, rfl⟩⟩⟩⟩⟩⟩⟩)))⟩) d_Tok_mark_131 | exact px_iret (v := v245) S hr rfl hlk hAe hw (Nat.le_of_ble_eq_true rfl) (Nat.le_of_ble_eq_true rfl) (⟨(upd f 8 z293), a, rfl, (show TokOk (f 7) z293 (f 10) (f 11) (f 12) (f 13) (f 17) (a 4) from ⟨⟨by first | exact o1 | omega, by first | exact o2 | omega⟩, ⟨by first | exact oz_6c4a1e09c3 tz293 g1 | omega, by first | exact oz_26c995f1f8 g2 tz293 | omega⟩, ⟨by first | exact o5 | omega, by first | exact o6 | omega⟩, ⟨by first | exact o7 | omega, by first | exact o8 | omega⟩, ⟨by first | exact o9 | omega, by first | exact o10 | omega⟩, ⟨by first | exact o11 | omega, by first | exact o12 | omega⟩, by first | exact o13 | omega, hn4⟩), (show (f 7).toInt = (f 7).toInt from rfl), (show (f 10).toInt = (f 10).toInt from rfl), (show (f 15).toInt = (f 15).toInt from rfl), (show v245.toInt = 19 ∨ (f 8).toInt + 1 ≤ z293.toInt from by omega), (show Q5 (a 5) from hq5), (show R_t2_mark sn sb tb p0 f a (upd f 8 z293) a v245 from (Or.inl (Or.inr ⟨nc1, z200, ez200, v202, e203, Or.inr ⟨nc204, Or.inl ⟨nc206, z209, ez209, v211, e216, Or.inr ⟨nc217, v245, e246, Or.inr ⟨nc247, z274, ez274, v276, e281, Or.inr ⟨nc282, v288, e289, Or.inl ⟨nc290, z293, ez293, rfl, rfl, rfl⟩⟩⟩⟩⟩⟩⟩)))⟩) d_Tok_mark_131
              · have nc290 : ¬ v288.toInt ≤ (0 : Int) := mt (i_le (x := v288) (y := 0)).mpr c290
                refine lv_iload S.x S.b d_Tok_mark_114 (lv_at hl 0 rfl) ?_
                refine lv_istore_n (lv' := [(2, .int v288), (5, .int v288), (3, .int 2), (4, .int v245), (0, .ref h), (1, .int p0)]) S.x S.b d_Tok_mark_116 rfl hl (by decide) rfl (fun ls hl => ?_)
                obtain ⟨z294, ez294⟩ : ∃ y : Int32, y = 2 + 1 := ⟨_, rfl⟩
                have tz294 : z294.toInt = ((2 : Int) + 1 + 2147483648) % 4294967296 - 2147483648 := by rw [ez294]; exact i_add 2 1
                have lz294 := Int32.le_toInt z294
                have uz294 := Int32.toInt_lt z294
                try replace tz294 : z294.toInt = (2 : Int) + 1 := by omega
                refine lv_iinc (v := z294) (lv' := [(3, .int z294), (2, .int v288), (5, .int v288), (4, .int v245), (0, .ref h), (1, .int p0)]) S.x S.b d_Tok_mark_117 hl (k := 2) rfl (by rw [ez294]; rfl) (by decide) rfl (fun ls hl => ?_)
                refine lv_aload_n S.x S.b d_Tok_mark_120 rfl (lv_at hl 4 rfl) ?_
                refine lv_dup S.x S.b d_Tok_mark_121 rfl ?_
                refine px_get S k_Tok hT hw 0 0 8 (v := .int (f 8)) rfl rfl rfl (by decide) m1_111 d_Tok_mark_122 ?_
                refine lv_iload_n S.x S.b d_Tok_mark_125 rfl (lv_at hl 0 rfl) ?_
                refine lv_iadd S.x S.b d_Tok_mark_126 ?_
                have lr295 := Int32.le_toInt (f 8)
                have ur295 := Int32.toInt_lt (f 8)
                refine lv_topi (fun z296 ez296 => ?_)
                have tz296 : z296.toInt = ((f 8).toInt + z294.toInt + 2147483648) % 4294967296 - 2147483648 := by rw [ez296]; exact i_add (f 8) z294
                have lz296 := Int32.le_toInt z296
                have uz296 := Int32.toInt_lt z296
                try replace tz296 : z296.toInt = (f 8).toInt + z294.toInt := by omega
                refine px_put S k_Tok hT hw 0 0 8 rfl rfl (by decide) m1_111 rfl rfl rfl (Nat.le_of_ble_eq_true rfl) d_Tok_mark_127 (w' := wd_Tok cs h r (fun _ => some tp) (upd f 8 z296) a g) (ps' := [wd_Tok cs h r (fun _ => some tp) (upd f 8 z296) a g, [(tp, .inl (cs 1, 2048, .inl tb))]]) rfl rfl (fun H locs hw => ?_)
                refine lv_iload_n S.x S.b d_Tok_mark_130 rfl (lv_at hl 1 rfl) ?_
                first | exact px_iret (v := v288) S hr rfl hlk hAe hw (Nat.le_of_ble_eq_true rfl) (Nat.le_of_ble_eq_true rfl) (⟨(upd f 8 z296), a, rfl, (show TokOk (f 7) z296 (f 10) (f 11) (f 12) (f 13) (f 17) (a 4) from ⟨⟨o1, o2⟩, ⟨(oz_5872ca9df2 tz296 g1 tz294), (oz_0136642c8e g2 tz296 tz294)⟩, ⟨o5, o6⟩, ⟨o7, o8⟩, ⟨o9, o10⟩, ⟨o11, o12⟩, o13, hn4⟩), (show (f 7).toInt = (f 7).toInt from rfl), (show (f 10).toInt = (f 10).toInt from rfl), (show (f 15).toInt = (f 15).toInt from rfl), (show v288.toInt = 19 ∨ (f 8).toInt + 1 ≤ z296.toInt from by omega), (show Q5 (a 5) from hq5), (show R_t2_mark sn sb tb p0 f a (upd f 8 z296) a v288 from (Or.inl (Or.inr ⟨nc1, z200, ez200, v202, e203, Or.inr ⟨nc204, Or.inl ⟨nc206, z209, ez209, v211, e216, Or.inr ⟨nc217, v245, e246, Or.inr ⟨nc247, z274, ez274, v276, e281, Or.inr ⟨nc282, v288, e289, Or.inr ⟨nc290, z294, ez294, z296, ez296, rfl, rfl, rfl⟩⟩⟩⟩⟩⟩⟩)))⟩) d_Tok_mark_131 | exact px_iret (v := v288) S hr rfl hlk hAe hw (Nat.le_of_ble_eq_true rfl) (Nat.le_of_ble_eq_true rfl) (⟨(upd f 8 z296), a, rfl, (show TokOk (f 7) z296 (f 10) (f 11) (f 12) (f 13) (f 17) (a 4) from ⟨⟨by first | exact o1 | omega, by first | exact o2 | omega⟩, ⟨by first | exact oz_5872ca9df2 tz296 g1 tz294 | omega, by first | exact oz_0136642c8e g2 tz296 tz294 | omega⟩, ⟨by first | exact o5 | omega, by first | exact o6 | omega⟩, ⟨by first | exact o7 | omega, by first | exact o8 | omega⟩, ⟨by first | exact o9 | omega, by first | exact o10 | omega⟩, ⟨by first | exact o11 | omega, by first | exact o12 | omega⟩, by first | exact o13 | omega, hn4⟩), (show (f 7).toInt = (f 7).toInt from rfl), (show (f 10).toInt = (f 10).toInt from rfl), (show (f 15).toInt = (f 15).toInt from rfl), (show v288.toInt = 19 ∨ (f 8).toInt + 1 ≤ z296.toInt from by omega), (show Q5 (a 5) from hq5), (show R_t2_mark sn sb tb p0 f a (upd f 8 z296) a v288 from (Or.inl (Or.inr ⟨nc1, z200, ez200, v202, e203, Or.inr ⟨nc204, Or.inl ⟨nc206, z209, ez209, v211, e216, Or.inr ⟨nc217, v245, e246, Or.inr ⟨nc247, z274, ez274, v276, e281, Or.inr ⟨nc282, v288, e289, Or.inr ⟨nc290, z294, ez294, z296, ez296, rfl, rfl, rfl⟩⟩⟩⟩⟩⟩⟩)))⟩) d_Tok_mark_131
      · have nc206 : p0.toInt = (47 : Int) := (i_eq (x := p0) (y := 47)).mp c206
        refine lv_aload_n S.x S.b d_Tok_mark_32 rfl (lv_at hl 2 rfl) ?_
        refine lv_aload_n S.x S.b d_Tok_mark_33 rfl (lv_at hl 2 rfl) ?_
        refine px_get S k_Tok hT hw 0 0 8 (v := .int (f 8)) rfl rfl rfl (by decide) m1_111 d_Tok_mark_34 ?_
        refine lv_iconst (v := 1) S.x S.b d_Tok_mark_37 (by decide) ?_
        refine lv_iadd S.x S.b d_Tok_mark_38 ?_
        have lr297 := Int32.le_toInt (f 8)
        have ur297 := Int32.toInt_lt (f 8)
        refine lv_topi (fun z298 ez298 => ?_)
        have tz298 : z298.toInt = ((f 8).toInt + (1 : Int) + 2147483648) % 4294967296 - 2147483648 := by rw [ez298]; exact i_add (f 8) 1
        have lz298 := Int32.le_toInt z298
        have uz298 := Int32.toInt_lt z298
        try replace tz298 : z298.toInt = (f 8).toInt + (1 : Int) := by omega
        first | refine px_calli (pr := []) (px_runV (As := [.int z298]) (rest := []) S (c_t2_byteAt l D cs h r tp tb g f a z298  (show TokOk (f 7) (f 8) (f 10) (f 11) (f 12) (f 13) (f 17) (a 4) from ⟨⟨o1, o2⟩, ⟨g1, o4⟩, ⟨o5, o6⟩, ⟨o7, o8⟩, ⟨o9, o10⟩, ⟨o11, o12⟩, o13, hn4⟩) _) hT (pr := []) (pcs := [wd_Tok cs h r (fun _ => some tp) f a g, [(tp, .inl (cs 1, 2048, .inl tb))]]) hw px_X.tt (px_recv hT hw 0 0 rfl rfl rfl) m3_186 m3_183 m3_185 ms_1_6 m1_2 q_Tok_byteAt ⟨Nat.le_of_ble_eq_true rfl, Nat.le_of_ble_eq_true rfl⟩ hl.1 rfl (Nat.le_of_ble_eq_true rfl) d_Tok_mark_39 ⟨Nat.le_of_ble_eq_true rfl, Nat.le_of_ble_eq_true rfl⟩) hw hA (fun v300 p299 H locs hp299 hw => ?_) | refine px_calli (pr := []) (px_runV (As := [.int z298]) (rest := []) S (c_t2_byteAt l D cs h r tp tb g f a z298  (show TokOk (f 7) (f 8) (f 10) (f 11) (f 12) (f 13) (f 17) (a 4) from ⟨⟨by first | exact o1 | omega, by first | exact o2 | omega⟩, ⟨by first | exact g1 | omega, by first | exact o4 | omega⟩, ⟨by first | exact o5 | omega, by first | exact o6 | omega⟩, ⟨by first | exact o7 | omega, by first | exact o8 | omega⟩, ⟨by first | exact o9 | omega, by first | exact o10 | omega⟩, ⟨by first | exact o11 | omega, by first | exact o12 | omega⟩, by first | exact o13 | omega, hn4⟩) _) hT (pr := []) (pcs := [wd_Tok cs h r (fun _ => some tp) f a g, [(tp, .inl (cs 1, 2048, .inl tb))]]) hw px_X.tt (px_recv hT hw 0 0 rfl rfl rfl) m3_186 m3_183 m3_185 ms_1_6 m1_2 q_Tok_byteAt ⟨Nat.le_of_ble_eq_true rfl, Nat.le_of_ble_eq_true rfl⟩ hl.1 rfl (Nat.le_of_ble_eq_true rfl) d_Tok_mark_39 ⟨Nat.le_of_ble_eq_true rfl, Nat.le_of_ble_eq_true rfl⟩) hw hA (fun v300 p299 H locs hp299 hw => ?_)
        obtain ⟨rfl, e301, e302, e303, e304, e305⟩ := hp299
        have e301 : -1 ≤ v300.toInt := e301
        have e302 : v300.toInt ≤ 255 := e302
        have e303 : 0 ≤ v300.toInt → 0 ≤ z298.toInt ∧ z298.toInt < (f 7).toInt := e303
        have e304 : By tb (f 7) z298 v300 := e304
        have e305 : R_t2_byteAt tb f z298 v300 := e305
        have lv300 := Int32.le_toInt v300
        have uv300 := Int32.toInt_lt v300
        refine lv_bipush (v := 42) S.x S.b d_Tok_mark_42 (by decide) ?_
        refine lv_icmp_ne (tgt := 50) S.x S.b d_Tok_mark_44 (by decide) (fun c306 => ?_) (fun c306 => ?_)
        · have nc306 : ¬ v300.toInt = (42 : Int) := mt (i_eq (x := v300) (y := 42)).mpr c306
          refine lv_aload_n S.x S.b d_Tok_mark_50 rfl (lv_at hl 2 rfl) ?_
          refine lv_aload_n S.x S.b d_Tok_mark_51 rfl (lv_at hl 2 rfl) ?_
          refine px_get S k_Tok hT hw 0 0 8 (v := .int (f 8)) rfl rfl rfl (by decide) m1_111 d_Tok_mark_52 ?_
          refine lv_iconst (v := 1) S.x S.b d_Tok_mark_55 (by decide) ?_
          refine lv_iadd S.x S.b d_Tok_mark_56 ?_
          have lr308 := Int32.le_toInt (f 8)
          have ur308 := Int32.toInt_lt (f 8)
          refine lv_topi (fun z309 ez309 => ?_)
          have tz309 : z309.toInt = ((f 8).toInt + (1 : Int) + 2147483648) % 4294967296 - 2147483648 := by rw [ez309]; exact i_add (f 8) 1
          have lz309 := Int32.le_toInt z309
          have uz309 := Int32.toInt_lt z309
          try replace tz309 : z309.toInt = (f 8).toInt + (1 : Int) := by omega
          first | refine px_calli (pr := []) (px_runV (As := [.int z309]) (rest := []) S (c_t2_byteAt l D cs h r tp tb g f a z309  (show TokOk (f 7) (f 8) (f 10) (f 11) (f 12) (f 13) (f 17) (a 4) from ⟨⟨o1, o2⟩, ⟨g1, o4⟩, ⟨o5, o6⟩, ⟨o7, o8⟩, ⟨o9, o10⟩, ⟨o11, o12⟩, o13, hn4⟩) _) hT (pr := []) (pcs := [wd_Tok cs h r (fun _ => some tp) f a g, [(tp, .inl (cs 1, 2048, .inl tb))]]) hw px_X.tt (px_recv hT hw 0 0 rfl rfl rfl) m3_186 m3_183 m3_185 ms_1_6 m1_2 q_Tok_byteAt ⟨Nat.le_of_ble_eq_true rfl, Nat.le_of_ble_eq_true rfl⟩ hl.1 rfl (Nat.le_of_ble_eq_true rfl) d_Tok_mark_57 ⟨Nat.le_of_ble_eq_true rfl, Nat.le_of_ble_eq_true rfl⟩) hw hA (fun v311 p310 H locs hp310 hw => ?_) | refine px_calli (pr := []) (px_runV (As := [.int z309]) (rest := []) S (c_t2_byteAt l D cs h r tp tb g f a z309  (show TokOk (f 7) (f 8) (f 10) (f 11) (f 12) (f 13) (f 17) (a 4) from ⟨⟨by first | exact o1 | omega, by first | exact o2 | omega⟩, ⟨by first | exact g1 | omega, by first | exact o4 | omega⟩, ⟨by first | exact o5 | omega, by first | exact o6 | omega⟩, ⟨by first | exact o7 | omega, by first | exact o8 | omega⟩, ⟨by first | exact o9 | omega, by first | exact o10 | omega⟩, ⟨by first | exact o11 | omega, by first | exact o12 | omega⟩, by first | exact o13 | omega, hn4⟩) _) hT (pr := []) (pcs := [wd_Tok cs h r (fun _ => some tp) f a g, [(tp, .inl (cs 1, 2048, .inl tb))]]) hw px_X.tt (px_recv hT hw 0 0 rfl rfl rfl) m3_186 m3_183 m3_185 ms_1_6 m1_2 q_Tok_byteAt ⟨Nat.le_of_ble_eq_true rfl, Nat.le_of_ble_eq_true rfl⟩ hl.1 rfl (Nat.le_of_ble_eq_true rfl) d_Tok_mark_57 ⟨Nat.le_of_ble_eq_true rfl, Nat.le_of_ble_eq_true rfl⟩) hw hA (fun v311 p310 H locs hp310 hw => ?_)
          obtain ⟨rfl, e312, e313, e314, e315, e316⟩ := hp310
          have e312 : -1 ≤ v311.toInt := e312
          have e313 : v311.toInt ≤ 255 := e313
          have e314 : 0 ≤ v311.toInt → 0 ≤ z309.toInt ∧ z309.toInt < (f 7).toInt := e314
          have e315 : By tb (f 7) z309 v311 := e315
          have e316 : R_t2_byteAt tb f z309 v311 := e316
          have lv311 := Int32.le_toInt v311
          have uv311 := Int32.toInt_lt v311
          refine lv_iload_n S.x S.b d_Tok_mark_60 rfl (lv_at hl 3 rfl) ?_
          refine lv_icmp_ne (tgt := 71) S.x S.b d_Tok_mark_61 (by decide) (fun c317 => ?_) (fun c317 => ?_)
          · have nc317 : ¬ v311.toInt = p0.toInt := mt (i_eq (x := v311) (y := p0)).mpr c317
            refine lv_iconst (v := 0) S.x S.b d_Tok_mark_71 (by decide) ?_
            refine lv_istore (lv' := [(4, .int 0), (3, .int 1), (2, .int 256), (0, .ref h), (1, .int p0)]) S.x S.b d_Tok_mark_72 hl (by decide) rfl (fun ls hl => ?_)
            refine lv_iload S.x S.b d_Tok_mark_74 (lv_at hl 0 rfl) ?_
            refine lv_if_le (tgt := 84) S.x S.b d_Tok_mark_76 (by decide) (fun c319 => ?_) (fun c319 => ?_)
            ·
              refine lv_aload_n S.x S.b d_Tok_mark_84 rfl (lv_at hl 3 rfl) ?_
              refine lv_aload_n S.x S.b d_Tok_mark_85 rfl (lv_at hl 3 rfl) ?_
              refine px_get S k_Tok hT hw 0 0 8 (v := .int (f 8)) rfl rfl rfl (by decide) m1_111 d_Tok_mark_86 ?_
              refine lv_iload_n S.x S.b d_Tok_mark_89 rfl (lv_at hl 1 rfl) ?_
              refine lv_iadd S.x S.b d_Tok_mark_90 ?_
              have lr320 := Int32.le_toInt (f 8)
              have ur320 := Int32.toInt_lt (f 8)
              refine lv_topi (fun z321 ez321 => ?_)
              have tz321 : z321.toInt = ((f 8).toInt + (1 : Int) + 2147483648) % 4294967296 - 2147483648 := by rw [ez321]; exact i_add (f 8) 1
              have lz321 := Int32.le_toInt z321
              have uz321 := Int32.toInt_lt z321
              try replace tz321 : z321.toInt = (f 8).toInt + (1 : Int) := by omega
              first | refine px_calli (pr := []) (px_runV (As := [.int z321]) (rest := []) S (c_t2_byteAt l D cs h r tp tb g f a z321  (show TokOk (f 7) (f 8) (f 10) (f 11) (f 12) (f 13) (f 17) (a 4) from ⟨⟨o1, o2⟩, ⟨g1, o4⟩, ⟨o5, o6⟩, ⟨o7, o8⟩, ⟨o9, o10⟩, ⟨o11, o12⟩, o13, hn4⟩) _) hT (pr := []) (pcs := [wd_Tok cs h r (fun _ => some tp) f a g, [(tp, .inl (cs 1, 2048, .inl tb))]]) hw px_X.tt (px_recv hT hw 0 0 rfl rfl rfl) m3_186 m3_183 m3_185 ms_1_6 m1_2 q_Tok_byteAt ⟨Nat.le_of_ble_eq_true rfl, Nat.le_of_ble_eq_true rfl⟩ hl.1 rfl (Nat.le_of_ble_eq_true rfl) d_Tok_mark_91 ⟨Nat.le_of_ble_eq_true rfl, Nat.le_of_ble_eq_true rfl⟩) hw hA (fun v323 p322 H locs hp322 hw => ?_) | refine px_calli (pr := []) (px_runV (As := [.int z321]) (rest := []) S (c_t2_byteAt l D cs h r tp tb g f a z321  (show TokOk (f 7) (f 8) (f 10) (f 11) (f 12) (f 13) (f 17) (a 4) from ⟨⟨by first | exact o1 | omega, by first | exact o2 | omega⟩, ⟨by first | exact g1 | omega, by first | exact o4 | omega⟩, ⟨by first | exact o5 | omega, by first | exact o6 | omega⟩, ⟨by first | exact o7 | omega, by first | exact o8 | omega⟩, ⟨by first | exact o9 | omega, by first | exact o10 | omega⟩, ⟨by first | exact o11 | omega, by first | exact o12 | omega⟩, by first | exact o13 | omega, hn4⟩) _) hT (pr := []) (pcs := [wd_Tok cs h r (fun _ => some tp) f a g, [(tp, .inl (cs 1, 2048, .inl tb))]]) hw px_X.tt (px_recv hT hw 0 0 rfl rfl rfl) m3_186 m3_183 m3_185 ms_1_6 m1_2 q_Tok_byteAt ⟨Nat.le_of_ble_eq_true rfl, Nat.le_of_ble_eq_true rfl⟩ hl.1 rfl (Nat.le_of_ble_eq_true rfl) d_Tok_mark_91 ⟨Nat.le_of_ble_eq_true rfl, Nat.le_of_ble_eq_true rfl⟩) hw hA (fun v323 p322 H locs hp322 hw => ?_)
              obtain ⟨rfl, e324, e325, e326, e327, e328⟩ := hp322
              have e324 : -1 ≤ v323.toInt := e324
              have e325 : v323.toInt ≤ 255 := e325
              have e326 : 0 ≤ v323.toInt → 0 ≤ z321.toInt ∧ z321.toInt < (f 7).toInt := e326
              have e327 : By tb (f 7) z321 v323 := e327
              have e328 : R_t2_byteAt tb f z321 v323 := e328
              have lv323 := Int32.le_toInt v323
              have uv323 := Int32.toInt_lt v323
              refine lv_bipush (v := 61) S.x S.b d_Tok_mark_94 (by decide) ?_
              refine lv_icmp_ne (tgt := 106) S.x S.b d_Tok_mark_96 (by decide) (fun c329 => ?_) (fun c329 => ?_)
              · have nc329 : ¬ v323.toInt = (61 : Int) := mt (i_eq (x := v323) (y := 61)).mpr c329
                refine lv_iconst (v := 0) S.x S.b d_Tok_mark_106 (by decide) ?_
                refine lv_istore (lv' := [(5, .int 0), (4, .int 0), (3, .int 1), (2, .int 256), (0, .ref h), (1, .int p0)]) S.x S.b d_Tok_mark_107 hl (by decide) rfl (fun ls hl => ?_)
                refine lv_iload S.x S.b d_Tok_mark_109 (lv_at hl 0 rfl) ?_
                refine lv_if_le (tgt := 120) S.x S.b d_Tok_mark_111 (by decide) (fun c331 => ?_) (fun c331 => ?_)
                ·
                  refine lv_aload_n S.x S.b d_Tok_mark_120 rfl (lv_at hl 4 rfl) ?_
                  refine lv_dup S.x S.b d_Tok_mark_121 rfl ?_
                  refine px_get S k_Tok hT hw 0 0 8 (v := .int (f 8)) rfl rfl rfl (by decide) m1_111 d_Tok_mark_122 ?_
                  refine lv_iload_n S.x S.b d_Tok_mark_125 rfl (lv_at hl 2 rfl) ?_
                  refine lv_iadd S.x S.b d_Tok_mark_126 ?_
                  have lr332 := Int32.le_toInt (f 8)
                  have ur332 := Int32.toInt_lt (f 8)
                  refine lv_topi (fun z333 ez333 => ?_)
                  have tz333 : z333.toInt = ((f 8).toInt + (1 : Int) + 2147483648) % 4294967296 - 2147483648 := by rw [ez333]; exact i_add (f 8) 1
                  have lz333 := Int32.le_toInt z333
                  have uz333 := Int32.toInt_lt z333
                  try replace tz333 : z333.toInt = (f 8).toInt + (1 : Int) := by omega
                  refine px_put S k_Tok hT hw 0 0 8 rfl rfl (by decide) m1_111 rfl rfl rfl (Nat.le_of_ble_eq_true rfl) d_Tok_mark_127 (w' := wd_Tok cs h r (fun _ => some tp) (upd f 8 z333) a g) (ps' := [wd_Tok cs h r (fun _ => some tp) (upd f 8 z333) a g, [(tp, .inl (cs 1, 2048, .inl tb))]]) rfl rfl (fun H locs hw => ?_)
                  refine lv_iload_n S.x S.b d_Tok_mark_130 rfl (lv_at hl 3 rfl) ?_
                  first | exact px_iret (v := 256) S hr rfl hlk hAe hw (Nat.le_of_ble_eq_true rfl) (Nat.le_of_ble_eq_true rfl) (⟨(upd f 8 z333), a, rfl, (show TokOk (f 7) z333 (f 10) (f 11) (f 12) (f 13) (f 17) (a 4) from ⟨⟨o1, o2⟩, ⟨(oz_b3b25f0e49 tz333 g1), (oz_8964937ede g2 tz333)⟩, ⟨o5, o6⟩, ⟨o7, o8⟩, ⟨o9, o10⟩, ⟨o11, o12⟩, o13, hn4⟩), (show (f 7).toInt = (f 7).toInt from rfl), (show (f 10).toInt = (f 10).toInt from rfl), (show (f 15).toInt = (f 15).toInt from rfl), (show (256 : Int) = 19 ∨ (f 8).toInt + 1 ≤ z333.toInt from by omega), (show Q5 (a 5) from hq5), (show R_t2_mark sn sb tb p0 f a (upd f 8 z333) a (256 : Int32) from (Or.inl (Or.inr ⟨nc1, z200, ez200, v202, e203, Or.inr ⟨nc204, Or.inr ⟨nc206, z298, ez298, v300, e305, Or.inl ⟨nc306, z309, ez309, v311, e316, Or.inl ⟨nc317, z321, ez321, v323, e328, Or.inl ⟨nc329, z333, ez333, rfl, rfl, rfl⟩⟩⟩⟩⟩⟩)))⟩) d_Tok_mark_131 | exact px_iret (v := 256) S hr rfl hlk hAe hw (Nat.le_of_ble_eq_true rfl) (Nat.le_of_ble_eq_true rfl) (⟨(upd f 8 z333), a, rfl, (show TokOk (f 7) z333 (f 10) (f 11) (f 12) (f 13) (f 17) (a 4) from ⟨⟨by first | exact o1 | omega, by first | exact o2 | omega⟩, ⟨by first | exact oz_b3b25f0e49 tz333 g1 | omega, by first | exact oz_8964937ede g2 tz333 | omega⟩, ⟨by first | exact o5 | omega, by first | exact o6 | omega⟩, ⟨by first | exact o7 | omega, by first | exact o8 | omega⟩, ⟨by first | exact o9 | omega, by first | exact o10 | omega⟩, ⟨by first | exact o11 | omega, by first | exact o12 | omega⟩, by first | exact o13 | omega, hn4⟩), (show (f 7).toInt = (f 7).toInt from rfl), (show (f 10).toInt = (f 10).toInt from rfl), (show (f 15).toInt = (f 15).toInt from rfl), (show (256 : Int) = 19 ∨ (f 8).toInt + 1 ≤ z333.toInt from by omega), (show Q5 (a 5) from hq5), (show R_t2_mark sn sb tb p0 f a (upd f 8 z333) a (256 : Int32) from (Or.inl (Or.inr ⟨nc1, z200, ez200, v202, e203, Or.inr ⟨nc204, Or.inr ⟨nc206, z298, ez298, v300, e305, Or.inl ⟨nc306, z309, ez309, v311, e316, Or.inl ⟨nc317, z321, ez321, v323, e328, Or.inl ⟨nc329, z333, ez333, rfl, rfl, rfl⟩⟩⟩⟩⟩⟩)))⟩) d_Tok_mark_131
                · exact absurd c331 (by decide)
              · have nc329 : v323.toInt = (61 : Int) := (i_eq (x := v323) (y := 61)).mp c329
                refine lv_iload_n S.x S.b d_Tok_mark_99 rfl (lv_at hl 2 rfl) ?_
                refine px_calli (pr := [wd_Tok cs h r (fun _ => some tp) f a g, [(tp, .inl (cs 1, 2048, .inl tb))]]) (px_runS (As := [.int 256]) (rest := []) S (c_t2_withEquals l D cs  256   _) hT (pr := [wd_Tok cs h r (fun _ => some tp) f a g, [(tp, .inl (cs 1, 2048, .inl tb))]]) (pcs := []) hw px_X.tt m4_67 m4_65 m4_66 m1_2 q_Tok_withEquals ⟨Nat.le_of_ble_eq_true rfl, Nat.le_of_ble_eq_true rfl⟩ hl.1 rfl (Nat.le_of_ble_eq_true rfl) d_Tok_mark_100 ⟨Nat.le_of_ble_eq_true rfl, Nat.le_of_ble_eq_true rfl⟩) hw hA (fun v335 p334 H locs hp334 hw => ?_)
                obtain ⟨rfl, e336⟩ := hp334
                have e336 : R_t2_withEquals (256 : Int32) v335 := e336
                have lv335 := Int32.le_toInt v335
                have uv335 := Int32.toInt_lt v335
                refine lv_goto (tgt := 107) S.x S.b d_Tok_mark_103 (by decide) ?_
                refine lv_istore (lv' := [(5, .int v335), (4, .int 0), (3, .int 1), (2, .int 256), (0, .ref h), (1, .int p0)]) S.x S.b d_Tok_mark_107 hl (by decide) rfl (fun ls hl => ?_)
                refine lv_iload S.x S.b d_Tok_mark_109 (lv_at hl 0 rfl) ?_
                refine lv_if_le (tgt := 120) S.x S.b d_Tok_mark_111 (by decide) (fun c337 => ?_) (fun c337 => ?_)
                · have nc337 : v335.toInt ≤ (0 : Int) := (i_le (x := v335) (y := 0)).mp c337
                  refine lv_aload_n S.x S.b d_Tok_mark_120 rfl (lv_at hl 4 rfl) ?_
                  refine lv_dup S.x S.b d_Tok_mark_121 rfl ?_
                  refine px_get S k_Tok hT hw 0 0 8 (v := .int (f 8)) rfl rfl rfl (by decide) m1_111 d_Tok_mark_122 ?_
                  refine lv_iload_n S.x S.b d_Tok_mark_125 rfl (lv_at hl 2 rfl) ?_
                  refine lv_iadd S.x S.b d_Tok_mark_126 ?_
                  have lr339 := Int32.le_toInt (f 8)
                  have ur339 := Int32.toInt_lt (f 8)
                  refine lv_topi (fun z340 ez340 => ?_)
                  have tz340 : z340.toInt = ((f 8).toInt + (1 : Int) + 2147483648) % 4294967296 - 2147483648 := by rw [ez340]; exact i_add (f 8) 1
                  have lz340 := Int32.le_toInt z340
                  have uz340 := Int32.toInt_lt z340
                  try replace tz340 : z340.toInt = (f 8).toInt + (1 : Int) := by omega
                  refine px_put S k_Tok hT hw 0 0 8 rfl rfl (by decide) m1_111 rfl rfl rfl (Nat.le_of_ble_eq_true rfl) d_Tok_mark_127 (w' := wd_Tok cs h r (fun _ => some tp) (upd f 8 z340) a g) (ps' := [wd_Tok cs h r (fun _ => some tp) (upd f 8 z340) a g, [(tp, .inl (cs 1, 2048, .inl tb))]]) rfl rfl (fun H locs hw => ?_)
                  refine lv_iload_n S.x S.b d_Tok_mark_130 rfl (lv_at hl 3 rfl) ?_
                  first | exact px_iret (v := 256) S hr rfl hlk hAe hw (Nat.le_of_ble_eq_true rfl) (Nat.le_of_ble_eq_true rfl) (⟨(upd f 8 z340), a, rfl, (show TokOk (f 7) z340 (f 10) (f 11) (f 12) (f 13) (f 17) (a 4) from ⟨⟨o1, o2⟩, ⟨(oz_b3b25f0e49 tz340 g1), (oz_8964937ede g2 tz340)⟩, ⟨o5, o6⟩, ⟨o7, o8⟩, ⟨o9, o10⟩, ⟨o11, o12⟩, o13, hn4⟩), (show (f 7).toInt = (f 7).toInt from rfl), (show (f 10).toInt = (f 10).toInt from rfl), (show (f 15).toInt = (f 15).toInt from rfl), (show (256 : Int) = 19 ∨ (f 8).toInt + 1 ≤ z340.toInt from by omega), (show Q5 (a 5) from hq5), (show R_t2_mark sn sb tb p0 f a (upd f 8 z340) a (256 : Int32) from (Or.inl (Or.inr ⟨nc1, z200, ez200, v202, e203, Or.inr ⟨nc204, Or.inr ⟨nc206, z298, ez298, v300, e305, Or.inl ⟨nc306, z309, ez309, v311, e316, Or.inl ⟨nc317, z321, ez321, v323, e328, Or.inr ⟨nc329, v335, e336, Or.inl ⟨nc337, z340, ez340, rfl, rfl, rfl⟩⟩⟩⟩⟩⟩⟩)))⟩) d_Tok_mark_131 | exact px_iret (v := 256) S hr rfl hlk hAe hw (Nat.le_of_ble_eq_true rfl) (Nat.le_of_ble_eq_true rfl) (⟨(upd f 8 z340), a, rfl, (show TokOk (f 7) z340 (f 10) (f 11) (f 12) (f 13) (f 17) (a 4) from ⟨⟨by first | exact o1 | omega, by first | exact o2 | omega⟩, ⟨by first | exact oz_b3b25f0e49 tz340 g1 | omega, by first | exact oz_8964937ede g2 tz340 | omega⟩, ⟨by first | exact o5 | omega, by first | exact o6 | omega⟩, ⟨by first | exact o7 | omega, by first | exact o8 | omega⟩, ⟨by first | exact o9 | omega, by first | exact o10 | omega⟩, ⟨by first | exact o11 | omega, by first | exact o12 | omega⟩, by first | exact o13 | omega, hn4⟩), (show (f 7).toInt = (f 7).toInt from rfl), (show (f 10).toInt = (f 10).toInt from rfl), (show (f 15).toInt = (f 15).toInt from rfl), (show (256 : Int) = 19 ∨ (f 8).toInt + 1 ≤ z340.toInt from by omega), (show Q5 (a 5) from hq5), (show R_t2_mark sn sb tb p0 f a (upd f 8 z340) a (256 : Int32) from (Or.inl (Or.inr ⟨nc1, z200, ez200, v202, e203, Or.inr ⟨nc204, Or.inr ⟨nc206, z298, ez298, v300, e305, Or.inl ⟨nc306, z309, ez309, v311, e316, Or.inl ⟨nc317, z321, ez321, v323, e328, Or.inr ⟨nc329, v335, e336, Or.inl ⟨nc337, z340, ez340, rfl, rfl, rfl⟩⟩⟩⟩⟩⟩⟩)))⟩) d_Tok_mark_131
                · have nc337 : ¬ v335.toInt ≤ (0 : Int) := mt (i_le (x := v335) (y := 0)).mpr c337
                  refine lv_iload S.x S.b d_Tok_mark_114 (lv_at hl 0 rfl) ?_
                  refine lv_istore_n (lv' := [(2, .int v335), (5, .int v335), (4, .int 0), (3, .int 1), (0, .ref h), (1, .int p0)]) S.x S.b d_Tok_mark_116 rfl hl (by decide) rfl (fun ls hl => ?_)
                  obtain ⟨z341, ez341⟩ : ∃ y : Int32, y = 1 + 1 := ⟨_, rfl⟩
                  have tz341 : z341.toInt = ((1 : Int) + 1 + 2147483648) % 4294967296 - 2147483648 := by rw [ez341]; exact i_add 1 1
                  have lz341 := Int32.le_toInt z341
                  have uz341 := Int32.toInt_lt z341
                  try replace tz341 : z341.toInt = (1 : Int) + 1 := by omega
                  refine lv_iinc (v := z341) (lv' := [(3, .int z341), (2, .int v335), (5, .int v335), (4, .int 0), (0, .ref h), (1, .int p0)]) S.x S.b d_Tok_mark_117 hl (k := 3) rfl (by rw [ez341]; rfl) (by decide) rfl (fun ls hl => ?_)
                  refine lv_aload_n S.x S.b d_Tok_mark_120 rfl (lv_at hl 4 rfl) ?_
                  refine lv_dup S.x S.b d_Tok_mark_121 rfl ?_
                  refine px_get S k_Tok hT hw 0 0 8 (v := .int (f 8)) rfl rfl rfl (by decide) m1_111 d_Tok_mark_122 ?_
                  refine lv_iload_n S.x S.b d_Tok_mark_125 rfl (lv_at hl 0 rfl) ?_
                  refine lv_iadd S.x S.b d_Tok_mark_126 ?_
                  have lr342 := Int32.le_toInt (f 8)
                  have ur342 := Int32.toInt_lt (f 8)
                  refine lv_topi (fun z343 ez343 => ?_)
                  have tz343 : z343.toInt = ((f 8).toInt + z341.toInt + 2147483648) % 4294967296 - 2147483648 := by rw [ez343]; exact i_add (f 8) z341
                  have lz343 := Int32.le_toInt z343
                  have uz343 := Int32.toInt_lt z343
                  try replace tz343 : z343.toInt = (f 8).toInt + z341.toInt := by omega
                  refine px_put S k_Tok hT hw 0 0 8 rfl rfl (by decide) m1_111 rfl rfl rfl (Nat.le_of_ble_eq_true rfl) d_Tok_mark_127 (w' := wd_Tok cs h r (fun _ => some tp) (upd f 8 z343) a g) (ps' := [wd_Tok cs h r (fun _ => some tp) (upd f 8 z343) a g, [(tp, .inl (cs 1, 2048, .inl tb))]]) rfl rfl (fun H locs hw => ?_)
                  refine lv_iload_n S.x S.b d_Tok_mark_130 rfl (lv_at hl 1 rfl) ?_
                  first | exact px_iret (v := v335) S hr rfl hlk hAe hw (Nat.le_of_ble_eq_true rfl) (Nat.le_of_ble_eq_true rfl) (⟨(upd f 8 z343), a, rfl, (show TokOk (f 7) z343 (f 10) (f 11) (f 12) (f 13) (f 17) (a 4) from ⟨⟨o1, o2⟩, ⟨(oz_0aba5895db tz343 g1 tz341), (oz_034949d2cd g2 tz343 tz341)⟩, ⟨o5, o6⟩, ⟨o7, o8⟩, ⟨o9, o10⟩, ⟨o11, o12⟩, o13, hn4⟩), (show (f 7).toInt = (f 7).toInt from rfl), (show (f 10).toInt = (f 10).toInt from rfl), (show (f 15).toInt = (f 15).toInt from rfl), (show v335.toInt = 19 ∨ (f 8).toInt + 1 ≤ z343.toInt from by omega), (show Q5 (a 5) from hq5), (show R_t2_mark sn sb tb p0 f a (upd f 8 z343) a v335 from (Or.inl (Or.inr ⟨nc1, z200, ez200, v202, e203, Or.inr ⟨nc204, Or.inr ⟨nc206, z298, ez298, v300, e305, Or.inl ⟨nc306, z309, ez309, v311, e316, Or.inl ⟨nc317, z321, ez321, v323, e328, Or.inr ⟨nc329, v335, e336, Or.inr ⟨nc337, z341, ez341, z343, ez343, rfl, rfl, rfl⟩⟩⟩⟩⟩⟩⟩)))⟩) d_Tok_mark_131 | exact px_iret (v := v335) S hr rfl hlk hAe hw (Nat.le_of_ble_eq_true rfl) (Nat.le_of_ble_eq_true rfl) (⟨(upd f 8 z343), a, rfl, (show TokOk (f 7) z343 (f 10) (f 11) (f 12) (f 13) (f 17) (a 4) from ⟨⟨by first | exact o1 | omega, by first | exact o2 | omega⟩, ⟨by first | exact oz_0aba5895db tz343 g1 tz341 | omega, by first | exact oz_034949d2cd g2 tz343 tz341 | omega⟩, ⟨by first | exact o5 | omega, by first | exact o6 | omega⟩, ⟨by first | exact o7 | omega, by first | exact o8 | omega⟩, ⟨by first | exact o9 | omega, by first | exact o10 | omega⟩, ⟨by first | exact o11 | omega, by first | exact o12 | omega⟩, by first | exact o13 | omega, hn4⟩), (show (f 7).toInt = (f 7).toInt from rfl), (show (f 10).toInt = (f 10).toInt from rfl), (show (f 15).toInt = (f 15).toInt from rfl), (show v335.toInt = 19 ∨ (f 8).toInt + 1 ≤ z343.toInt from by omega), (show Q5 (a 5) from hq5), (show R_t2_mark sn sb tb p0 f a (upd f 8 z343) a v335 from (Or.inl (Or.inr ⟨nc1, z200, ez200, v202, e203, Or.inr ⟨nc204, Or.inr ⟨nc206, z298, ez298, v300, e305, Or.inl ⟨nc306, z309, ez309, v311, e316, Or.inl ⟨nc317, z321, ez321, v323, e328, Or.inr ⟨nc329, v335, e336, Or.inr ⟨nc337, z341, ez341, z343, ez343, rfl, rfl, rfl⟩⟩⟩⟩⟩⟩⟩)))⟩) d_Tok_mark_131
            · exact absurd c319 (by decide)
          · have nc317 : v311.toInt = p0.toInt := (i_eq (x := v311) (y := p0)).mp c317
            refine lv_iload_n S.x S.b d_Tok_mark_64 rfl (lv_at hl 3 rfl) ?_
            refine px_calli (pr := [wd_Tok cs h r (fun _ => some tp) f a g, [(tp, .inl (cs 1, 2048, .inl tb))]]) (px_runS (As := [.int p0]) (rest := []) S (c_t2_doubled l D cs  p0   _) hT (pr := [wd_Tok cs h r (fun _ => some tp) f a g, [(tp, .inl (cs 1, 2048, .inl tb))]]) (pcs := []) hw px_X.tt m4_64 m4_62 m4_63 m1_2 q_Tok_doubled ⟨Nat.le_of_ble_eq_true rfl, Nat.le_of_ble_eq_true rfl⟩ hl.1 rfl (Nat.le_of_ble_eq_true rfl) d_Tok_mark_65 ⟨Nat.le_of_ble_eq_true rfl, Nat.le_of_ble_eq_true rfl⟩) hw hA (fun v345 p344 H locs hp344 hw => ?_)
            obtain ⟨rfl, e346⟩ := hp344
            have e346 : R_t2_doubled p0 v345 := e346
            have lv345 := Int32.le_toInt v345
            have uv345 := Int32.toInt_lt v345
            refine lv_goto (tgt := 72) S.x S.b d_Tok_mark_68 (by decide) ?_
            refine lv_istore (lv' := [(4, .int v345), (3, .int 1), (2, .int 256), (0, .ref h), (1, .int p0)]) S.x S.b d_Tok_mark_72 hl (by decide) rfl (fun ls hl => ?_)
            refine lv_iload S.x S.b d_Tok_mark_74 (lv_at hl 0 rfl) ?_
            refine lv_if_le (tgt := 84) S.x S.b d_Tok_mark_76 (by decide) (fun c347 => ?_) (fun c347 => ?_)
            · have nc347 : v345.toInt ≤ (0 : Int) := (i_le (x := v345) (y := 0)).mp c347
              refine lv_aload_n S.x S.b d_Tok_mark_84 rfl (lv_at hl 3 rfl) ?_
              refine lv_aload_n S.x S.b d_Tok_mark_85 rfl (lv_at hl 3 rfl) ?_
              refine px_get S k_Tok hT hw 0 0 8 (v := .int (f 8)) rfl rfl rfl (by decide) m1_111 d_Tok_mark_86 ?_
              refine lv_iload_n S.x S.b d_Tok_mark_89 rfl (lv_at hl 1 rfl) ?_
              refine lv_iadd S.x S.b d_Tok_mark_90 ?_
              have lr349 := Int32.le_toInt (f 8)
              have ur349 := Int32.toInt_lt (f 8)
              refine lv_topi (fun z350 ez350 => ?_)
              have tz350 : z350.toInt = ((f 8).toInt + (1 : Int) + 2147483648) % 4294967296 - 2147483648 := by rw [ez350]; exact i_add (f 8) 1
              have lz350 := Int32.le_toInt z350
              have uz350 := Int32.toInt_lt z350
              try replace tz350 : z350.toInt = (f 8).toInt + (1 : Int) := by omega
              first | refine px_calli (pr := []) (px_runV (As := [.int z350]) (rest := []) S (c_t2_byteAt l D cs h r tp tb g f a z350  (show TokOk (f 7) (f 8) (f 10) (f 11) (f 12) (f 13) (f 17) (a 4) from ⟨⟨o1, o2⟩, ⟨g1, o4⟩, ⟨o5, o6⟩, ⟨o7, o8⟩, ⟨o9, o10⟩, ⟨o11, o12⟩, o13, hn4⟩) _) hT (pr := []) (pcs := [wd_Tok cs h r (fun _ => some tp) f a g, [(tp, .inl (cs 1, 2048, .inl tb))]]) hw px_X.tt (px_recv hT hw 0 0 rfl rfl rfl) m3_186 m3_183 m3_185 ms_1_6 m1_2 q_Tok_byteAt ⟨Nat.le_of_ble_eq_true rfl, Nat.le_of_ble_eq_true rfl⟩ hl.1 rfl (Nat.le_of_ble_eq_true rfl) d_Tok_mark_91 ⟨Nat.le_of_ble_eq_true rfl, Nat.le_of_ble_eq_true rfl⟩) hw hA (fun v352 p351 H locs hp351 hw => ?_) | refine px_calli (pr := []) (px_runV (As := [.int z350]) (rest := []) S (c_t2_byteAt l D cs h r tp tb g f a z350  (show TokOk (f 7) (f 8) (f 10) (f 11) (f 12) (f 13) (f 17) (a 4) from ⟨⟨by first | exact o1 | omega, by first | exact o2 | omega⟩, ⟨by first | exact g1 | omega, by first | exact o4 | omega⟩, ⟨by first | exact o5 | omega, by first | exact o6 | omega⟩, ⟨by first | exact o7 | omega, by first | exact o8 | omega⟩, ⟨by first | exact o9 | omega, by first | exact o10 | omega⟩, ⟨by first | exact o11 | omega, by first | exact o12 | omega⟩, by first | exact o13 | omega, hn4⟩) _) hT (pr := []) (pcs := [wd_Tok cs h r (fun _ => some tp) f a g, [(tp, .inl (cs 1, 2048, .inl tb))]]) hw px_X.tt (px_recv hT hw 0 0 rfl rfl rfl) m3_186 m3_183 m3_185 ms_1_6 m1_2 q_Tok_byteAt ⟨Nat.le_of_ble_eq_true rfl, Nat.le_of_ble_eq_true rfl⟩ hl.1 rfl (Nat.le_of_ble_eq_true rfl) d_Tok_mark_91 ⟨Nat.le_of_ble_eq_true rfl, Nat.le_of_ble_eq_true rfl⟩) hw hA (fun v352 p351 H locs hp351 hw => ?_)
              obtain ⟨rfl, e353, e354, e355, e356, e357⟩ := hp351
              have e353 : -1 ≤ v352.toInt := e353
              have e354 : v352.toInt ≤ 255 := e354
              have e355 : 0 ≤ v352.toInt → 0 ≤ z350.toInt ∧ z350.toInt < (f 7).toInt := e355
              have e356 : By tb (f 7) z350 v352 := e356
              have e357 : R_t2_byteAt tb f z350 v352 := e357
              have lv352 := Int32.le_toInt v352
              have uv352 := Int32.toInt_lt v352
              refine lv_bipush (v := 61) S.x S.b d_Tok_mark_94 (by decide) ?_
              refine lv_icmp_ne (tgt := 106) S.x S.b d_Tok_mark_96 (by decide) (fun c358 => ?_) (fun c358 => ?_)
              · have nc358 : ¬ v352.toInt = (61 : Int) := mt (i_eq (x := v352) (y := 61)).mpr c358
                refine lv_iconst (v := 0) S.x S.b d_Tok_mark_106 (by decide) ?_
                refine lv_istore (lv' := [(5, .int 0), (4, .int v345), (3, .int 1), (2, .int 256), (0, .ref h), (1, .int p0)]) S.x S.b d_Tok_mark_107 hl (by decide) rfl (fun ls hl => ?_)
                refine lv_iload S.x S.b d_Tok_mark_109 (lv_at hl 0 rfl) ?_
                refine lv_if_le (tgt := 120) S.x S.b d_Tok_mark_111 (by decide) (fun c360 => ?_) (fun c360 => ?_)
                ·
                  refine lv_aload_n S.x S.b d_Tok_mark_120 rfl (lv_at hl 4 rfl) ?_
                  refine lv_dup S.x S.b d_Tok_mark_121 rfl ?_
                  refine px_get S k_Tok hT hw 0 0 8 (v := .int (f 8)) rfl rfl rfl (by decide) m1_111 d_Tok_mark_122 ?_
                  refine lv_iload_n S.x S.b d_Tok_mark_125 rfl (lv_at hl 2 rfl) ?_
                  refine lv_iadd S.x S.b d_Tok_mark_126 ?_
                  have lr361 := Int32.le_toInt (f 8)
                  have ur361 := Int32.toInt_lt (f 8)
                  refine lv_topi (fun z362 ez362 => ?_)
                  have tz362 : z362.toInt = ((f 8).toInt + (1 : Int) + 2147483648) % 4294967296 - 2147483648 := by rw [ez362]; exact i_add (f 8) 1
                  have lz362 := Int32.le_toInt z362
                  have uz362 := Int32.toInt_lt z362
                  try replace tz362 : z362.toInt = (f 8).toInt + (1 : Int) := by omega
                  refine px_put S k_Tok hT hw 0 0 8 rfl rfl (by decide) m1_111 rfl rfl rfl (Nat.le_of_ble_eq_true rfl) d_Tok_mark_127 (w' := wd_Tok cs h r (fun _ => some tp) (upd f 8 z362) a g) (ps' := [wd_Tok cs h r (fun _ => some tp) (upd f 8 z362) a g, [(tp, .inl (cs 1, 2048, .inl tb))]]) rfl rfl (fun H locs hw => ?_)
                  refine lv_iload_n S.x S.b d_Tok_mark_130 rfl (lv_at hl 3 rfl) ?_
                  first | exact px_iret (v := 256) S hr rfl hlk hAe hw (Nat.le_of_ble_eq_true rfl) (Nat.le_of_ble_eq_true rfl) (⟨(upd f 8 z362), a, rfl, (show TokOk (f 7) z362 (f 10) (f 11) (f 12) (f 13) (f 17) (a 4) from ⟨⟨o1, o2⟩, ⟨(oz_b3b25f0e49 tz362 g1), (oz_8964937ede g2 tz362)⟩, ⟨o5, o6⟩, ⟨o7, o8⟩, ⟨o9, o10⟩, ⟨o11, o12⟩, o13, hn4⟩), (show (f 7).toInt = (f 7).toInt from rfl), (show (f 10).toInt = (f 10).toInt from rfl), (show (f 15).toInt = (f 15).toInt from rfl), (show (256 : Int) = 19 ∨ (f 8).toInt + 1 ≤ z362.toInt from by omega), (show Q5 (a 5) from hq5), (show R_t2_mark sn sb tb p0 f a (upd f 8 z362) a (256 : Int32) from (Or.inl (Or.inr ⟨nc1, z200, ez200, v202, e203, Or.inr ⟨nc204, Or.inr ⟨nc206, z298, ez298, v300, e305, Or.inl ⟨nc306, z309, ez309, v311, e316, Or.inr ⟨nc317, v345, e346, Or.inl ⟨nc347, z350, ez350, v352, e357, Or.inl ⟨nc358, z362, ez362, rfl, rfl, rfl⟩⟩⟩⟩⟩⟩⟩)))⟩) d_Tok_mark_131 | exact px_iret (v := 256) S hr rfl hlk hAe hw (Nat.le_of_ble_eq_true rfl) (Nat.le_of_ble_eq_true rfl) (⟨(upd f 8 z362), a, rfl, (show TokOk (f 7) z362 (f 10) (f 11) (f 12) (f 13) (f 17) (a 4) from ⟨⟨by first | exact o1 | omega, by first | exact o2 | omega⟩, ⟨by first | exact oz_b3b25f0e49 tz362 g1 | omega, by first | exact oz_8964937ede g2 tz362 | omega⟩, ⟨by first | exact o5 | omega, by first | exact o6 | omega⟩, ⟨by first | exact o7 | omega, by first | exact o8 | omega⟩, ⟨by first | exact o9 | omega, by first | exact o10 | omega⟩, ⟨by first | exact o11 | omega, by first | exact o12 | omega⟩, by first | exact o13 | omega, hn4⟩), (show (f 7).toInt = (f 7).toInt from rfl), (show (f 10).toInt = (f 10).toInt from rfl), (show (f 15).toInt = (f 15).toInt from rfl), (show (256 : Int) = 19 ∨ (f 8).toInt + 1 ≤ z362.toInt from by omega), (show Q5 (a 5) from hq5), (show R_t2_mark sn sb tb p0 f a (upd f 8 z362) a (256 : Int32) from (Or.inl (Or.inr ⟨nc1, z200, ez200, v202, e203, Or.inr ⟨nc204, Or.inr ⟨nc206, z298, ez298, v300, e305, Or.inl ⟨nc306, z309, ez309, v311, e316, Or.inr ⟨nc317, v345, e346, Or.inl ⟨nc347, z350, ez350, v352, e357, Or.inl ⟨nc358, z362, ez362, rfl, rfl, rfl⟩⟩⟩⟩⟩⟩⟩)))⟩) d_Tok_mark_131
                · exact absurd c360 (by decide)
              · have nc358 : v352.toInt = (61 : Int) := (i_eq (x := v352) (y := 61)).mp c358
                refine lv_iload_n S.x S.b d_Tok_mark_99 rfl (lv_at hl 2 rfl) ?_
                refine px_calli (pr := [wd_Tok cs h r (fun _ => some tp) f a g, [(tp, .inl (cs 1, 2048, .inl tb))]]) (px_runS (As := [.int 256]) (rest := []) S (c_t2_withEquals l D cs  256   _) hT (pr := [wd_Tok cs h r (fun _ => some tp) f a g, [(tp, .inl (cs 1, 2048, .inl tb))]]) (pcs := []) hw px_X.tt m4_67 m4_65 m4_66 m1_2 q_Tok_withEquals ⟨Nat.le_of_ble_eq_true rfl, Nat.le_of_ble_eq_true rfl⟩ hl.1 rfl (Nat.le_of_ble_eq_true rfl) d_Tok_mark_100 ⟨Nat.le_of_ble_eq_true rfl, Nat.le_of_ble_eq_true rfl⟩) hw hA (fun v364 p363 H locs hp363 hw => ?_)
                obtain ⟨rfl, e365⟩ := hp363
                have e365 : R_t2_withEquals (256 : Int32) v364 := e365
                have lv364 := Int32.le_toInt v364
                have uv364 := Int32.toInt_lt v364
                refine lv_goto (tgt := 107) S.x S.b d_Tok_mark_103 (by decide) ?_
                refine lv_istore (lv' := [(5, .int v364), (4, .int v345), (3, .int 1), (2, .int 256), (0, .ref h), (1, .int p0)]) S.x S.b d_Tok_mark_107 hl (by decide) rfl (fun ls hl => ?_)
                refine lv_iload S.x S.b d_Tok_mark_109 (lv_at hl 0 rfl) ?_
                refine lv_if_le (tgt := 120) S.x S.b d_Tok_mark_111 (by decide) (fun c366 => ?_) (fun c366 => ?_)
                · have nc366 : v364.toInt ≤ (0 : Int) := (i_le (x := v364) (y := 0)).mp c366
                  refine lv_aload_n S.x S.b d_Tok_mark_120 rfl (lv_at hl 4 rfl) ?_
                  refine lv_dup S.x S.b d_Tok_mark_121 rfl ?_
                  refine px_get S k_Tok hT hw 0 0 8 (v := .int (f 8)) rfl rfl rfl (by decide) m1_111 d_Tok_mark_122 ?_
                  refine lv_iload_n S.x S.b d_Tok_mark_125 rfl (lv_at hl 2 rfl) ?_
                  refine lv_iadd S.x S.b d_Tok_mark_126 ?_
                  have lr368 := Int32.le_toInt (f 8)
                  have ur368 := Int32.toInt_lt (f 8)
                  refine lv_topi (fun z369 ez369 => ?_)
                  have tz369 : z369.toInt = ((f 8).toInt + (1 : Int) + 2147483648) % 4294967296 - 2147483648 := by rw [ez369]; exact i_add (f 8) 1
                  have lz369 := Int32.le_toInt z369
                  have uz369 := Int32.toInt_lt z369
                  try replace tz369 : z369.toInt = (f 8).toInt + (1 : Int) := by omega
                  refine px_put S k_Tok hT hw 0 0 8 rfl rfl (by decide) m1_111 rfl rfl rfl (Nat.le_of_ble_eq_true rfl) d_Tok_mark_127 (w' := wd_Tok cs h r (fun _ => some tp) (upd f 8 z369) a g) (ps' := [wd_Tok cs h r (fun _ => some tp) (upd f 8 z369) a g, [(tp, .inl (cs 1, 2048, .inl tb))]]) rfl rfl (fun H locs hw => ?_)
                  refine lv_iload_n S.x S.b d_Tok_mark_130 rfl (lv_at hl 3 rfl) ?_
                  first | exact px_iret (v := 256) S hr rfl hlk hAe hw (Nat.le_of_ble_eq_true rfl) (Nat.le_of_ble_eq_true rfl) (⟨(upd f 8 z369), a, rfl, (show TokOk (f 7) z369 (f 10) (f 11) (f 12) (f 13) (f 17) (a 4) from ⟨⟨o1, o2⟩, ⟨(oz_b3b25f0e49 tz369 g1), (oz_8964937ede g2 tz369)⟩, ⟨o5, o6⟩, ⟨o7, o8⟩, ⟨o9, o10⟩, ⟨o11, o12⟩, o13, hn4⟩), (show (f 7).toInt = (f 7).toInt from rfl), (show (f 10).toInt = (f 10).toInt from rfl), (show (f 15).toInt = (f 15).toInt from rfl), (show (256 : Int) = 19 ∨ (f 8).toInt + 1 ≤ z369.toInt from by omega), (show Q5 (a 5) from hq5), (show R_t2_mark sn sb tb p0 f a (upd f 8 z369) a (256 : Int32) from (Or.inl (Or.inr ⟨nc1, z200, ez200, v202, e203, Or.inr ⟨nc204, Or.inr ⟨nc206, z298, ez298, v300, e305, Or.inl ⟨nc306, z309, ez309, v311, e316, Or.inr ⟨nc317, v345, e346, Or.inl ⟨nc347, z350, ez350, v352, e357, Or.inr ⟨nc358, v364, e365, Or.inl ⟨nc366, z369, ez369, rfl, rfl, rfl⟩⟩⟩⟩⟩⟩⟩⟩)))⟩) d_Tok_mark_131 | exact px_iret (v := 256) S hr rfl hlk hAe hw (Nat.le_of_ble_eq_true rfl) (Nat.le_of_ble_eq_true rfl) (⟨(upd f 8 z369), a, rfl, (show TokOk (f 7) z369 (f 10) (f 11) (f 12) (f 13) (f 17) (a 4) from ⟨⟨by first | exact o1 | omega, by first | exact o2 | omega⟩, ⟨by first | exact oz_b3b25f0e49 tz369 g1 | omega, by first | exact oz_8964937ede g2 tz369 | omega⟩, ⟨by first | exact o5 | omega, by first | exact o6 | omega⟩, ⟨by first | exact o7 | omega, by first | exact o8 | omega⟩, ⟨by first | exact o9 | omega, by first | exact o10 | omega⟩, ⟨by first | exact o11 | omega, by first | exact o12 | omega⟩, by first | exact o13 | omega, hn4⟩), (show (f 7).toInt = (f 7).toInt from rfl), (show (f 10).toInt = (f 10).toInt from rfl), (show (f 15).toInt = (f 15).toInt from rfl), (show (256 : Int) = 19 ∨ (f 8).toInt + 1 ≤ z369.toInt from by omega), (show Q5 (a 5) from hq5), (show R_t2_mark sn sb tb p0 f a (upd f 8 z369) a (256 : Int32) from (Or.inl (Or.inr ⟨nc1, z200, ez200, v202, e203, Or.inr ⟨nc204, Or.inr ⟨nc206, z298, ez298, v300, e305, Or.inl ⟨nc306, z309, ez309, v311, e316, Or.inr ⟨nc317, v345, e346, Or.inl ⟨nc347, z350, ez350, v352, e357, Or.inr ⟨nc358, v364, e365, Or.inl ⟨nc366, z369, ez369, rfl, rfl, rfl⟩⟩⟩⟩⟩⟩⟩⟩)))⟩) d_Tok_mark_131
                · have nc366 : ¬ v364.toInt ≤ (0 : Int) := mt (i_le (x := v364) (y := 0)).mpr c366
                  refine lv_iload S.x S.b d_Tok_mark_114 (lv_at hl 0 rfl) ?_
                  refine lv_istore_n (lv' := [(2, .int v364), (5, .int v364), (4, .int v345), (3, .int 1), (0, .ref h), (1, .int p0)]) S.x S.b d_Tok_mark_116 rfl hl (by decide) rfl (fun ls hl => ?_)
                  obtain ⟨z370, ez370⟩ : ∃ y : Int32, y = 1 + 1 := ⟨_, rfl⟩
                  have tz370 : z370.toInt = ((1 : Int) + 1 + 2147483648) % 4294967296 - 2147483648 := by rw [ez370]; exact i_add 1 1
                  have lz370 := Int32.le_toInt z370
                  have uz370 := Int32.toInt_lt z370
                  try replace tz370 : z370.toInt = (1 : Int) + 1 := by omega
                  refine lv_iinc (v := z370) (lv' := [(3, .int z370), (2, .int v364), (5, .int v364), (4, .int v345), (0, .ref h), (1, .int p0)]) S.x S.b d_Tok_mark_117 hl (k := 3) rfl (by rw [ez370]; rfl) (by decide) rfl (fun ls hl => ?_)
                  refine lv_aload_n S.x S.b d_Tok_mark_120 rfl (lv_at hl 4 rfl) ?_
                  refine lv_dup S.x S.b d_Tok_mark_121 rfl ?_
                  refine px_get S k_Tok hT hw 0 0 8 (v := .int (f 8)) rfl rfl rfl (by decide) m1_111 d_Tok_mark_122 ?_
                  refine lv_iload_n S.x S.b d_Tok_mark_125 rfl (lv_at hl 0 rfl) ?_
                  refine lv_iadd S.x S.b d_Tok_mark_126 ?_
                  have lr371 := Int32.le_toInt (f 8)
                  have ur371 := Int32.toInt_lt (f 8)
                  refine lv_topi (fun z372 ez372 => ?_)
                  have tz372 : z372.toInt = ((f 8).toInt + z370.toInt + 2147483648) % 4294967296 - 2147483648 := by rw [ez372]; exact i_add (f 8) z370
                  have lz372 := Int32.le_toInt z372
                  have uz372 := Int32.toInt_lt z372
                  try replace tz372 : z372.toInt = (f 8).toInt + z370.toInt := by omega
                  refine px_put S k_Tok hT hw 0 0 8 rfl rfl (by decide) m1_111 rfl rfl rfl (Nat.le_of_ble_eq_true rfl) d_Tok_mark_127 (w' := wd_Tok cs h r (fun _ => some tp) (upd f 8 z372) a g) (ps' := [wd_Tok cs h r (fun _ => some tp) (upd f 8 z372) a g, [(tp, .inl (cs 1, 2048, .inl tb))]]) rfl rfl (fun H locs hw => ?_)
                  refine lv_iload_n S.x S.b d_Tok_mark_130 rfl (lv_at hl 1 rfl) ?_
                  first | exact px_iret (v := v364) S hr rfl hlk hAe hw (Nat.le_of_ble_eq_true rfl) (Nat.le_of_ble_eq_true rfl) (⟨(upd f 8 z372), a, rfl, (show TokOk (f 7) z372 (f 10) (f 11) (f 12) (f 13) (f 17) (a 4) from ⟨⟨o1, o2⟩, ⟨(oz_0aba5895db tz372 g1 tz370), (oz_034949d2cd g2 tz372 tz370)⟩, ⟨o5, o6⟩, ⟨o7, o8⟩, ⟨o9, o10⟩, ⟨o11, o12⟩, o13, hn4⟩), (show (f 7).toInt = (f 7).toInt from rfl), (show (f 10).toInt = (f 10).toInt from rfl), (show (f 15).toInt = (f 15).toInt from rfl), (show v364.toInt = 19 ∨ (f 8).toInt + 1 ≤ z372.toInt from by omega), (show Q5 (a 5) from hq5), (show R_t2_mark sn sb tb p0 f a (upd f 8 z372) a v364 from (Or.inl (Or.inr ⟨nc1, z200, ez200, v202, e203, Or.inr ⟨nc204, Or.inr ⟨nc206, z298, ez298, v300, e305, Or.inl ⟨nc306, z309, ez309, v311, e316, Or.inr ⟨nc317, v345, e346, Or.inl ⟨nc347, z350, ez350, v352, e357, Or.inr ⟨nc358, v364, e365, Or.inr ⟨nc366, z370, ez370, z372, ez372, rfl, rfl, rfl⟩⟩⟩⟩⟩⟩⟩⟩)))⟩) d_Tok_mark_131 | exact px_iret (v := v364) S hr rfl hlk hAe hw (Nat.le_of_ble_eq_true rfl) (Nat.le_of_ble_eq_true rfl) (⟨(upd f 8 z372), a, rfl, (show TokOk (f 7) z372 (f 10) (f 11) (f 12) (f 13) (f 17) (a 4) from ⟨⟨by first | exact o1 | omega, by first | exact o2 | omega⟩, ⟨by first | exact oz_0aba5895db tz372 g1 tz370 | omega, by first | exact oz_034949d2cd g2 tz372 tz370 | omega⟩, ⟨by first | exact o5 | omega, by first | exact o6 | omega⟩, ⟨by first | exact o7 | omega, by first | exact o8 | omega⟩, ⟨by first | exact o9 | omega, by first | exact o10 | omega⟩, ⟨by first | exact o11 | omega, by first | exact o12 | omega⟩, by first | exact o13 | omega, hn4⟩), (show (f 7).toInt = (f 7).toInt from rfl), (show (f 10).toInt = (f 10).toInt from rfl), (show (f 15).toInt = (f 15).toInt from rfl), (show v364.toInt = 19 ∨ (f 8).toInt + 1 ≤ z372.toInt from by omega), (show Q5 (a 5) from hq5), (show R_t2_mark sn sb tb p0 f a (upd f 8 z372) a v364 from (Or.inl (Or.inr ⟨nc1, z200, ez200, v202, e203, Or.inr ⟨nc204, Or.inr ⟨nc206, z298, ez298, v300, e305, Or.inl ⟨nc306, z309, ez309, v311, e316, Or.inr ⟨nc317, v345, e346, Or.inl ⟨nc347, z350, ez350, v352, e357, Or.inr ⟨nc358, v364, e365, Or.inr ⟨nc366, z370, ez370, z372, ez372, rfl, rfl, rfl⟩⟩⟩⟩⟩⟩⟩⟩)))⟩) d_Tok_mark_131
            · have nc347 : ¬ v345.toInt ≤ (0 : Int) := mt (i_le (x := v345) (y := 0)).mpr c347
              refine lv_iload S.x S.b d_Tok_mark_79 (lv_at hl 0 rfl) ?_
              refine lv_istore_n (lv' := [(2, .int v345), (4, .int v345), (3, .int 1), (0, .ref h), (1, .int p0)]) S.x S.b d_Tok_mark_81 rfl hl (by decide) rfl (fun ls hl => ?_)
              refine lv_iconst (v := 2) S.x S.b d_Tok_mark_82 (by decide) ?_
              refine lv_istore_n (lv' := [(3, .int 2), (2, .int v345), (4, .int v345), (0, .ref h), (1, .int p0)]) S.x S.b d_Tok_mark_83 rfl hl (by decide) rfl (fun ls hl => ?_)
              refine lv_aload_n S.x S.b d_Tok_mark_84 rfl (lv_at hl 3 rfl) ?_
              refine lv_aload_n S.x S.b d_Tok_mark_85 rfl (lv_at hl 3 rfl) ?_
              refine px_get S k_Tok hT hw 0 0 8 (v := .int (f 8)) rfl rfl rfl (by decide) m1_111 d_Tok_mark_86 ?_
              refine lv_iload_n S.x S.b d_Tok_mark_89 rfl (lv_at hl 0 rfl) ?_
              refine lv_iadd S.x S.b d_Tok_mark_90 ?_
              have lr373 := Int32.le_toInt (f 8)
              have ur373 := Int32.toInt_lt (f 8)
              refine lv_topi (fun z374 ez374 => ?_)
              have tz374 : z374.toInt = ((f 8).toInt + (2 : Int) + 2147483648) % 4294967296 - 2147483648 := by rw [ez374]; exact i_add (f 8) 2
              have lz374 := Int32.le_toInt z374
              have uz374 := Int32.toInt_lt z374
              try replace tz374 : z374.toInt = (f 8).toInt + (2 : Int) := by omega
              first | refine px_calli (pr := []) (px_runV (As := [.int z374]) (rest := []) S (c_t2_byteAt l D cs h r tp tb g f a z374  (show TokOk (f 7) (f 8) (f 10) (f 11) (f 12) (f 13) (f 17) (a 4) from ⟨⟨o1, o2⟩, ⟨g1, o4⟩, ⟨o5, o6⟩, ⟨o7, o8⟩, ⟨o9, o10⟩, ⟨o11, o12⟩, o13, hn4⟩) _) hT (pr := []) (pcs := [wd_Tok cs h r (fun _ => some tp) f a g, [(tp, .inl (cs 1, 2048, .inl tb))]]) hw px_X.tt (px_recv hT hw 0 0 rfl rfl rfl) m3_186 m3_183 m3_185 ms_1_6 m1_2 q_Tok_byteAt ⟨Nat.le_of_ble_eq_true rfl, Nat.le_of_ble_eq_true rfl⟩ hl.1 rfl (Nat.le_of_ble_eq_true rfl) d_Tok_mark_91 ⟨Nat.le_of_ble_eq_true rfl, Nat.le_of_ble_eq_true rfl⟩) hw hA (fun v376 p375 H locs hp375 hw => ?_) | refine px_calli (pr := []) (px_runV (As := [.int z374]) (rest := []) S (c_t2_byteAt l D cs h r tp tb g f a z374  (show TokOk (f 7) (f 8) (f 10) (f 11) (f 12) (f 13) (f 17) (a 4) from ⟨⟨by first | exact o1 | omega, by first | exact o2 | omega⟩, ⟨by first | exact g1 | omega, by first | exact o4 | omega⟩, ⟨by first | exact o5 | omega, by first | exact o6 | omega⟩, ⟨by first | exact o7 | omega, by first | exact o8 | omega⟩, ⟨by first | exact o9 | omega, by first | exact o10 | omega⟩, ⟨by first | exact o11 | omega, by first | exact o12 | omega⟩, by first | exact o13 | omega, hn4⟩) _) hT (pr := []) (pcs := [wd_Tok cs h r (fun _ => some tp) f a g, [(tp, .inl (cs 1, 2048, .inl tb))]]) hw px_X.tt (px_recv hT hw 0 0 rfl rfl rfl) m3_186 m3_183 m3_185 ms_1_6 m1_2 q_Tok_byteAt ⟨Nat.le_of_ble_eq_true rfl, Nat.le_of_ble_eq_true rfl⟩ hl.1 rfl (Nat.le_of_ble_eq_true rfl) d_Tok_mark_91 ⟨Nat.le_of_ble_eq_true rfl, Nat.le_of_ble_eq_true rfl⟩) hw hA (fun v376 p375 H locs hp375 hw => ?_)
              obtain ⟨rfl, e377, e378, e379, e380, e381⟩ := hp375
              have e377 : -1 ≤ v376.toInt := e377
              have e378 : v376.toInt ≤ 255 := e378
              have e379 : 0 ≤ v376.toInt → 0 ≤ z374.toInt ∧ z374.toInt < (f 7).toInt := e379
              have e380 : By tb (f 7) z374 v376 := e380
              have e381 : R_t2_byteAt tb f z374 v376 := e381
              have lv376 := Int32.le_toInt v376
              have uv376 := Int32.toInt_lt v376
              refine lv_bipush (v := 61) S.x S.b d_Tok_mark_94 (by decide) ?_
              refine lv_icmp_ne (tgt := 106) S.x S.b d_Tok_mark_96 (by decide) (fun c382 => ?_) (fun c382 => ?_)
              · have nc382 : ¬ v376.toInt = (61 : Int) := mt (i_eq (x := v376) (y := 61)).mpr c382
                refine lv_iconst (v := 0) S.x S.b d_Tok_mark_106 (by decide) ?_
                refine lv_istore (lv' := [(5, .int 0), (3, .int 2), (2, .int v345), (4, .int v345), (0, .ref h), (1, .int p0)]) S.x S.b d_Tok_mark_107 hl (by decide) rfl (fun ls hl => ?_)
                refine lv_iload S.x S.b d_Tok_mark_109 (lv_at hl 0 rfl) ?_
                refine lv_if_le (tgt := 120) S.x S.b d_Tok_mark_111 (by decide) (fun c384 => ?_) (fun c384 => ?_)
                ·
                  refine lv_aload_n S.x S.b d_Tok_mark_120 rfl (lv_at hl 4 rfl) ?_
                  refine lv_dup S.x S.b d_Tok_mark_121 rfl ?_
                  refine px_get S k_Tok hT hw 0 0 8 (v := .int (f 8)) rfl rfl rfl (by decide) m1_111 d_Tok_mark_122 ?_
                  refine lv_iload_n S.x S.b d_Tok_mark_125 rfl (lv_at hl 1 rfl) ?_
                  refine lv_iadd S.x S.b d_Tok_mark_126 ?_
                  have lr385 := Int32.le_toInt (f 8)
                  have ur385 := Int32.toInt_lt (f 8)
                  refine lv_topi (fun z386 ez386 => ?_)
                  have tz386 : z386.toInt = ((f 8).toInt + (2 : Int) + 2147483648) % 4294967296 - 2147483648 := by rw [ez386]; exact i_add (f 8) 2
                  have lz386 := Int32.le_toInt z386
                  have uz386 := Int32.toInt_lt z386
                  try replace tz386 : z386.toInt = (f 8).toInt + (2 : Int) := by omega
                  refine px_put S k_Tok hT hw 0 0 8 rfl rfl (by decide) m1_111 rfl rfl rfl (Nat.le_of_ble_eq_true rfl) d_Tok_mark_127 (w' := wd_Tok cs h r (fun _ => some tp) (upd f 8 z386) a g) (ps' := [wd_Tok cs h r (fun _ => some tp) (upd f 8 z386) a g, [(tp, .inl (cs 1, 2048, .inl tb))]]) rfl rfl (fun H locs hw => ?_)
                  refine lv_iload_n S.x S.b d_Tok_mark_130 rfl (lv_at hl 2 rfl) ?_
                  first | exact px_iret (v := v345) S hr rfl hlk hAe hw (Nat.le_of_ble_eq_true rfl) (Nat.le_of_ble_eq_true rfl) (⟨(upd f 8 z386), a, rfl, (show TokOk (f 7) z386 (f 10) (f 11) (f 12) (f 13) (f 17) (a 4) from ⟨⟨o1, o2⟩, ⟨(oz_6c4a1e09c3 tz386 g1), (oz_26c995f1f8 g2 tz386)⟩, ⟨o5, o6⟩, ⟨o7, o8⟩, ⟨o9, o10⟩, ⟨o11, o12⟩, o13, hn4⟩), (show (f 7).toInt = (f 7).toInt from rfl), (show (f 10).toInt = (f 10).toInt from rfl), (show (f 15).toInt = (f 15).toInt from rfl), (show v345.toInt = 19 ∨ (f 8).toInt + 1 ≤ z386.toInt from by omega), (show Q5 (a 5) from hq5), (show R_t2_mark sn sb tb p0 f a (upd f 8 z386) a v345 from (Or.inl (Or.inr ⟨nc1, z200, ez200, v202, e203, Or.inr ⟨nc204, Or.inr ⟨nc206, z298, ez298, v300, e305, Or.inl ⟨nc306, z309, ez309, v311, e316, Or.inr ⟨nc317, v345, e346, Or.inr ⟨nc347, z374, ez374, v376, e381, Or.inl ⟨nc382, z386, ez386, rfl, rfl, rfl⟩⟩⟩⟩⟩⟩⟩)))⟩) d_Tok_mark_131 | exact px_iret (v := v345) S hr rfl hlk hAe hw (Nat.le_of_ble_eq_true rfl) (Nat.le_of_ble_eq_true rfl) (⟨(upd f 8 z386), a, rfl, (show TokOk (f 7) z386 (f 10) (f 11) (f 12) (f 13) (f 17) (a 4) from ⟨⟨by first | exact o1 | omega, by first | exact o2 | omega⟩, ⟨by first | exact oz_6c4a1e09c3 tz386 g1 | omega, by first | exact oz_26c995f1f8 g2 tz386 | omega⟩, ⟨by first | exact o5 | omega, by first | exact o6 | omega⟩, ⟨by first | exact o7 | omega, by first | exact o8 | omega⟩, ⟨by first | exact o9 | omega, by first | exact o10 | omega⟩, ⟨by first | exact o11 | omega, by first | exact o12 | omega⟩, by first | exact o13 | omega, hn4⟩), (show (f 7).toInt = (f 7).toInt from rfl), (show (f 10).toInt = (f 10).toInt from rfl), (show (f 15).toInt = (f 15).toInt from rfl), (show v345.toInt = 19 ∨ (f 8).toInt + 1 ≤ z386.toInt from by omega), (show Q5 (a 5) from hq5), (show R_t2_mark sn sb tb p0 f a (upd f 8 z386) a v345 from (Or.inl (Or.inr ⟨nc1, z200, ez200, v202, e203, Or.inr ⟨nc204, Or.inr ⟨nc206, z298, ez298, v300, e305, Or.inl ⟨nc306, z309, ez309, v311, e316, Or.inr ⟨nc317, v345, e346, Or.inr ⟨nc347, z374, ez374, v376, e381, Or.inl ⟨nc382, z386, ez386, rfl, rfl, rfl⟩⟩⟩⟩⟩⟩⟩)))⟩) d_Tok_mark_131
                · exact absurd c384 (by decide)
              · have nc382 : v376.toInt = (61 : Int) := (i_eq (x := v376) (y := 61)).mp c382
                refine lv_iload_n S.x S.b d_Tok_mark_99 rfl (lv_at hl 1 rfl) ?_
                refine px_calli (pr := [wd_Tok cs h r (fun _ => some tp) f a g, [(tp, .inl (cs 1, 2048, .inl tb))]]) (px_runS (As := [.int v345]) (rest := []) S (c_t2_withEquals l D cs  v345   _) hT (pr := [wd_Tok cs h r (fun _ => some tp) f a g, [(tp, .inl (cs 1, 2048, .inl tb))]]) (pcs := []) hw px_X.tt m4_67 m4_65 m4_66 m1_2 q_Tok_withEquals ⟨Nat.le_of_ble_eq_true rfl, Nat.le_of_ble_eq_true rfl⟩ hl.1 rfl (Nat.le_of_ble_eq_true rfl) d_Tok_mark_100 ⟨Nat.le_of_ble_eq_true rfl, Nat.le_of_ble_eq_true rfl⟩) hw hA (fun v388 p387 H locs hp387 hw => ?_)
                obtain ⟨rfl, e389⟩ := hp387
                have e389 : R_t2_withEquals v345 v388 := e389
                have lv388 := Int32.le_toInt v388
                have uv388 := Int32.toInt_lt v388
                refine lv_goto (tgt := 107) S.x S.b d_Tok_mark_103 (by decide) ?_
                refine lv_istore (lv' := [(5, .int v388), (3, .int 2), (2, .int v345), (4, .int v345), (0, .ref h), (1, .int p0)]) S.x S.b d_Tok_mark_107 hl (by decide) rfl (fun ls hl => ?_)
                refine lv_iload S.x S.b d_Tok_mark_109 (lv_at hl 0 rfl) ?_
                refine lv_if_le (tgt := 120) S.x S.b d_Tok_mark_111 (by decide) (fun c390 => ?_) (fun c390 => ?_)
                · have nc390 : v388.toInt ≤ (0 : Int) := (i_le (x := v388) (y := 0)).mp c390
                  refine lv_aload_n S.x S.b d_Tok_mark_120 rfl (lv_at hl 4 rfl) ?_
                  refine lv_dup S.x S.b d_Tok_mark_121 rfl ?_
                  refine px_get S k_Tok hT hw 0 0 8 (v := .int (f 8)) rfl rfl rfl (by decide) m1_111 d_Tok_mark_122 ?_
                  refine lv_iload_n S.x S.b d_Tok_mark_125 rfl (lv_at hl 1 rfl) ?_
                  refine lv_iadd S.x S.b d_Tok_mark_126 ?_
                  have lr392 := Int32.le_toInt (f 8)
                  have ur392 := Int32.toInt_lt (f 8)
                  refine lv_topi (fun z393 ez393 => ?_)
                  have tz393 : z393.toInt = ((f 8).toInt + (2 : Int) + 2147483648) % 4294967296 - 2147483648 := by rw [ez393]; exact i_add (f 8) 2
                  have lz393 := Int32.le_toInt z393
                  have uz393 := Int32.toInt_lt z393
                  try replace tz393 : z393.toInt = (f 8).toInt + (2 : Int) := by omega
                  refine px_put S k_Tok hT hw 0 0 8 rfl rfl (by decide) m1_111 rfl rfl rfl (Nat.le_of_ble_eq_true rfl) d_Tok_mark_127 (w' := wd_Tok cs h r (fun _ => some tp) (upd f 8 z393) a g) (ps' := [wd_Tok cs h r (fun _ => some tp) (upd f 8 z393) a g, [(tp, .inl (cs 1, 2048, .inl tb))]]) rfl rfl (fun H locs hw => ?_)
                  refine lv_iload_n S.x S.b d_Tok_mark_130 rfl (lv_at hl 2 rfl) ?_
                  first | exact px_iret (v := v345) S hr rfl hlk hAe hw (Nat.le_of_ble_eq_true rfl) (Nat.le_of_ble_eq_true rfl) (⟨(upd f 8 z393), a, rfl, (show TokOk (f 7) z393 (f 10) (f 11) (f 12) (f 13) (f 17) (a 4) from ⟨⟨o1, o2⟩, ⟨(oz_6c4a1e09c3 tz393 g1), (oz_26c995f1f8 g2 tz393)⟩, ⟨o5, o6⟩, ⟨o7, o8⟩, ⟨o9, o10⟩, ⟨o11, o12⟩, o13, hn4⟩), (show (f 7).toInt = (f 7).toInt from rfl), (show (f 10).toInt = (f 10).toInt from rfl), (show (f 15).toInt = (f 15).toInt from rfl), (show v345.toInt = 19 ∨ (f 8).toInt + 1 ≤ z393.toInt from by omega), (show Q5 (a 5) from hq5), (show R_t2_mark sn sb tb p0 f a (upd f 8 z393) a v345 from (Or.inl (Or.inr ⟨nc1, z200, ez200, v202, e203, Or.inr ⟨nc204, Or.inr ⟨nc206, z298, ez298, v300, e305, Or.inl ⟨nc306, z309, ez309, v311, e316, Or.inr ⟨nc317, v345, e346, Or.inr ⟨nc347, z374, ez374, v376, e381, Or.inr ⟨nc382, v388, e389, Or.inl ⟨nc390, z393, ez393, rfl, rfl, rfl⟩⟩⟩⟩⟩⟩⟩⟩)))⟩) d_Tok_mark_131 | exact px_iret (v := v345) S hr rfl hlk hAe hw (Nat.le_of_ble_eq_true rfl) (Nat.le_of_ble_eq_true rfl) (⟨(upd f 8 z393), a, rfl, (show TokOk (f 7) z393 (f 10) (f 11) (f 12) (f 13) (f 17) (a 4) from ⟨⟨by first | exact o1 | omega, by first | exact o2 | omega⟩, ⟨by first | exact oz_6c4a1e09c3 tz393 g1 | omega, by first | exact oz_26c995f1f8 g2 tz393 | omega⟩, ⟨by first | exact o5 | omega, by first | exact o6 | omega⟩, ⟨by first | exact o7 | omega, by first | exact o8 | omega⟩, ⟨by first | exact o9 | omega, by first | exact o10 | omega⟩, ⟨by first | exact o11 | omega, by first | exact o12 | omega⟩, by first | exact o13 | omega, hn4⟩), (show (f 7).toInt = (f 7).toInt from rfl), (show (f 10).toInt = (f 10).toInt from rfl), (show (f 15).toInt = (f 15).toInt from rfl), (show v345.toInt = 19 ∨ (f 8).toInt + 1 ≤ z393.toInt from by omega), (show Q5 (a 5) from hq5), (show R_t2_mark sn sb tb p0 f a (upd f 8 z393) a v345 from (Or.inl (Or.inr ⟨nc1, z200, ez200, v202, e203, Or.inr ⟨nc204, Or.inr ⟨nc206, z298, ez298, v300, e305, Or.inl ⟨nc306, z309, ez309, v311, e316, Or.inr ⟨nc317, v345, e346, Or.inr ⟨nc347, z374, ez374, v376, e381, Or.inr ⟨nc382, v388, e389, Or.inl ⟨nc390, z393, ez393, rfl, rfl, rfl⟩⟩⟩⟩⟩⟩⟩⟩)))⟩) d_Tok_mark_131
                · have nc390 : ¬ v388.toInt ≤ (0 : Int) := mt (i_le (x := v388) (y := 0)).mpr c390
                  refine lv_iload S.x S.b d_Tok_mark_114 (lv_at hl 0 rfl) ?_
                  refine lv_istore_n (lv' := [(2, .int v388), (5, .int v388), (3, .int 2), (4, .int v345), (0, .ref h), (1, .int p0)]) S.x S.b d_Tok_mark_116 rfl hl (by decide) rfl (fun ls hl => ?_)
                  obtain ⟨z394, ez394⟩ : ∃ y : Int32, y = 2 + 1 := ⟨_, rfl⟩
                  have tz394 : z394.toInt = ((2 : Int) + 1 + 2147483648) % 4294967296 - 2147483648 := by rw [ez394]; exact i_add 2 1
                  have lz394 := Int32.le_toInt z394
                  have uz394 := Int32.toInt_lt z394
                  try replace tz394 : z394.toInt = (2 : Int) + 1 := by omega
                  refine lv_iinc (v := z394) (lv' := [(3, .int z394), (2, .int v388), (5, .int v388), (4, .int v345), (0, .ref h), (1, .int p0)]) S.x S.b d_Tok_mark_117 hl (k := 2) rfl (by rw [ez394]; rfl) (by decide) rfl (fun ls hl => ?_)
                  refine lv_aload_n S.x S.b d_Tok_mark_120 rfl (lv_at hl 4 rfl) ?_
                  refine lv_dup S.x S.b d_Tok_mark_121 rfl ?_
                  refine px_get S k_Tok hT hw 0 0 8 (v := .int (f 8)) rfl rfl rfl (by decide) m1_111 d_Tok_mark_122 ?_
                  refine lv_iload_n S.x S.b d_Tok_mark_125 rfl (lv_at hl 0 rfl) ?_
                  refine lv_iadd S.x S.b d_Tok_mark_126 ?_
                  have lr395 := Int32.le_toInt (f 8)
                  have ur395 := Int32.toInt_lt (f 8)
                  refine lv_topi (fun z396 ez396 => ?_)
                  have tz396 : z396.toInt = ((f 8).toInt + z394.toInt + 2147483648) % 4294967296 - 2147483648 := by rw [ez396]; exact i_add (f 8) z394
                  have lz396 := Int32.le_toInt z396
                  have uz396 := Int32.toInt_lt z396
                  try replace tz396 : z396.toInt = (f 8).toInt + z394.toInt := by omega
                  refine px_put S k_Tok hT hw 0 0 8 rfl rfl (by decide) m1_111 rfl rfl rfl (Nat.le_of_ble_eq_true rfl) d_Tok_mark_127 (w' := wd_Tok cs h r (fun _ => some tp) (upd f 8 z396) a g) (ps' := [wd_Tok cs h r (fun _ => some tp) (upd f 8 z396) a g, [(tp, .inl (cs 1, 2048, .inl tb))]]) rfl rfl (fun H locs hw => ?_)
                  refine lv_iload_n S.x S.b d_Tok_mark_130 rfl (lv_at hl 1 rfl) ?_
                  first | exact px_iret (v := v388) S hr rfl hlk hAe hw (Nat.le_of_ble_eq_true rfl) (Nat.le_of_ble_eq_true rfl) (⟨(upd f 8 z396), a, rfl, (show TokOk (f 7) z396 (f 10) (f 11) (f 12) (f 13) (f 17) (a 4) from ⟨⟨o1, o2⟩, ⟨(oz_5872ca9df2 tz396 g1 tz394), (oz_0136642c8e g2 tz396 tz394)⟩, ⟨o5, o6⟩, ⟨o7, o8⟩, ⟨o9, o10⟩, ⟨o11, o12⟩, o13, hn4⟩), (show (f 7).toInt = (f 7).toInt from rfl), (show (f 10).toInt = (f 10).toInt from rfl), (show (f 15).toInt = (f 15).toInt from rfl), (show v388.toInt = 19 ∨ (f 8).toInt + 1 ≤ z396.toInt from by omega), (show Q5 (a 5) from hq5), (show R_t2_mark sn sb tb p0 f a (upd f 8 z396) a v388 from (Or.inl (Or.inr ⟨nc1, z200, ez200, v202, e203, Or.inr ⟨nc204, Or.inr ⟨nc206, z298, ez298, v300, e305, Or.inl ⟨nc306, z309, ez309, v311, e316, Or.inr ⟨nc317, v345, e346, Or.inr ⟨nc347, z374, ez374, v376, e381, Or.inr ⟨nc382, v388, e389, Or.inr ⟨nc390, z394, ez394, z396, ez396, rfl, rfl, rfl⟩⟩⟩⟩⟩⟩⟩⟩)))⟩) d_Tok_mark_131 | exact px_iret (v := v388) S hr rfl hlk hAe hw (Nat.le_of_ble_eq_true rfl) (Nat.le_of_ble_eq_true rfl) (⟨(upd f 8 z396), a, rfl, (show TokOk (f 7) z396 (f 10) (f 11) (f 12) (f 13) (f 17) (a 4) from ⟨⟨by first | exact o1 | omega, by first | exact o2 | omega⟩, ⟨by first | exact oz_5872ca9df2 tz396 g1 tz394 | omega, by first | exact oz_0136642c8e g2 tz396 tz394 | omega⟩, ⟨by first | exact o5 | omega, by first | exact o6 | omega⟩, ⟨by first | exact o7 | omega, by first | exact o8 | omega⟩, ⟨by first | exact o9 | omega, by first | exact o10 | omega⟩, ⟨by first | exact o11 | omega, by first | exact o12 | omega⟩, by first | exact o13 | omega, hn4⟩), (show (f 7).toInt = (f 7).toInt from rfl), (show (f 10).toInt = (f 10).toInt from rfl), (show (f 15).toInt = (f 15).toInt from rfl), (show v388.toInt = 19 ∨ (f 8).toInt + 1 ≤ z396.toInt from by omega), (show Q5 (a 5) from hq5), (show R_t2_mark sn sb tb p0 f a (upd f 8 z396) a v388 from (Or.inl (Or.inr ⟨nc1, z200, ez200, v202, e203, Or.inr ⟨nc204, Or.inr ⟨nc206, z298, ez298, v300, e305, Or.inl ⟨nc306, z309, ez309, v311, e316, Or.inr ⟨nc317, v345, e346, Or.inr ⟨nc347, z374, ez374, v376, e381, Or.inr ⟨nc382, v388, e389, Or.inr ⟨nc390, z394, ez394, z396, ez396, rfl, rfl, rfl⟩⟩⟩⟩⟩⟩⟩⟩)))⟩) d_Tok_mark_131
        · have nc306 : v300.toInt = (42 : Int) := (i_eq (x := v300) (y := 42)).mp c306
          refine lv_bipush (v := 19) S.x S.b d_Tok_mark_47 (by decide) ?_
          first | exact px_iret (v := 19) S hr rfl hlk hAe hw (Nat.le_of_ble_eq_true rfl) (Nat.le_of_ble_eq_true rfl) (⟨f, a, rfl, (show TokOk (f 7) (f 8) (f 10) (f 11) (f 12) (f 13) (f 17) (a 4) from ⟨⟨o1, o2⟩, ⟨g1, o4⟩, ⟨o5, o6⟩, ⟨o7, o8⟩, ⟨o9, o10⟩, ⟨o11, o12⟩, o13, hn4⟩), (show (f 7).toInt = (f 7).toInt from rfl), (show (f 10).toInt = (f 10).toInt from rfl), (show (f 15).toInt = (f 15).toInt from rfl), (show (19 : Int) = 19 ∨ (f 8).toInt + 1 ≤ (f 8).toInt from by omega), (show Q5 (a 5) from hq5), (show R_t2_mark sn sb tb p0 f a f a (19 : Int32) from (Or.inl (Or.inr ⟨nc1, z200, ez200, v202, e203, Or.inr ⟨nc204, Or.inr ⟨nc206, z298, ez298, v300, e305, Or.inr ⟨nc306, rfl, rfl, rfl⟩⟩⟩⟩)))⟩) d_Tok_mark_49 | exact px_iret (v := 19) S hr rfl hlk hAe hw (Nat.le_of_ble_eq_true rfl) (Nat.le_of_ble_eq_true rfl) (⟨f, a, rfl, (show TokOk (f 7) (f 8) (f 10) (f 11) (f 12) (f 13) (f 17) (a 4) from ⟨⟨by first | exact o1 | omega, by first | exact o2 | omega⟩, ⟨by first | exact g1 | omega, by first | exact o4 | omega⟩, ⟨by first | exact o5 | omega, by first | exact o6 | omega⟩, ⟨by first | exact o7 | omega, by first | exact o8 | omega⟩, ⟨by first | exact o9 | omega, by first | exact o10 | omega⟩, ⟨by first | exact o11 | omega, by first | exact o12 | omega⟩, by first | exact o13 | omega, hn4⟩), (show (f 7).toInt = (f 7).toInt from rfl), (show (f 10).toInt = (f 10).toInt from rfl), (show (f 15).toInt = (f 15).toInt from rfl), (show (19 : Int) = 19 ∨ (f 8).toInt + 1 ≤ (f 8).toInt from by omega), (show Q5 (a 5) from hq5), (show R_t2_mark sn sb tb p0 f a f a (19 : Int32) from (Or.inl (Or.inr ⟨nc1, z200, ez200, v202, e203, Or.inr ⟨nc204, Or.inr ⟨nc206, z298, ez298, v300, e305, Or.inr ⟨nc306, rfl, rfl, rfl⟩⟩⟩⟩)))⟩) d_Tok_mark_49
set_option maxHeartbeats 4000000 in
set_option maxRecDepth 100000 in
theorem c_t2_token (l : Launch) (D : va_G) (cs : Nat → ClassId) (sk : Nat) (st : Nat) (sn : Nat) (sb : Nat → Int32) (h : Nat) (r : Nat → Nat) (tp : Nat) (tb : Nat → Int32) (g : Nat → Nat → Option Nat) (f : Nat → Int32) (a : Nat → Nat → Int32)  (hinv0 : TokOk (f 7) (f 8) (f 10) (f 11) (f 12) (f 13) (f 17) (a 4)) (g0 : sn ≤ 1000000) (g1 : (f 10).toInt ≤ 2048) (hq5 : Q5 (a 5)) : MetI l y_Tok_token b_Tok_token 4 (.boolean) D cs 5 200 (0) (0) [.ref h] [wd_Tok cs h r (fun _ => some tp) f a g, [(tp, .inl (cs 1, 2048, .inl tb))]] (oX (fun A U H => (vk_R "HomeSystem$Tokens" 127 "(){}[],;:?=|^&<>+-*/%!~" sk U) ∧ (oZ A U H) ∧ (oS A sk st sn sb U H)) [wd_Tok cs h r (fun _ => some tp) f a g, [(tp, .inl (cs 1, 2048, .inl tb))]]) (fun v ps => ∃ (f' : Nat → Int32) (a' : Nat → Nat → Int32), (ps = [wd_Tok cs h r (fun _ => some tp) f' a' g, [(tp, .inl (cs 1, 2048, .inl tb))]]) ∧ (TokOk (f' 7) (f' 8) (f' 10) (f' 11) (f' 12) (f' 13) (f' 17) (a' 4)) ∧ (v = 0 ∨ v = 1) ∧ ((f' 7).toInt = (f 7).toInt) ∧ ((f' 15).toInt = (f 15).toInt) ∧ ((f' 10).toInt = (f 10).toInt + 1) ∧ (v.toInt = 1 → (f 8).toInt + 1 ≤ (f' 8).toInt ∧ (f 8).toInt < (f 7).toInt) ∧ (LsT v (a' 0) (f' 10)) ∧ (Q5 (a' 5)) ∧ (R_t2_token sn sb tb f a f' a' v)) := by
  refine px_enter (by decide) (Nat.le_of_ble_eq_true rfl) ?_
  intro p e s m below meth c A ls hAe S hr hlk hnm hA hT hX hw hl
  have hl : lv_has ls 4 [(0, .ref h)] := hl
  have cst0 : (0 : Int32).toInt = 0 := rfl
  have cst1 : (1 : Int32).toInt = 1 := rfl
  have cst19 : (19 : Int32).toInt = 19 := rfl
  have cst34 : (34 : Int32).toInt = 34 := rfl
  have cst39 : (39 : Int32).toInt = 39 := rfl
  have hX : (fun A U H => (vk_R "HomeSystem$Tokens" 127 "(){}[],;:?=|^&<>+-*/%!~" sk U) ∧ (oZ A U H) ∧ (oS A sk st sn sb U H)) A s s.heap := by rw [hAe]; exact hX
  obtain ⟨hL, hZ, hS⟩ := hX
  have hsn : (nI sn).toInt = (sn : Int) := nI_toInt (by omega)
  obtain ⟨⟨o1, o2⟩, ⟨o3, o4⟩, ⟨o5, o6⟩, ⟨o7, o8⟩, ⟨o9, o10⟩, ⟨o11, o12⟩, o13, hn4⟩ := hinv0
  have J89 : ∀ (f_89 : Nat → Int32) (a_89 : Nat → Nat → Int32) (x89_1 x89_3 : Int32) (H : Heap) (locs : List Loc) (ls : Array Slot), (TokOk (f_89 7) (f_89 8) (f_89 10) (f_89 11) (f_89 12) (f_89 13) (f_89 17) (a_89 4)) → ((f_89 7).toInt = (f 7).toInt) → ((f_89 10).toInt = (f 10).toInt) → ((f_89 15).toInt = (f 15).toInt) → (Q5 (a_89 5)) → (x89_3.toInt = 0 ∨ x89_3.toInt = 19 ∨ ((f 8).toInt + 1 ≤ (f_89 8).toInt ∧ (f 8).toInt < (f 7).toInt)) → (K_t2_token_89 sn sb tb f a f_89 a_89 x89_1 x89_3) → pw D A s.heap H locs [wd_Tok cs h r (fun _ => some tp) f_89 a_89 g, [(tp, .inl (cs 1, 2048, .inl tb))]] → lv_has ls 4 [(0, .ref h), (1, .int x89_1), (3, .int x89_3)] → W p l e { frames := 5, cells := 0, slots := 0, locals := 200 } s m [.ref h].toArray below meth c H locs 0 0 (MQ below (va_Qi (fun v ps => ∃ (f' : Nat → Int32) (a' : Nat → Nat → Int32), (ps = [wd_Tok cs h r (fun _ => some tp) f' a' g, [(tp, .inl (cs 1, 2048, .inl tb))]]) ∧ (TokOk (f' 7) (f' 8) (f' 10) (f' 11) (f' 12) (f' 13) (f' 17) (a' 4)) ∧ (v = 0 ∨ v = 1) ∧ ((f' 7).toInt = (f 7).toInt) ∧ ((f' 15).toInt = (f 15).toInt) ∧ ((f' 10).toInt = (f 10).toInt + 1) ∧ (v.toInt = 1 → (f 8).toInt + 1 ≤ (f' 8).toInt ∧ (f 8).toInt < (f 7).toInt) ∧ (LsT v (a' 0) (f' 10)) ∧ (Q5 (a' 5)) ∧ (R_t2_token sn sb tb f a f' a' v)) (pc_B D (va_A ([wd_Tok cs h r (fun _ => some tp) f a g, [(tp, .inl (cs 1, 2048, .inl tb))]] : List va_W).flatten s.heap.size)) (va_A ([wd_Tok cs h r (fun _ => some tp) f a g, [(tp, .inl (cs 1, 2048, .inl tb))]] : List va_W).flatten s.heap.size)) [.ref h].toArray s 0 0 A) (F0 m 89 ls []) := by
    intro f_89 a_89 x89_1 x89_3 H locs ls hi89_0 k89_0 k89_1 k89_2 k89_3 k89_4 k89_5 hw hl
    obtain ⟨⟨o1, o2⟩, ⟨o3, o4⟩, ⟨o5, o6⟩, ⟨o7, o8⟩, ⟨o9, o10⟩, ⟨o11, o12⟩, o13, hn4⟩ := hi89_0
    have lx89_1 := Int32.le_toInt x89_1
    have ux89_1 := Int32.toInt_lt x89_1
    have lx89_3 := Int32.le_toInt x89_3
    have ux89_3 := Int32.toInt_lt x89_3
    have hq5 := k89_3
    refine lv_aload_n S.x S.b d_Tok_token_89 rfl (lv_at hl 0 rfl) ?_
    refine px_get S k_Tok hT hw 0 0 10 (v := .int (f_89 10)) rfl rfl rfl (by decide) m1_113 d_Tok_token_90 ?_
    refine lv_aload_n S.x S.b d_Tok_token_93 rfl (lv_at hl 0 rfl) ?_
    refine px_get S k_Tok hT hw 0 0 0 (v := .ref (r 0)) rfl rfl rfl (by decide) m1_103 d_Tok_token_94 ?_
    refine px_len S hT hw 0 1 0 rfl rfl rfl (v := 2049) rfl d_Tok_token_97 ?_
    refine lv_icmp_ge (tgt := 144) S.x S.b d_Tok_token_98 (by decide) (fun c1 => ?_) (fun c1 => ?_)
    · have nc1 : (2049 : Int) ≤ (f_89 10).toInt := (i_le (x := 2049) (y := (f_89 10))).mp c1
      exfalso
      omega
    · have nc1 : ¬ (2049 : Int) ≤ (f_89 10).toInt := mt (i_le (x := 2049) (y := (f_89 10))).mpr c1
      refine lv_aload_n S.x S.b d_Tok_token_101 rfl (lv_at hl 0 rfl) ?_
      refine px_get S k_Tok hT hw 0 0 0 (v := .ref (r 0)) rfl rfl rfl (by decide) m1_103 d_Tok_token_102 ?_
      refine lv_aload_n S.x S.b d_Tok_token_105 rfl (lv_at hl 0 rfl) ?_
      refine px_get S k_Tok hT hw 0 0 10 (v := .int (f_89 10)) rfl rfl rfl (by decide) m1_113 d_Tok_token_106 ?_
      refine lv_iload_n S.x S.b d_Tok_token_109 rfl (lv_at hl 2 rfl) ?_
      refine px_iast S hT hw 0 1 (n := 2049) (f := (a_89 0)) (x := (f_89 10)) (y := x89_3) rfl (ga_Tok_0 _ _ _ _ _ _ _) (vp_in_iff.mpr (by constructor <;> omega)) d_Tok_token_110 (w' := wd_Tok cs h r (fun _ => some tp) f_89 (va_up a_89 0 (upd (a_89 0) (f_89 10).toNatClampNeg x89_3)) g) (ps' := [wd_Tok cs h r (fun _ => some tp) f_89 (va_up a_89 0 (upd (a_89 0) (f_89 10).toNatClampNeg x89_3)) g, [(tp, .inl (cs 1, 2048, .inl tb))]]) (sa_Tok_0 _ _ _ _ _ _ _ _) rfl (fun H locs hw => ?_)
      refine lv_aload_n S.x S.b d_Tok_token_111 rfl (lv_at hl 0 rfl) ?_
      refine px_get S k_Tok hT hw 0 0 1 (v := .ref (r 1)) rfl rfl rfl (by decide) m1_104 d_Tok_token_112 ?_
      refine lv_aload_n S.x S.b d_Tok_token_115 rfl (lv_at hl 0 rfl) ?_
      refine px_get S k_Tok hT hw 0 0 10 (v := .int (f_89 10)) rfl rfl rfl (by decide) m1_113 d_Tok_token_116 ?_
      refine lv_iload_n S.x S.b d_Tok_token_119 rfl (lv_at hl 1 rfl) ?_
      refine px_iast S hT hw 0 2 (n := 2049) (f := ((va_up a_89 0 (upd (a_89 0) (f_89 10).toNatClampNeg x89_3)) 1)) (x := (f_89 10)) (y := x89_1) rfl (ga_Tok_1 _ _ _ _ _ _ _) (vp_in_iff.mpr (by constructor <;> omega)) d_Tok_token_120 (w' := wd_Tok cs h r (fun _ => some tp) f_89 (va_up (va_up a_89 0 (upd (a_89 0) (f_89 10).toNatClampNeg x89_3)) 1 (upd ((va_up a_89 0 (upd (a_89 0) (f_89 10).toNatClampNeg x89_3)) 1) (f_89 10).toNatClampNeg x89_1)) g) (ps' := [wd_Tok cs h r (fun _ => some tp) f_89 (va_up (va_up a_89 0 (upd (a_89 0) (f_89 10).toNatClampNeg x89_3)) 1 (upd ((va_up a_89 0 (upd (a_89 0) (f_89 10).toNatClampNeg x89_3)) 1) (f_89 10).toNatClampNeg x89_1)) g, [(tp, .inl (cs 1, 2048, .inl tb))]]) (sa_Tok_1 _ _ _ _ _ _ _ _) rfl (fun H locs hw => ?_)
      refine lv_aload_n S.x S.b d_Tok_token_121 rfl (lv_at hl 0 rfl) ?_
      refine px_get S k_Tok hT hw 0 0 2 (v := .ref (r 2)) rfl rfl rfl (by decide) m1_105 d_Tok_token_122 ?_
      refine lv_aload_n S.x S.b d_Tok_token_125 rfl (lv_at hl 0 rfl) ?_
      refine px_get S k_Tok hT hw 0 0 10 (v := .int (f_89 10)) rfl rfl rfl (by decide) m1_113 d_Tok_token_126 ?_
      refine lv_aload_n S.x S.b d_Tok_token_129 rfl (lv_at hl 0 rfl) ?_
      refine px_get S k_Tok hT hw 0 0 9 (v := .int (f_89 9)) rfl rfl rfl (by decide) m1_112 d_Tok_token_130 ?_
      refine px_iast S hT hw 0 3 (n := 2049) (f := ((va_up (va_up a_89 0 (upd (a_89 0) (f_89 10).toNatClampNeg x89_3)) 1 (upd ((va_up a_89 0 (upd (a_89 0) (f_89 10).toNatClampNeg x89_3)) 1) (f_89 10).toNatClampNeg x89_1)) 2)) (x := (f_89 10)) (y := (f_89 9)) rfl (ga_Tok_2 _ _ _ _ _ _ _) (vp_in_iff.mpr (by constructor <;> omega)) d_Tok_token_133 (w' := wd_Tok cs h r (fun _ => some tp) f_89 (va_up (va_up (va_up a_89 0 (upd (a_89 0) (f_89 10).toNatClampNeg x89_3)) 1 (upd ((va_up a_89 0 (upd (a_89 0) (f_89 10).toNatClampNeg x89_3)) 1) (f_89 10).toNatClampNeg x89_1)) 2 (upd ((va_up (va_up a_89 0 (upd (a_89 0) (f_89 10).toNatClampNeg x89_3)) 1 (upd ((va_up a_89 0 (upd (a_89 0) (f_89 10).toNatClampNeg x89_3)) 1) (f_89 10).toNatClampNeg x89_1)) 2) (f_89 10).toNatClampNeg (f_89 9))) g) (ps' := [wd_Tok cs h r (fun _ => some tp) f_89 (va_up (va_up (va_up a_89 0 (upd (a_89 0) (f_89 10).toNatClampNeg x89_3)) 1 (upd ((va_up a_89 0 (upd (a_89 0) (f_89 10).toNatClampNeg x89_3)) 1) (f_89 10).toNatClampNeg x89_1)) 2 (upd ((va_up (va_up a_89 0 (upd (a_89 0) (f_89 10).toNatClampNeg x89_3)) 1 (upd ((va_up a_89 0 (upd (a_89 0) (f_89 10).toNatClampNeg x89_3)) 1) (f_89 10).toNatClampNeg x89_1)) 2) (f_89 10).toNatClampNeg (f_89 9))) g, [(tp, .inl (cs 1, 2048, .inl tb))]]) (sa_Tok_2 _ _ _ _ _ _ _ _) rfl (fun H locs hw => ?_)
      refine lv_aload_n S.x S.b d_Tok_token_134 rfl (lv_at hl 0 rfl) ?_
      refine lv_dup S.x S.b d_Tok_token_135 rfl ?_
      refine px_get S k_Tok hT hw 0 0 10 (v := .int (f_89 10)) rfl rfl rfl (by decide) m1_113 d_Tok_token_136 ?_
      refine lv_iconst (v := 1) S.x S.b d_Tok_token_139 (by decide) ?_
      refine lv_iadd S.x S.b d_Tok_token_140 ?_
      have lr3 := Int32.le_toInt (f_89 10)
      have ur3 := Int32.toInt_lt (f_89 10)
      refine lv_topi (fun z4 ez4 => ?_)
      have tz4 : z4.toInt = ((f_89 10).toInt + (1 : Int) + 2147483648) % 4294967296 - 2147483648 := by rw [ez4]; exact i_add (f_89 10) 1
      have lz4 := Int32.le_toInt z4
      have uz4 := Int32.toInt_lt z4
      try replace tz4 : z4.toInt = (f_89 10).toInt + (1 : Int) := by omega
      refine px_put S k_Tok hT hw 0 0 10 rfl rfl (by decide) m1_113 rfl rfl rfl (Nat.le_of_ble_eq_true rfl) d_Tok_token_141 (w' := wd_Tok cs h r (fun _ => some tp) (upd f_89 10 z4) (va_up (va_up (va_up a_89 0 (upd (a_89 0) (f_89 10).toNatClampNeg x89_3)) 1 (upd ((va_up a_89 0 (upd (a_89 0) (f_89 10).toNatClampNeg x89_3)) 1) (f_89 10).toNatClampNeg x89_1)) 2 (upd ((va_up (va_up a_89 0 (upd (a_89 0) (f_89 10).toNatClampNeg x89_3)) 1 (upd ((va_up a_89 0 (upd (a_89 0) (f_89 10).toNatClampNeg x89_3)) 1) (f_89 10).toNatClampNeg x89_1)) 2) (f_89 10).toNatClampNeg (f_89 9))) g) (ps' := [wd_Tok cs h r (fun _ => some tp) (upd f_89 10 z4) (va_up (va_up (va_up a_89 0 (upd (a_89 0) (f_89 10).toNatClampNeg x89_3)) 1 (upd ((va_up a_89 0 (upd (a_89 0) (f_89 10).toNatClampNeg x89_3)) 1) (f_89 10).toNatClampNeg x89_1)) 2 (upd ((va_up (va_up a_89 0 (upd (a_89 0) (f_89 10).toNatClampNeg x89_3)) 1 (upd ((va_up a_89 0 (upd (a_89 0) (f_89 10).toNatClampNeg x89_3)) 1) (f_89 10).toNatClampNeg x89_1)) 2) (f_89 10).toNatClampNeg (f_89 9))) g, [(tp, .inl (cs 1, 2048, .inl tb))]]) rfl rfl (fun H locs hw => ?_)
      refine lv_iload_n S.x S.b d_Tok_token_144 rfl (lv_at hl 2 rfl) ?_
      refine lv_if_eq (tgt := 158) S.x S.b d_Tok_token_145 (by decide) (fun c5 => ?_) (fun c5 => ?_)
      · have nc5 : x89_3.toInt = (0 : Int) := (i_eq (x := x89_3) (y := 0)).mp c5
        refine lv_iconst (v := 0) S.x S.b d_Tok_token_158 (by decide) ?_
        first | exact px_iret (v := 0) S hr rfl hlk hAe hw (Nat.le_of_ble_eq_true rfl) (Nat.le_of_ble_eq_true rfl) (⟨(upd f_89 10 z4), (va_up (va_up (va_up a_89 0 (upd (a_89 0) (f_89 10).toNatClampNeg x89_3)) 1 (upd ((va_up a_89 0 (upd (a_89 0) (f_89 10).toNatClampNeg x89_3)) 1) (f_89 10).toNatClampNeg x89_1)) 2 (upd ((va_up (va_up a_89 0 (upd (a_89 0) (f_89 10).toNatClampNeg x89_3)) 1 (upd ((va_up a_89 0 (upd (a_89 0) (f_89 10).toNatClampNeg x89_3)) 1) (f_89 10).toNatClampNeg x89_1)) 2) (f_89 10).toNatClampNeg (f_89 9))), rfl, (show TokOk (f_89 7) (f_89 8) z4 (f_89 11) (f_89 12) (f_89 13) (f_89 17) ((va_up (va_up (va_up a_89 0 (upd (a_89 0) (f_89 10).toNatClampNeg x89_3)) 1 (upd ((va_up a_89 0 (upd (a_89 0) (f_89 10).toNatClampNeg x89_3)) 1) (f_89 10).toNatClampNeg x89_1)) 2 (upd ((va_up (va_up a_89 0 (upd (a_89 0) (f_89 10).toNatClampNeg x89_3)) 1 (upd ((va_up a_89 0 (upd (a_89 0) (f_89 10).toNatClampNeg x89_3)) 1) (f_89 10).toNatClampNeg x89_1)) 2) (f_89 10).toNatClampNeg (f_89 9))) 4) from ⟨⟨o1, o2⟩, ⟨o3, o4⟩, ⟨(oz_b3b25f0e49 tz4 o5), (oz_26a0dc0197 tz4 nc1)⟩, ⟨o7, o8⟩, ⟨o9, o10⟩, ⟨o11, o12⟩, o13, (by rw [va_up_n (by decide), va_up_n (by decide), va_up_n (by decide)]; exact hn4)⟩), (show (0 : Int32) = 0 ∨ (0 : Int32) = 1 from by first | exact Or.inl rfl | exact Or.inr rfl | exact z_or (by omega)), (show (f_89 7).toInt = (f 7).toInt from k89_0), (show (f_89 15).toInt = (f 15).toInt from k89_2), (show z4.toInt = (f 10).toInt + 1 from (oz_39da5b546a k89_1 tz4)), (show (0 : Int) = 1 → (f 8).toInt + 1 ≤ (f_89 8).toInt ∧ (f 8).toInt < (f 7).toInt from by omega), (show LsT (0 : Int32) ((va_up (va_up (va_up a_89 0 (upd (a_89 0) (f_89 10).toNatClampNeg x89_3)) 1 (upd ((va_up a_89 0 (upd (a_89 0) (f_89 10).toNatClampNeg x89_3)) 1) (f_89 10).toNatClampNeg x89_1)) 2 (upd ((va_up (va_up a_89 0 (upd (a_89 0) (f_89 10).toNatClampNeg x89_3)) 1 (upd ((va_up a_89 0 (upd (a_89 0) (f_89 10).toNatClampNeg x89_3)) 1) (f_89 10).toNatClampNeg x89_1)) 2) (f_89 10).toNatClampNeg (f_89 9))) 0) z4 from (fun _ => (by rw [va_up_n (by decide), va_up_n (by decide), va_up_s]; exact last_mk (by omega) (by omega) (by omega)))), (show Q5 ((va_up (va_up (va_up a_89 0 (upd (a_89 0) (f_89 10).toNatClampNeg x89_3)) 1 (upd ((va_up a_89 0 (upd (a_89 0) (f_89 10).toNatClampNeg x89_3)) 1) (f_89 10).toNatClampNeg x89_1)) 2 (upd ((va_up (va_up a_89 0 (upd (a_89 0) (f_89 10).toNatClampNeg x89_3)) 1 (upd ((va_up a_89 0 (upd (a_89 0) (f_89 10).toNatClampNeg x89_3)) 1) (f_89 10).toNatClampNeg x89_1)) 2) (f_89 10).toNatClampNeg (f_89 9))) 5) from (by rw [va_up_n (by decide), va_up_n (by decide), va_up_n (by decide)]; exact hq5)), (show R_t2_token sn sb tb f a (upd f_89 10 z4) (va_up (va_up (va_up a_89 0 (upd (a_89 0) (f_89 10).toNatClampNeg x89_3)) 1 (upd ((va_up a_89 0 (upd (a_89 0) (f_89 10).toNatClampNeg x89_3)) 1) (f_89 10).toNatClampNeg x89_1)) 2 (upd ((va_up (va_up a_89 0 (upd (a_89 0) (f_89 10).toNatClampNeg x89_3)) 1 (upd ((va_up a_89 0 (upd (a_89 0) (f_89 10).toNatClampNeg x89_3)) 1) (f_89 10).toNatClampNeg x89_1)) 2) (f_89 10).toNatClampNeg (f_89 9))) (0 : Int32) from (k89_5 _ _ _ 1 (Or.inr (Or.inl ⟨rfl, x89_1, x89_3, rfl, rfl, rfl, rfl, rfl, nc1, z4, ez4, Or.inl ⟨nc5, rfl, rfl, rfl⟩⟩))))⟩) d_Tok_token_159 | exact px_iret (v := 0) S hr rfl hlk hAe hw (Nat.le_of_ble_eq_true rfl) (Nat.le_of_ble_eq_true rfl) (⟨(upd f_89 10 z4), (va_up (va_up (va_up a_89 0 (upd (a_89 0) (f_89 10).toNatClampNeg x89_3)) 1 (upd ((va_up a_89 0 (upd (a_89 0) (f_89 10).toNatClampNeg x89_3)) 1) (f_89 10).toNatClampNeg x89_1)) 2 (upd ((va_up (va_up a_89 0 (upd (a_89 0) (f_89 10).toNatClampNeg x89_3)) 1 (upd ((va_up a_89 0 (upd (a_89 0) (f_89 10).toNatClampNeg x89_3)) 1) (f_89 10).toNatClampNeg x89_1)) 2) (f_89 10).toNatClampNeg (f_89 9))), rfl, (show TokOk (f_89 7) (f_89 8) z4 (f_89 11) (f_89 12) (f_89 13) (f_89 17) ((va_up (va_up (va_up a_89 0 (upd (a_89 0) (f_89 10).toNatClampNeg x89_3)) 1 (upd ((va_up a_89 0 (upd (a_89 0) (f_89 10).toNatClampNeg x89_3)) 1) (f_89 10).toNatClampNeg x89_1)) 2 (upd ((va_up (va_up a_89 0 (upd (a_89 0) (f_89 10).toNatClampNeg x89_3)) 1 (upd ((va_up a_89 0 (upd (a_89 0) (f_89 10).toNatClampNeg x89_3)) 1) (f_89 10).toNatClampNeg x89_1)) 2) (f_89 10).toNatClampNeg (f_89 9))) 4) from ⟨⟨by first | exact o1 | omega, by first | exact o2 | omega⟩, ⟨by first | exact o3 | omega, by first | exact o4 | omega⟩, ⟨by first | exact oz_b3b25f0e49 tz4 o5 | omega, by first | exact oz_26a0dc0197 tz4 nc1 | omega⟩, ⟨by first | exact o7 | omega, by first | exact o8 | omega⟩, ⟨by first | exact o9 | omega, by first | exact o10 | omega⟩, ⟨by first | exact o11 | omega, by first | exact o12 | omega⟩, by first | exact o13 | omega, (by rw [va_up_n (by decide), va_up_n (by decide), va_up_n (by decide)]; exact hn4)⟩), (show (0 : Int32) = 0 ∨ (0 : Int32) = 1 from by first | exact Or.inl rfl | exact Or.inr rfl | exact z_or (by omega)), (show (f_89 7).toInt = (f 7).toInt from by first | exact k89_0 | omega), (show (f_89 15).toInt = (f 15).toInt from by first | exact k89_2 | omega), (show z4.toInt = (f 10).toInt + 1 from by first | exact oz_39da5b546a k89_1 tz4 | omega), (show (0 : Int) = 1 → (f 8).toInt + 1 ≤ (f_89 8).toInt ∧ (f 8).toInt < (f 7).toInt from by omega), (show LsT (0 : Int32) ((va_up (va_up (va_up a_89 0 (upd (a_89 0) (f_89 10).toNatClampNeg x89_3)) 1 (upd ((va_up a_89 0 (upd (a_89 0) (f_89 10).toNatClampNeg x89_3)) 1) (f_89 10).toNatClampNeg x89_1)) 2 (upd ((va_up (va_up a_89 0 (upd (a_89 0) (f_89 10).toNatClampNeg x89_3)) 1 (upd ((va_up a_89 0 (upd (a_89 0) (f_89 10).toNatClampNeg x89_3)) 1) (f_89 10).toNatClampNeg x89_1)) 2) (f_89 10).toNatClampNeg (f_89 9))) 0) z4 from (fun _ => (by rw [va_up_n (by decide), va_up_n (by decide), va_up_s]; exact last_mk (by omega) (by omega) (by omega)))), (show Q5 ((va_up (va_up (va_up a_89 0 (upd (a_89 0) (f_89 10).toNatClampNeg x89_3)) 1 (upd ((va_up a_89 0 (upd (a_89 0) (f_89 10).toNatClampNeg x89_3)) 1) (f_89 10).toNatClampNeg x89_1)) 2 (upd ((va_up (va_up a_89 0 (upd (a_89 0) (f_89 10).toNatClampNeg x89_3)) 1 (upd ((va_up a_89 0 (upd (a_89 0) (f_89 10).toNatClampNeg x89_3)) 1) (f_89 10).toNatClampNeg x89_1)) 2) (f_89 10).toNatClampNeg (f_89 9))) 5) from (by rw [va_up_n (by decide), va_up_n (by decide), va_up_n (by decide)]; exact hq5)), (show R_t2_token sn sb tb f a (upd f_89 10 z4) (va_up (va_up (va_up a_89 0 (upd (a_89 0) (f_89 10).toNatClampNeg x89_3)) 1 (upd ((va_up a_89 0 (upd (a_89 0) (f_89 10).toNatClampNeg x89_3)) 1) (f_89 10).toNatClampNeg x89_1)) 2 (upd ((va_up (va_up a_89 0 (upd (a_89 0) (f_89 10).toNatClampNeg x89_3)) 1 (upd ((va_up a_89 0 (upd (a_89 0) (f_89 10).toNatClampNeg x89_3)) 1) (f_89 10).toNatClampNeg x89_1)) 2) (f_89 10).toNatClampNeg (f_89 9))) (0 : Int32) from (k89_5 _ _ _ 1 (Or.inr (Or.inl ⟨rfl, x89_1, x89_3, rfl, rfl, rfl, rfl, rfl, nc1, z4, ez4, Or.inl ⟨nc5, rfl, rfl, rfl⟩⟩))))⟩) d_Tok_token_159
      · have nc5 : ¬ x89_3.toInt = (0 : Int) := mt (i_eq (x := x89_3) (y := 0)).mpr c5
        refine lv_iload_n S.x S.b d_Tok_token_148 rfl (lv_at hl 2 rfl) ?_
        refine lv_bipush (v := 19) S.x S.b d_Tok_token_149 (by decide) ?_
        refine lv_icmp_eq (tgt := 158) S.x S.b d_Tok_token_151 (by decide) (fun c7 => ?_) (fun c7 => ?_)
        · have nc7 : x89_3.toInt = (19 : Int) := (i_eq (x := x89_3) (y := 19)).mp c7
          refine lv_iconst (v := 0) S.x S.b d_Tok_token_158 (by decide) ?_
          first | exact px_iret (v := 0) S hr rfl hlk hAe hw (Nat.le_of_ble_eq_true rfl) (Nat.le_of_ble_eq_true rfl) (⟨(upd f_89 10 z4), (va_up (va_up (va_up a_89 0 (upd (a_89 0) (f_89 10).toNatClampNeg x89_3)) 1 (upd ((va_up a_89 0 (upd (a_89 0) (f_89 10).toNatClampNeg x89_3)) 1) (f_89 10).toNatClampNeg x89_1)) 2 (upd ((va_up (va_up a_89 0 (upd (a_89 0) (f_89 10).toNatClampNeg x89_3)) 1 (upd ((va_up a_89 0 (upd (a_89 0) (f_89 10).toNatClampNeg x89_3)) 1) (f_89 10).toNatClampNeg x89_1)) 2) (f_89 10).toNatClampNeg (f_89 9))), rfl, (show TokOk (f_89 7) (f_89 8) z4 (f_89 11) (f_89 12) (f_89 13) (f_89 17) ((va_up (va_up (va_up a_89 0 (upd (a_89 0) (f_89 10).toNatClampNeg x89_3)) 1 (upd ((va_up a_89 0 (upd (a_89 0) (f_89 10).toNatClampNeg x89_3)) 1) (f_89 10).toNatClampNeg x89_1)) 2 (upd ((va_up (va_up a_89 0 (upd (a_89 0) (f_89 10).toNatClampNeg x89_3)) 1 (upd ((va_up a_89 0 (upd (a_89 0) (f_89 10).toNatClampNeg x89_3)) 1) (f_89 10).toNatClampNeg x89_1)) 2) (f_89 10).toNatClampNeg (f_89 9))) 4) from ⟨⟨o1, o2⟩, ⟨o3, o4⟩, ⟨(oz_b3b25f0e49 tz4 o5), (oz_26a0dc0197 tz4 nc1)⟩, ⟨o7, o8⟩, ⟨o9, o10⟩, ⟨o11, o12⟩, o13, (by rw [va_up_n (by decide), va_up_n (by decide), va_up_n (by decide)]; exact hn4)⟩), (show (0 : Int32) = 0 ∨ (0 : Int32) = 1 from by first | exact Or.inl rfl | exact Or.inr rfl | exact z_or (by omega)), (show (f_89 7).toInt = (f 7).toInt from k89_0), (show (f_89 15).toInt = (f 15).toInt from k89_2), (show z4.toInt = (f 10).toInt + 1 from (oz_39da5b546a k89_1 tz4)), (show (0 : Int) = 1 → (f 8).toInt + 1 ≤ (f_89 8).toInt ∧ (f 8).toInt < (f 7).toInt from by omega), (show LsT (0 : Int32) ((va_up (va_up (va_up a_89 0 (upd (a_89 0) (f_89 10).toNatClampNeg x89_3)) 1 (upd ((va_up a_89 0 (upd (a_89 0) (f_89 10).toNatClampNeg x89_3)) 1) (f_89 10).toNatClampNeg x89_1)) 2 (upd ((va_up (va_up a_89 0 (upd (a_89 0) (f_89 10).toNatClampNeg x89_3)) 1 (upd ((va_up a_89 0 (upd (a_89 0) (f_89 10).toNatClampNeg x89_3)) 1) (f_89 10).toNatClampNeg x89_1)) 2) (f_89 10).toNatClampNeg (f_89 9))) 0) z4 from (fun _ => (by rw [va_up_n (by decide), va_up_n (by decide), va_up_s]; exact last_mk (by omega) (by omega) (by omega)))), (show Q5 ((va_up (va_up (va_up a_89 0 (upd (a_89 0) (f_89 10).toNatClampNeg x89_3)) 1 (upd ((va_up a_89 0 (upd (a_89 0) (f_89 10).toNatClampNeg x89_3)) 1) (f_89 10).toNatClampNeg x89_1)) 2 (upd ((va_up (va_up a_89 0 (upd (a_89 0) (f_89 10).toNatClampNeg x89_3)) 1 (upd ((va_up a_89 0 (upd (a_89 0) (f_89 10).toNatClampNeg x89_3)) 1) (f_89 10).toNatClampNeg x89_1)) 2) (f_89 10).toNatClampNeg (f_89 9))) 5) from (by rw [va_up_n (by decide), va_up_n (by decide), va_up_n (by decide)]; exact hq5)), (show R_t2_token sn sb tb f a (upd f_89 10 z4) (va_up (va_up (va_up a_89 0 (upd (a_89 0) (f_89 10).toNatClampNeg x89_3)) 1 (upd ((va_up a_89 0 (upd (a_89 0) (f_89 10).toNatClampNeg x89_3)) 1) (f_89 10).toNatClampNeg x89_1)) 2 (upd ((va_up (va_up a_89 0 (upd (a_89 0) (f_89 10).toNatClampNeg x89_3)) 1 (upd ((va_up a_89 0 (upd (a_89 0) (f_89 10).toNatClampNeg x89_3)) 1) (f_89 10).toNatClampNeg x89_1)) 2) (f_89 10).toNatClampNeg (f_89 9))) (0 : Int32) from (k89_5 _ _ _ 1 (Or.inr (Or.inl ⟨rfl, x89_1, x89_3, rfl, rfl, rfl, rfl, rfl, nc1, z4, ez4, Or.inr ⟨nc5, Or.inl ⟨nc7, rfl, rfl, rfl⟩⟩⟩))))⟩) d_Tok_token_159 | exact px_iret (v := 0) S hr rfl hlk hAe hw (Nat.le_of_ble_eq_true rfl) (Nat.le_of_ble_eq_true rfl) (⟨(upd f_89 10 z4), (va_up (va_up (va_up a_89 0 (upd (a_89 0) (f_89 10).toNatClampNeg x89_3)) 1 (upd ((va_up a_89 0 (upd (a_89 0) (f_89 10).toNatClampNeg x89_3)) 1) (f_89 10).toNatClampNeg x89_1)) 2 (upd ((va_up (va_up a_89 0 (upd (a_89 0) (f_89 10).toNatClampNeg x89_3)) 1 (upd ((va_up a_89 0 (upd (a_89 0) (f_89 10).toNatClampNeg x89_3)) 1) (f_89 10).toNatClampNeg x89_1)) 2) (f_89 10).toNatClampNeg (f_89 9))), rfl, (show TokOk (f_89 7) (f_89 8) z4 (f_89 11) (f_89 12) (f_89 13) (f_89 17) ((va_up (va_up (va_up a_89 0 (upd (a_89 0) (f_89 10).toNatClampNeg x89_3)) 1 (upd ((va_up a_89 0 (upd (a_89 0) (f_89 10).toNatClampNeg x89_3)) 1) (f_89 10).toNatClampNeg x89_1)) 2 (upd ((va_up (va_up a_89 0 (upd (a_89 0) (f_89 10).toNatClampNeg x89_3)) 1 (upd ((va_up a_89 0 (upd (a_89 0) (f_89 10).toNatClampNeg x89_3)) 1) (f_89 10).toNatClampNeg x89_1)) 2) (f_89 10).toNatClampNeg (f_89 9))) 4) from ⟨⟨by first | exact o1 | omega, by first | exact o2 | omega⟩, ⟨by first | exact o3 | omega, by first | exact o4 | omega⟩, ⟨by first | exact oz_b3b25f0e49 tz4 o5 | omega, by first | exact oz_26a0dc0197 tz4 nc1 | omega⟩, ⟨by first | exact o7 | omega, by first | exact o8 | omega⟩, ⟨by first | exact o9 | omega, by first | exact o10 | omega⟩, ⟨by first | exact o11 | omega, by first | exact o12 | omega⟩, by first | exact o13 | omega, (by rw [va_up_n (by decide), va_up_n (by decide), va_up_n (by decide)]; exact hn4)⟩), (show (0 : Int32) = 0 ∨ (0 : Int32) = 1 from by first | exact Or.inl rfl | exact Or.inr rfl | exact z_or (by omega)), (show (f_89 7).toInt = (f 7).toInt from by first | exact k89_0 | omega), (show (f_89 15).toInt = (f 15).toInt from by first | exact k89_2 | omega), (show z4.toInt = (f 10).toInt + 1 from by first | exact oz_39da5b546a k89_1 tz4 | omega), (show (0 : Int) = 1 → (f 8).toInt + 1 ≤ (f_89 8).toInt ∧ (f 8).toInt < (f 7).toInt from by omega), (show LsT (0 : Int32) ((va_up (va_up (va_up a_89 0 (upd (a_89 0) (f_89 10).toNatClampNeg x89_3)) 1 (upd ((va_up a_89 0 (upd (a_89 0) (f_89 10).toNatClampNeg x89_3)) 1) (f_89 10).toNatClampNeg x89_1)) 2 (upd ((va_up (va_up a_89 0 (upd (a_89 0) (f_89 10).toNatClampNeg x89_3)) 1 (upd ((va_up a_89 0 (upd (a_89 0) (f_89 10).toNatClampNeg x89_3)) 1) (f_89 10).toNatClampNeg x89_1)) 2) (f_89 10).toNatClampNeg (f_89 9))) 0) z4 from (fun _ => (by rw [va_up_n (by decide), va_up_n (by decide), va_up_s]; exact last_mk (by omega) (by omega) (by omega)))), (show Q5 ((va_up (va_up (va_up a_89 0 (upd (a_89 0) (f_89 10).toNatClampNeg x89_3)) 1 (upd ((va_up a_89 0 (upd (a_89 0) (f_89 10).toNatClampNeg x89_3)) 1) (f_89 10).toNatClampNeg x89_1)) 2 (upd ((va_up (va_up a_89 0 (upd (a_89 0) (f_89 10).toNatClampNeg x89_3)) 1 (upd ((va_up a_89 0 (upd (a_89 0) (f_89 10).toNatClampNeg x89_3)) 1) (f_89 10).toNatClampNeg x89_1)) 2) (f_89 10).toNatClampNeg (f_89 9))) 5) from (by rw [va_up_n (by decide), va_up_n (by decide), va_up_n (by decide)]; exact hq5)), (show R_t2_token sn sb tb f a (upd f_89 10 z4) (va_up (va_up (va_up a_89 0 (upd (a_89 0) (f_89 10).toNatClampNeg x89_3)) 1 (upd ((va_up a_89 0 (upd (a_89 0) (f_89 10).toNatClampNeg x89_3)) 1) (f_89 10).toNatClampNeg x89_1)) 2 (upd ((va_up (va_up a_89 0 (upd (a_89 0) (f_89 10).toNatClampNeg x89_3)) 1 (upd ((va_up a_89 0 (upd (a_89 0) (f_89 10).toNatClampNeg x89_3)) 1) (f_89 10).toNatClampNeg x89_1)) 2) (f_89 10).toNatClampNeg (f_89 9))) (0 : Int32) from (k89_5 _ _ _ 1 (Or.inr (Or.inl ⟨rfl, x89_1, x89_3, rfl, rfl, rfl, rfl, rfl, nc1, z4, ez4, Or.inr ⟨nc5, Or.inl ⟨nc7, rfl, rfl, rfl⟩⟩⟩))))⟩) d_Tok_token_159
        · have nc7 : ¬ x89_3.toInt = (19 : Int) := mt (i_eq (x := x89_3) (y := 19)).mpr c7
          refine lv_iconst (v := 1) S.x S.b d_Tok_token_154 (by decide) ?_
          refine lv_goto (tgt := 159) S.x S.b d_Tok_token_155 (by decide) ?_
          first | exact px_iret (v := 1) S hr rfl hlk hAe hw (Nat.le_of_ble_eq_true rfl) (Nat.le_of_ble_eq_true rfl) (⟨(upd f_89 10 z4), (va_up (va_up (va_up a_89 0 (upd (a_89 0) (f_89 10).toNatClampNeg x89_3)) 1 (upd ((va_up a_89 0 (upd (a_89 0) (f_89 10).toNatClampNeg x89_3)) 1) (f_89 10).toNatClampNeg x89_1)) 2 (upd ((va_up (va_up a_89 0 (upd (a_89 0) (f_89 10).toNatClampNeg x89_3)) 1 (upd ((va_up a_89 0 (upd (a_89 0) (f_89 10).toNatClampNeg x89_3)) 1) (f_89 10).toNatClampNeg x89_1)) 2) (f_89 10).toNatClampNeg (f_89 9))), rfl, (show TokOk (f_89 7) (f_89 8) z4 (f_89 11) (f_89 12) (f_89 13) (f_89 17) ((va_up (va_up (va_up a_89 0 (upd (a_89 0) (f_89 10).toNatClampNeg x89_3)) 1 (upd ((va_up a_89 0 (upd (a_89 0) (f_89 10).toNatClampNeg x89_3)) 1) (f_89 10).toNatClampNeg x89_1)) 2 (upd ((va_up (va_up a_89 0 (upd (a_89 0) (f_89 10).toNatClampNeg x89_3)) 1 (upd ((va_up a_89 0 (upd (a_89 0) (f_89 10).toNatClampNeg x89_3)) 1) (f_89 10).toNatClampNeg x89_1)) 2) (f_89 10).toNatClampNeg (f_89 9))) 4) from ⟨⟨o1, o2⟩, ⟨o3, o4⟩, ⟨(oz_b3b25f0e49 tz4 o5), (oz_26a0dc0197 tz4 nc1)⟩, ⟨o7, o8⟩, ⟨o9, o10⟩, ⟨o11, o12⟩, o13, (by rw [va_up_n (by decide), va_up_n (by decide), va_up_n (by decide)]; exact hn4)⟩), (show (1 : Int32) = 0 ∨ (1 : Int32) = 1 from by first | exact Or.inl rfl | exact Or.inr rfl | exact z_or (by omega)), (show (f_89 7).toInt = (f 7).toInt from k89_0), (show (f_89 15).toInt = (f 15).toInt from k89_2), (show z4.toInt = (f 10).toInt + 1 from (oz_39da5b546a k89_1 tz4)), (show (1 : Int) = 1 → (f 8).toInt + 1 ≤ (f_89 8).toInt ∧ (f 8).toInt < (f 7).toInt from by omega), (show LsT (1 : Int32) ((va_up (va_up (va_up a_89 0 (upd (a_89 0) (f_89 10).toNatClampNeg x89_3)) 1 (upd ((va_up a_89 0 (upd (a_89 0) (f_89 10).toNatClampNeg x89_3)) 1) (f_89 10).toNatClampNeg x89_1)) 2 (upd ((va_up (va_up a_89 0 (upd (a_89 0) (f_89 10).toNatClampNeg x89_3)) 1 (upd ((va_up a_89 0 (upd (a_89 0) (f_89 10).toNatClampNeg x89_3)) 1) (f_89 10).toNatClampNeg x89_1)) 2) (f_89 10).toNatClampNeg (f_89 9))) 0) z4 from (fun h => absurd h (by decide))), (show Q5 ((va_up (va_up (va_up a_89 0 (upd (a_89 0) (f_89 10).toNatClampNeg x89_3)) 1 (upd ((va_up a_89 0 (upd (a_89 0) (f_89 10).toNatClampNeg x89_3)) 1) (f_89 10).toNatClampNeg x89_1)) 2 (upd ((va_up (va_up a_89 0 (upd (a_89 0) (f_89 10).toNatClampNeg x89_3)) 1 (upd ((va_up a_89 0 (upd (a_89 0) (f_89 10).toNatClampNeg x89_3)) 1) (f_89 10).toNatClampNeg x89_1)) 2) (f_89 10).toNatClampNeg (f_89 9))) 5) from (by rw [va_up_n (by decide), va_up_n (by decide), va_up_n (by decide)]; exact hq5)), (show R_t2_token sn sb tb f a (upd f_89 10 z4) (va_up (va_up (va_up a_89 0 (upd (a_89 0) (f_89 10).toNatClampNeg x89_3)) 1 (upd ((va_up a_89 0 (upd (a_89 0) (f_89 10).toNatClampNeg x89_3)) 1) (f_89 10).toNatClampNeg x89_1)) 2 (upd ((va_up (va_up a_89 0 (upd (a_89 0) (f_89 10).toNatClampNeg x89_3)) 1 (upd ((va_up a_89 0 (upd (a_89 0) (f_89 10).toNatClampNeg x89_3)) 1) (f_89 10).toNatClampNeg x89_1)) 2) (f_89 10).toNatClampNeg (f_89 9))) (1 : Int32) from (k89_5 _ _ _ 1 (Or.inr (Or.inl ⟨rfl, x89_1, x89_3, rfl, rfl, rfl, rfl, rfl, nc1, z4, ez4, Or.inr ⟨nc5, Or.inr ⟨nc7, rfl, rfl, rfl⟩⟩⟩))))⟩) d_Tok_token_159 | exact px_iret (v := 1) S hr rfl hlk hAe hw (Nat.le_of_ble_eq_true rfl) (Nat.le_of_ble_eq_true rfl) (⟨(upd f_89 10 z4), (va_up (va_up (va_up a_89 0 (upd (a_89 0) (f_89 10).toNatClampNeg x89_3)) 1 (upd ((va_up a_89 0 (upd (a_89 0) (f_89 10).toNatClampNeg x89_3)) 1) (f_89 10).toNatClampNeg x89_1)) 2 (upd ((va_up (va_up a_89 0 (upd (a_89 0) (f_89 10).toNatClampNeg x89_3)) 1 (upd ((va_up a_89 0 (upd (a_89 0) (f_89 10).toNatClampNeg x89_3)) 1) (f_89 10).toNatClampNeg x89_1)) 2) (f_89 10).toNatClampNeg (f_89 9))), rfl, (show TokOk (f_89 7) (f_89 8) z4 (f_89 11) (f_89 12) (f_89 13) (f_89 17) ((va_up (va_up (va_up a_89 0 (upd (a_89 0) (f_89 10).toNatClampNeg x89_3)) 1 (upd ((va_up a_89 0 (upd (a_89 0) (f_89 10).toNatClampNeg x89_3)) 1) (f_89 10).toNatClampNeg x89_1)) 2 (upd ((va_up (va_up a_89 0 (upd (a_89 0) (f_89 10).toNatClampNeg x89_3)) 1 (upd ((va_up a_89 0 (upd (a_89 0) (f_89 10).toNatClampNeg x89_3)) 1) (f_89 10).toNatClampNeg x89_1)) 2) (f_89 10).toNatClampNeg (f_89 9))) 4) from ⟨⟨by first | exact o1 | omega, by first | exact o2 | omega⟩, ⟨by first | exact o3 | omega, by first | exact o4 | omega⟩, ⟨by first | exact oz_b3b25f0e49 tz4 o5 | omega, by first | exact oz_26a0dc0197 tz4 nc1 | omega⟩, ⟨by first | exact o7 | omega, by first | exact o8 | omega⟩, ⟨by first | exact o9 | omega, by first | exact o10 | omega⟩, ⟨by first | exact o11 | omega, by first | exact o12 | omega⟩, by first | exact o13 | omega, (by rw [va_up_n (by decide), va_up_n (by decide), va_up_n (by decide)]; exact hn4)⟩), (show (1 : Int32) = 0 ∨ (1 : Int32) = 1 from by first | exact Or.inl rfl | exact Or.inr rfl | exact z_or (by omega)), (show (f_89 7).toInt = (f 7).toInt from by first | exact k89_0 | omega), (show (f_89 15).toInt = (f 15).toInt from by first | exact k89_2 | omega), (show z4.toInt = (f 10).toInt + 1 from by first | exact oz_39da5b546a k89_1 tz4 | omega), (show (1 : Int) = 1 → (f 8).toInt + 1 ≤ (f_89 8).toInt ∧ (f 8).toInt < (f 7).toInt from by omega), (show LsT (1 : Int32) ((va_up (va_up (va_up a_89 0 (upd (a_89 0) (f_89 10).toNatClampNeg x89_3)) 1 (upd ((va_up a_89 0 (upd (a_89 0) (f_89 10).toNatClampNeg x89_3)) 1) (f_89 10).toNatClampNeg x89_1)) 2 (upd ((va_up (va_up a_89 0 (upd (a_89 0) (f_89 10).toNatClampNeg x89_3)) 1 (upd ((va_up a_89 0 (upd (a_89 0) (f_89 10).toNatClampNeg x89_3)) 1) (f_89 10).toNatClampNeg x89_1)) 2) (f_89 10).toNatClampNeg (f_89 9))) 0) z4 from (fun h => absurd h (by decide))), (show Q5 ((va_up (va_up (va_up a_89 0 (upd (a_89 0) (f_89 10).toNatClampNeg x89_3)) 1 (upd ((va_up a_89 0 (upd (a_89 0) (f_89 10).toNatClampNeg x89_3)) 1) (f_89 10).toNatClampNeg x89_1)) 2 (upd ((va_up (va_up a_89 0 (upd (a_89 0) (f_89 10).toNatClampNeg x89_3)) 1 (upd ((va_up a_89 0 (upd (a_89 0) (f_89 10).toNatClampNeg x89_3)) 1) (f_89 10).toNatClampNeg x89_1)) 2) (f_89 10).toNatClampNeg (f_89 9))) 5) from (by rw [va_up_n (by decide), va_up_n (by decide), va_up_n (by decide)]; exact hq5)), (show R_t2_token sn sb tb f a (upd f_89 10 z4) (va_up (va_up (va_up a_89 0 (upd (a_89 0) (f_89 10).toNatClampNeg x89_3)) 1 (upd ((va_up a_89 0 (upd (a_89 0) (f_89 10).toNatClampNeg x89_3)) 1) (f_89 10).toNatClampNeg x89_1)) 2 (upd ((va_up (va_up a_89 0 (upd (a_89 0) (f_89 10).toNatClampNeg x89_3)) 1 (upd ((va_up a_89 0 (upd (a_89 0) (f_89 10).toNatClampNeg x89_3)) 1) (f_89 10).toNatClampNeg x89_1)) 2) (f_89 10).toNatClampNeg (f_89 9))) (1 : Int32) from (k89_5 _ _ _ 1 (Or.inr (Or.inl ⟨rfl, x89_1, x89_3, rfl, rfl, rfl, rfl, rfl, nc1, z4, ez4, Or.inr ⟨nc5, Or.inr ⟨nc7, rfl, rfl, rfl⟩⟩⟩))))⟩) d_Tok_token_159
  refine lv_aload_n S.x S.b d_Tok_token_0 rfl (lv_at hl 0 rfl) ?_
  refine px_get S k_Tok hT hw 0 0 8 (v := .int (f 8)) rfl rfl rfl (by decide) m1_111 d_Tok_token_1 ?_
  refine lv_istore_n (lv' := [(1, .int (f 8)), (0, .ref h)]) S.x S.b d_Tok_token_4 rfl hl (by decide) rfl (fun ls hl => ?_)
  refine lv_aload_n S.x S.b d_Tok_token_5 rfl (lv_at hl 1 rfl) ?_
  refine lv_aload_n S.x S.b d_Tok_token_6 rfl (lv_at hl 1 rfl) ?_
  refine px_get S k_Tok hT hw 0 0 8 (v := .int (f 8)) rfl rfl rfl (by decide) m1_111 d_Tok_token_7 ?_
  first | refine px_calli (pr := []) (px_runV (As := [.int (f 8)]) (rest := []) S (c_t2_byteAt l D cs h r tp tb g f a (f 8)  (show TokOk (f 7) (f 8) (f 10) (f 11) (f 12) (f 13) (f 17) (a 4) from ⟨⟨o1, o2⟩, ⟨o3, o4⟩, ⟨o5, o6⟩, ⟨o7, o8⟩, ⟨o9, o10⟩, ⟨o11, o12⟩, o13, hn4⟩) _) hT (pr := []) (pcs := [wd_Tok cs h r (fun _ => some tp) f a g, [(tp, .inl (cs 1, 2048, .inl tb))]]) hw px_X.tt (px_recv hT hw 0 0 rfl rfl rfl) m3_186 m3_183 m3_185 ms_1_6 m1_2 q_Tok_byteAt ⟨Nat.le_of_ble_eq_true rfl, Nat.le_of_ble_eq_true rfl⟩ hl.1 rfl (Nat.le_of_ble_eq_true rfl) d_Tok_token_10 ⟨Nat.le_of_ble_eq_true rfl, Nat.le_of_ble_eq_true rfl⟩) hw hA (fun v10 p9 H locs hp9 hw => ?_) | refine px_calli (pr := []) (px_runV (As := [.int (f 8)]) (rest := []) S (c_t2_byteAt l D cs h r tp tb g f a (f 8)  (show TokOk (f 7) (f 8) (f 10) (f 11) (f 12) (f 13) (f 17) (a 4) from ⟨⟨by first | exact o1 | omega, by first | exact o2 | omega⟩, ⟨by first | exact o3 | omega, by first | exact o4 | omega⟩, ⟨by first | exact o5 | omega, by first | exact o6 | omega⟩, ⟨by first | exact o7 | omega, by first | exact o8 | omega⟩, ⟨by first | exact o9 | omega, by first | exact o10 | omega⟩, ⟨by first | exact o11 | omega, by first | exact o12 | omega⟩, by first | exact o13 | omega, hn4⟩) _) hT (pr := []) (pcs := [wd_Tok cs h r (fun _ => some tp) f a g, [(tp, .inl (cs 1, 2048, .inl tb))]]) hw px_X.tt (px_recv hT hw 0 0 rfl rfl rfl) m3_186 m3_183 m3_185 ms_1_6 m1_2 q_Tok_byteAt ⟨Nat.le_of_ble_eq_true rfl, Nat.le_of_ble_eq_true rfl⟩ hl.1 rfl (Nat.le_of_ble_eq_true rfl) d_Tok_token_10 ⟨Nat.le_of_ble_eq_true rfl, Nat.le_of_ble_eq_true rfl⟩) hw hA (fun v10 p9 H locs hp9 hw => ?_)
  obtain ⟨rfl, e11, e12, e13, e14, e15⟩ := hp9
  have e11 : -1 ≤ v10.toInt := e11
  have e12 : v10.toInt ≤ 255 := e12
  have e13 : 0 ≤ v10.toInt → 0 ≤ (f 8).toInt ∧ (f 8).toInt < (f 7).toInt := e13
  have e14 : By tb (f 7) (f 8) v10 := e14
  have e15 : R_t2_byteAt tb f (f 8) v10 := e15
  have lv10 := Int32.le_toInt v10
  have uv10 := Int32.toInt_lt v10
  refine lv_istore_n (lv' := [(2, .int v10), (1, .int (f 8)), (0, .ref h)]) S.x S.b d_Tok_token_13 rfl hl (by decide) rfl (fun ls hl => ?_)
  refine lv_iconst (v := 0) S.x S.b d_Tok_token_14 (by decide) ?_
  refine lv_istore_n (lv' := [(3, .int 0), (2, .int v10), (1, .int (f 8)), (0, .ref h)]) S.x S.b d_Tok_token_15 rfl hl (by decide) rfl (fun ls hl => ?_)
  refine lv_aload_n S.x S.b d_Tok_token_16 rfl (lv_at hl 3 rfl) ?_
  refine lv_iconst (v := 0) S.x S.b d_Tok_token_17 (by decide) ?_
  refine px_put S k_Tok hT hw 0 0 9 rfl rfl (by decide) m1_112 rfl rfl rfl (Nat.le_of_ble_eq_true rfl) d_Tok_token_18 (w' := wd_Tok cs h r (fun _ => some tp) (upd f 9 0) a g) (ps' := [wd_Tok cs h r (fun _ => some tp) (upd f 9 0) a g, [(tp, .inl (cs 1, 2048, .inl tb))]]) rfl rfl (fun H locs hw => ?_)
  refine lv_iload_n S.x S.b d_Tok_token_21 rfl (lv_at hl 1 rfl) ?_
  refine px_calli (pr := [wd_Tok cs h r (fun _ => some tp) (upd f 9 0) a g, [(tp, .inl (cs 1, 2048, .inl tb))]]) (px_runS (As := [.int v10]) (rest := []) S (c_t2_isLetter l D cs  v10   _) hT (pr := [wd_Tok cs h r (fun _ => some tp) (upd f 9 0) a g, [(tp, .inl (cs 1, 2048, .inl tb))]]) (pcs := []) hw px_X.tt m3_201 m3_199 m3_200 m1_2 q_Tok_isLetter ⟨Nat.le_of_ble_eq_true rfl, Nat.le_of_ble_eq_true rfl⟩ hl.1 rfl (Nat.le_of_ble_eq_true rfl) d_Tok_token_22 ⟨Nat.le_of_ble_eq_true rfl, Nat.le_of_ble_eq_true rfl⟩) hw hA (fun v17 p16 H locs hp16 hw => ?_)
  obtain ⟨rfl, e18, e19, e20⟩ := hp16
  have e18 := z_rng e18
  have e19 : IsLt v17 v10 := e19
  have e20 : R_t2_isLetter v10 v17 := e20
  have lv17 := Int32.le_toInt v17
  have uv17 := Int32.toInt_lt v17
  refine lv_if_eq (tgt := 36) S.x S.b d_Tok_token_25 (by decide) (fun c21 => ?_) (fun c21 => ?_)
  · have nc21 : v17.toInt = (0 : Int) := (i_eq (x := v17) (y := 0)).mp c21
    refine lv_iload_n S.x S.b d_Tok_token_36 rfl (lv_at hl 1 rfl) ?_
    refine px_calli (pr := [wd_Tok cs h r (fun _ => some tp) (upd f 9 0) a g, [(tp, .inl (cs 1, 2048, .inl tb))]]) (px_runS (As := [.int v10]) (rest := []) S (c_t2_isDigit l D cs  v10   _) hT (pr := [wd_Tok cs h r (fun _ => some tp) (upd f 9 0) a g, [(tp, .inl (cs 1, 2048, .inl tb))]]) (pcs := []) hw px_X.tt m3_208 m3_206 m3_207 m1_2 q_Tok_isDigit ⟨Nat.le_of_ble_eq_true rfl, Nat.le_of_ble_eq_true rfl⟩ hl.1 rfl (Nat.le_of_ble_eq_true rfl) d_Tok_token_37 ⟨Nat.le_of_ble_eq_true rfl, Nat.le_of_ble_eq_true rfl⟩) hw hA (fun v24 p23 H locs hp23 hw => ?_)
    obtain ⟨rfl, e25, e26, e27⟩ := hp23
    have e25 := z_rng e25
    have e26 : v24.toInt = 1 → 48 ≤ v10.toInt := e26
    have e27 : R_t2_isDigit v10 v24 := e27
    have lv24 := Int32.le_toInt v24
    have uv24 := Int32.toInt_lt v24
    refine lv_if_eq (tgt := 51) S.x S.b d_Tok_token_40 (by decide) (fun c28 => ?_) (fun c28 => ?_)
    · have nc28 : v24.toInt = (0 : Int) := (i_eq (x := v24) (y := 0)).mp c28
      refine lv_iload_n S.x S.b d_Tok_token_51 rfl (lv_at hl 1 rfl) ?_
      refine lv_bipush (v := 39) S.x S.b d_Tok_token_52 (by decide) ?_
      refine lv_icmp_ne (tgt := 65) S.x S.b d_Tok_token_54 (by decide) (fun c30 => ?_) (fun c30 => ?_)
      · have nc30 : ¬ v10.toInt = (39 : Int) := mt (i_eq (x := v10) (y := 39)).mpr c30
        refine lv_iload_n S.x S.b d_Tok_token_65 rfl (lv_at hl 1 rfl) ?_
        refine lv_bipush (v := 34) S.x S.b d_Tok_token_66 (by decide) ?_
        refine lv_icmp_ne (tgt := 79) S.x S.b d_Tok_token_68 (by decide) (fun c32 => ?_) (fun c32 => ?_)
        · have nc32 : ¬ v10.toInt = (34 : Int) := mt (i_eq (x := v10) (y := 34)).mpr c32
          refine lv_iload_n S.x S.b d_Tok_token_79 rfl (lv_at hl 1 rfl) ?_
          refine lv_if_lt (tgt := 89) S.x S.b d_Tok_token_80 (by decide) (fun c34 => ?_) (fun c34 => ?_)
          · have nc34 : v10.toInt < (0 : Int) := (i_lt (x := v10) (y := 0)).mp c34
            first | exact J89 (upd f 9 0) a (f 8) (0 : Int32) _ _ ls (show TokOk (f 7) (f 8) (f 10) (f 11) (f 12) (f 13) (f 17) (a 4) from ⟨⟨o1, o2⟩, ⟨o3, o4⟩, ⟨o5, o6⟩, ⟨o7, o8⟩, ⟨o9, o10⟩, ⟨o11, o12⟩, o13, hn4⟩) (show (f 7).toInt = (f 7).toInt from rfl) (show (f 10).toInt = (f 10).toInt from rfl) (show (f 15).toInt = (f 15).toInt from rfl) (show Q5 (a 5) from hq5) (show (0 : Int) = 0 ∨ (0 : Int) = 19 ∨ ((f 8).toInt + 1 ≤ (f 8).toInt ∧ (f 8).toInt < (f 7).toInt) from by omega) (show K_t2_token_89 sn sb tb f a (upd f 9 0) a (f 8) 0 from (fun y_f0 y_f1 y_v k hE => Exists.intro (k + 1) (Or.inl ⟨rfl, v10, e15, v17, e20, Or.inl ⟨nc21, v24, e27, Or.inl ⟨nc28, Or.inl ⟨nc30, Or.inl ⟨nc32, Or.inl ⟨nc34, hE⟩⟩⟩⟩⟩⟩))) hw (lv_sub hl [3, 2, 0] rfl) | exact J89 (upd f 9 0) a (f 8) (0 : Int32) _ _ ls (show TokOk (f 7) (f 8) (f 10) (f 11) (f 12) (f 13) (f 17) (a 4) from ⟨⟨by first | exact o1 | omega, by first | exact o2 | omega⟩, ⟨by first | exact o3 | omega, by first | exact o4 | omega⟩, ⟨by first | exact o5 | omega, by first | exact o6 | omega⟩, ⟨by first | exact o7 | omega, by first | exact o8 | omega⟩, ⟨by first | exact o9 | omega, by first | exact o10 | omega⟩, ⟨by first | exact o11 | omega, by first | exact o12 | omega⟩, by first | exact o13 | omega, hn4⟩) (show (f 7).toInt = (f 7).toInt from rfl) (show (f 10).toInt = (f 10).toInt from rfl) (show (f 15).toInt = (f 15).toInt from rfl) (show Q5 (a 5) from hq5) (show (0 : Int) = 0 ∨ (0 : Int) = 19 ∨ ((f 8).toInt + 1 ≤ (f 8).toInt ∧ (f 8).toInt < (f 7).toInt) from by omega) (show K_t2_token_89 sn sb tb f a (upd f 9 0) a (f 8) 0 from (fun y_f0 y_f1 y_v k hE => Exists.intro (k + 1) (Or.inl ⟨rfl, v10, e15, v17, e20, Or.inl ⟨nc21, v24, e27, Or.inl ⟨nc28, Or.inl ⟨nc30, Or.inl ⟨nc32, Or.inl ⟨nc34, hE⟩⟩⟩⟩⟩⟩))) hw (lv_sub hl [3, 2, 0] rfl)
          · have nc34 : ¬ v10.toInt < (0 : Int) := mt (i_lt (x := v10) (y := 0)).mpr c34
            refine lv_aload_n S.x S.b d_Tok_token_83 rfl (lv_at hl 3 rfl) ?_
            refine lv_iload_n S.x S.b d_Tok_token_84 rfl (lv_at hl 1 rfl) ?_
            first | refine px_calli (pr := []) (px_runV (As := [.int v10]) (rest := []) S (c_t2_mark l D cs sk st sn sb h r tp tb g (upd f 9 0) a v10  (show TokOk (f 7) (f 8) (f 10) (f 11) (f 12) (f 13) (f 17) (a 4) from ⟨⟨o1, o2⟩, ⟨o3, o4⟩, ⟨o5, o6⟩, ⟨o7, o8⟩, ⟨o9, o10⟩, ⟨o11, o12⟩, o13, hn4⟩) (show sn ≤ 1000000 from g0) (show 0 ≤ (f 8).toInt from o3) (show (f 8).toInt < (f 7).toInt from (oz_2218542316 nc34 e13)) hq5 _) hT (pr := []) (pcs := [wd_Tok cs h r (fun _ => some tp) (upd f 9 0) a g, [(tp, .inl (cs 1, 2048, .inl tb))]]) hw (oX_call (P := (fun A U H => (vk_R "HomeSystem$Tokens" 127 "(){}[],;:?=|^&<>+-*/%!~" sk U) ∧ (oZ A U H) ∧ (oS A sk st sn sb U H))) (pr := []) (oG_and oG_L (oG_and oG_Z oG_S)) hw hA ⟨hL, hZ, hS⟩) (px_recv hT hw 0 0 rfl rfl rfl) m4_5 m4_2 m4_4 ms_2_3 m1_2 q_Tok_mark ⟨Nat.le_of_ble_eq_true rfl, Nat.le_of_ble_eq_true rfl⟩ hl.1 rfl (Nat.le_of_ble_eq_true rfl) d_Tok_token_85 ⟨Nat.le_of_ble_eq_true rfl, Nat.le_of_ble_eq_true rfl⟩) hw hA (fun v41 p40 H locs hp40 hw => ?_) | refine px_calli (pr := []) (px_runV (As := [.int v10]) (rest := []) S (c_t2_mark l D cs sk st sn sb h r tp tb g (upd f 9 0) a v10  (show TokOk (f 7) (f 8) (f 10) (f 11) (f 12) (f 13) (f 17) (a 4) from ⟨⟨by first | exact o1 | omega, by first | exact o2 | omega⟩, ⟨by first | exact o3 | omega, by first | exact o4 | omega⟩, ⟨by first | exact o5 | omega, by first | exact o6 | omega⟩, ⟨by first | exact o7 | omega, by first | exact o8 | omega⟩, ⟨by first | exact o9 | omega, by first | exact o10 | omega⟩, ⟨by first | exact o11 | omega, by first | exact o12 | omega⟩, by first | exact o13 | omega, hn4⟩) (show sn ≤ 1000000 from by first | exact g0 | omega) (show 0 ≤ (f 8).toInt from by first | exact o3 | omega) (show (f 8).toInt < (f 7).toInt from by first | exact oz_2218542316 nc34 e13 | omega) hq5 _) hT (pr := []) (pcs := [wd_Tok cs h r (fun _ => some tp) (upd f 9 0) a g, [(tp, .inl (cs 1, 2048, .inl tb))]]) hw (oX_call (P := (fun A U H => (vk_R "HomeSystem$Tokens" 127 "(){}[],;:?=|^&<>+-*/%!~" sk U) ∧ (oZ A U H) ∧ (oS A sk st sn sb U H))) (pr := []) (oG_and oG_L (oG_and oG_Z oG_S)) hw hA ⟨hL, hZ, hS⟩) (px_recv hT hw 0 0 rfl rfl rfl) m4_5 m4_2 m4_4 ms_2_3 m1_2 q_Tok_mark ⟨Nat.le_of_ble_eq_true rfl, Nat.le_of_ble_eq_true rfl⟩ hl.1 rfl (Nat.le_of_ble_eq_true rfl) d_Tok_token_85 ⟨Nat.le_of_ble_eq_true rfl, Nat.le_of_ble_eq_true rfl⟩) hw hA (fun v41 p40 H locs hp40 hw => ?_)
            obtain ⟨f38, a39, rfl, h48, e42, e43, e44, e45, e46, e47⟩ := hp40
            obtain ⟨⟨o1, o2⟩, ⟨o3, o4⟩, ⟨o5, o6⟩, ⟨o7, o8⟩, ⟨o9, o10⟩, ⟨o11, o12⟩, o13, hn4⟩ := h48
            have e42 : (f38 7).toInt = (f 7).toInt := e42
            have e43 : (f38 10).toInt = (f 10).toInt := e43
            have e44 : (f38 15).toInt = (f 15).toInt := e44
            have e45 : v41.toInt = 19 ∨ (f 8).toInt + 1 ≤ (f38 8).toInt := e45
            have e46 : Q5 (a39 5) := e46
            have hq5 := e46
            have e47 : R_t2_mark sn sb tb v10 (upd f 9 0) a f38 a39 v41 := e47
            have lv41 := Int32.le_toInt v41
            have uv41 := Int32.toInt_lt v41
            refine lv_istore_n (lv' := [(3, .int v41), (2, .int v10), (1, .int (f 8)), (0, .ref h)]) S.x S.b d_Tok_token_88 rfl hl (by decide) rfl (fun ls hl => ?_)
            first | exact J89 f38 a39 (f 8) v41 _ _ ls (show TokOk (f38 7) (f38 8) (f38 10) (f38 11) (f38 12) (f38 13) (f38 17) (a39 4) from ⟨⟨o1, o2⟩, ⟨o3, o4⟩, ⟨o5, o6⟩, ⟨o7, o8⟩, ⟨o9, o10⟩, ⟨o11, o12⟩, o13, hn4⟩) (show (f38 7).toInt = (f 7).toInt from e42) (show (f38 10).toInt = (f 10).toInt from e43) (show (f38 15).toInt = (f 15).toInt from e44) (show Q5 (a39 5) from hq5) (show v41.toInt = 0 ∨ v41.toInt = 19 ∨ ((f 8).toInt + 1 ≤ (f38 8).toInt ∧ (f 8).toInt < (f 7).toInt) from by omega) (show K_t2_token_89 sn sb tb f a f38 a39 (f 8) v41 from (fun y_f0 y_f1 y_v k hE => Exists.intro (k + 1) (Or.inl ⟨rfl, v10, e15, v17, e20, Or.inl ⟨nc21, v24, e27, Or.inl ⟨nc28, Or.inl ⟨nc30, Or.inl ⟨nc32, Or.inr ⟨nc34, f38, a39, v41, e47, hE⟩⟩⟩⟩⟩⟩))) hw (lv_sub hl [3, 2, 0] rfl) | exact J89 f38 a39 (f 8) v41 _ _ ls (show TokOk (f38 7) (f38 8) (f38 10) (f38 11) (f38 12) (f38 13) (f38 17) (a39 4) from ⟨⟨by first | exact o1 | omega, by first | exact o2 | omega⟩, ⟨by first | exact o3 | omega, by first | exact o4 | omega⟩, ⟨by first | exact o5 | omega, by first | exact o6 | omega⟩, ⟨by first | exact o7 | omega, by first | exact o8 | omega⟩, ⟨by first | exact o9 | omega, by first | exact o10 | omega⟩, ⟨by first | exact o11 | omega, by first | exact o12 | omega⟩, by first | exact o13 | omega, hn4⟩) (show (f38 7).toInt = (f 7).toInt from by first | exact e42 | omega) (show (f38 10).toInt = (f 10).toInt from by first | exact e43 | omega) (show (f38 15).toInt = (f 15).toInt from by first | exact e44 | omega) (show Q5 (a39 5) from hq5) (show v41.toInt = 0 ∨ v41.toInt = 19 ∨ ((f 8).toInt + 1 ≤ (f38 8).toInt ∧ (f 8).toInt < (f 7).toInt) from by omega) (show K_t2_token_89 sn sb tb f a f38 a39 (f 8) v41 from (fun y_f0 y_f1 y_v k hE => Exists.intro (k + 1) (Or.inl ⟨rfl, v10, e15, v17, e20, Or.inl ⟨nc21, v24, e27, Or.inl ⟨nc28, Or.inl ⟨nc30, Or.inl ⟨nc32, Or.inr ⟨nc34, f38, a39, v41, e47, hE⟩⟩⟩⟩⟩⟩))) hw (lv_sub hl [3, 2, 0] rfl)
        · have nc32 : v10.toInt = (34 : Int) := (i_eq (x := v10) (y := 34)).mp c32
          refine lv_aload_n S.x S.b d_Tok_token_71 rfl (lv_at hl 3 rfl) ?_
          first | refine px_calli (pr := []) (px_runV (As := []) (rest := []) S (c_t2_string l D cs h r tp tb g (upd f 9 0) a   (show TokOk (f 7) (f 8) (f 10) (f 11) (f 12) (f 13) (f 17) (a 4) from ⟨⟨o1, o2⟩, ⟨o3, o4⟩, ⟨o5, o6⟩, ⟨o7, o8⟩, ⟨o9, o10⟩, ⟨o11, o12⟩, o13, hn4⟩) hq5 _) hT (pr := []) (pcs := [wd_Tok cs h r (fun _ => some tp) (upd f 9 0) a g, [(tp, .inl (cs 1, 2048, .inl tb))]]) hw px_X.tt (px_recv hT hw 0 0 rfl rfl rfl) m4_1 m3_238 m4_0 ms_2_2 m1_2 q_Tok_string ⟨Nat.le_of_ble_eq_true rfl, Nat.le_of_ble_eq_true rfl⟩ hl.1 rfl (Nat.le_of_ble_eq_true rfl) d_Tok_token_72 ⟨Nat.le_of_ble_eq_true rfl, Nat.le_of_ble_eq_true rfl⟩) hw hA (fun v54 p53 H locs hp53 hw => ?_) | refine px_calli (pr := []) (px_runV (As := []) (rest := []) S (c_t2_string l D cs h r tp tb g (upd f 9 0) a   (show TokOk (f 7) (f 8) (f 10) (f 11) (f 12) (f 13) (f 17) (a 4) from ⟨⟨by first | exact o1 | omega, by first | exact o2 | omega⟩, ⟨by first | exact o3 | omega, by first | exact o4 | omega⟩, ⟨by first | exact o5 | omega, by first | exact o6 | omega⟩, ⟨by first | exact o7 | omega, by first | exact o8 | omega⟩, ⟨by first | exact o9 | omega, by first | exact o10 | omega⟩, ⟨by first | exact o11 | omega, by first | exact o12 | omega⟩, by first | exact o13 | omega, hn4⟩) hq5 _) hT (pr := []) (pcs := [wd_Tok cs h r (fun _ => some tp) (upd f 9 0) a g, [(tp, .inl (cs 1, 2048, .inl tb))]]) hw px_X.tt (px_recv hT hw 0 0 rfl rfl rfl) m4_1 m3_238 m4_0 ms_2_2 m1_2 q_Tok_string ⟨Nat.le_of_ble_eq_true rfl, Nat.le_of_ble_eq_true rfl⟩ hl.1 rfl (Nat.le_of_ble_eq_true rfl) d_Tok_token_72 ⟨Nat.le_of_ble_eq_true rfl, Nat.le_of_ble_eq_true rfl⟩) hw hA (fun v54 p53 H locs hp53 hw => ?_)
          obtain ⟨f51, a52, rfl, h61, e55, e56, e57, e58, e59, e60⟩ := hp53
          obtain ⟨⟨o1, o2⟩, ⟨o3, o4⟩, ⟨o5, o6⟩, ⟨o7, o8⟩, ⟨o9, o10⟩, ⟨o11, o12⟩, o13, hn4⟩ := h61
          have e55 : (f51 7).toInt = (f 7).toInt := e55
          have e56 : (f51 10).toInt = (f 10).toInt := e56
          have e57 : (f51 15).toInt = (f 15).toInt := e57
          have e58 : v54.toInt = 19 ∨ (f 8).toInt + 1 ≤ (f51 8).toInt := e58
          have e59 : Q5 (a52 5) := e59
          have hq5 := e59
          have e60 : R_t2_string tb (upd f 9 0) a f51 a52 v54 := e60
          have lv54 := Int32.le_toInt v54
          have uv54 := Int32.toInt_lt v54
          refine lv_istore_n (lv' := [(3, .int v54), (2, .int v10), (1, .int (f 8)), (0, .ref h)]) S.x S.b d_Tok_token_75 rfl hl (by decide) rfl (fun ls hl => ?_)
          refine lv_goto (tgt := 89) S.x S.b d_Tok_token_76 (by decide) ?_
          first | exact J89 f51 a52 (f 8) v54 _ _ ls (show TokOk (f51 7) (f51 8) (f51 10) (f51 11) (f51 12) (f51 13) (f51 17) (a52 4) from ⟨⟨o1, o2⟩, ⟨o3, o4⟩, ⟨o5, o6⟩, ⟨o7, o8⟩, ⟨o9, o10⟩, ⟨o11, o12⟩, o13, hn4⟩) (show (f51 7).toInt = (f 7).toInt from e55) (show (f51 10).toInt = (f 10).toInt from e56) (show (f51 15).toInt = (f 15).toInt from e57) (show Q5 (a52 5) from hq5) (show v54.toInt = 0 ∨ v54.toInt = 19 ∨ ((f 8).toInt + 1 ≤ (f51 8).toInt ∧ (f 8).toInt < (f 7).toInt) from by omega) (show K_t2_token_89 sn sb tb f a f51 a52 (f 8) v54 from (fun y_f0 y_f1 y_v k hE => Exists.intro (k + 1) (Or.inl ⟨rfl, v10, e15, v17, e20, Or.inl ⟨nc21, v24, e27, Or.inl ⟨nc28, Or.inl ⟨nc30, Or.inr ⟨nc32, f51, a52, v54, e60, hE⟩⟩⟩⟩⟩))) hw (lv_sub hl [3, 2, 0] rfl) | exact J89 f51 a52 (f 8) v54 _ _ ls (show TokOk (f51 7) (f51 8) (f51 10) (f51 11) (f51 12) (f51 13) (f51 17) (a52 4) from ⟨⟨by first | exact o1 | omega, by first | exact o2 | omega⟩, ⟨by first | exact o3 | omega, by first | exact o4 | omega⟩, ⟨by first | exact o5 | omega, by first | exact o6 | omega⟩, ⟨by first | exact o7 | omega, by first | exact o8 | omega⟩, ⟨by first | exact o9 | omega, by first | exact o10 | omega⟩, ⟨by first | exact o11 | omega, by first | exact o12 | omega⟩, by first | exact o13 | omega, hn4⟩) (show (f51 7).toInt = (f 7).toInt from by first | exact e55 | omega) (show (f51 10).toInt = (f 10).toInt from by first | exact e56 | omega) (show (f51 15).toInt = (f 15).toInt from by first | exact e57 | omega) (show Q5 (a52 5) from hq5) (show v54.toInt = 0 ∨ v54.toInt = 19 ∨ ((f 8).toInt + 1 ≤ (f51 8).toInt ∧ (f 8).toInt < (f 7).toInt) from by omega) (show K_t2_token_89 sn sb tb f a f51 a52 (f 8) v54 from (fun y_f0 y_f1 y_v k hE => Exists.intro (k + 1) (Or.inl ⟨rfl, v10, e15, v17, e20, Or.inl ⟨nc21, v24, e27, Or.inl ⟨nc28, Or.inl ⟨nc30, Or.inr ⟨nc32, f51, a52, v54, e60, hE⟩⟩⟩⟩⟩))) hw (lv_sub hl [3, 2, 0] rfl)
      · have nc30 : v10.toInt = (39 : Int) := (i_eq (x := v10) (y := 39)).mp c30
        refine lv_aload_n S.x S.b d_Tok_token_57 rfl (lv_at hl 3 rfl) ?_
        first | refine px_calli (pr := []) (px_runV (As := []) (rest := []) S (c_t2_character l D cs h r tp tb g (upd f 9 0) a   (show TokOk (f 7) (f 8) (f 10) (f 11) (f 12) (f 13) (f 17) (a 4) from ⟨⟨o1, o2⟩, ⟨o3, o4⟩, ⟨o5, o6⟩, ⟨o7, o8⟩, ⟨o9, o10⟩, ⟨o11, o12⟩, o13, hn4⟩) hq5 _) hT (pr := []) (pcs := [wd_Tok cs h r (fun _ => some tp) (upd f 9 0) a g, [(tp, .inl (cs 1, 2048, .inl tb))]]) hw px_X.tt (px_recv hT hw 0 0 rfl rfl rfl) m3_229 m3_226 m3_228 ms_1_15 m1_2 q_Tok_character ⟨Nat.le_of_ble_eq_true rfl, Nat.le_of_ble_eq_true rfl⟩ hl.1 rfl (Nat.le_of_ble_eq_true rfl) d_Tok_token_58 ⟨Nat.le_of_ble_eq_true rfl, Nat.le_of_ble_eq_true rfl⟩) hw hA (fun v67 p66 H locs hp66 hw => ?_) | refine px_calli (pr := []) (px_runV (As := []) (rest := []) S (c_t2_character l D cs h r tp tb g (upd f 9 0) a   (show TokOk (f 7) (f 8) (f 10) (f 11) (f 12) (f 13) (f 17) (a 4) from ⟨⟨by first | exact o1 | omega, by first | exact o2 | omega⟩, ⟨by first | exact o3 | omega, by first | exact o4 | omega⟩, ⟨by first | exact o5 | omega, by first | exact o6 | omega⟩, ⟨by first | exact o7 | omega, by first | exact o8 | omega⟩, ⟨by first | exact o9 | omega, by first | exact o10 | omega⟩, ⟨by first | exact o11 | omega, by first | exact o12 | omega⟩, by first | exact o13 | omega, hn4⟩) hq5 _) hT (pr := []) (pcs := [wd_Tok cs h r (fun _ => some tp) (upd f 9 0) a g, [(tp, .inl (cs 1, 2048, .inl tb))]]) hw px_X.tt (px_recv hT hw 0 0 rfl rfl rfl) m3_229 m3_226 m3_228 ms_1_15 m1_2 q_Tok_character ⟨Nat.le_of_ble_eq_true rfl, Nat.le_of_ble_eq_true rfl⟩ hl.1 rfl (Nat.le_of_ble_eq_true rfl) d_Tok_token_58 ⟨Nat.le_of_ble_eq_true rfl, Nat.le_of_ble_eq_true rfl⟩) hw hA (fun v67 p66 H locs hp66 hw => ?_)
        obtain ⟨f64, a65, rfl, h74, e68, e69, e70, e71, e72, e73⟩ := hp66
        obtain ⟨⟨o1, o2⟩, ⟨o3, o4⟩, ⟨o5, o6⟩, ⟨o7, o8⟩, ⟨o9, o10⟩, ⟨o11, o12⟩, o13, hn4⟩ := h74
        have e68 : (f64 7).toInt = (f 7).toInt := e68
        have e69 : (f64 10).toInt = (f 10).toInt := e69
        have e70 : (f64 15).toInt = (f 15).toInt := e70
        have e71 : v67.toInt = 19 ∨ (f 8).toInt + 1 ≤ (f64 8).toInt := e71
        have e72 : Q5 (a65 5) := e72
        have hq5 := e72
        have e73 : R_t2_character tb (upd f 9 0) a f64 a65 v67 := e73
        have lv67 := Int32.le_toInt v67
        have uv67 := Int32.toInt_lt v67
        refine lv_istore_n (lv' := [(3, .int v67), (2, .int v10), (1, .int (f 8)), (0, .ref h)]) S.x S.b d_Tok_token_61 rfl hl (by decide) rfl (fun ls hl => ?_)
        refine lv_goto (tgt := 89) S.x S.b d_Tok_token_62 (by decide) ?_
        first | exact J89 f64 a65 (f 8) v67 _ _ ls (show TokOk (f64 7) (f64 8) (f64 10) (f64 11) (f64 12) (f64 13) (f64 17) (a65 4) from ⟨⟨o1, o2⟩, ⟨o3, o4⟩, ⟨o5, o6⟩, ⟨o7, o8⟩, ⟨o9, o10⟩, ⟨o11, o12⟩, o13, hn4⟩) (show (f64 7).toInt = (f 7).toInt from e68) (show (f64 10).toInt = (f 10).toInt from e69) (show (f64 15).toInt = (f 15).toInt from e70) (show Q5 (a65 5) from hq5) (show v67.toInt = 0 ∨ v67.toInt = 19 ∨ ((f 8).toInt + 1 ≤ (f64 8).toInt ∧ (f 8).toInt < (f 7).toInt) from by omega) (show K_t2_token_89 sn sb tb f a f64 a65 (f 8) v67 from (fun y_f0 y_f1 y_v k hE => Exists.intro (k + 1) (Or.inl ⟨rfl, v10, e15, v17, e20, Or.inl ⟨nc21, v24, e27, Or.inl ⟨nc28, Or.inr ⟨nc30, f64, a65, v67, e73, hE⟩⟩⟩⟩))) hw (lv_sub hl [3, 2, 0] rfl) | exact J89 f64 a65 (f 8) v67 _ _ ls (show TokOk (f64 7) (f64 8) (f64 10) (f64 11) (f64 12) (f64 13) (f64 17) (a65 4) from ⟨⟨by first | exact o1 | omega, by first | exact o2 | omega⟩, ⟨by first | exact o3 | omega, by first | exact o4 | omega⟩, ⟨by first | exact o5 | omega, by first | exact o6 | omega⟩, ⟨by first | exact o7 | omega, by first | exact o8 | omega⟩, ⟨by first | exact o9 | omega, by first | exact o10 | omega⟩, ⟨by first | exact o11 | omega, by first | exact o12 | omega⟩, by first | exact o13 | omega, hn4⟩) (show (f64 7).toInt = (f 7).toInt from by first | exact e68 | omega) (show (f64 10).toInt = (f 10).toInt from by first | exact e69 | omega) (show (f64 15).toInt = (f 15).toInt from by first | exact e70 | omega) (show Q5 (a65 5) from hq5) (show v67.toInt = 0 ∨ v67.toInt = 19 ∨ ((f 8).toInt + 1 ≤ (f64 8).toInt ∧ (f 8).toInt < (f 7).toInt) from by omega) (show K_t2_token_89 sn sb tb f a f64 a65 (f 8) v67 from (fun y_f0 y_f1 y_v k hE => Exists.intro (k + 1) (Or.inl ⟨rfl, v10, e15, v17, e20, Or.inl ⟨nc21, v24, e27, Or.inl ⟨nc28, Or.inr ⟨nc30, f64, a65, v67, e73, hE⟩⟩⟩⟩))) hw (lv_sub hl [3, 2, 0] rfl)
    · have nc28 : ¬ v24.toInt = (0 : Int) := mt (i_eq (x := v24) (y := 0)).mpr c28
      refine lv_aload_n S.x S.b d_Tok_token_43 rfl (lv_at hl 3 rfl) ?_
      first | refine px_calli (pr := []) (px_runV (As := []) (rest := []) S (c_t2_number l D cs h r tp tb g (upd f 9 0) a   (show TokOk (f 7) (f 8) (f 10) (f 11) (f 12) (f 13) (f 17) (a 4) from ⟨⟨o1, o2⟩, ⟨o3, o4⟩, ⟨o5, o6⟩, ⟨o7, o8⟩, ⟨o9, o10⟩, ⟨o11, o12⟩, o13, hn4⟩) hq5 _) hT (pr := []) (pcs := [wd_Tok cs h r (fun _ => some tp) (upd f 9 0) a g, [(tp, .inl (cs 1, 2048, .inl tb))]]) hw px_X.tt (px_recv hT hw 0 0 rfl rfl rfl) m3_220 m3_217 m3_219 ms_1_13 m1_2 q_Tok_number ⟨Nat.le_of_ble_eq_true rfl, Nat.le_of_ble_eq_true rfl⟩ hl.1 rfl (Nat.le_of_ble_eq_true rfl) d_Tok_token_44 ⟨Nat.le_of_ble_eq_true rfl, Nat.le_of_ble_eq_true rfl⟩) hw hA (fun v80 p79 H locs hp79 hw => ?_) | refine px_calli (pr := []) (px_runV (As := []) (rest := []) S (c_t2_number l D cs h r tp tb g (upd f 9 0) a   (show TokOk (f 7) (f 8) (f 10) (f 11) (f 12) (f 13) (f 17) (a 4) from ⟨⟨by first | exact o1 | omega, by first | exact o2 | omega⟩, ⟨by first | exact o3 | omega, by first | exact o4 | omega⟩, ⟨by first | exact o5 | omega, by first | exact o6 | omega⟩, ⟨by first | exact o7 | omega, by first | exact o8 | omega⟩, ⟨by first | exact o9 | omega, by first | exact o10 | omega⟩, ⟨by first | exact o11 | omega, by first | exact o12 | omega⟩, by first | exact o13 | omega, hn4⟩) hq5 _) hT (pr := []) (pcs := [wd_Tok cs h r (fun _ => some tp) (upd f 9 0) a g, [(tp, .inl (cs 1, 2048, .inl tb))]]) hw px_X.tt (px_recv hT hw 0 0 rfl rfl rfl) m3_220 m3_217 m3_219 ms_1_13 m1_2 q_Tok_number ⟨Nat.le_of_ble_eq_true rfl, Nat.le_of_ble_eq_true rfl⟩ hl.1 rfl (Nat.le_of_ble_eq_true rfl) d_Tok_token_44 ⟨Nat.le_of_ble_eq_true rfl, Nat.le_of_ble_eq_true rfl⟩) hw hA (fun v80 p79 H locs hp79 hw => ?_)
      obtain ⟨f77, a78, rfl, h87, e81, e82, e83, e84, e85, e86⟩ := hp79
      obtain ⟨⟨o1, o2⟩, ⟨o3, o4⟩, ⟨o5, o6⟩, ⟨o7, o8⟩, ⟨o9, o10⟩, ⟨o11, o12⟩, o13, hn4⟩ := h87
      have e81 : (f77 7).toInt = (f 7).toInt := e81
      have e82 : (f77 10).toInt = (f 10).toInt := e82
      have e83 : (f77 15).toInt = (f 15).toInt := e83
      have e84 : v80.toInt = 19 ∨ (f 8).toInt + 1 ≤ (f77 8).toInt := e84
      have e85 : Q5 (a78 5) := e85
      have hq5 := e85
      have e86 : R_t2_number tb (upd f 9 0) a f77 a78 v80 := e86
      have lv80 := Int32.le_toInt v80
      have uv80 := Int32.toInt_lt v80
      refine lv_istore_n (lv' := [(3, .int v80), (2, .int v10), (1, .int (f 8)), (0, .ref h)]) S.x S.b d_Tok_token_47 rfl hl (by decide) rfl (fun ls hl => ?_)
      refine lv_goto (tgt := 89) S.x S.b d_Tok_token_48 (by decide) ?_
      first | exact J89 f77 a78 (f 8) v80 _ _ ls (show TokOk (f77 7) (f77 8) (f77 10) (f77 11) (f77 12) (f77 13) (f77 17) (a78 4) from ⟨⟨o1, o2⟩, ⟨o3, o4⟩, ⟨o5, o6⟩, ⟨o7, o8⟩, ⟨o9, o10⟩, ⟨o11, o12⟩, o13, hn4⟩) (show (f77 7).toInt = (f 7).toInt from e81) (show (f77 10).toInt = (f 10).toInt from e82) (show (f77 15).toInt = (f 15).toInt from e83) (show Q5 (a78 5) from hq5) (show v80.toInt = 0 ∨ v80.toInt = 19 ∨ ((f 8).toInt + 1 ≤ (f77 8).toInt ∧ (f 8).toInt < (f 7).toInt) from by omega) (show K_t2_token_89 sn sb tb f a f77 a78 (f 8) v80 from (fun y_f0 y_f1 y_v k hE => Exists.intro (k + 1) (Or.inl ⟨rfl, v10, e15, v17, e20, Or.inl ⟨nc21, v24, e27, Or.inr ⟨nc28, f77, a78, v80, e86, hE⟩⟩⟩))) hw (lv_sub hl [3, 2, 0] rfl) | exact J89 f77 a78 (f 8) v80 _ _ ls (show TokOk (f77 7) (f77 8) (f77 10) (f77 11) (f77 12) (f77 13) (f77 17) (a78 4) from ⟨⟨by first | exact o1 | omega, by first | exact o2 | omega⟩, ⟨by first | exact o3 | omega, by first | exact o4 | omega⟩, ⟨by first | exact o5 | omega, by first | exact o6 | omega⟩, ⟨by first | exact o7 | omega, by first | exact o8 | omega⟩, ⟨by first | exact o9 | omega, by first | exact o10 | omega⟩, ⟨by first | exact o11 | omega, by first | exact o12 | omega⟩, by first | exact o13 | omega, hn4⟩) (show (f77 7).toInt = (f 7).toInt from by first | exact e81 | omega) (show (f77 10).toInt = (f 10).toInt from by first | exact e82 | omega) (show (f77 15).toInt = (f 15).toInt from by first | exact e83 | omega) (show Q5 (a78 5) from hq5) (show v80.toInt = 0 ∨ v80.toInt = 19 ∨ ((f 8).toInt + 1 ≤ (f77 8).toInt ∧ (f 8).toInt < (f 7).toInt) from by omega) (show K_t2_token_89 sn sb tb f a f77 a78 (f 8) v80 from (fun y_f0 y_f1 y_v k hE => Exists.intro (k + 1) (Or.inl ⟨rfl, v10, e15, v17, e20, Or.inl ⟨nc21, v24, e27, Or.inr ⟨nc28, f77, a78, v80, e86, hE⟩⟩⟩))) hw (lv_sub hl [3, 2, 0] rfl)
  · have nc21 : ¬ v17.toInt = (0 : Int) := mt (i_eq (x := v17) (y := 0)).mpr c21
    refine lv_aload_n S.x S.b d_Tok_token_28 rfl (lv_at hl 3 rfl) ?_
    have hge65 := lt_ge (show IsLt v17 v10 by assumption) (by omega)
    first | refine px_calli (pr := []) (px_runV (As := []) (rest := []) S (c_t2_name l D cs h r tp tb g (upd f 9 0) a   (show TokOk (f 7) (f 8) (f 10) (f 11) (f 12) (f 13) (f 17) (a 4) from ⟨⟨o1, o2⟩, ⟨o3, o4⟩, ⟨o5, o6⟩, ⟨o7, o8⟩, ⟨o9, o10⟩, ⟨o11, o12⟩, o13, hn4⟩) (show (f 8).toInt < (f 7).toInt from by omega) (name_l (i := (f 8)) (by assumption) (by assumption) (by omega) (by omega) (by omega)) hq5 _) hT (pr := []) (pcs := [wd_Tok cs h r (fun _ => some tp) (upd f 9 0) a g, [(tp, .inl (cs 1, 2048, .inl tb))]]) hw px_X.tt (px_recv hT hw 0 0 rfl rfl rfl) m3_205 m3_202 m3_204 ms_1_10 m1_2 q_Tok_name ⟨Nat.le_of_ble_eq_true rfl, Nat.le_of_ble_eq_true rfl⟩ hl.1 rfl (Nat.le_of_ble_eq_true rfl) d_Tok_token_29 ⟨Nat.le_of_ble_eq_true rfl, Nat.le_of_ble_eq_true rfl⟩) hw hA (fun v93 p92 H locs hp92 hw => ?_) | refine px_calli (pr := []) (px_runV (As := []) (rest := []) S (c_t2_name l D cs h r tp tb g (upd f 9 0) a   (show TokOk (f 7) (f 8) (f 10) (f 11) (f 12) (f 13) (f 17) (a 4) from ⟨⟨by first | exact o1 | omega, by first | exact o2 | omega⟩, ⟨by first | exact o3 | omega, by first | exact o4 | omega⟩, ⟨by first | exact o5 | omega, by first | exact o6 | omega⟩, ⟨by first | exact o7 | omega, by first | exact o8 | omega⟩, ⟨by first | exact o9 | omega, by first | exact o10 | omega⟩, ⟨by first | exact o11 | omega, by first | exact o12 | omega⟩, by first | exact o13 | omega, hn4⟩) (show (f 8).toInt < (f 7).toInt from by omega) (name_l (i := (f 8)) (by assumption) (by assumption) (by omega) (by omega) (by omega)) hq5 _) hT (pr := []) (pcs := [wd_Tok cs h r (fun _ => some tp) (upd f 9 0) a g, [(tp, .inl (cs 1, 2048, .inl tb))]]) hw px_X.tt (px_recv hT hw 0 0 rfl rfl rfl) m3_205 m3_202 m3_204 ms_1_10 m1_2 q_Tok_name ⟨Nat.le_of_ble_eq_true rfl, Nat.le_of_ble_eq_true rfl⟩ hl.1 rfl (Nat.le_of_ble_eq_true rfl) d_Tok_token_29 ⟨Nat.le_of_ble_eq_true rfl, Nat.le_of_ble_eq_true rfl⟩) hw hA (fun v93 p92 H locs hp92 hw => ?_)
    obtain ⟨f90, a91, rfl, h100, e94, e95, e96, e97, e98, e99⟩ := hp92
    obtain ⟨⟨o1, o2⟩, ⟨o3, o4⟩, ⟨o5, o6⟩, ⟨o7, o8⟩, ⟨o9, o10⟩, ⟨o11, o12⟩, o13, hn4⟩ := h100
    have e94 : (f90 7).toInt = (f 7).toInt := e94
    have e95 : (f90 10).toInt = (f 10).toInt := e95
    have e96 : (f90 15).toInt = (f 15).toInt := e96
    have e97 : (f 8).toInt + 1 ≤ (f90 8).toInt := e97
    have e98 : Q5 (a91 5) := e98
    have hq5 := e98
    have e99 : R_t2_name tb (upd f 9 0) a f90 a91 v93 := e99
    have lv93 := Int32.le_toInt v93
    have uv93 := Int32.toInt_lt v93
    refine lv_istore_n (lv' := [(3, .int v93), (2, .int v10), (1, .int (f 8)), (0, .ref h)]) S.x S.b d_Tok_token_32 rfl hl (by decide) rfl (fun ls hl => ?_)
    refine lv_goto (tgt := 89) S.x S.b d_Tok_token_33 (by decide) ?_
    first | exact J89 f90 a91 (f 8) v93 _ _ ls (show TokOk (f90 7) (f90 8) (f90 10) (f90 11) (f90 12) (f90 13) (f90 17) (a91 4) from ⟨⟨o1, o2⟩, ⟨o3, o4⟩, ⟨o5, o6⟩, ⟨o7, o8⟩, ⟨o9, o10⟩, ⟨o11, o12⟩, o13, hn4⟩) (show (f90 7).toInt = (f 7).toInt from e94) (show (f90 10).toInt = (f 10).toInt from e95) (show (f90 15).toInt = (f 15).toInt from e96) (show Q5 (a91 5) from hq5) (show v93.toInt = 0 ∨ v93.toInt = 19 ∨ ((f 8).toInt + 1 ≤ (f90 8).toInt ∧ (f 8).toInt < (f 7).toInt) from by omega) (show K_t2_token_89 sn sb tb f a f90 a91 (f 8) v93 from (fun y_f0 y_f1 y_v k hE => Exists.intro (k + 1) (Or.inl ⟨rfl, v10, e15, v17, e20, Or.inr ⟨nc21, f90, a91, v93, e99, hE⟩⟩))) hw (lv_sub hl [3, 2, 0] rfl) | exact J89 f90 a91 (f 8) v93 _ _ ls (show TokOk (f90 7) (f90 8) (f90 10) (f90 11) (f90 12) (f90 13) (f90 17) (a91 4) from ⟨⟨by first | exact o1 | omega, by first | exact o2 | omega⟩, ⟨by first | exact o3 | omega, by first | exact o4 | omega⟩, ⟨by first | exact o5 | omega, by first | exact o6 | omega⟩, ⟨by first | exact o7 | omega, by first | exact o8 | omega⟩, ⟨by first | exact o9 | omega, by first | exact o10 | omega⟩, ⟨by first | exact o11 | omega, by first | exact o12 | omega⟩, by first | exact o13 | omega, hn4⟩) (show (f90 7).toInt = (f 7).toInt from by first | exact e94 | omega) (show (f90 10).toInt = (f 10).toInt from by first | exact e95 | omega) (show (f90 15).toInt = (f 15).toInt from by first | exact e96 | omega) (show Q5 (a91 5) from hq5) (show v93.toInt = 0 ∨ v93.toInt = 19 ∨ ((f 8).toInt + 1 ≤ (f90 8).toInt ∧ (f 8).toInt < (f 7).toInt) from by omega) (show K_t2_token_89 sn sb tb f a f90 a91 (f 8) v93 from (fun y_f0 y_f1 y_v k hE => Exists.intro (k + 1) (Or.inl ⟨rfl, v10, e15, v17, e20, Or.inr ⟨nc21, f90, a91, v93, e99, hE⟩⟩))) hw (lv_sub hl [3, 2, 0] rfl)
set_option maxHeartbeats 4000000 in
set_option maxRecDepth 100000 in
theorem c_t2_scan (l : Launch) (D : va_G) (cs : Nat → ClassId) (sk : Nat) (st : Nat) (sn : Nat) (sb : Nat → Int32) (h : Nat) (r : Nat → Nat) (tp : Nat) (tb : Nat → Int32) (g : Nat → Nat → Option Nat) (f : Nat → Int32) (a : Nat → Nat → Int32) (p0 : Int32) (o6 : Option Nat) (g0 : sn ≤ 1000000) (g1 : 0 ≤ p0.toInt) (g2 : p0.toInt ≤ 2048) (g3 : 0 ≤ (f 13).toInt) (g4 : (f 13).toInt ≤ 2048) (g5 : 0 ≤ (f 17).toInt) (hn4 : ∀ j : Nat, 0 ≤ (a 4 j).toInt ∧ (a 4 j).toInt ≤ 1000 + 24 * (j : Int)) (hq5 : Q5 (a 5)) : MetV l y_Tok_scan b_Tok_scan 5 D cs 6 240 (0) (0) [.ref h, .ref tp, .int p0] [wd_Tok cs h r (fun k => if k = 6 then o6 else none) f a g, [(tp, .inl (cs 1, 2048, .inl tb))]] (oX (fun A U H => (vk_R "HomeSystem$Tokens" 127 "(){}[],;:?=|^&<>+-*/%!~" sk U) ∧ (oZ A U H) ∧ (oS A sk st sn sb U H)) [wd_Tok cs h r (fun k => if k = 6 then o6 else none) f a g, [(tp, .inl (cs 1, 2048, .inl tb))]]) (fun ps => ∃ (f' : Nat → Int32) (a' : Nat → Nat → Int32), (ps = [wd_Tok cs h r (fun _ => some tp) f' a' g, [(tp, .inl (cs 1, 2048, .inl tb))]]) ∧ (TokOk (f' 7) (f' 8) (f' 10) (f' 11) (f' 12) (f' 13) (f' 17) (a' 4)) ∧ ((f' 7).toInt = p0.toInt) ∧ ((f' 15).toInt = 0) ∧ (1 ≤ (f' 10).toInt) ∧ ((f' 10).toInt ≤ p0.toInt + 1) ∧ (LastOk (a' 0) (f' 10)) ∧ (Q5 (a' 5)) ∧ (R_t2_scan sn sb tb p0 f a f' a')) := by
  refine px_enter (by decide) (Nat.le_of_ble_eq_true rfl) ?_
  intro p e s m below meth c A ls hAe S hr hlk hnm hA hT hX hw hl
  have hl : lv_has ls 5 [(0, .ref h), (1, .ref tp), (2, .int p0)] := hl
  have lp0 := Int32.le_toInt p0
  have up0 := Int32.toInt_lt p0
  have cst0 : (0 : Int32).toInt = 0 := rfl
  have cst1 : (1 : Int32).toInt = 1 := rfl
  have cst26 : (26 : Int32).toInt = 26 := rfl
  have hX : (fun A U H => (vk_R "HomeSystem$Tokens" 127 "(){}[],;:?=|^&<>+-*/%!~" sk U) ∧ (oZ A U H) ∧ (oS A sk st sn sb U H)) A s s.heap := by rw [hAe]; exact hX
  obtain ⟨hL, hZ, hS⟩ := hX
  have hsn : (nI sn).toInt = (sn : Int) := nI_toInt (by omega)
  have J41 : ∀ (n_41 : Nat) (f_41 : Nat → Int32) (a_41 : Nat → Nat → Int32) (x41_3 x41_4 : Int32) (H : Heap) (locs : List Loc) (ls : Array Slot), (TokOk (f_41 7) (f_41 8) (f_41 10) (f_41 11) (f_41 12) (f_41 13) (f_41 17) (a_41 4)) → ((f_41 7).toInt = p0.toInt) → ((f_41 15).toInt = 0) → (0 ≤ x41_3.toInt) → (x41_3.toInt ≤ 1) → (0 ≤ x41_4.toInt) → (x41_4.toInt ≤ (f_41 7).toInt + 1) → (x41_4.toInt = 0 → x41_3.toInt = 1) → ((f_41 10).toInt = x41_4.toInt) → (x41_3.toInt = 1 → x41_4.toInt ≤ (f_41 8).toInt ∧ x41_4.toInt ≤ (f_41 7).toInt) → (LsT x41_3 (a_41 0) (f_41 10)) → (Q5 (a_41 5)) → (K_t2_scan_41 sn sb tb p0 f a f_41 a_41 x41_3 x41_4) → (f_41 7).toInt+2-x41_4.toInt < (n_41 : Int) → pw D A s.heap H locs [wd_Tok cs h r (fun _ => some tp) f_41 a_41 g, [(tp, .inl (cs 1, 2048, .inl tb))]] → lv_has ls 5 [(0, .ref h), (1, .ref tp), (2, .int p0), (3, .int x41_3), (4, .int x41_4)] → W p l e { frames := 6, cells := 0, slots := 0, locals := 240 } s m [.ref h, .ref tp, .int p0].toArray below meth c H locs 0 0 (MQ below (va_Qv (fun ps => ∃ (f' : Nat → Int32) (a' : Nat → Nat → Int32), (ps = [wd_Tok cs h r (fun _ => some tp) f' a' g, [(tp, .inl (cs 1, 2048, .inl tb))]]) ∧ (TokOk (f' 7) (f' 8) (f' 10) (f' 11) (f' 12) (f' 13) (f' 17) (a' 4)) ∧ ((f' 7).toInt = p0.toInt) ∧ ((f' 15).toInt = 0) ∧ (1 ≤ (f' 10).toInt) ∧ ((f' 10).toInt ≤ p0.toInt + 1) ∧ (LastOk (a' 0) (f' 10)) ∧ (Q5 (a' 5)) ∧ (R_t2_scan sn sb tb p0 f a f' a')) (pc_B D (va_A ([wd_Tok cs h r (fun k => if k = 6 then o6 else none) f a g, [(tp, .inl (cs 1, 2048, .inl tb))]] : List va_W).flatten s.heap.size)) (va_A ([wd_Tok cs h r (fun k => if k = 6 then o6 else none) f a g, [(tp, .inl (cs 1, 2048, .inl tb))]] : List va_W).flatten s.heap.size)) [.ref h, .ref tp, .int p0].toArray s 0 0 A) (F0 m 41 ls []) := by
    intro  n_41
    induction n_41 with
    | zero =>
      intro f_41 a_41 x41_3 x41_4 H locs ls hi41_0 k41_0 k41_1 k41_2 k41_3 k41_4 k41_5 k41_6 k41_7 k41_8 k41_9 k41_10 k41_11 hm hw hl
      obtain ⟨⟨o1, o2⟩, ⟨o3, o4⟩, ⟨o5, o6⟩, ⟨o7, o8⟩, ⟨o9, o10⟩, ⟨o11, o12⟩, o13, hn4⟩ := hi41_0
      have lx41_3 := Int32.le_toInt x41_3
      have ux41_3 := Int32.toInt_lt x41_3
      have lx41_4 := Int32.le_toInt x41_4
      have ux41_4 := Int32.toInt_lt x41_4
      have hq5 := k41_10
      exact absurd hm (by omega)
    | succ n_41 ih41 =>
      intro f_41 a_41 x41_3 x41_4 H locs ls hi41_0 k41_0 k41_1 k41_2 k41_3 k41_4 k41_5 k41_6 k41_7 k41_8 k41_9 k41_10 k41_11 hm hw hl
      obtain ⟨⟨o1, o2⟩, ⟨o3, o4⟩, ⟨o5, o6⟩, ⟨o7, o8⟩, ⟨o9, o10⟩, ⟨o11, o12⟩, o13, hn4⟩ := hi41_0
      have lx41_3 := Int32.le_toInt x41_3
      have ux41_3 := Int32.toInt_lt x41_3
      have lx41_4 := Int32.le_toInt x41_4
      have ux41_4 := Int32.toInt_lt x41_4
      have hq5 := k41_10
      refine lv_iload S.x S.b d_Tok_scan_41 (lv_at hl 4 rfl) ?_
      refine lv_aload_n S.x S.b d_Tok_scan_43 rfl (lv_at hl 0 rfl) ?_
      refine px_get S k_Tok hT hw 0 0 7 (v := .int (f_41 7)) rfl rfl rfl (by decide) m1_110 d_Tok_scan_44 ?_
      refine lv_icmp_gt (tgt := 69) S.x S.b d_Tok_scan_47 (by decide) (fun c1 => ?_) (fun c1 => ?_)
      · have nc1 : (f_41 7).toInt < x41_4.toInt := (i_lt (x := (f_41 7)) (y := x41_4)).mp c1
        first | exact px_vret S hr hlk hAe hw (Nat.le_of_ble_eq_true rfl) (Nat.le_of_ble_eq_true rfl) (⟨f_41, a_41, rfl, (show TokOk (f_41 7) (f_41 8) (f_41 10) (f_41 11) (f_41 12) (f_41 13) (f_41 17) (a_41 4) from ⟨⟨o1, o2⟩, ⟨o3, o4⟩, ⟨o5, o6⟩, ⟨o7, o8⟩, ⟨o9, o10⟩, ⟨o11, o12⟩, o13, hn4⟩), (show (f_41 7).toInt = p0.toInt from k41_0), (show (f_41 15).toInt = 0 from k41_1), (show 1 ≤ (f_41 10).toInt from (oz_409f6d7389 k41_7 nc1 o1)), (show (f_41 10).toInt ≤ p0.toInt + 1 from (oz_b4fae048ea k41_0 k41_7 k41_5)), (show LastOk (a_41 0) (f_41 10) from (show LastOk _ _ from (show LsT _ _ _ by assumption) (by omega))), (show Q5 (a_41 5) from hq5), (show R_t2_scan sn sb tb p0 f a f_41 a_41 from (k41_11 _ _ 1 (Or.inr (Or.inl ⟨rfl, x41_3, x41_4, rfl, rfl, rfl, rfl, rfl, Or.inl ⟨nc1, rfl, rfl⟩⟩))))⟩) d_Tok_scan_69 | exact px_vret S hr hlk hAe hw (Nat.le_of_ble_eq_true rfl) (Nat.le_of_ble_eq_true rfl) (⟨f_41, a_41, rfl, (show TokOk (f_41 7) (f_41 8) (f_41 10) (f_41 11) (f_41 12) (f_41 13) (f_41 17) (a_41 4) from ⟨⟨by first | exact o1 | omega, by first | exact o2 | omega⟩, ⟨by first | exact o3 | omega, by first | exact o4 | omega⟩, ⟨by first | exact o5 | omega, by first | exact o6 | omega⟩, ⟨by first | exact o7 | omega, by first | exact o8 | omega⟩, ⟨by first | exact o9 | omega, by first | exact o10 | omega⟩, ⟨by first | exact o11 | omega, by first | exact o12 | omega⟩, by first | exact o13 | omega, hn4⟩), (show (f_41 7).toInt = p0.toInt from by first | exact k41_0 | omega), (show (f_41 15).toInt = 0 from by first | exact k41_1 | omega), (show 1 ≤ (f_41 10).toInt from by first | exact oz_409f6d7389 k41_7 nc1 o1 | omega), (show (f_41 10).toInt ≤ p0.toInt + 1 from by first | exact oz_b4fae048ea k41_0 k41_7 k41_5 | omega), (show LastOk (a_41 0) (f_41 10) from (show LastOk _ _ from (show LsT _ _ _ by assumption) (by omega))), (show Q5 (a_41 5) from hq5), (show R_t2_scan sn sb tb p0 f a f_41 a_41 from (k41_11 _ _ 1 (Or.inr (Or.inl ⟨rfl, x41_3, x41_4, rfl, rfl, rfl, rfl, rfl, Or.inl ⟨nc1, rfl, rfl⟩⟩))))⟩) d_Tok_scan_69
      · have nc1 : ¬ (f_41 7).toInt < x41_4.toInt := mt (i_lt (x := (f_41 7)) (y := x41_4)).mpr c1
        refine lv_iload_n S.x S.b d_Tok_scan_50 rfl (lv_at hl 3 rfl) ?_
        refine lv_if_eq (tgt := 69) S.x S.b d_Tok_scan_51 (by decide) (fun c3 => ?_) (fun c3 => ?_)
        · have nc3 : x41_3.toInt = (0 : Int) := (i_eq (x := x41_3) (y := 0)).mp c3
          first | exact px_vret S hr hlk hAe hw (Nat.le_of_ble_eq_true rfl) (Nat.le_of_ble_eq_true rfl) (⟨f_41, a_41, rfl, (show TokOk (f_41 7) (f_41 8) (f_41 10) (f_41 11) (f_41 12) (f_41 13) (f_41 17) (a_41 4) from ⟨⟨o1, o2⟩, ⟨o3, o4⟩, ⟨o5, o6⟩, ⟨o7, o8⟩, ⟨o9, o10⟩, ⟨o11, o12⟩, o13, hn4⟩), (show (f_41 7).toInt = p0.toInt from k41_0), (show (f_41 15).toInt = 0 from k41_1), (show 1 ≤ (f_41 10).toInt from by omega), (show (f_41 10).toInt ≤ p0.toInt + 1 from (oz_153df23603 k41_0 k41_7 nc1)), (show LastOk (a_41 0) (f_41 10) from (show LastOk _ _ from (show LsT _ _ _ by assumption) (by omega))), (show Q5 (a_41 5) from hq5), (show R_t2_scan sn sb tb p0 f a f_41 a_41 from (k41_11 _ _ 1 (Or.inr (Or.inl ⟨rfl, x41_3, x41_4, rfl, rfl, rfl, rfl, rfl, Or.inr ⟨nc1, Or.inl ⟨nc3, rfl, rfl⟩⟩⟩))))⟩) d_Tok_scan_69 | exact px_vret S hr hlk hAe hw (Nat.le_of_ble_eq_true rfl) (Nat.le_of_ble_eq_true rfl) (⟨f_41, a_41, rfl, (show TokOk (f_41 7) (f_41 8) (f_41 10) (f_41 11) (f_41 12) (f_41 13) (f_41 17) (a_41 4) from ⟨⟨by first | exact o1 | omega, by first | exact o2 | omega⟩, ⟨by first | exact o3 | omega, by first | exact o4 | omega⟩, ⟨by first | exact o5 | omega, by first | exact o6 | omega⟩, ⟨by first | exact o7 | omega, by first | exact o8 | omega⟩, ⟨by first | exact o9 | omega, by first | exact o10 | omega⟩, ⟨by first | exact o11 | omega, by first | exact o12 | omega⟩, by first | exact o13 | omega, hn4⟩), (show (f_41 7).toInt = p0.toInt from by first | exact k41_0 | omega), (show (f_41 15).toInt = 0 from by first | exact k41_1 | omega), (show 1 ≤ (f_41 10).toInt from by omega), (show (f_41 10).toInt ≤ p0.toInt + 1 from by first | exact oz_153df23603 k41_0 k41_7 nc1 | omega), (show LastOk (a_41 0) (f_41 10) from (show LastOk _ _ from (show LsT _ _ _ by assumption) (by omega))), (show Q5 (a_41 5) from hq5), (show R_t2_scan sn sb tb p0 f a f_41 a_41 from (k41_11 _ _ 1 (Or.inr (Or.inl ⟨rfl, x41_3, x41_4, rfl, rfl, rfl, rfl, rfl, Or.inr ⟨nc1, Or.inl ⟨nc3, rfl, rfl⟩⟩⟩))))⟩) d_Tok_scan_69
        · have nc3 : ¬ x41_3.toInt = (0 : Int) := mt (i_eq (x := x41_3) (y := 0)).mpr c3
          refine lv_aload_n S.x S.b d_Tok_scan_54 rfl (lv_at hl 0 rfl) ?_
          first | refine px_callv (pr := []) (px_runV (As := []) (rest := []) S (c_t2_skip l D cs h r tp tb g f_41 a_41   (show TokOk (f_41 7) (f_41 8) (f_41 10) (f_41 11) (f_41 12) (f_41 13) (f_41 17) (a_41 4) from ⟨⟨o1, o2⟩, ⟨o3, o4⟩, ⟨o5, o6⟩, ⟨o7, o8⟩, ⟨o9, o10⟩, ⟨o11, o12⟩, o13, hn4⟩) hq5 _) hT (pr := []) (pcs := [wd_Tok cs h r (fun _ => some tp) f_41 a_41 g, [(tp, .inl (cs 1, 2048, .inl tb))]]) hw px_X.tt (px_recv hT hw 0 0 rfl rfl rfl) m3_182 m3_179 m3_181 ms_1_5 m1_2 q_Tok_skip ⟨Nat.le_of_ble_eq_true rfl, Nat.le_of_ble_eq_true rfl⟩ hl.1 rfl (Nat.le_of_ble_eq_true rfl) d_Tok_scan_55 ⟨Nat.le_of_ble_eq_true rfl, Nat.le_of_ble_eq_true rfl⟩) hw hA (fun p9 H locs hp9 hw => ?_) | refine px_callv (pr := []) (px_runV (As := []) (rest := []) S (c_t2_skip l D cs h r tp tb g f_41 a_41   (show TokOk (f_41 7) (f_41 8) (f_41 10) (f_41 11) (f_41 12) (f_41 13) (f_41 17) (a_41 4) from ⟨⟨by first | exact o1 | omega, by first | exact o2 | omega⟩, ⟨by first | exact o3 | omega, by first | exact o4 | omega⟩, ⟨by first | exact o5 | omega, by first | exact o6 | omega⟩, ⟨by first | exact o7 | omega, by first | exact o8 | omega⟩, ⟨by first | exact o9 | omega, by first | exact o10 | omega⟩, ⟨by first | exact o11 | omega, by first | exact o12 | omega⟩, by first | exact o13 | omega, hn4⟩) hq5 _) hT (pr := []) (pcs := [wd_Tok cs h r (fun _ => some tp) f_41 a_41 g, [(tp, .inl (cs 1, 2048, .inl tb))]]) hw px_X.tt (px_recv hT hw 0 0 rfl rfl rfl) m3_182 m3_179 m3_181 ms_1_5 m1_2 q_Tok_skip ⟨Nat.le_of_ble_eq_true rfl, Nat.le_of_ble_eq_true rfl⟩ hl.1 rfl (Nat.le_of_ble_eq_true rfl) d_Tok_scan_55 ⟨Nat.le_of_ble_eq_true rfl, Nat.le_of_ble_eq_true rfl⟩) hw hA (fun p9 H locs hp9 hw => ?_)
          obtain ⟨f7, a8, rfl, h17, e11, e12, e13, e14, e15, e16⟩ := hp9
          obtain ⟨⟨o1, o2⟩, ⟨o3, o4⟩, ⟨o5, o6⟩, ⟨o7, o8⟩, ⟨o9, o10⟩, ⟨o11, o12⟩, o13, hn4⟩ := h17
          have e11 : (f7 7).toInt = (f_41 7).toInt := e11
          have e12 : (f7 10).toInt = (f_41 10).toInt := e12
          have e13 : (f7 15).toInt = (f_41 15).toInt := e13
          have e14 : (f_41 8).toInt ≤ (f7 8).toInt := e14
          have e15 : Q5 (a8 5) := e15
          have hq5 := e15
          have e16 : R_t2_skip tb f_41 a_41 f7 a8 := e16
          refine lv_aload_n S.x S.b d_Tok_scan_58 rfl (lv_at hl 0 rfl) ?_
          first | refine px_calli (pr := []) (px_runV (As := []) (rest := []) S (c_t2_token l D cs sk st sn sb h r tp tb g f7 a8   (show TokOk (f7 7) (f7 8) (f7 10) (f7 11) (f7 12) (f7 13) (f7 17) (a8 4) from ⟨⟨o1, o2⟩, ⟨o3, o4⟩, ⟨o5, o6⟩, ⟨o7, o8⟩, ⟨o9, o10⟩, ⟨o11, o12⟩, o13, hn4⟩) (show sn ≤ 1000000 from g0) (show (f7 10).toInt ≤ 2048 from (oz_dd77e1f903 e12 k41_7 nc1 e11 o2)) hq5 _) hT (pr := []) (pcs := [wd_Tok cs h r (fun _ => some tp) f7 a8 g, [(tp, .inl (cs 1, 2048, .inl tb))]]) hw (oX_call (P := (fun A U H => (vk_R "HomeSystem$Tokens" 127 "(){}[],;:?=|^&<>+-*/%!~" sk U) ∧ (oZ A U H) ∧ (oS A sk st sn sb U H))) (pr := []) (oG_and oG_L (oG_and oG_Z oG_S)) hw hA ⟨hL, hZ, hS⟩) (px_recv hT hw 0 0 rfl rfl rfl) m3_198 m3_195 m3_197 ms_1_9 m1_2 q_Tok_token ⟨Nat.le_of_ble_eq_true rfl, Nat.le_of_ble_eq_true rfl⟩ hl.1 rfl (Nat.le_of_ble_eq_true rfl) d_Tok_scan_59 ⟨Nat.le_of_ble_eq_true rfl, Nat.le_of_ble_eq_true rfl⟩) hw hA (fun v23 p22 H locs hp22 hw => ?_) | refine px_calli (pr := []) (px_runV (As := []) (rest := []) S (c_t2_token l D cs sk st sn sb h r tp tb g f7 a8   (show TokOk (f7 7) (f7 8) (f7 10) (f7 11) (f7 12) (f7 13) (f7 17) (a8 4) from ⟨⟨by first | exact o1 | omega, by first | exact o2 | omega⟩, ⟨by first | exact o3 | omega, by first | exact o4 | omega⟩, ⟨by first | exact o5 | omega, by first | exact o6 | omega⟩, ⟨by first | exact o7 | omega, by first | exact o8 | omega⟩, ⟨by first | exact o9 | omega, by first | exact o10 | omega⟩, ⟨by first | exact o11 | omega, by first | exact o12 | omega⟩, by first | exact o13 | omega, hn4⟩) (show sn ≤ 1000000 from by first | exact g0 | omega) (show (f7 10).toInt ≤ 2048 from by first | exact oz_dd77e1f903 e12 k41_7 nc1 e11 o2 | omega) hq5 _) hT (pr := []) (pcs := [wd_Tok cs h r (fun _ => some tp) f7 a8 g, [(tp, .inl (cs 1, 2048, .inl tb))]]) hw (oX_call (P := (fun A U H => (vk_R "HomeSystem$Tokens" 127 "(){}[],;:?=|^&<>+-*/%!~" sk U) ∧ (oZ A U H) ∧ (oS A sk st sn sb U H))) (pr := []) (oG_and oG_L (oG_and oG_Z oG_S)) hw hA ⟨hL, hZ, hS⟩) (px_recv hT hw 0 0 rfl rfl rfl) m3_198 m3_195 m3_197 ms_1_9 m1_2 q_Tok_token ⟨Nat.le_of_ble_eq_true rfl, Nat.le_of_ble_eq_true rfl⟩ hl.1 rfl (Nat.le_of_ble_eq_true rfl) d_Tok_scan_59 ⟨Nat.le_of_ble_eq_true rfl, Nat.le_of_ble_eq_true rfl⟩) hw hA (fun v23 p22 H locs hp22 hw => ?_)
          obtain ⟨f20, a21, rfl, h32, e24, e25, e26, e27, e28, e29, e30, e31⟩ := hp22
          obtain ⟨⟨o1, o2⟩, ⟨o3, o4⟩, ⟨o5, o6⟩, ⟨o7, o8⟩, ⟨o9, o10⟩, ⟨o11, o12⟩, o13, hn4⟩ := h32
          have e24 := z_rng e24
          have e25 : (f20 7).toInt = (f7 7).toInt := e25
          have e26 : (f20 15).toInt = (f7 15).toInt := e26
          have e27 : (f20 10).toInt = (f7 10).toInt + 1 := e27
          have e28 : v23.toInt = 1 → (f7 8).toInt + 1 ≤ (f20 8).toInt ∧ (f7 8).toInt < (f7 7).toInt := e28
          have e29 : LsT v23 (a21 0) (f20 10) := e29
          have e30 : Q5 (a21 5) := e30
          have hq5 := e30
          have e31 : R_t2_token sn sb tb f7 a8 f20 a21 v23 := e31
          have lv23 := Int32.le_toInt v23
          have uv23 := Int32.toInt_lt v23
          refine lv_istore_n (lv' := [(3, .int v23), (0, .ref h), (1, .ref tp), (2, .int p0), (4, .int x41_4)]) S.x S.b d_Tok_scan_62 rfl hl (by decide) rfl (fun ls hl => ?_)
          obtain ⟨z33, ez33⟩ : ∃ y : Int32, y = x41_4 + 1 := ⟨_, rfl⟩
          have tz33 : z33.toInt = (x41_4.toInt + 1 + 2147483648) % 4294967296 - 2147483648 := by rw [ez33]; exact i_add x41_4 1
          have lz33 := Int32.le_toInt z33
          have uz33 := Int32.toInt_lt z33
          try replace tz33 : z33.toInt = x41_4.toInt + 1 := by omega
          refine lv_iinc (v := z33) (lv' := [(4, .int z33), (3, .int v23), (0, .ref h), (1, .ref tp), (2, .int p0)]) S.x S.b d_Tok_scan_63 hl (k := 4) rfl (by rw [ez33]; rfl) (by decide) rfl (fun ls hl => ?_)
          refine lv_goto (tgt := 41) S.x S.b d_Tok_scan_66 (by decide) ?_
          first | exact ih41 f20 a21 v23 z33 _ _ ls (show TokOk (f20 7) (f20 8) (f20 10) (f20 11) (f20 12) (f20 13) (f20 17) (a21 4) from ⟨⟨o1, o2⟩, ⟨o3, o4⟩, ⟨o5, o6⟩, ⟨o7, o8⟩, ⟨o9, o10⟩, ⟨o11, o12⟩, o13, hn4⟩) (show (f20 7).toInt = p0.toInt from (oz_e13fc83238 k41_0 e25 e11)) (show (f20 15).toInt = 0 from (oz_bfc0cf0d20 e26 e13 k41_1)) (show 0 ≤ v23.toInt from e24.1) (show v23.toInt ≤ 1 from e24.2) (show 0 ≤ z33.toInt from (oz_ae613611c0 tz33 k41_4)) (show z33.toInt ≤ (f20 7).toInt + 1 from (oz_35f3a6d852 e25 tz33 nc1 e11)) (show z33.toInt = 0 → v23.toInt = 1 from by omega) (show (f20 10).toInt = z33.toInt from (oz_19383e82c5 e27 tz33 k41_7 e12)) (show v23.toInt = 1 → z33.toInt ≤ (f20 8).toInt ∧ z33.toInt ≤ (f20 7).toInt from by omega) (show LsT v23 (a21 0) (f20 10) from (by first | exact fun h => absurd h (by decide) | assumption)) (show Q5 (a21 5) from hq5) (show K_t2_scan_41 sn sb tb p0 f a f20 a21 v23 z33 from (fun y_f0 y_f1 k hE => k41_11 y_f0 y_f1 (k + 1) (Or.inr (Or.inl ⟨rfl, x41_3, x41_4, rfl, rfl, rfl, rfl, rfl, Or.inr ⟨nc1, Or.inr ⟨nc3, f7, a8, e16, f20, a21, v23, e31, z33, ez33, hE⟩⟩⟩)))) (show (f20 7).toInt+2-z33.toInt < (n_41 : Int) from (oz_acd9d871a8 hm e25 tz33 e11)) hw (lv_sub hl [2, 3, 4, 1, 0] rfl) | exact ih41 f20 a21 v23 z33 _ _ ls (show TokOk (f20 7) (f20 8) (f20 10) (f20 11) (f20 12) (f20 13) (f20 17) (a21 4) from ⟨⟨by first | exact o1 | omega, by first | exact o2 | omega⟩, ⟨by first | exact o3 | omega, by first | exact o4 | omega⟩, ⟨by first | exact o5 | omega, by first | exact o6 | omega⟩, ⟨by first | exact o7 | omega, by first | exact o8 | omega⟩, ⟨by first | exact o9 | omega, by first | exact o10 | omega⟩, ⟨by first | exact o11 | omega, by first | exact o12 | omega⟩, by first | exact o13 | omega, hn4⟩) (show (f20 7).toInt = p0.toInt from by first | exact oz_e13fc83238 k41_0 e25 e11 | omega) (show (f20 15).toInt = 0 from by first | exact oz_bfc0cf0d20 e26 e13 k41_1 | omega) (show 0 ≤ v23.toInt from by first | exact e24.1 | omega) (show v23.toInt ≤ 1 from by first | exact e24.2 | omega) (show 0 ≤ z33.toInt from by first | exact oz_ae613611c0 tz33 k41_4 | omega) (show z33.toInt ≤ (f20 7).toInt + 1 from by first | exact oz_35f3a6d852 e25 tz33 nc1 e11 | omega) (show z33.toInt = 0 → v23.toInt = 1 from by omega) (show (f20 10).toInt = z33.toInt from by first | exact oz_19383e82c5 e27 tz33 k41_7 e12 | omega) (show v23.toInt = 1 → z33.toInt ≤ (f20 8).toInt ∧ z33.toInt ≤ (f20 7).toInt from by omega) (show LsT v23 (a21 0) (f20 10) from (by first | exact fun h => absurd h (by decide) | assumption)) (show Q5 (a21 5) from hq5) (show K_t2_scan_41 sn sb tb p0 f a f20 a21 v23 z33 from (fun y_f0 y_f1 k hE => k41_11 y_f0 y_f1 (k + 1) (Or.inr (Or.inl ⟨rfl, x41_3, x41_4, rfl, rfl, rfl, rfl, rfl, Or.inr ⟨nc1, Or.inr ⟨nc3, f7, a8, e16, f20, a21, v23, e31, z33, ez33, hE⟩⟩⟩)))) (show (f20 7).toInt+2-z33.toInt < (n_41 : Int) from by first | exact oz_acd9d871a8 hm e25 tz33 e11 | omega) hw (lv_sub hl [2, 3, 4, 1, 0] rfl)
  refine lv_aload_n S.x S.b d_Tok_scan_0 rfl (lv_at hl 0 rfl) ?_
  refine lv_aload_n S.x S.b d_Tok_scan_1 rfl (lv_at hl 1 rfl) ?_
  refine px_put S k_Tok hT hw 0 0 6 rfl rfl (by decide) m1_109 rfl rfl rfl (Nat.le_of_ble_eq_true rfl) d_Tok_scan_2 (w' := wd_Tok cs h r (fun k => if k = 6 then (some tp) else none) f a g) (ps' := [wd_Tok cs h r (fun k => if k = 6 then (some tp) else none) f a g, [(tp, .inl (cs 1, 2048, .inl tb))]]) rfl rfl (fun H locs hw => ?_)
  have hw : pw D A s.heap _ _ [wd_Tok cs h r (fun _ => some tp) f a g, [(tp, .inl (cs 1, 2048, .inl tb))]] := hw.eq rfl
  refine lv_aload_n S.x S.b d_Tok_scan_5 rfl (lv_at hl 0 rfl) ?_
  refine lv_iload_n S.x S.b d_Tok_scan_6 rfl (lv_at hl 2 rfl) ?_
  refine px_put S k_Tok hT hw 0 0 7 rfl rfl (by decide) m1_110 rfl rfl rfl (Nat.le_of_ble_eq_true rfl) d_Tok_scan_7 (w' := wd_Tok cs h r (fun _ => some tp) (upd f 7 p0) a g) (ps' := [wd_Tok cs h r (fun _ => some tp) (upd f 7 p0) a g, [(tp, .inl (cs 1, 2048, .inl tb))]]) rfl rfl (fun H locs hw => ?_)
  refine lv_aload_n S.x S.b d_Tok_scan_10 rfl (lv_at hl 0 rfl) ?_
  refine lv_iconst (v := 0) S.x S.b d_Tok_scan_11 (by decide) ?_
  refine px_put S k_Tok hT hw 0 0 8 rfl rfl (by decide) m1_111 rfl rfl rfl (Nat.le_of_ble_eq_true rfl) d_Tok_scan_12 (w' := wd_Tok cs h r (fun _ => some tp) (upd (upd f 7 p0) 8 0) a g) (ps' := [wd_Tok cs h r (fun _ => some tp) (upd (upd f 7 p0) 8 0) a g, [(tp, .inl (cs 1, 2048, .inl tb))]]) rfl rfl (fun H locs hw => ?_)
  refine lv_aload_n S.x S.b d_Tok_scan_15 rfl (lv_at hl 0 rfl) ?_
  refine lv_iconst (v := 0) S.x S.b d_Tok_scan_16 (by decide) ?_
  refine px_put S k_Tok hT hw 0 0 10 rfl rfl (by decide) m1_113 rfl rfl rfl (Nat.le_of_ble_eq_true rfl) d_Tok_scan_17 (w' := wd_Tok cs h r (fun _ => some tp) (upd (upd (upd f 7 p0) 8 0) 10 0) a g) (ps' := [wd_Tok cs h r (fun _ => some tp) (upd (upd (upd f 7 p0) 8 0) 10 0) a g, [(tp, .inl (cs 1, 2048, .inl tb))]]) rfl rfl (fun H locs hw => ?_)
  refine lv_aload_n S.x S.b d_Tok_scan_20 rfl (lv_at hl 0 rfl) ?_
  refine lv_bipush (v := 26) S.x S.b d_Tok_scan_21 (by decide) ?_
  refine px_put S k_Tok hT hw 0 0 11 rfl rfl (by decide) m1_114 rfl rfl rfl (Nat.le_of_ble_eq_true rfl) d_Tok_scan_23 (w' := wd_Tok cs h r (fun _ => some tp) (upd (upd (upd (upd f 7 p0) 8 0) 10 0) 11 26) a g) (ps' := [wd_Tok cs h r (fun _ => some tp) (upd (upd (upd (upd f 7 p0) 8 0) 10 0) 11 26) a g, [(tp, .inl (cs 1, 2048, .inl tb))]]) rfl rfl (fun H locs hw => ?_)
  refine lv_aload_n S.x S.b d_Tok_scan_26 rfl (lv_at hl 0 rfl) ?_
  refine lv_iconst (v := 0) S.x S.b d_Tok_scan_27 (by decide) ?_
  refine px_put S k_Tok hT hw 0 0 12 rfl rfl (by decide) m1_115 rfl rfl rfl (Nat.le_of_ble_eq_true rfl) d_Tok_scan_28 (w' := wd_Tok cs h r (fun _ => some tp) (upd (upd (upd (upd (upd f 7 p0) 8 0) 10 0) 11 26) 12 0) a g) (ps' := [wd_Tok cs h r (fun _ => some tp) (upd (upd (upd (upd (upd f 7 p0) 8 0) 10 0) 11 26) 12 0) a g, [(tp, .inl (cs 1, 2048, .inl tb))]]) rfl rfl (fun H locs hw => ?_)
  refine lv_aload_n S.x S.b d_Tok_scan_31 rfl (lv_at hl 0 rfl) ?_
  refine lv_iconst (v := 0) S.x S.b d_Tok_scan_32 (by decide) ?_
  refine px_put S k_Tok hT hw 0 0 15 rfl rfl (by decide) m1_121 rfl rfl rfl (Nat.le_of_ble_eq_true rfl) d_Tok_scan_33 (w' := wd_Tok cs h r (fun _ => some tp) (upd (upd (upd (upd (upd (upd f 7 p0) 8 0) 10 0) 11 26) 12 0) 15 0) a g) (ps' := [wd_Tok cs h r (fun _ => some tp) (upd (upd (upd (upd (upd (upd f 7 p0) 8 0) 10 0) 11 26) 12 0) 15 0) a g, [(tp, .inl (cs 1, 2048, .inl tb))]]) rfl rfl (fun H locs hw => ?_)
  refine lv_iconst (v := 1) S.x S.b d_Tok_scan_36 (by decide) ?_
  refine lv_istore_n (lv' := [(3, .int 1), (0, .ref h), (1, .ref tp), (2, .int p0)]) S.x S.b d_Tok_scan_37 rfl hl (by decide) rfl (fun ls hl => ?_)
  refine lv_iconst (v := 0) S.x S.b d_Tok_scan_38 (by decide) ?_
  refine lv_istore (lv' := [(4, .int 0), (3, .int 1), (0, .ref h), (1, .ref tp), (2, .int p0)]) S.x S.b d_Tok_scan_39 hl (by decide) rfl (fun ls hl => ?_)
  first | exact J41 ((p0.toInt+2-(0 : Int)).toNat + 1) (upd (upd (upd (upd (upd (upd f 7 p0) 8 0) 10 0) 11 26) 12 0) 15 0) a (1 : Int32) (0 : Int32) _ _ ls (show TokOk p0 0 0 26 0 (f 13) (f 17) (a 4) from ⟨⟨g1, g2⟩, ⟨by omega, by omega⟩, ⟨by omega, by omega⟩, ⟨by omega, by omega⟩, ⟨by omega, by omega⟩, ⟨g3, g4⟩, g5, hn4⟩) (show p0.toInt = p0.toInt from rfl) (show (0 : Int) = 0 from oz_7d1a308c7e) (show 0 ≤ (1 : Int) from oz_19c3a41681) (show (1 : Int) ≤ 1 from oz_f9181dc4bb) (show 0 ≤ (0 : Int) from oz_5a341f00aa) (show (0 : Int) ≤ p0.toInt + 1 from (oz_628889f9b3 g1)) (show (0 : Int) = 0 → (1 : Int) = 1 from by omega) (show (0 : Int) = (0 : Int) from rfl) (show (1 : Int) = 1 → (0 : Int) ≤ (0 : Int) ∧ (0 : Int) ≤ p0.toInt from by omega) (show LsT 1 (a 0) (0 : Int32) from (by first | exact fun h => absurd h (by decide) | assumption)) (show Q5 (a 5) from hq5) (show K_t2_scan_41 sn sb tb p0 f a (upd (upd (upd (upd (upd (upd f 7 p0) 8 0) 10 0) 11 26) 12 0) 15 0) a 1 0 from (fun y_f0 y_f1 k hE => Exists.intro (k + 1) (Or.inl ⟨rfl, hE⟩))) (show p0.toInt+2-(0 : Int) < ((((p0.toInt+2-(0 : Int)).toNat + 1 : Nat) : Int) : Int) from oz_natlt) hw (lv_sub hl [2, 3, 4, 1, 0] rfl) | exact J41 ((p0.toInt+2-(0 : Int)).toNat + 1) (upd (upd (upd (upd (upd (upd f 7 p0) 8 0) 10 0) 11 26) 12 0) 15 0) a (1 : Int32) (0 : Int32) _ _ ls (show TokOk p0 0 0 26 0 (f 13) (f 17) (a 4) from ⟨⟨by first | exact g1 | omega, by first | exact g2 | omega⟩, ⟨by omega, by omega⟩, ⟨by omega, by omega⟩, ⟨by omega, by omega⟩, ⟨by omega, by omega⟩, ⟨by first | exact g3 | omega, by first | exact g4 | omega⟩, by first | exact g5 | omega, hn4⟩) (show p0.toInt = p0.toInt from rfl) (show (0 : Int) = 0 from by first | exact oz_7d1a308c7e | omega) (show 0 ≤ (1 : Int) from by first | exact oz_19c3a41681 | omega) (show (1 : Int) ≤ 1 from by first | exact oz_f9181dc4bb | omega) (show 0 ≤ (0 : Int) from by first | exact oz_5a341f00aa | omega) (show (0 : Int) ≤ p0.toInt + 1 from by first | exact oz_628889f9b3 g1 | omega) (show (0 : Int) = 0 → (1 : Int) = 1 from by omega) (show (0 : Int) = (0 : Int) from rfl) (show (1 : Int) = 1 → (0 : Int) ≤ (0 : Int) ∧ (0 : Int) ≤ p0.toInt from by omega) (show LsT 1 (a 0) (0 : Int32) from (by first | exact fun h => absurd h (by decide) | assumption)) (show Q5 (a 5) from hq5) (show K_t2_scan_41 sn sb tb p0 f a (upd (upd (upd (upd (upd (upd f 7 p0) 8 0) 10 0) 11 26) 12 0) 15 0) a 1 0 from (fun y_f0 y_f1 k hE => Exists.intro (k + 1) (Or.inl ⟨rfl, hE⟩))) (show p0.toInt+2-(0 : Int) < ((((p0.toInt+2-(0 : Int)).toNat + 1 : Nat) : Int) : Int) from by first | exact oz_natlt | omega) hw (lv_sub hl [2, 3, 4, 1, 0] rfl)
