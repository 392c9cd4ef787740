theorem oz_9583a53679 {a0 : Int}  : a0 ≤ a0+8 := by omega
theorem oz_887c409de9 {a0 a1 a2 : Int} (h0 : a0 ≤ a2) (h1 : a1 = a2 + 1) : a0 ≤ a1 := by omega
theorem oz_1e5ac0e216 {a0 a1 a2 : Int} (h0 : ¬ a1 ≤ a2) (h1 : a0 = a2 + 1) : a0 ≤ a1+8 := by omega
theorem oz_f6c959245f {a0 a1 a3 : Int} {n2 : Nat} (h0 : a0+16-a3 < ((n2 + 1 : Nat) : Int)) (h1 : a1 = a3 + 1) : a0+16-a1 < (n2 : Int) := by omega
theorem oz_6f0a04008e {a0 a1 : Int} (h0 : a0 ≤ a1 + 8) : a0 ≤ a1+8 := by omega
theorem oz_dac6a77683 {a0 a1 a2 a3 : Int} (h0 : a2 = a1 - (1 : Int)) (h1 : a0 = a3 + 1) (h2 : ¬ a2 ≤ a3) : a0 ≤ a1+10 := by omega
theorem oz_ca2896e4b3 {a0 a1 a2 : Int} (h0 : a0 = a1 + (2 : Int)) (h1 : a2 ≤ a1) (h2 : 0 ≤ a2) : 0 ≤ a0 := by omega
theorem oz_8a9d1f933d {a0 a1 a2 a3 : Int} (h0 : a2 = a1 - (1 : Int)) (h1 : a0 = a3 + (2 : Int)) (h2 : ¬ a2 ≤ a3) : a0 ≤ a1+8 := by omega
theorem oz_165792c2c4 {a0 a1 a2 : Int} (h0 : a0 ≤ a2) (h1 : a1 = a2 + (2 : Int)) : a0 ≤ a1 := by omega
theorem oz_d20558dcd1 {a0 a1 : Int} (h0 : a1 = a0 + (2 : Int)) : a0 ≤ a1 := by omega
theorem oz_4fa2be0625 {a0 a1 a2 : Int} (h0 : a2 ≤ a1 + 8) (h1 : a0 = a2 + (2 : Int)) : a0 ≤ a1+10 := by omega
theorem oz_d0a3671be7 {a0 a1 a2 a3 : Int} (h0 : a2 = a3 + (1 : Int)) (h1 : a2 ≤ a3) : a0 = a1 + 1 := by omega
theorem oz_f1d1298f6f {a0 a1 a2 : Int} (h0 : a0 = a2 + (1 : Int)) (h1 : a0 ≤ a2) : a0 ≤ a1 + 8 := by omega
theorem oz_df4877b868 {a0 a1 a2 : Int} (h0 : a0 ≤ a2) (h1 : a1 = a2 + (1 : Int)) : a0 ≤ a1 := by omega
theorem oz_42d443b05b {a0 a1 a2 a3 : Int} (h0 : a2 = a3 + (1 : Int)) (h1 : a2 ≤ a3) : a0 ≤ a1+1 := by omega
theorem oz_ea2b3b93d5 {a0 a1 a3 a4 : Int} {n2 : Nat} (h0 : a3 = a4 + (1 : Int)) (h1 : a3 ≤ a4) : a0+2-a1 < (n2 : Int) := by omega
theorem oz_8c8b3d3770 {a0 a1 : Int} (h0 : ¬ a0 ≤ a1) (h1 : 0 ≤ a1) : 0 ≤ a0 := by omega
theorem oz_447bfbda56 {a0 a1 a2 a3 : Int} (h0 : a0 = a2 + (1 : Int)) (h1 : a3 = (32 : Int)) (h2 : 0 ≤ a3 → 0 ≤ a2 ∧ a2 < a1) : a0 ≤ a1 + 8 := by omega
theorem oz_fbfdb238f4 {a0 a1 a2 : Int} (h0 : a0 ≤ a2) (h1 : ¬ a1 ≤ a2) : a0 ≤ a1 := by omega
theorem oz_0c5335350d {a0 a1 a2 : Int} (h0 : ¬ a1 < a2) (h1 : a0 = a2 + 1) : a0 ≤ a1+1 := by omega
theorem oz_1a25760b21 {a0 a1 a3 : Int} {n2 : Nat} (h0 : a0+2-a3 < ((n2 + 1 : Nat) : Int)) (h1 : a1 = a3 + 1) : a0+2-a1 < (n2 : Int) := by omega
theorem oz_f86517a702 {a0 a1 a2 a3 : Int} (h0 : a0 = a2 + (1 : Int)) (h1 : a3 = (9 : Int)) (h2 : 0 ≤ a3 → 0 ≤ a2 ∧ a2 < a1) : a0 ≤ a1 + 8 := by omega
theorem oz_c84fafa606 {a0 a1 a2 a3 : Int} (h0 : a0 = a2 + (1 : Int)) (h1 : a3 = (10 : Int)) (h2 : 0 ≤ a3 → 0 ≤ a2 ∧ a2 < a1) : a0 ≤ a1 + 8 := by omega
theorem oz_8908a45630 {a0 a1 : Int} (h0 : a0 ≤ a1+8) : a0 ≤ a1 + 8 := by omega
theorem oz_95d7c919dd {a0 a1 a2 a3 a4 a5 : Int} (h0 : a0 ≤ a2) (h1 : a3 = a2 + (1 : Int)) (h2 : a4 = (47 : Int)) (h3 : 0 ≤ a4 → 0 ≤ a3 ∧ a3 < a5) (h4 : a2 ≤ a5 → a2 ≤ a1) : a0 ≤ a1 := by omega
theorem oz_9626c71e54 {a0 a1 a2 a3 : Int} (h0 : a0 = a2 + (1 : Int)) (h1 : a3 = (13 : Int)) (h2 : 0 ≤ a3 → 0 ≤ a2 ∧ a2 < a1) : a0 ≤ a1 + 8 := by omega
theorem oz_86d3cb77db {a0 : Int} (h0 : 0 ≤ a0) : (0 : Int) ≤ a0+1 := by omega
theorem oz_81847fae50 {a0 : Int} (h0 : ¬ (126 : Int) < a0) : a0 ≤ 200 := by omega
theorem oz_242b92e872 {a0 a1 : Int} (h0 : a0 = a1) (h1 : a1 ≤ 100) : a0 ≤ 200 := by omega
theorem oz_649850f1a1 {a0 : Int} (h0 : a0 = (92 : Int)) : a0 ≤ 200 := by omega
theorem oz_5d7574dca0 {a0 a1 a2 a3 a4 : Int} (h0 : a2 = (92 : Int)) (h1 : 0 ≤ a2 → 0 ≤ a0 ∧ a0 < a1) (h2 : a3 = a0 + (1 : Int)) (h3 : a4 = (92 : Int)) (h4 : 0 ≤ a4 → 0 ≤ a3 ∧ a3 < a1) : 0 ≤ a0 ∧ a0 < a1 := by omega
theorem oz_a2ef7ae5fe {a0 a1 : Int} (h0 : a0 = a1 + (1 : Int)) (h1 : 26 ≤ a1) : 26 ≤ a0 := by omega
theorem oz_b0fcc062c9 {a0 a1 : Int} (h0 : a0 = a1 + (1 : Int)) (h1 : ¬ (2074 : Int) ≤ a1) : a0 ≤ 2074 := by omega
theorem oz_8ba622097f {a0 a1 : Int} (h0 : 0 ≤ a0) (h1 : ¬ a1 ≤ a0) (h2 : a1 ≤ 2074) : 0 ≤ a0 ∧ a0 < ((2074 : Nat) : Int) := by omega
theorem oz_b4306d7374 {a0 a1 a2 : Int} (h0 : a0 ≤ 1000 + 24 * a1) (h1 : ¬ a2 ≤ a1) (h2 : a2 ≤ 2074) : a0 ≤ 100000 := by omega
theorem oz_a86078dd04 {a0 a1 a3 : Int} {n2 : Nat} (h0 : a0+1-a3 < ((n2 + 1 : Nat) : Int)) (h1 : a1 = a3 + 1) : a0+1-a1 < (n2 : Int) := by omega
theorem oz_4cae13f11a {a0 : Int} (h0 : a0 ≤ 100000) : a0 ≤ 1000000 := by omega
theorem oz_1d49980e24 {a0 a1 a2 : Int} (h0 : a0 ≤ 1000 + 24 * (a1 - 1)) (h1 : a2 = a1) (h2 : a2 ≤ 2074) : a0 ≤ 1000000 := by omega
theorem oz_e30befe568 {a0 : Int} (h0 : a0 ≤ 24) : a0 ≤ 1000000 := by omega
theorem oz_5e5e39b270 {a0 : Int} (h0 : 26 ≤ a0) : (0 : Int) ≤ a0 := by omega
theorem oz_86da80c8d4 {a0 : Int} (h0 : a0 ≤ (24 : Int)) : a0 ≤ 24 := by omega
theorem oz_213e98d3f1 {a0 a1 a2 : Int} (h0 : a0 + 1 ≤ a2) (h1 : a1 = a2) : a0 + 1 ≤ a1 := by omega
theorem oz_b298d6b515 {a0 a1 a2 a3 : Int} (h0 : a0 < a2) (h1 : a3 ≤ a1) (h2 : a3 = a2) : a0 + 1 ≤ a1 := by omega
theorem oz_b18b803a23 {a0 a1 a2 : Int} (h0 : ¬ a1 ≤ a2) (h1 : a0 = a2 + (1 : Int)) : a0 ≤ a1 + 8 := by omega
theorem oz_7eb37145d2 {a0 a1 a2 : Int} (h0 : ¬ a1 ≤ a2) (h1 : a0 = a2 + (1 : Int)) : a0 ≤ a1 := by omega
theorem oz_122b8b9fb7 {a0 a1 a2 a3 : Int} (h0 : a0 = a2 + 1) (h1 : a1 = a3 + (1 : Int)) (h2 : a2 ≤ a3) : a0 ≤ a1 := by omega
theorem oz_c735cfbd81 {a0 a1 a3 : Int} {n2 : Nat} (h0 : a0+9-a3 < ((n2 + 1 : Nat) : Int)) (h1 : a1 = a3 + (1 : Int)) : a0+9-a1 < (n2 : Int) := by omega
theorem oz_54480d698e {a0 a1 : Int} (h0 : a0 < a1) : a0 + 1 ≤ a1 := by omega
theorem oz_c086c81b49 {a0 a1 a2 : Int} (h0 : a0 < a2) (h1 : a1 = a2 + (1 : Int)) : a0 ≤ a1 := by omega
theorem oz_b62fa091b7 {a0 a1 : Int} (h0 : a0 = a1 - (1 : Int)) (h1 : 26 ≤ a1) (h2 : a1 ≤ 2074) : 0 ≤ a0 ∧ a0 < ((2074 : Nat) : Int) := by omega
theorem oz_f675372ee2 {a0 a1 : Int} (h0 : a0 < a1) : a0 ≤ a1 := by omega
theorem oz_d72d579ea5 {a0 a1 a2 : Int} (h0 : a2 = a1 - (1 : Int)) (h1 : a0 ≤ 1000 + 24 * a2) : a0 ≤ 1000 + 24 * (a1 - 1) := by omega
theorem oz_efe4b1b452 {a0 a1 a2 a3 a4 : Int} (h0 : a0 + a3 ≤ a4) (h1 : a1 = a3 + 1) (h2 : a2 = a4 + (1 : Int)) : a0 + a1 ≤ a2 := by omega
theorem oz_6599b5c69d {a0 a1 : Int} (h0 : a0 = a1 + (0 : Int)) (h1 : 0 ≤ a1) : 0 ≤ a0 := by omega
theorem oz_336516993b {a0 a1 a2 : Int} (h0 : a2 ≤ a1 + 8) (h1 : a0 = a2 + (0 : Int)) : a0 ≤ a1 + 8 := by omega
theorem oz_58f0e89f84 {a0 a1 : Int} (h0 : a1 = a0 + (0 : Int)) : a0 + (0 : Int) ≤ a1 := by omega
theorem oz_923e74ff93 {a0 a1 a2 a3 a4 : Int} (h0 : a0 = a2 + (2 : Int)) (h1 : a3 = (120 : Int)) (h2 : 0 ≤ a3 → 0 ≤ a4 ∧ a4 < a1) (h3 : a4 = a2 + (1 : Int)) : a0 ≤ a1 + 8 := by omega
theorem oz_44ccb7c1dc {a0 a1 : Int} (h0 : a1 = a0 + (2 : Int)) : a0 + (0 : Int) ≤ a1 := by omega
theorem oz_b9e2a46006 {a0 a1 a2 a3 a4 : Int} (h0 : a0 = a1 + (1 : Int)) (h1 : a1 = a2 + a3) (h2 : a2 = a4 + (1 : Int)) (h3 : 1 ≤ a3) (h4 : 0 ≤ a4) : 0 ≤ a0 := by omega
theorem oz_ddf50febdf {a0 a1 a2 a3 : Int} (h0 : a0 = a2 + (1 : Int)) (h1 : a3 = (39 : Int)) (h2 : 0 ≤ a3 → 0 ≤ a2 ∧ a2 < a1) : a0 ≤ a1 + 8 := by omega
theorem oz_5a8feed08b {a0 a1 a2 a3 : Int} (h0 : a0 = a1 + (1 : Int)) (h1 : a2 + 1 ≤ a1) (h2 : a3 = a2) (h3 : 0 ≤ a3) : 0 ≤ a0 := by omega
theorem oz_2110b97299 {a0 a1 a2 a3 : Int} (h0 : a0 = a2 + (1 : Int)) (h1 : a3 = (34 : Int)) (h2 : 0 ≤ a3 → 0 ≤ a2 ∧ a2 < a1) : a0 ≤ a1 + 8 := by omega
theorem oz_3322af70f0 {a0 a1 a2 a3 : Int} (h0 : a0 = a1 + a2) (h1 : 0 ≤ a1) (h2 : a2 = a3 + (1 : Int)) (h3 : 0 ≤ a3) : 0 ≤ a0 := by omega
theorem oz_2fbb33bd74 {a0 a1 a2 a3 a4 : Int} (h0 : a0 = a1 + a2) (h1 : a3 = a1 + a4) (h2 : a2 = a4 + (1 : Int)) (h3 : a3 < (2048 : Int)) : a0 ≤ 2048 := by omega
theorem oz_094660a5a5 {a0 a1 a2 : Int} (h0 : (200 : Int) < a2) (h1 : ¬ (200 : Int) < a2) : a0 = a1 + a2 := by omega
theorem oz_8c84e6b7b9 {a0 a1 : Int} (h0 : (200 : Int) < a1) (h1 : ¬ (200 : Int) < a1) : a0 = a1 + (1 : Int) := by omega
theorem oz_d8abe3bfd1 {a0 a1 a2 a3 : Int} (h0 : (200 : Int) < a3) (h1 : ¬ (200 : Int) < a3) : a0 = a1 + a2 := by omega
theorem oz_c5703319b8 {a0 a1 a2 a3 : Int} (h0 : a0 = a2 + (1 : Int)) (h1 : ¬ a3 < (0 : Int)) (h2 : 0 ≤ a3 → a2 < a1) : a0 ≤ a1 + 8 := by omega
theorem oz_62caf3659d {a0 a1 a2 a3 : Int} (h0 : a0 = a1 + a2) (h1 : 0 ≤ a1) (h2 : a2 = a3 + (1 : Int)) (h3 : (200 : Int) < a3) : 0 ≤ a0 := by omega
theorem oz_b348d3637e {a0 a1 : Int} (h0 : (200 : Int) < a1) (h1 : ¬ (200 : Int) < a1) : a0 ≤ 2048 := by omega
theorem oz_f4fc9d49f4 {a0 a1 a2 a3 : Int} (h0 : a0 + 1 ≤ a2) (h1 : a1 = a2 + a3) (h2 : 1 ≤ a3) : a0 + 1 ≤ a1 := by omega
theorem oz_72973cefa7 {a0 a1 a2 a3 a4 : Int} (h0 : a0 = a2 + a3) (h1 : ¬ a4 < (0 : Int)) (h2 : 0 ≤ a4 → a2 < a1) (h3 : a3 ≤ 2) : a0 ≤ a1+16 := by omega
theorem oz_efe439d2c9 {a0 a1 : Int} (h0 : a0 = a1 + 1) (h1 : ¬ (200 : Int) < a1) : a0 ≤ 201 := by omega
theorem oz_48b3304134 {a0 a2 : Int} {n1 : Nat} (h0 : (202 : Int)-a2 < ((n1 + 1 : Nat) : Int)) (h1 : a0 = a2 + 1) : (202 : Int)-a0 < (n1 : Int) := by omega
theorem oz_38236be559 {a0 a1 : Int} (h0 : a1 = a0 + (1 : Int)) : a0 + 1 ≤ a1 := by omega
theorem oz_3be05f8734 {a0 a1 a2 : Int} (h0 : a2 ≤ a1 + 8) (h1 : a0 = a2 + (1 : Int)) : a0 ≤ a1+16 := by omega
theorem oz_8964937ede {a0 a1 a2 : Int} (h0 : a2 < a1) (h1 : a0 = a2 + (1 : Int)) : a0 ≤ a1 + 8 := by omega
theorem oz_0aba5895db {a0 a1 a2 : Int} (h0 : a0 = a1 + a2) (h1 : 0 ≤ a1) (h2 : a2 = (1 : Int) + 1) : 0 ≤ a0 := by omega
theorem oz_034949d2cd {a0 a1 a2 a3 : Int} (h0 : a2 < a1) (h1 : a0 = a2 + a3) (h2 : a3 = (1 : Int) + 1) : a0 ≤ a1 + 8 := by omega
theorem oz_26c995f1f8 {a0 a1 a2 : Int} (h0 : a2 < a1) (h1 : a0 = a2 + (2 : Int)) : a0 ≤ a1 + 8 := by omega
theorem oz_5872ca9df2 {a0 a1 a2 : Int} (h0 : a0 = a1 + a2) (h1 : 0 ≤ a1) (h2 : a2 = (2 : Int) + 1) : 0 ≤ a0 := by omega
theorem oz_0136642c8e {a0 a1 a2 a3 : Int} (h0 : a2 < a1) (h1 : a0 = a2 + a3) (h2 : a3 = (2 : Int) + 1) : a0 ≤ a1 + 8 := by omega
theorem oz_26a0dc0197 {a0 a1 : Int} (h0 : a0 = a1 + (1 : Int)) (h1 : ¬ (2049 : Int) ≤ a1) : a0 ≤ 2049 := by omega
theorem oz_2218542316 {a0 a1 a2 : Int} (h0 : ¬ a2 < (0 : Int)) (h1 : 0 ≤ a2 → 0 ≤ a0 ∧ a0 < a1) : a0 < a1 := by omega
theorem oz_409f6d7389 {a0 a1 a2 : Int} (h0 : a0 = a1) (h1 : a2 < a1) (h2 : 0 ≤ a2) : 1 ≤ a0 := by omega
theorem oz_b4fae048ea {a0 a1 a2 a3 : Int} (h0 : a2 = a1) (h1 : a0 = a3) (h2 : a3 ≤ a2 + 1) : a0 ≤ a1 + 1 := by omega
theorem oz_153df23603 {a0 a1 a2 a3 : Int} (h0 : a2 = a1) (h1 : a0 = a3) (h2 : ¬ a2 < a3) : a0 ≤ a1 + 1 := by omega
theorem oz_dd77e1f903 {a0 a1 a2 a3 a4 : Int} (h0 : a0 = a1) (h1 : a1 = a2) (h2 : ¬ a3 < a2) (h3 : a4 = a3) (h4 : a4 ≤ 2048) : a0 ≤ 2048 := by omega
theorem oz_bfc0cf0d20 {a0 a1 a2 : Int} (h0 : a0 = a1) (h1 : a1 = a2) (h2 : a2 = 0) : a0 = 0 := by omega
theorem oz_35f3a6d852 {a0 a1 a2 a3 a4 : Int} (h0 : a1 = a2) (h1 : a0 = a3 + 1) (h2 : ¬ a4 < a3) (h3 : a2 = a4) : a0 ≤ a1 + 1 := by omega
theorem oz_19383e82c5 {a0 a1 a2 a3 a4 : Int} (h0 : a0 = a2 + 1) (h1 : a1 = a3 + 1) (h2 : a4 = a3) (h3 : a2 = a4) : a0 = a1 := by omega
theorem oz_acd9d871a8 {a0 a1 a3 a4 a5 : Int} {n2 : Nat} (h0 : a3+2-a4 < ((n2 + 1 : Nat) : Int)) (h1 : a0 = a5) (h2 : a1 = a4 + 1) (h3 : a5 = a3) : a0+2-a1 < (n2 : Int) := by omega
theorem oz_628889f9b3 {a0 : Int} (h0 : 0 ≤ a0) : (0 : Int) ≤ a0 + 1 := by omega
/-! SCAN, told in full -/
def ltr (c : Int32) : Int32 := if (97 ≤ c.toInt ∧ c.toInt ≤ 122) ∨ (65 ≤ c.toInt ∧ c.toInt ≤ 90) ∨ c.toInt = 95 then 1 else 0
def IsLt (v c : Int32) : Prop := v = ltr c
def By (tb : Nat → Int32) (n i v : Int32) : Prop := 0 ≤ i.toInt → i.toInt < n.toInt → v = tb i.toNatClampNeg &&& 255
theorem name_l {tb : Nat → Int32} {n i c v : Int32} (h1 : By tb n i c) (h2 : IsLt v c) (h0 : 0 ≤ i.toInt) (h3 : i.toInt < n.toInt) (hv : ¬ v.toInt = 0) : ltr (tb i.toNatClampNeg &&& 255) = 1 := by
  have e := h1 h0 h3
  rw [← e]
  have h4 : v = ltr c := h2
  unfold ltr at h4 ⊢
  split
  · rfl
  · rename_i h; rw [if_neg h] at h4; rw [h4] at hv; exact absurd rfl hv
theorem lt_ge {v c : Int32} (h : IsLt v c) (hv : ¬ v.toInt = 0) : 65 ≤ c.toInt := by
  have h4 : v = ltr c := h
  unfold ltr at h4
  split at h4
  · omega
  · rw [h4] at hv; exact absurd rfl hv
/-- the first byte is still to be taken -/
def Nm0 (tb : Nat → Int32) (x8 y8 c : Int32) : Prop := x8.toInt < y8.toInt ∨ (y8 = x8 ∧ c = tb x8.toNatClampNeg &&& 255)
theorem Nm0.go {tb : Nat → Int32} {x8 y8 c v : Int32} (h : Nm0 tb x8 y8 c) (hL : ltr (tb x8.toNatClampNeg &&& 255) = 1) (h2 : IsLt v c) (hv : v.toInt = 0) : x8.toInt < y8.toInt := by
  rcases h with h | ⟨-, h⟩
  · exact h
  · have h4 : v = ltr c := h2
    rw [h, hL] at h4
    rw [h4] at hv
    exact absurd hv (by decide)
theorem Nm0.len {tb : Nat → Int32} {x8 y8 c : Int32} (h : Nm0 tb x8 y8 c) {n : Int} (h1 : x8.toInt < n) (h2 : n ≤ y8.toInt) : x8.toInt < y8.toInt := by omega
def LsT (v : Int32) (k : Nat → Int32) (c : Int32) : Prop := v.toInt = 0 → LastOk k c
theorem last_mk {k : Nat → Int32} {x z c : Int32} (h0 : 0 ≤ x.toInt) (hc : c.toInt = x.toInt + 1) (hz : z.toInt = 0 ∨ z.toInt = 19) : LastOk (upd k x.toNatClampNeg z) c := by
  intro y hy
  have e : y = x := Int32.toInt_inj.mp (by omega)
  rw [e, pk_us]
  exact hz
theorem q5_up {c : Nat → Int32} {i : Nat} {z : Int32} (h : Q5 c) (hz : z.toInt ≤ 200) : Q5 (upd c i z) := fun j => by
  by_cases e : j = i
  · rw [e, pk_us]; exact hz
  · rw [pk_un e]; exact h j
set_option maxHeartbeats 4000000 in
set_option maxRecDepth 100000 in
theorem c_t2_isLetter (l : Launch) (D : va_G) (cs : Nat → ClassId)  (p0 : Int32)   : MetI l y_Tok_isLetter b_Tok_isLetter 1 (.boolean) D cs 0 0 (0) (0) [.int p0] [] (fun _ => True) (fun v ps => (ps = []) ∧ (v = 0 ∨ v = 1) ∧ (IsLt v p0)) := by
  refine px_enter (by decide) (Nat.le_of_ble_eq_true rfl) ?_
  intro p e s m below meth c A ls hAe S hr hlk hnm hA hT hX hw hl
  have hl : lv_has ls 1 [(0, .int p0)] := hl
  have lp0 := Int32.le_toInt p0
  have up0 := Int32.toInt_lt p0
  have cst0 : (0 : Int32).toInt = 0 := rfl
  have cst1 : (1 : Int32).toInt = 1 := rfl
  have cst65 : (65 : Int32).toInt = 65 := rfl
  have cst90 : (90 : Int32).toInt = 90 := rfl
  have cst95 : (95 : Int32).toInt = 95 := rfl
  have cst97 : (97 : Int32).toInt = 97 := rfl
  have cst122 : (122 : Int32).toInt = 122 := rfl
  refine lv_iload_n S.x S.b d_Tok_isLetter_0 rfl (lv_at hl 0 rfl) ?_
  refine lv_bipush (v := 97) S.x S.b d_Tok_isLetter_1 (by decide) ?_
  refine lv_icmp_lt (tgt := 12) S.x S.b d_Tok_isLetter_3 (by decide) (fun c1 => ?_) (fun c1 => ?_)
  · have nc1 : p0.toInt < (97 : Int) := (i_lt (x := p0) (y := 97)).mp c1
    refine lv_iload_n S.x S.b d_Tok_isLetter_12 rfl (lv_at hl 0 rfl) ?_
    refine lv_bipush (v := 65) S.x S.b d_Tok_isLetter_13 (by decide) ?_
    refine lv_icmp_lt (tgt := 24) S.x S.b d_Tok_isLetter_15 (by decide) (fun c2 => ?_) (fun c2 => ?_)
    · have nc2 : p0.toInt < (65 : Int) := (i_lt (x := p0) (y := 65)).mp c2
      refine lv_iload_n S.x S.b d_Tok_isLetter_24 rfl (lv_at hl 0 rfl) ?_
      refine lv_bipush (v := 95) S.x S.b d_Tok_isLetter_25 (by decide) ?_
      refine lv_icmp_ne (tgt := 34) S.x S.b d_Tok_isLetter_27 (by decide) (fun c3 => ?_) (fun c3 => ?_)
      · have nc3 : ¬ p0.toInt = (95 : Int) := mt (i_eq (x := p0) (y := 95)).mpr c3
        refine lv_iconst (v := 0) S.x S.b d_Tok_isLetter_34 (by decide) ?_
        exact px_iret (v := 0) S hr rfl hlk hAe hw (Nat.le_of_ble_eq_true rfl) (Nat.le_of_ble_eq_true rfl) (⟨rfl, (show (0 : Int32) = 0 ∨ (0 : Int32) = 1 from by first | exact Or.inl rfl | exact Or.inr rfl | exact z_or (by omega)), (show IsLt (0 : Int32) p0 from (by unfold IsLt ltr; split <;> first | rfl | (exfalso; omega)))⟩) d_Tok_isLetter_35
      · have nc3 : p0.toInt = (95 : Int) := (i_eq (x := p0) (y := 95)).mp c3
        refine lv_iconst (v := 1) S.x S.b d_Tok_isLetter_30 (by decide) ?_
        refine lv_goto (tgt := 35) S.x S.b d_Tok_isLetter_31 (by decide) ?_
        exact px_iret (v := 1) S hr rfl hlk hAe hw (Nat.le_of_ble_eq_true rfl) (Nat.le_of_ble_eq_true rfl) (⟨rfl, (show (1 : Int32) = 0 ∨ (1 : Int32) = 1 from by first | exact Or.inl rfl | exact Or.inr rfl | exact z_or (by omega)), (show IsLt (1 : Int32) p0 from (by unfold IsLt ltr; split <;> first | rfl | (exfalso; omega)))⟩) d_Tok_isLetter_35
    · have nc2 : ¬ p0.toInt < (65 : Int) := mt (i_lt (x := p0) (y := 65)).mpr c2
      refine lv_iload_n S.x S.b d_Tok_isLetter_18 rfl (lv_at hl 0 rfl) ?_
      refine lv_bipush (v := 90) S.x S.b d_Tok_isLetter_19 (by decide) ?_
      refine lv_icmp_le (tgt := 30) S.x S.b d_Tok_isLetter_21 (by decide) (fun c4 => ?_) (fun c4 => ?_)
      · have nc4 : p0.toInt ≤ (90 : Int) := (i_le (x := p0) (y := 90)).mp c4
        refine lv_iconst (v := 1) S.x S.b d_Tok_isLetter_30 (by decide) ?_
        refine lv_goto (tgt := 35) S.x S.b d_Tok_isLetter_31 (by decide) ?_
        exact px_iret (v := 1) S hr rfl hlk hAe hw (Nat.le_of_ble_eq_true rfl) (Nat.le_of_ble_eq_true rfl) (⟨rfl, (show (1 : Int32) = 0 ∨ (1 : Int32) = 1 from by first | exact Or.inl rfl | exact Or.inr rfl | exact z_or (by omega)), (show IsLt (1 : Int32) p0 from (by unfold IsLt ltr; split <;> first | rfl | (exfalso; omega)))⟩) d_Tok_isLetter_35
      · have nc4 : ¬ p0.toInt ≤ (90 : Int) := mt (i_le (x := p0) (y := 90)).mpr c4
        refine lv_iload_n S.x S.b d_Tok_isLetter_24 rfl (lv_at hl 0 rfl) ?_
        refine lv_bipush (v := 95) S.x S.b d_Tok_isLetter_25 (by decide) ?_
        refine lv_icmp_ne (tgt := 34) S.x S.b d_Tok_isLetter_27 (by decide) (fun c5 => ?_) (fun c5 => ?_)
        · have nc5 : ¬ p0.toInt = (95 : Int) := mt (i_eq (x := p0) (y := 95)).mpr c5
          refine lv_iconst (v := 0) S.x S.b d_Tok_isLetter_34 (by decide) ?_
          exact px_iret (v := 0) S hr rfl hlk hAe hw (Nat.le_of_ble_eq_true rfl) (Nat.le_of_ble_eq_true rfl) (⟨rfl, (show (0 : Int32) = 0 ∨ (0 : Int32) = 1 from by first | exact Or.inl rfl | exact Or.inr rfl | exact z_or (by omega)), (show IsLt (0 : Int32) p0 from (by unfold IsLt ltr; split <;> first | rfl | (exfalso; omega)))⟩) d_Tok_isLetter_35
        · have nc5 : p0.toInt = (95 : Int) := (i_eq (x := p0) (y := 95)).mp c5
          refine lv_iconst (v := 1) S.x S.b d_Tok_isLetter_30 (by decide) ?_
          refine lv_goto (tgt := 35) S.x S.b d_Tok_isLetter_31 (by decide) ?_
          exact px_iret (v := 1) S hr rfl hlk hAe hw (Nat.le_of_ble_eq_true rfl) (Nat.le_of_ble_eq_true rfl) (⟨rfl, (show (1 : Int32) = 0 ∨ (1 : Int32) = 1 from by first | exact Or.inl rfl | exact Or.inr rfl | exact z_or (by omega)), (show IsLt (1 : Int32) p0 from (by unfold IsLt ltr; split <;> first | rfl | (exfalso; omega)))⟩) d_Tok_isLetter_35
  · have nc1 : ¬ p0.toInt < (97 : Int) := mt (i_lt (x := p0) (y := 97)).mpr c1
    refine lv_iload_n S.x S.b d_Tok_isLetter_6 rfl (lv_at hl 0 rfl) ?_
    refine lv_bipush (v := 122) S.x S.b d_Tok_isLetter_7 (by decide) ?_
    refine lv_icmp_le (tgt := 30) S.x S.b d_Tok_isLetter_9 (by decide) (fun c6 => ?_) (fun c6 => ?_)
    · have nc6 : p0.toInt ≤ (122 : Int) := (i_le (x := p0) (y := 122)).mp c6
      refine lv_iconst (v := 1) S.x S.b d_Tok_isLetter_30 (by decide) ?_
      refine lv_goto (tgt := 35) S.x S.b d_Tok_isLetter_31 (by decide) ?_
      exact px_iret (v := 1) S hr rfl hlk hAe hw (Nat.le_of_ble_eq_true rfl) (Nat.le_of_ble_eq_true rfl) (⟨rfl, (show (1 : Int32) = 0 ∨ (1 : Int32) = 1 from by first | exact Or.inl rfl | exact Or.inr rfl | exact z_or (by omega)), (show IsLt (1 : Int32) p0 from (by unfold IsLt ltr; split <;> first | rfl | (exfalso; omega)))⟩) d_Tok_isLetter_35
    · have nc6 : ¬ p0.toInt ≤ (122 : Int) := mt (i_le (x := p0) (y := 122)).mpr c6
      refine lv_iload_n S.x S.b d_Tok_isLetter_12 rfl (lv_at hl 0 rfl) ?_
      refine lv_bipush (v := 65) S.x S.b d_Tok_isLetter_13 (by decide) ?_
      refine lv_icmp_lt (tgt := 24) S.x S.b d_Tok_isLetter_15 (by decide) (fun c7 => ?_) (fun c7 => ?_)
      · have nc7 : p0.toInt < (65 : Int) := (i_lt (x := p0) (y := 65)).mp c7
        refine lv_iload_n S.x S.b d_Tok_isLetter_24 rfl (lv_at hl 0 rfl) ?_
        refine lv_bipush (v := 95) S.x S.b d_Tok_isLetter_25 (by decide) ?_
        refine lv_icmp_ne (tgt := 34) S.x S.b d_Tok_isLetter_27 (by decide) (fun c8 => ?_) (fun c8 => ?_)
        · have nc8 : ¬ p0.toInt = (95 : Int) := mt (i_eq (x := p0) (y := 95)).mpr c8
          refine lv_iconst (v := 0) S.x S.b d_Tok_isLetter_34 (by decide) ?_
          exact px_iret (v := 0) S hr rfl hlk hAe hw (Nat.le_of_ble_eq_true rfl) (Nat.le_of_ble_eq_true rfl) (⟨rfl, (show (0 : Int32) = 0 ∨ (0 : Int32) = 1 from by first | exact Or.inl rfl | exact Or.inr rfl | exact z_or (by omega)), (show IsLt (0 : Int32) p0 from (by unfold IsLt ltr; split <;> first | rfl | (exfalso; omega)))⟩) d_Tok_isLetter_35
        · have nc8 : p0.toInt = (95 : Int) := (i_eq (x := p0) (y := 95)).mp c8
          refine lv_iconst (v := 1) S.x S.b d_Tok_isLetter_30 (by decide) ?_
          refine lv_goto (tgt := 35) S.x S.b d_Tok_isLetter_31 (by decide) ?_
          exact px_iret (v := 1) S hr rfl hlk hAe hw (Nat.le_of_ble_eq_true rfl) (Nat.le_of_ble_eq_true rfl) (⟨rfl, (show (1 : Int32) = 0 ∨ (1 : Int32) = 1 from by first | exact Or.inl rfl | exact Or.inr rfl | exact z_or (by omega)), (show IsLt (1 : Int32) p0 from (by unfold IsLt ltr; split <;> first | rfl | (exfalso; omega)))⟩) d_Tok_isLetter_35
      · have nc7 : ¬ p0.toInt < (65 : Int) := mt (i_lt (x := p0) (y := 65)).mpr c7
        refine lv_iload_n S.x S.b d_Tok_isLetter_18 rfl (lv_at hl 0 rfl) ?_
        refine lv_bipush (v := 90) S.x S.b d_Tok_isLetter_19 (by decide) ?_
        refine lv_icmp_le (tgt := 30) S.x S.b d_Tok_isLetter_21 (by decide) (fun c9 => ?_) (fun c9 => ?_)
        · have nc9 : p0.toInt ≤ (90 : Int) := (i_le (x := p0) (y := 90)).mp c9
          refine lv_iconst (v := 1) S.x S.b d_Tok_isLetter_30 (by decide) ?_
          refine lv_goto (tgt := 35) S.x S.b d_Tok_isLetter_31 (by decide) ?_
          exact px_iret (v := 1) S hr rfl hlk hAe hw (Nat.le_of_ble_eq_true rfl) (Nat.le_of_ble_eq_true rfl) (⟨rfl, (show (1 : Int32) = 0 ∨ (1 : Int32) = 1 from by first | exact Or.inl rfl | exact Or.inr rfl | exact z_or (by omega)), (show IsLt (1 : Int32) p0 from (by unfold IsLt ltr; split <;> first | rfl | (exfalso; omega)))⟩) d_Tok_isLetter_35
        · have nc9 : ¬ p0.toInt ≤ (90 : Int) := mt (i_le (x := p0) (y := 90)).mpr c9
          refine lv_iload_n S.x S.b d_Tok_isLetter_24 rfl (lv_at hl 0 rfl) ?_
          refine lv_bipush (v := 95) S.x S.b d_Tok_isLetter_25 (by decide) ?_
          refine lv_icmp_ne (tgt := 34) S.x S.b d_Tok_isLetter_27 (by decide) (fun c10 => ?_) (fun c10 => ?_)
          · have nc10 : ¬ p0.toInt = (95 : Int) := mt (i_eq (x := p0) (y := 95)).mpr c10
            refine lv_iconst (v := 0) S.x S.b d_Tok_isLetter_34 (by decide) ?_
            exact px_iret (v := 0) S hr rfl hlk hAe hw (Nat.le_of_ble_eq_true rfl) (Nat.le_of_ble_eq_true rfl) (⟨rfl, (show (0 : Int32) = 0 ∨ (0 : Int32) = 1 from by first | exact Or.inl rfl | exact Or.inr rfl | exact z_or (by omega)), (show IsLt (0 : Int32) p0 from (by unfold IsLt ltr; split <;> first | rfl | (exfalso; omega)))⟩) d_Tok_isLetter_35
          · have nc10 : p0.toInt = (95 : Int) := (i_eq (x := p0) (y := 95)).mp c10
            refine lv_iconst (v := 1) S.x S.b d_Tok_isLetter_30 (by decide) ?_
            refine lv_goto (tgt := 35) S.x S.b d_Tok_isLetter_31 (by decide) ?_
            exact px_iret (v := 1) S hr rfl hlk hAe hw (Nat.le_of_ble_eq_true rfl) (Nat.le_of_ble_eq_true rfl) (⟨rfl, (show (1 : Int32) = 0 ∨ (1 : Int32) = 1 from by first | exact Or.inl rfl | exact Or.inr rfl | exact z_or (by omega)), (show IsLt (1 : Int32) p0 from (by unfold IsLt ltr; split <;> first | rfl | (exfalso; omega)))⟩) d_Tok_isLetter_35
set_option maxHeartbeats 4000000 in
set_option maxRecDepth 100000 in
theorem c_t2_isDigit (l : Launch) (D : va_G) (cs : Nat → ClassId)  (p0 : Int32)   : MetI l y_Tok_isDigit b_Tok_isDigit 1 (.boolean) D cs 0 0 (0) (0) [.int p0] [] (fun _ => True) (fun v ps => (ps = []) ∧ (v = 0 ∨ v = 1) ∧ (v.toInt = 1 → 48 ≤ p0.toInt)) := by
  refine px_enter (by decide) (Nat.le_of_ble_eq_true rfl) ?_
  intro p e s m below meth c A ls hAe S hr hlk hnm hA hT hX hw hl
  have hl : lv_has ls 1 [(0, .int p0)] := hl
  have lp0 := Int32.le_toInt p0
  have up0 := Int32.toInt_lt p0
  have cst0 : (0 : Int32).toInt = 0 := rfl
  have cst1 : (1 : Int32).toInt = 1 := rfl
  have cst48 : (48 : Int32).toInt = 48 := rfl
  have cst57 : (57 : Int32).toInt = 57 := rfl
  refine lv_iload_n S.x S.b d_Tok_isDigit_0 rfl (lv_at hl 0 rfl) ?_
  refine lv_bipush (v := 48) S.x S.b d_Tok_isDigit_1 (by decide) ?_
  refine lv_icmp_lt (tgt := 16) S.x S.b d_Tok_isDigit_3 (by decide) (fun c1 => ?_) (fun c1 => ?_)
  · have nc1 : p0.toInt < (48 : Int) := (i_lt (x := p0) (y := 48)).mp c1
    refine lv_iconst (v := 0) S.x S.b d_Tok_isDigit_16 (by decide) ?_
    exact px_iret (v := 0) S hr rfl hlk hAe hw (Nat.le_of_ble_eq_true rfl) (Nat.le_of_ble_eq_true rfl) (⟨rfl, (show (0 : Int32) = 0 ∨ (0 : Int32) = 1 from by first | exact Or.inl rfl | exact Or.inr rfl | exact z_or (by omega)), (show (0 : Int) = 1 → 48 ≤ p0.toInt from by first | with_reducible rfl | with_reducible assumption | omega)⟩) d_Tok_isDigit_17
  · have nc1 : ¬ p0.toInt < (48 : Int) := mt (i_lt (x := p0) (y := 48)).mpr c1
    refine lv_iload_n S.x S.b d_Tok_isDigit_6 rfl (lv_at hl 0 rfl) ?_
    refine lv_bipush (v := 57) S.x S.b d_Tok_isDigit_7 (by decide) ?_
    refine lv_icmp_gt (tgt := 16) S.x S.b d_Tok_isDigit_9 (by decide) (fun c2 => ?_) (fun c2 => ?_)
    · have nc2 : (57 : Int) < p0.toInt := (i_lt (x := 57) (y := p0)).mp c2
      refine lv_iconst (v := 0) S.x S.b d_Tok_isDigit_16 (by decide) ?_
      exact px_iret (v := 0) S hr rfl hlk hAe hw (Nat.le_of_ble_eq_true rfl) (Nat.le_of_ble_eq_true rfl) (⟨rfl, (show (0 : Int32) = 0 ∨ (0 : Int32) = 1 from by first | exact Or.inl rfl | exact Or.inr rfl | exact z_or (by omega)), (show (0 : Int) = 1 → 48 ≤ p0.toInt from by first | with_reducible rfl | with_reducible assumption | omega)⟩) d_Tok_isDigit_17
    · have nc2 : ¬ (57 : Int) < p0.toInt := mt (i_lt (x := 57) (y := p0)).mpr c2
      refine lv_iconst (v := 1) S.x S.b d_Tok_isDigit_12 (by decide) ?_
      refine lv_goto (tgt := 17) S.x S.b d_Tok_isDigit_13 (by decide) ?_
      exact px_iret (v := 1) S hr rfl hlk hAe hw (Nat.le_of_ble_eq_true rfl) (Nat.le_of_ble_eq_true rfl) (⟨rfl, (show (1 : Int32) = 0 ∨ (1 : Int32) = 1 from by first | exact Or.inl rfl | exact Or.inr rfl | exact z_or (by omega)), (show (1 : Int) = 1 → 48 ≤ p0.toInt from by first | with_reducible rfl | with_reducible assumption | omega)⟩) d_Tok_isDigit_17
set_option maxHeartbeats 4000000 in
set_option maxRecDepth 100000 in
theorem c_t2_byteAt (l : Launch) (D : va_G) (cs : Nat → ClassId) (h : Nat) (r : Nat → Nat) (tp : Nat) (tb : Nat → Int32) (g : Nat → Nat → Option Nat) (f : Nat → Int32) (a : Nat → Nat → Int32) (p0 : Int32)  (hinv0 : TokOk (f 7) (f 8) (f 10) (f 11) (f 12) (f 13) (f 17) (a 4)) : MetI l y_Tok_byteAt b_Tok_byteAt 2 (.int) D cs 0 0 (0) (0) [.ref h, .int p0] [wd_Tok cs h r (fun _ => some tp) f a g, [(tp, .inl (cs 1, 2048, .inl tb))]] (fun _ => True) (fun v ps => (ps = [wd_Tok cs h r (fun _ => some tp) f a g, [(tp, .inl (cs 1, 2048, .inl tb))]]) ∧ (-1 ≤ v.toInt) ∧ (v.toInt ≤ 255) ∧ (0 ≤ v.toInt → 0 ≤ p0.toInt ∧ p0.toInt < (f 7).toInt) ∧ (By tb (f 7) p0 v)) := by
  refine px_enter (by decide) (Nat.le_of_ble_eq_true rfl) ?_
  intro p e s m below meth c A ls hAe S hr hlk hnm hA hT hX hw hl
  have hl : lv_has ls 2 [(0, .ref h), (1, .int p0)] := hl
  have lp0 := Int32.le_toInt p0
  have up0 := Int32.toInt_lt p0
  have cstm1 : ((-1) : Int32).toInt = (-1) := rfl
  have cst255 : (255 : Int32).toInt = 255 := rfl
  obtain ⟨⟨o1, o2⟩, ⟨o3, o4⟩, ⟨o5, o6⟩, ⟨o7, o8⟩, ⟨o9, o10⟩, ⟨o11, o12⟩, o13, hn4⟩ := hinv0
  refine lv_aload_n S.x S.b d_Tok_byteAt_0 rfl (lv_at hl 0 rfl) ?_
  refine px_get S k_Tok hT hw 0 0 6 (v := .ref tp) rfl rfl rfl (by decide) m1_109 d_Tok_byteAt_1 ?_
  refine lv_ifnull S.x S.b d_Tok_byteAt_4 ?_
  refine lv_iload_n S.x S.b d_Tok_byteAt_7 rfl (lv_at hl 1 rfl) ?_
  refine lv_if_lt (tgt := 41) S.x S.b d_Tok_byteAt_8 (by decide) (fun c1 => ?_) (fun c1 => ?_)
  · have nc1 : p0.toInt < (0 : Int) := (i_lt (x := p0) (y := 0)).mp c1
    refine lv_iconst (v := (-1)) S.x S.b d_Tok_byteAt_41 (by decide) ?_
    exact px_iret (v := (-1)) S hr rfl hlk hAe hw (Nat.le_of_ble_eq_true rfl) (Nat.le_of_ble_eq_true rfl) (⟨rfl, (show -1 ≤ (-1 : Int) from by first | decide | omega), (show (-1 : Int) ≤ 255 from by first | decide | omega), (show 0 ≤ (-1 : Int) → 0 ≤ p0.toInt ∧ p0.toInt < (f 7).toInt from by first | with_reducible rfl | with_reducible assumption | omega), (show By tb (f 7) p0 (-1 : Int32) from (by intro hb1 hb2; first | (subst_vars; rfl) | (exfalso; omega)))⟩) d_Tok_byteAt_42
  · have nc1 : ¬ p0.toInt < (0 : Int) := mt (i_lt (x := p0) (y := 0)).mpr c1
    refine lv_iload_n S.x S.b d_Tok_byteAt_11 rfl (lv_at hl 1 rfl) ?_
    refine lv_aload_n S.x S.b d_Tok_byteAt_12 rfl (lv_at hl 0 rfl) ?_
    refine px_get S k_Tok hT hw 0 0 7 (v := .int (f 7)) rfl rfl rfl (by decide) m1_110 d_Tok_byteAt_13 ?_
    refine lv_icmp_ge (tgt := 41) S.x S.b d_Tok_byteAt_16 (by decide) (fun c2 => ?_) (fun c2 => ?_)
    · have nc2 : (f 7).toInt ≤ p0.toInt := (i_le (x := (f 7)) (y := p0)).mp c2
      refine lv_iconst (v := (-1)) S.x S.b d_Tok_byteAt_41 (by decide) ?_
      exact px_iret (v := (-1)) S hr rfl hlk hAe hw (Nat.le_of_ble_eq_true rfl) (Nat.le_of_ble_eq_true rfl) (⟨rfl, (show -1 ≤ (-1 : Int) from by first | decide | omega), (show (-1 : Int) ≤ 255 from by first | decide | omega), (show 0 ≤ (-1 : Int) → 0 ≤ p0.toInt ∧ p0.toInt < (f 7).toInt from by first | with_reducible rfl | with_reducible assumption | omega), (show By tb (f 7) p0 (-1 : Int32) from (by intro hb1 hb2; first | (subst_vars; rfl) | (exfalso; omega)))⟩) d_Tok_byteAt_42
    · have nc2 : ¬ (f 7).toInt ≤ p0.toInt := mt (i_le (x := (f 7)) (y := p0)).mpr c2
      refine lv_iload_n S.x S.b d_Tok_byteAt_19 rfl (lv_at hl 1 rfl) ?_
      refine lv_aload_n S.x S.b d_Tok_byteAt_20 rfl (lv_at hl 0 rfl) ?_
      refine px_get S k_Tok hT hw 0 0 6 (v := .ref tp) rfl rfl rfl (by decide) m1_109 d_Tok_byteAt_21 ?_
      refine px_len S hT hw 1 0 1 rfl rfl rfl (v := 2048) rfl d_Tok_byteAt_24 ?_
      refine lv_icmp_ge (tgt := 41) S.x S.b d_Tok_byteAt_25 (by decide) (fun c3 => ?_) (fun c3 => ?_)
      · have nc3 : (2048 : Int) ≤ p0.toInt := (i_le (x := 2048) (y := p0)).mp c3
        refine lv_iconst (v := (-1)) S.x S.b d_Tok_byteAt_41 (by decide) ?_
        exact px_iret (v := (-1)) S hr rfl hlk hAe hw (Nat.le_of_ble_eq_true rfl) (Nat.le_of_ble_eq_true rfl) (⟨rfl, (show -1 ≤ (-1 : Int) from by first | decide | omega), (show (-1 : Int) ≤ 255 from by first | decide | omega), (show 0 ≤ (-1 : Int) → 0 ≤ p0.toInt ∧ p0.toInt < (f 7).toInt from by first | with_reducible rfl | with_reducible assumption | omega), (show By tb (f 7) p0 (-1 : Int32) from (by intro hb1 hb2; first | (subst_vars; rfl) | (exfalso; omega)))⟩) d_Tok_byteAt_42
      · have nc3 : ¬ (2048 : Int) ≤ p0.toInt := mt (i_le (x := 2048) (y := p0)).mpr c3
        refine lv_aload_n S.x S.b d_Tok_byteAt_28 rfl (lv_at hl 0 rfl) ?_
        refine px_get S k_Tok hT hw 0 0 6 (v := .ref tp) rfl rfl rfl (by decide) m1_109 d_Tok_byteAt_29 ?_
        refine lv_iload_n S.x S.b d_Tok_byteAt_32 rfl (lv_at hl 1 rfl) ?_
        refine px_bald S hT hw 1 0 (n := 2048) (f := tb) rfl rfl (x := p0) (vp_in_iff.mpr (by first | exact oz_f4db95235a nc1 nc3 | (constructor <;> omega))) d_Tok_byteAt_33 ?_
        refine lv_topi (fun z4 ez4 => ?_)
        have lz4 := Int32.le_toInt z4
        have uz4 := Int32.toInt_lt z4
        refine lv_sipush (v := 255) S.x S.b d_Tok_byteAt_34 (by decide) ?_
        refine lv_iand S.x S.b d_Tok_byteAt_37 ?_
        refine lv_topi (fun z5 ez5 => ?_)
        have lz5 := Int32.le_toInt z5
        have uz5 := Int32.toInt_lt z5
        have bz5 := i_andm z4 (m := 255) 8 (by decide) (by decide)
        rw [← ez5] at bz5
        have wz5 : 0 ≤ z5.toInt ∧ z5.toInt ≤ 255 := by simp only [Nat.reducePow, Int.reducePow] at bz5; omega
        refine lv_goto (tgt := 42) S.x S.b d_Tok_byteAt_38 (by decide) ?_
        first | exact px_iret (v := z5) S hr rfl hlk hAe hw (Nat.le_of_ble_eq_true rfl) (Nat.le_of_ble_eq_true rfl) (⟨rfl, (show -1 ≤ z5.toInt from (oz_bd82420902 wz5.1)), (show z5.toInt ≤ 255 from wz5.2), (show 0 ≤ z5.toInt → 0 ≤ p0.toInt ∧ p0.toInt < (f 7).toInt from (fun q9 => oz_a1372f8c53 nc1 nc2)), (show By tb (f 7) p0 z5 from (by intro hb1 hb2; first | (subst_vars; rfl) | (exfalso; omega)))⟩) d_Tok_byteAt_42 | exact px_iret (v := z5) S hr rfl hlk hAe hw (Nat.le_of_ble_eq_true rfl) (Nat.le_of_ble_eq_true rfl) (⟨rfl, (show -1 ≤ z5.toInt from by first | exact oz_bd82420902 wz5.1 | omega), (show z5.toInt ≤ 255 from by first | exact wz5.2 | omega), (show 0 ≤ z5.toInt → 0 ≤ p0.toInt ∧ p0.toInt < (f 7).toInt from by first | exact fun q9 => oz_a1372f8c53 nc1 nc2 | omega), (show By tb (f 7) p0 z5 from (by intro hb1 hb2; first | (subst_vars; rfl) | (exfalso; omega)))⟩) d_Tok_byteAt_42
set_option maxHeartbeats 4000000 in
set_option maxRecDepth 100000 in
theorem c_t2_lineEnd (l : Launch) (D : va_G) (cs : Nat → ClassId) (h : Nat) (r : Nat → Nat) (tp : Nat) (tb : Nat → Int32) (g : Nat → Nat → Option Nat) (f : Nat → Int32) (a : Nat → Nat → Int32)  (hinv0 : TokOk (f 7) (f 8) (f 10) (f 11) (f 12) (f 13) (f 17) (a 4)) : MetI l y_Tok_lineEnd b_Tok_lineEnd 2 (.int) D cs 1 21 (0) (0) [.ref h] [wd_Tok cs h r (fun _ => some tp) f a g, [(tp, .inl (cs 1, 2048, .inl tb))]] (fun _ => True) (fun v ps => (ps = [wd_Tok cs h r (fun _ => some tp) f a g, [(tp, .inl (cs 1, 2048, .inl tb))]]) ∧ (0 ≤ v.toInt) ∧ (v.toInt ≤ (f 7).toInt+8) ∧ ((f 8).toInt ≤ (f 7).toInt → (f 8).toInt ≤ v.toInt)) := by
  refine px_enter (by decide) (Nat.le_of_ble_eq_true rfl) ?_
  intro p e s m below meth c A ls hAe S hr hlk hnm hA hT hX hw hl
  have hl : lv_has ls 2 [(0, .ref h)] := hl
  have cst10 : (10 : Int32).toInt = 10 := rfl
  obtain ⟨⟨o1, o2⟩, ⟨o3, o4⟩, ⟨o5, o6⟩, ⟨o7, o8⟩, ⟨o9, o10⟩, ⟨o11, o12⟩, o13, hn4⟩ := hinv0
  have J5 : ∀ (n_5 : Nat)  (x5_1 : Int32) (H : Heap) (locs : List Loc) (ls : Array Slot), ((f 8).toInt ≤ x5_1.toInt) → (x5_1.toInt ≤ (f 7).toInt+8) → (f 7).toInt+16-x5_1.toInt < (n_5 : Int) → pw D A s.heap H locs [wd_Tok cs h r (fun _ => some tp) f a g, [(tp, .inl (cs 1, 2048, .inl tb))]] → lv_has ls 2 [(0, .ref h), (1, .int x5_1)] → W p l e { frames := 1, cells := 0, slots := 0, locals := 21 } s m [.ref h].toArray below meth c H locs 0 0 (MQ below (va_Qi (fun v ps => (ps = [wd_Tok cs h r (fun _ => some tp) f a g, [(tp, .inl (cs 1, 2048, .inl tb))]]) ∧ (0 ≤ v.toInt) ∧ (v.toInt ≤ (f 7).toInt+8) ∧ ((f 8).toInt ≤ (f 7).toInt → (f 8).toInt ≤ v.toInt)) (pc_B D (va_A ([wd_Tok cs h r (fun _ => some tp) f a g, [(tp, .inl (cs 1, 2048, .inl tb))]] : List va_W).flatten s.heap.size)) (va_A ([wd_Tok cs h r (fun _ => some tp) f a g, [(tp, .inl (cs 1, 2048, .inl tb))]] : List va_W).flatten s.heap.size)) [.ref h].toArray s 0 0 A) (F0 m 5 ls []) := by
    intro  n_5
    induction n_5 with
    | zero =>
      intro x5_1 H locs ls k5_0 k5_1 hm hw hl
      have lx5_1 := Int32.le_toInt x5_1
      have ux5_1 := Int32.toInt_lt x5_1
      exact absurd hm (by omega)
    | succ n_5 ih5 =>
      intro x5_1 H locs ls k5_0 k5_1 hm hw hl
      have lx5_1 := Int32.le_toInt x5_1
      have ux5_1 := Int32.toInt_lt x5_1
      refine lv_iload_n S.x S.b d_Tok_lineEnd_5 rfl (lv_at hl 1 rfl) ?_
      refine lv_aload_n S.x S.b d_Tok_lineEnd_6 rfl (lv_at hl 0 rfl) ?_
      refine px_get S k_Tok hT hw 0 0 7 (v := .int (f 7)) rfl rfl rfl (by decide) m1_110 d_Tok_lineEnd_7 ?_
      refine lv_icmp_ge (tgt := 31) S.x S.b d_Tok_lineEnd_10 (by decide) (fun c1 => ?_) (fun c1 => ?_)
      · have nc1 : (f 7).toInt ≤ x5_1.toInt := (i_le (x := (f 7)) (y := x5_1)).mp c1
        refine lv_aload_n S.x S.b d_Tok_lineEnd_31 rfl (lv_at hl 0 rfl) ?_
        refine px_get S k_Tok hT hw 0 0 7 (v := .int (f 7)) rfl rfl rfl (by decide) m1_110 d_Tok_lineEnd_32 ?_
        first | exact px_iret (v := (f 7)) S hr rfl hlk hAe hw (Nat.le_of_ble_eq_true rfl) (Nat.le_of_ble_eq_true rfl) (⟨rfl, (show 0 ≤ (f 7).toInt from o1), (show (f 7).toInt ≤ (f 7).toInt+8 from oz_9583a53679), (show (f 8).toInt ≤ (f 7).toInt → (f 8).toInt ≤ (f 7).toInt from (fun q9 => q9))⟩) d_Tok_lineEnd_35 | exact px_iret (v := (f 7)) S hr rfl hlk hAe hw (Nat.le_of_ble_eq_true rfl) (Nat.le_of_ble_eq_true rfl) (⟨rfl, (show 0 ≤ (f 7).toInt from by first | exact o1 | omega), (show (f 7).toInt ≤ (f 7).toInt+8 from by first | exact oz_9583a53679 | omega), (show (f 8).toInt ≤ (f 7).toInt → (f 8).toInt ≤ (f 7).toInt from by first | exact fun q9 => q9 | omega)⟩) d_Tok_lineEnd_35
      · have nc1 : ¬ (f 7).toInt ≤ x5_1.toInt := mt (i_le (x := (f 7)) (y := x5_1)).mpr c1
        refine lv_aload_n S.x S.b d_Tok_lineEnd_13 rfl (lv_at hl 0 rfl) ?_
        refine lv_iload_n S.x S.b d_Tok_lineEnd_14 rfl (lv_at hl 1 rfl) ?_
        first | refine px_calli (pr := []) (px_runV (As := [.int x5_1]) (rest := []) S (c_Tok_byteAt l D cs h r tp tb f a g x5_1 (show TokOk (f 7) (f 8) (f 10) (f 11) (f 12) (f 13) (f 17) (a 4) from ⟨⟨o1, o2⟩, ⟨o3, o4⟩, ⟨o5, o6⟩, ⟨o7, o8⟩, ⟨o9, o10⟩, ⟨o11, o12⟩, o13, hn4⟩)  _) hT (pr := []) (pcs := [wd_Tok cs h r (fun _ => some tp) f a g, [(tp, .inl (cs 1, 2048, .inl tb))]]) hw px_X.tt (px_recv hT hw 0 0 rfl rfl rfl) m3_186 m3_183 m3_185 ms_1_6 m1_2 q_Tok_byteAt ⟨Nat.le_of_ble_eq_true rfl, Nat.le_of_ble_eq_true rfl⟩ hl.1 rfl (Nat.le_of_ble_eq_true rfl) d_Tok_lineEnd_15 ⟨Nat.le_of_ble_eq_true rfl, Nat.le_of_ble_eq_true rfl⟩) hw hA (fun v5 p4 H locs hp4 hw => ?_) | refine px_calli (pr := []) (px_runV (As := [.int x5_1]) (rest := []) S (c_Tok_byteAt l D cs h r tp tb f a g x5_1 (show TokOk (f 7) (f 8) (f 10) (f 11) (f 12) (f 13) (f 17) (a 4) from ⟨⟨by first | exact o1 | omega, by first | exact o2 | omega⟩, ⟨by first | exact o3 | omega, by first | exact o4 | omega⟩, ⟨by first | exact o5 | omega, by first | exact o6 | omega⟩, ⟨by first | exact o7 | omega, by first | exact o8 | omega⟩, ⟨by first | exact o9 | omega, by first | exact o10 | omega⟩, ⟨by first | exact o11 | omega, by first | exact o12 | omega⟩, by first | exact o13 | omega, hn4⟩)  _) hT (pr := []) (pcs := [wd_Tok cs h r (fun _ => some tp) f a g, [(tp, .inl (cs 1, 2048, .inl tb))]]) hw px_X.tt (px_recv hT hw 0 0 rfl rfl rfl) m3_186 m3_183 m3_185 ms_1_6 m1_2 q_Tok_byteAt ⟨Nat.le_of_ble_eq_true rfl, Nat.le_of_ble_eq_true rfl⟩ hl.1 rfl (Nat.le_of_ble_eq_true rfl) d_Tok_lineEnd_15 ⟨Nat.le_of_ble_eq_true rfl, Nat.le_of_ble_eq_true rfl⟩) hw hA (fun v5 p4 H locs hp4 hw => ?_)
        obtain ⟨rfl, e6, e7, e8⟩ := hp4
        have e6 : -1 ≤ v5.toInt := e6
        have e7 : v5.toInt ≤ 255 := e7
        have e8 : 0 ≤ v5.toInt → 0 ≤ x5_1.toInt ∧ x5_1.toInt < (f 7).toInt := e8
        have lv5 := Int32.le_toInt v5
        have uv5 := Int32.toInt_lt v5
        refine lv_bipush (v := 10) S.x S.b d_Tok_lineEnd_18 (by decide) ?_
        refine lv_icmp_ne (tgt := 25) S.x S.b d_Tok_lineEnd_20 (by decide) (fun c9 => ?_) (fun c9 => ?_)
        · have nc9 : ¬ v5.toInt = (10 : Int) := mt (i_eq (x := v5) (y := 10)).mpr c9
          obtain ⟨z10, ez10⟩ : ∃ y : Int32, y = x5_1 + 1 := ⟨_, rfl⟩
          have tz10 : z10.toInt = (x5_1.toInt + 1 + 2147483648) % 4294967296 - 2147483648 := by rw [ez10]; exact i_add x5_1 1
          have lz10 := Int32.le_toInt z10
          have uz10 := Int32.toInt_lt z10
          try replace tz10 : z10.toInt = x5_1.toInt + 1 := by omega
          refine lv_iinc (v := z10) (lv' := [(1, .int z10), (0, .ref h)]) S.x S.b d_Tok_lineEnd_25 hl (k := 1) rfl (by rw [ez10]; rfl) (by decide) rfl (fun ls hl => ?_)
          refine lv_goto (tgt := 5) S.x S.b d_Tok_lineEnd_28 (by decide) ?_
          first | exact ih5 z10 _ _ ls (show (f 8).toInt ≤ z10.toInt from (oz_887c409de9 k5_0 tz10)) (show z10.toInt ≤ (f 7).toInt+8 from (oz_1e5ac0e216 nc1 tz10)) (show (f 7).toInt+16-z10.toInt < (n_5 : Int) from (oz_f6c959245f hm tz10)) hw (lv_sub hl [1, 0] rfl) | exact ih5 z10 _ _ ls (show (f 8).toInt ≤ z10.toInt from by first | exact oz_887c409de9 k5_0 tz10 | omega) (show z10.toInt ≤ (f 7).toInt+8 from by first | exact oz_1e5ac0e216 nc1 tz10 | omega) (show (f 7).toInt+16-z10.toInt < (n_5 : Int) from by first | exact oz_f6c959245f hm tz10 | omega) hw (lv_sub hl [1, 0] rfl)
        · have nc9 : v5.toInt = (10 : Int) := (i_eq (x := v5) (y := 10)).mp c9
          refine lv_iload_n S.x S.b d_Tok_lineEnd_23 rfl (lv_at hl 1 rfl) ?_
          first | exact px_iret (v := x5_1) S hr rfl hlk hAe hw (Nat.le_of_ble_eq_true rfl) (Nat.le_of_ble_eq_true rfl) (⟨rfl, (show 0 ≤ x5_1.toInt from (oz_16d7fa9f32 k5_0 o3)), (show x5_1.toInt ≤ (f 7).toInt+8 from k5_1), (show (f 8).toInt ≤ (f 7).toInt → (f 8).toInt ≤ x5_1.toInt from (fun q9 => k5_0))⟩) d_Tok_lineEnd_24 | exact px_iret (v := x5_1) S hr rfl hlk hAe hw (Nat.le_of_ble_eq_true rfl) (Nat.le_of_ble_eq_true rfl) (⟨rfl, (show 0 ≤ x5_1.toInt from by first | exact oz_16d7fa9f32 k5_0 o3 | omega), (show x5_1.toInt ≤ (f 7).toInt+8 from by first | exact k5_1 | omega), (show (f 8).toInt ≤ (f 7).toInt → (f 8).toInt ≤ x5_1.toInt from by first | exact fun q9 => k5_0 | omega)⟩) d_Tok_lineEnd_24
  refine lv_aload_n S.x S.b d_Tok_lineEnd_0 rfl (lv_at hl 0 rfl) ?_
  refine px_get S k_Tok hT hw 0 0 8 (v := .int (f 8)) rfl rfl rfl (by decide) m1_111 d_Tok_lineEnd_1 ?_
  refine lv_istore_n (lv' := [(1, .int (f 8)), (0, .ref h)]) S.x S.b d_Tok_lineEnd_4 rfl hl (by decide) rfl (fun ls hl => ?_)
  first | exact J5 (((f 7).toInt+16-(f 8).toInt).toNat + 1) (f 8) _ _ ls (show (f 8).toInt ≤ (f 8).toInt from oz_1cb5f934a5) (show (f 8).toInt ≤ (f 7).toInt+8 from (oz_6f0a04008e o4)) (show (f 7).toInt+16-(f 8).toInt < (((((f 7).toInt+16-(f 8).toInt).toNat + 1 : Nat) : Int) : Int) from oz_natlt) hw (lv_sub hl [1, 0] rfl) | exact J5 (((f 7).toInt+16-(f 8).toInt).toNat + 1) (f 8) _ _ ls (show (f 8).toInt ≤ (f 8).toInt from by first | exact oz_1cb5f934a5 | omega) (show (f 8).toInt ≤ (f 7).toInt+8 from by first | exact oz_6f0a04008e o4 | omega) (show (f 7).toInt+16-(f 8).toInt < (((((f 7).toInt+16-(f 8).toInt).toNat + 1 : Nat) : Int) : Int) from by first | exact oz_natlt | omega) hw (lv_sub hl [1, 0] rfl)
set_option maxHeartbeats 4000000 in
set_option maxRecDepth 100000 in
theorem c_t2_commentEnd (l : Launch) (D : va_G) (cs : Nat → ClassId) (h : Nat) (r : Nat → Nat) (tp : Nat) (tb : Nat → Int32) (g : Nat → Nat → Option Nat) (f : Nat → Int32) (a : Nat → Nat → Int32)  (hinv0 : TokOk (f 7) (f 8) (f 10) (f 11) (f 12) (f 13) (f 17) (a 4)) : MetI l y_Tok_commentEnd b_Tok_commentEnd 2 (.int) D cs 1 22 (0) (0) [.ref h] [wd_Tok cs h r (fun _ => some tp) f a g, [(tp, .inl (cs 1, 2048, .inl tb))]] (fun _ => True) (fun v ps => (ps = [wd_Tok cs h r (fun _ => some tp) f a g, [(tp, .inl (cs 1, 2048, .inl tb))]]) ∧ (0 ≤ v.toInt) ∧ (v.toInt ≤ (f 7).toInt+8) ∧ ((f 8).toInt ≤ v.toInt)) := by
  refine px_enter (by decide) (Nat.le_of_ble_eq_true rfl) ?_
  intro p e s m below meth c A ls hAe S hr hlk hnm hA hT hX hw hl
  have hl : lv_has ls 2 [(0, .ref h)] := hl
  have cst1 : (1 : Int32).toInt = 1 := rfl
  have cst2 : (2 : Int32).toInt = 2 := rfl
  have cst42 : (42 : Int32).toInt = 42 := rfl
  have cst47 : (47 : Int32).toInt = 47 := rfl
  obtain ⟨⟨o1, o2⟩, ⟨o3, o4⟩, ⟨o5, o6⟩, ⟨o7, o8⟩, ⟨o9, o10⟩, ⟨o11, o12⟩, o13, hn4⟩ := hinv0
  have J7 : ∀ (n_7 : Nat)  (x7_1 : Int32) (H : Heap) (locs : List Loc) (ls : Array Slot), ((f 8).toInt ≤ x7_1.toInt) → (x7_1.toInt ≤ (f 7).toInt+10) → (f 7).toInt+16-x7_1.toInt < (n_7 : Int) → pw D A s.heap H locs [wd_Tok cs h r (fun _ => some tp) f a g, [(tp, .inl (cs 1, 2048, .inl tb))]] → lv_has ls 2 [(0, .ref h), (1, .int x7_1)] → W p l e { frames := 1, cells := 0, slots := 0, locals := 22 } s m [.ref h].toArray below meth c H locs 0 0 (MQ below (va_Qi (fun v ps => (ps = [wd_Tok cs h r (fun _ => some tp) f a g, [(tp, .inl (cs 1, 2048, .inl tb))]]) ∧ (0 ≤ v.toInt) ∧ (v.toInt ≤ (f 7).toInt+8) ∧ ((f 8).toInt ≤ v.toInt)) (pc_B D (va_A ([wd_Tok cs h r (fun _ => some tp) f a g, [(tp, .inl (cs 1, 2048, .inl tb))]] : List va_W).flatten s.heap.size)) (va_A ([wd_Tok cs h r (fun _ => some tp) f a g, [(tp, .inl (cs 1, 2048, .inl tb))]] : List va_W).flatten s.heap.size)) [.ref h].toArray s 0 0 A) (F0 m 7 ls []) := by
    intro  n_7
    induction n_7 with
    | zero =>
      intro x7_1 H locs ls k7_0 k7_1 hm hw hl
      have lx7_1 := Int32.le_toInt x7_1
      have ux7_1 := Int32.toInt_lt x7_1
      exact absurd hm (by omega)
    | succ n_7 ih7 =>
      intro x7_1 H locs ls k7_0 k7_1 hm hw hl
      have lx7_1 := Int32.le_toInt x7_1
      have ux7_1 := Int32.toInt_lt x7_1
      refine lv_iload_n S.x S.b d_Tok_commentEnd_7 rfl (lv_at hl 1 rfl) ?_
      refine lv_aload_n S.x S.b d_Tok_commentEnd_8 rfl (lv_at hl 0 rfl) ?_
      refine px_get S k_Tok hT hw 0 0 7 (v := .int (f 7)) rfl rfl rfl (by decide) m1_110 d_Tok_commentEnd_9 ?_
      refine lv_iconst (v := 1) S.x S.b d_Tok_commentEnd_12 (by decide) ?_
      refine lv_isub S.x S.b d_Tok_commentEnd_13 ?_
      have lr1 := Int32.le_toInt (f 7)
      have ur1 := Int32.toInt_lt (f 7)
      refine lv_topi (fun z2 ez2 => ?_)
      have tz2 : z2.toInt = ((f 7).toInt - (1 : Int) + 2147483648) % 4294967296 - 2147483648 := by rw [ez2]; exact i_sub (f 7) 1
      have lz2 := Int32.le_toInt z2
      have uz2 := Int32.toInt_lt z2
      try replace tz2 : z2.toInt = (f 7).toInt - (1 : Int) := by omega
      refine lv_icmp_ge (tgt := 49) S.x S.b d_Tok_commentEnd_14 (by decide) (fun c3 => ?_) (fun c3 => ?_)
      · have nc3 : z2.toInt ≤ x7_1.toInt := (i_le (x := z2) (y := x7_1)).mp c3
        refine lv_aload_n S.x S.b d_Tok_commentEnd_49 rfl (lv_at hl 0 rfl) ?_
        refine px_get S k_Tok hT hw 0 0 8 (v := .int (f 8)) rfl rfl rfl (by decide) m1_111 d_Tok_commentEnd_50 ?_
        first | exact px_iret (v := (f 8)) S hr rfl hlk hAe hw (Nat.le_of_ble_eq_true rfl) (Nat.le_of_ble_eq_true rfl) (⟨rfl, (show 0 ≤ (f 8).toInt from o3), (show (f 8).toInt ≤ (f 7).toInt+8 from (oz_6f0a04008e o4)), (show (f 8).toInt ≤ (f 8).toInt from oz_1cb5f934a5)⟩) d_Tok_commentEnd_53 | exact px_iret (v := (f 8)) S hr rfl hlk hAe hw (Nat.le_of_ble_eq_true rfl) (Nat.le_of_ble_eq_true rfl) (⟨rfl, (show 0 ≤ (f 8).toInt from by first | exact o3 | omega), (show (f 8).toInt ≤ (f 7).toInt+8 from by first | exact oz_6f0a04008e o4 | omega), (show (f 8).toInt ≤ (f 8).toInt from by first | exact oz_1cb5f934a5 | omega)⟩) d_Tok_commentEnd_53
      · have nc3 : ¬ z2.toInt ≤ x7_1.toInt := mt (i_le (x := z2) (y := x7_1)).mpr c3
        refine lv_aload_n S.x S.b d_Tok_commentEnd_17 rfl (lv_at hl 0 rfl) ?_
        refine lv_iload_n S.x S.b d_Tok_commentEnd_18 rfl (lv_at hl 1 rfl) ?_
        first | refine px_calli (pr := []) (px_runV (As := [.int x7_1]) (rest := []) S (c_Tok_byteAt l D cs h r tp tb f a g x7_1 (show TokOk (f 7) (f 8) (f 10) (f 11) (f 12) (f 13) (f 17) (a 4) from ⟨⟨o1, o2⟩, ⟨o3, o4⟩, ⟨o5, o6⟩, ⟨o7, o8⟩, ⟨o9, o10⟩, ⟨o11, o12⟩, o13, hn4⟩)  _) hT (pr := []) (pcs := [wd_Tok cs h r (fun _ => some tp) f a g, [(tp, .inl (cs 1, 2048, .inl tb))]]) hw px_X.tt (px_recv hT hw 0 0 rfl rfl rfl) m3_186 m3_183 m3_185 ms_1_6 m1_2 q_Tok_byteAt ⟨Nat.le_of_ble_eq_true rfl, Nat.le_of_ble_eq_true rfl⟩ hl.1 rfl (Nat.le_of_ble_eq_true rfl) d_Tok_commentEnd_19 ⟨Nat.le_of_ble_eq_true rfl, Nat.le_of_ble_eq_true rfl⟩) hw hA (fun v7 p6 H locs hp6 hw => ?_) | refine px_calli (pr := []) (px_runV (As := [.int x7_1]) (rest := []) S (c_Tok_byteAt l D cs h r tp tb f a g x7_1 (show TokOk (f 7) (f 8) (f 10) (f 11) (f 12) (f 13) (f 17) (a 4) from ⟨⟨by first | exact o1 | omega, by first | exact o2 | omega⟩, ⟨by first | exact o3 | omega, by first | exact o4 | omega⟩, ⟨by first | exact o5 | omega, by first | exact o6 | omega⟩, ⟨by first | exact o7 | omega, by first | exact o8 | omega⟩, ⟨by first | exact o9 | omega, by first | exact o10 | omega⟩, ⟨by first | exact o11 | omega, by first | exact o12 | omega⟩, by first | exact o13 | omega, hn4⟩)  _) hT (pr := []) (pcs := [wd_Tok cs h r (fun _ => some tp) f a g, [(tp, .inl (cs 1, 2048, .inl tb))]]) hw px_X.tt (px_recv hT hw 0 0 rfl rfl rfl) m3_186 m3_183 m3_185 ms_1_6 m1_2 q_Tok_byteAt ⟨Nat.le_of_ble_eq_true rfl, Nat.le_of_ble_eq_true rfl⟩ hl.1 rfl (Nat.le_of_ble_eq_true rfl) d_Tok_commentEnd_19 ⟨Nat.le_of_ble_eq_true rfl, Nat.le_of_ble_eq_true rfl⟩) hw hA (fun v7 p6 H locs hp6 hw => ?_)
        obtain ⟨rfl, e8, e9, e10⟩ := hp6
        have e8 : -1 ≤ v7.toInt := e8
        have e9 : v7.toInt ≤ 255 := e9
        have e10 : 0 ≤ v7.toInt → 0 ≤ x7_1.toInt ∧ x7_1.toInt < (f 7).toInt := e10
        have lv7 := Int32.le_toInt v7
        have uv7 := Int32.toInt_lt v7
        refine lv_bipush (v := 42) S.x S.b d_Tok_commentEnd_22 (by decide) ?_
        refine lv_icmp_ne (tgt := 43) S.x S.b d_Tok_commentEnd_24 (by decide) (fun c11 => ?_) (fun c11 => ?_)
        · have nc11 : ¬ v7.toInt = (42 : Int) := mt (i_eq (x := v7) (y := 42)).mpr c11
          obtain ⟨z12, ez12⟩ : ∃ y : Int32, y = x7_1 + 1 := ⟨_, rfl⟩
          have tz12 : z12.toInt = (x7_1.toInt + 1 + 2147483648) % 4294967296 - 2147483648 := by rw [ez12]; exact i_add x7_1 1
          have lz12 := Int32.le_toInt z12
          have uz12 := Int32.toInt_lt z12
          try replace tz12 : z12.toInt = x7_1.toInt + 1 := by omega
          refine lv_iinc (v := z12) (lv' := [(1, .int z12), (0, .ref h)]) S.x S.b d_Tok_commentEnd_43 hl (k := 1) rfl (by rw [ez12]; rfl) (by decide) rfl (fun ls hl => ?_)
          refine lv_goto (tgt := 7) S.x S.b d_Tok_commentEnd_46 (by decide) ?_
          first | exact ih7 z12 _ _ ls (show (f 8).toInt ≤ z12.toInt from (oz_887c409de9 k7_0 tz12)) (show z12.toInt ≤ (f 7).toInt+10 from (oz_dac6a77683 tz2 tz12 nc3)) (show (f 7).toInt+16-z12.toInt < (n_7 : Int) from (oz_f6c959245f hm tz12)) hw (lv_sub hl [1, 0] rfl) | exact ih7 z12 _ _ ls (show (f 8).toInt ≤ z12.toInt from by first | exact oz_887c409de9 k7_0 tz12 | omega) (show z12.toInt ≤ (f 7).toInt+10 from by first | exact oz_dac6a77683 tz2 tz12 nc3 | omega) (show (f 7).toInt+16-z12.toInt < (n_7 : Int) from by first | exact oz_f6c959245f hm tz12 | omega) hw (lv_sub hl [1, 0] rfl)
        · have nc11 : v7.toInt = (42 : Int) := (i_eq (x := v7) (y := 42)).mp c11
          refine lv_aload_n S.x S.b d_Tok_commentEnd_27 rfl (lv_at hl 0 rfl) ?_
          refine lv_iload_n S.x S.b d_Tok_commentEnd_28 rfl (lv_at hl 1 rfl) ?_
          refine lv_iconst (v := 1) S.x S.b d_Tok_commentEnd_29 (by decide) ?_
          refine lv_iadd S.x S.b d_Tok_commentEnd_30 ?_
          refine lv_topi (fun z13 ez13 => ?_)
          have tz13 : z13.toInt = (x7_1.toInt + (1 : Int) + 2147483648) % 4294967296 - 2147483648 := by rw [ez13]; exact i_add x7_1 1
          have lz13 := Int32.le_toInt z13
          have uz13 := Int32.toInt_lt z13
          try replace tz13 : z13.toInt = x7_1.toInt + (1 : Int) := by omega
          first | refine px_calli (pr := []) (px_runV (As := [.int z13]) (rest := []) S (c_Tok_byteAt l D cs h r tp tb f a g z13 (show TokOk (f 7) (f 8) (f 10) (f 11) (f 12) (f 13) (f 17) (a 4) from ⟨⟨o1, o2⟩, ⟨o3, o4⟩, ⟨o5, o6⟩, ⟨o7, o8⟩, ⟨o9, o10⟩, ⟨o11, o12⟩, o13, hn4⟩)  _) hT (pr := []) (pcs := [wd_Tok cs h r (fun _ => some tp) f a g, [(tp, .inl (cs 1, 2048, .inl tb))]]) hw px_X.tt (px_recv hT hw 0 0 rfl rfl rfl) m3_186 m3_183 m3_185 ms_1_6 m1_2 q_Tok_byteAt ⟨Nat.le_of_ble_eq_true rfl, Nat.le_of_ble_eq_true rfl⟩ hl.1 rfl (Nat.le_of_ble_eq_true rfl) d_Tok_commentEnd_31 ⟨Nat.le_of_ble_eq_true rfl, Nat.le_of_ble_eq_true rfl⟩) hw hA (fun v17 p16 H locs hp16 hw => ?_) | refine px_calli (pr := []) (px_runV (As := [.int z13]) (rest := []) S (c_Tok_byteAt l D cs h r tp tb f a g z13 (show TokOk (f 7) (f 8) (f 10) (f 11) (f 12) (f 13) (f 17) (a 4) from ⟨⟨by first | exact o1 | omega, by first | exact o2 | omega⟩, ⟨by first | exact o3 | omega, by first | exact o4 | omega⟩, ⟨by first | exact o5 | omega, by first | exact o6 | omega⟩, ⟨by first | exact o7 | omega, by first | exact o8 | omega⟩, ⟨by first | exact o9 | omega, by first | exact o10 | omega⟩, ⟨by first | exact o11 | omega, by first | exact o12 | omega⟩, by first | exact o13 | omega, hn4⟩)  _) hT (pr := []) (pcs := [wd_Tok cs h r (fun _ => some tp) f a g, [(tp, .inl (cs 1, 2048, .inl tb))]]) hw px_X.tt (px_recv hT hw 0 0 rfl rfl rfl) m3_186 m3_183 m3_185 ms_1_6 m1_2 q_Tok_byteAt ⟨Nat.le_of_ble_eq_true rfl, Nat.le_of_ble_eq_true rfl⟩ hl.1 rfl (Nat.le_of_ble_eq_true rfl) d_Tok_commentEnd_31 ⟨Nat.le_of_ble_eq_true rfl, Nat.le_of_ble_eq_true rfl⟩) hw hA (fun v17 p16 H locs hp16 hw => ?_)
          obtain ⟨rfl, e18, e19, e20⟩ := hp16
          have e18 : -1 ≤ v17.toInt := e18
          have e19 : v17.toInt ≤ 255 := e19
          have e20 : 0 ≤ v17.toInt → 0 ≤ z13.toInt ∧ z13.toInt < (f 7).toInt := e20
          have lv17 := Int32.le_toInt v17
          have uv17 := Int32.toInt_lt v17
          refine lv_bipush (v := 47) S.x S.b d_Tok_commentEnd_34 (by decide) ?_
          refine lv_icmp_ne (tgt := 43) S.x S.b d_Tok_commentEnd_36 (by decide) (fun c21 => ?_) (fun c21 => ?_)
          · have nc21 : ¬ v17.toInt = (47 : Int) := mt (i_eq (x := v17) (y := 47)).mpr c21
            obtain ⟨z22, ez22⟩ : ∃ y : Int32, y = x7_1 + 1 := ⟨_, rfl⟩
            have tz22 : z22.toInt = (x7_1.toInt + 1 + 2147483648) % 4294967296 - 2147483648 := by rw [ez22]; exact i_add x7_1 1
            have lz22 := Int32.le_toInt z22
            have uz22 := Int32.toInt_lt z22
            try replace tz22 : z22.toInt = x7_1.toInt + 1 := by omega
            refine lv_iinc (v := z22) (lv' := [(1, .int z22), (0, .ref h)]) S.x S.b d_Tok_commentEnd_43 hl (k := 1) rfl (by rw [ez22]; rfl) (by decide) rfl (fun ls hl => ?_)
            refine lv_goto (tgt := 7) S.x S.b d_Tok_commentEnd_46 (by decide) ?_
            first | exact ih7 z22 _ _ ls (show (f 8).toInt ≤ z22.toInt from (oz_887c409de9 k7_0 tz22)) (show z22.toInt ≤ (f 7).toInt+10 from (oz_dac6a77683 tz2 tz22 nc3)) (show (f 7).toInt+16-z22.toInt < (n_7 : Int) from (oz_f6c959245f hm tz22)) hw (lv_sub hl [1, 0] rfl) | exact ih7 z22 _ _ ls (show (f 8).toInt ≤ z22.toInt from by first | exact oz_887c409de9 k7_0 tz22 | omega) (show z22.toInt ≤ (f 7).toInt+10 from by first | exact oz_dac6a77683 tz2 tz22 nc3 | omega) (show (f 7).toInt+16-z22.toInt < (n_7 : Int) from by first | exact oz_f6c959245f hm tz22 | omega) hw (lv_sub hl [1, 0] rfl)
          · have nc21 : v17.toInt = (47 : Int) := (i_eq (x := v17) (y := 47)).mp c21
            refine lv_iload_n S.x S.b d_Tok_commentEnd_39 rfl (lv_at hl 1 rfl) ?_
            refine lv_iconst (v := 2) S.x S.b d_Tok_commentEnd_40 (by decide) ?_
            refine lv_iadd S.x S.b d_Tok_commentEnd_41 ?_
            refine lv_topi (fun z23 ez23 => ?_)
            have tz23 : z23.toInt = (x7_1.toInt + (2 : Int) + 2147483648) % 4294967296 - 2147483648 := by rw [ez23]; exact i_add x7_1 2
            have lz23 := Int32.le_toInt z23
            have uz23 := Int32.toInt_lt z23
            try replace tz23 : z23.toInt = x7_1.toInt + (2 : Int) := by omega
            first | exact px_iret (v := z23) S hr rfl hlk hAe hw (Nat.le_of_ble_eq_true rfl) (Nat.le_of_ble_eq_true rfl) (⟨rfl, (show 0 ≤ z23.toInt from (oz_ca2896e4b3 tz23 k7_0 o3)), (show z23.toInt ≤ (f 7).toInt+8 from (oz_8a9d1f933d tz2 tz23 nc3)), (show (f 8).toInt ≤ z23.toInt from (oz_165792c2c4 k7_0 tz23))⟩) d_Tok_commentEnd_42 | exact px_iret (v := z23) S hr rfl hlk hAe hw (Nat.le_of_ble_eq_true rfl) (Nat.le_of_ble_eq_true rfl) (⟨rfl, (show 0 ≤ z23.toInt from by first | exact oz_ca2896e4b3 tz23 k7_0 o3 | omega), (show z23.toInt ≤ (f 7).toInt+8 from by first | exact oz_8a9d1f933d tz2 tz23 nc3 | omega), (show (f 8).toInt ≤ z23.toInt from by first | exact oz_165792c2c4 k7_0 tz23 | omega)⟩) d_Tok_commentEnd_42
  refine lv_aload_n S.x S.b d_Tok_commentEnd_0 rfl (lv_at hl 0 rfl) ?_
  refine px_get S k_Tok hT hw 0 0 8 (v := .int (f 8)) rfl rfl rfl (by decide) m1_111 d_Tok_commentEnd_1 ?_
  refine lv_iconst (v := 2) S.x S.b d_Tok_commentEnd_4 (by decide) ?_
  refine lv_iadd S.x S.b d_Tok_commentEnd_5 ?_
  have lr24 := Int32.le_toInt (f 8)
  have ur24 := Int32.toInt_lt (f 8)
  refine lv_topi (fun z25 ez25 => ?_)
  have tz25 : z25.toInt = ((f 8).toInt + (2 : Int) + 2147483648) % 4294967296 - 2147483648 := by rw [ez25]; exact i_add (f 8) 2
  have lz25 := Int32.le_toInt z25
  have uz25 := Int32.toInt_lt z25
  try replace tz25 : z25.toInt = (f 8).toInt + (2 : Int) := by omega
  refine lv_istore_n (lv' := [(1, .int z25), (0, .ref h)]) S.x S.b d_Tok_commentEnd_6 rfl hl (by decide) rfl (fun ls hl => ?_)
  first | exact J7 (((f 7).toInt+16-z25.toInt).toNat + 1) z25 _ _ ls (show (f 8).toInt ≤ z25.toInt from (oz_d20558dcd1 tz25)) (show z25.toInt ≤ (f 7).toInt+10 from (oz_4fa2be0625 o4 tz25)) (show (f 7).toInt+16-z25.toInt < (((((f 7).toInt+16-z25.toInt).toNat + 1 : Nat) : Int) : Int) from oz_natlt) hw (lv_sub hl [1, 0] rfl) | exact J7 (((f 7).toInt+16-z25.toInt).toNat + 1) z25 _ _ ls (show (f 8).toInt ≤ z25.toInt from by first | exact oz_d20558dcd1 tz25 | omega) (show z25.toInt ≤ (f 7).toInt+10 from by first | exact oz_4fa2be0625 o4 tz25 | omega) (show (f 7).toInt+16-z25.toInt < (((((f 7).toInt+16-z25.toInt).toNat + 1 : Nat) : Int) : Int) from by first | exact oz_natlt | omega) hw (lv_sub hl [1, 0] rfl)
set_option maxHeartbeats 4000000 in
set_option maxRecDepth 100000 in
theorem c_t2_skip (l : Launch) (D : va_G) (cs : Nat → ClassId) (h : Nat) (r : Nat → Nat) (tp : Nat) (tb : Nat → Int32) (g : Nat → Nat → Option Nat) (f : Nat → Int32) (a : Nat → Nat → Int32)  (hinv0 : TokOk (f 7) (f 8) (f 10) (f 11) (f 12) (f 13) (f 17) (a 4)) (hq5 : Q5 (a 5)) : MetV l y_Tok_skip b_Tok_skip 5 D cs 2 44 (0) (0) [.ref h] [wd_Tok cs h r (fun _ => some tp) f a g, [(tp, .inl (cs 1, 2048, .inl tb))]] (fun _ => True) (fun ps => ∃ (f' : Nat → Int32) (a' : Nat → Nat → Int32), (ps = [wd_Tok cs h r (fun _ => some tp) f' a' g, [(tp, .inl (cs 1, 2048, .inl tb))]]) ∧ (TokOk (f' 7) (f' 8) (f' 10) (f' 11) (f' 12) (f' 13) (f' 17) (a' 4)) ∧ ((f' 7).toInt = (f 7).toInt) ∧ ((f' 10).toInt = (f 10).toInt) ∧ ((f' 15).toInt = (f 15).toInt) ∧ ((f 8).toInt ≤ (f' 8).toInt) ∧ (Q5 (a' 5))) := by
  refine px_enter (by decide) (Nat.le_of_ble_eq_true rfl) ?_
  intro p e s m below meth c A ls hAe S hr hlk hnm hA hT hX hw hl
  have hl : lv_has ls 5 [(0, .ref h)] := hl
  have cst0 : (0 : Int32).toInt = 0 := rfl
  have cst1 : (1 : Int32).toInt = 1 := rfl
  have cst9 : (9 : Int32).toInt = 9 := rfl
  have cst10 : (10 : Int32).toInt = 10 := rfl
  have cst13 : (13 : Int32).toInt = 13 := rfl
  have cst32 : (32 : Int32).toInt = 32 := rfl
  have cst42 : (42 : Int32).toInt = 42 := rfl
  have cst47 : (47 : Int32).toInt = 47 := rfl
  obtain ⟨⟨o1, o2⟩, ⟨o3, o4⟩, ⟨o5, o6⟩, ⟨o7, o8⟩, ⟨o9, o10⟩, ⟨o11, o12⟩, o13, hn4⟩ := hinv0
  have J4 : ∀ (n_4 : Nat) (f_4 : Nat → Int32) (a_4 : Nat → Nat → Int32) (x4_1 x4_2 : Int32) (H : Heap) (locs : List Loc) (ls : Array Slot), (TokOk (f_4 7) (f_4 8) (f_4 10) (f_4 11) (f_4 12) (f_4 13) (f_4 17) (a_4 4)) → ((f_4 7).toInt = (f 7).toInt) → ((f_4 10).toInt = (f 10).toInt) → ((f_4 15).toInt = (f 15).toInt) → ((f 8).toInt ≤ (f_4 8).toInt) → (0 ≤ x4_2.toInt) → (x4_2.toInt ≤ (f_4 7).toInt+1) → (Q5 (a_4 5)) → (f_4 7).toInt+2-x4_2.toInt < (n_4 : Int) → pw D A s.heap H locs [wd_Tok cs h r (fun _ => some tp) f_4 a_4 g, [(tp, .inl (cs 1, 2048, .inl tb))]] → lv_has ls 5 [(0, .ref h), (1, .int x4_1), (2, .int x4_2)] → W p l e { frames := 2, cells := 0, slots := 0, locals := 44 } s m [.ref h].toArray below meth c H locs 0 0 (MQ below (va_Qv (fun ps => ∃ (f' : Nat → Int32) (a' : Nat → Nat → Int32), (ps = [wd_Tok cs h r (fun _ => some tp) f' a' g, [(tp, .inl (cs 1, 2048, .inl tb))]]) ∧ (TokOk (f' 7) (f' 8) (f' 10) (f' 11) (f' 12) (f' 13) (f' 17) (a' 4)) ∧ ((f' 7).toInt = (f 7).toInt) ∧ ((f' 10).toInt = (f 10).toInt) ∧ ((f' 15).toInt = (f 15).toInt) ∧ ((f 8).toInt ≤ (f' 8).toInt) ∧ (Q5 (a' 5))) (pc_B D (va_A ([wd_Tok cs h r (fun _ => some tp) f a g, [(tp, .inl (cs 1, 2048, .inl tb))]] : List va_W).flatten s.heap.size)) (va_A ([wd_Tok cs h r (fun _ => some tp) f a g, [(tp, .inl (cs 1, 2048, .inl tb))]] : List va_W).flatten s.heap.size)) [.ref h].toArray s 0 0 A) (F0 m 4 ls []) := by
    intro  n_4
    induction n_4 with
    | zero =>
      intro f_4 a_4 x4_1 x4_2 H locs ls hi4_0 k4_0 k4_1 k4_2 k4_3 k4_4 k4_5 k4_6 hm hw hl
      obtain ⟨⟨o1, o2⟩, ⟨o3, o4⟩, ⟨o5, o6⟩, ⟨o7, o8⟩, ⟨o9, o10⟩, ⟨o11, o12⟩, o13, hn4⟩ := hi4_0
      have lx4_1 := Int32.le_toInt x4_1
      have ux4_1 := Int32.toInt_lt x4_1
      have lx4_2 := Int32.le_toInt x4_2
      have ux4_2 := Int32.toInt_lt x4_2
      have hq5 := k4_6
      exact absurd hm (by omega)
    | succ n_4 ih4 =>
      intro f_4 a_4 x4_1 x4_2 H locs ls hi4_0 k4_0 k4_1 k4_2 k4_3 k4_4 k4_5 k4_6 hm hw hl
      obtain ⟨⟨o1, o2⟩, ⟨o3, o4⟩, ⟨o5, o6⟩, ⟨o7, o8⟩, ⟨o9, o10⟩, ⟨o11, o12⟩, o13, hn4⟩ := hi4_0
      have lx4_1 := Int32.le_toInt x4_1
      have ux4_1 := Int32.toInt_lt x4_1
      have lx4_2 := Int32.le_toInt x4_2
      have ux4_2 := Int32.toInt_lt x4_2
      have hq5 := k4_6
      refine lv_iload_n S.x S.b d_Tok_skip_4 rfl (lv_at hl 2 rfl) ?_
      refine lv_aload_n S.x S.b d_Tok_skip_5 rfl (lv_at hl 0 rfl) ?_
      refine px_get S k_Tok hT hw 0 0 7 (v := .int (f_4 7)) rfl rfl rfl (by decide) m1_110 d_Tok_skip_6 ?_
      refine lv_icmp_gt (tgt := 150) S.x S.b d_Tok_skip_9 (by decide) (fun c1 => ?_) (fun c1 => ?_)
      · have nc1 : (f_4 7).toInt < x4_2.toInt := (i_lt (x := (f_4 7)) (y := x4_2)).mp c1
        first | exact px_vret S hr hlk hAe hw (Nat.le_of_ble_eq_true rfl) (Nat.le_of_ble_eq_true rfl) (⟨f_4, a_4, rfl, (show TokOk (f_4 7) (f_4 8) (f_4 10) (f_4 11) (f_4 12) (f_4 13) (f_4 17) (a_4 4) from ⟨⟨o1, o2⟩, ⟨o3, o4⟩, ⟨o5, o6⟩, ⟨o7, o8⟩, ⟨o9, o10⟩, ⟨o11, o12⟩, o13, hn4⟩), (show (f_4 7).toInt = (f 7).toInt from k4_0), (show (f_4 10).toInt = (f 10).toInt from k4_1), (show (f_4 15).toInt = (f 15).toInt from k4_2), (show (f 8).toInt ≤ (f_4 8).toInt from k4_3), (show Q5 (a_4 5) from hq5)⟩) d_Tok_skip_150 | exact px_vret S hr hlk hAe hw (Nat.le_of_ble_eq_true rfl) (Nat.le_of_ble_eq_true rfl) (⟨f_4, a_4, rfl, (show TokOk (f_4 7) (f_4 8) (f_4 10) (f_4 11) (f_4 12) (f_4 13) (f_4 17) (a_4 4) from ⟨⟨by first | exact o1 | omega, by first | exact o2 | omega⟩, ⟨by first | exact o3 | omega, by first | exact o4 | omega⟩, ⟨by first | exact o5 | omega, by first | exact o6 | omega⟩, ⟨by first | exact o7 | omega, by first | exact o8 | omega⟩, ⟨by first | exact o9 | omega, by first | exact o10 | omega⟩, ⟨by first | exact o11 | omega, by first | exact o12 | omega⟩, by first | exact o13 | omega, hn4⟩), (show (f_4 7).toInt = (f 7).toInt from by first | exact k4_0 | omega), (show (f_4 10).toInt = (f 10).toInt from by first | exact k4_1 | omega), (show (f_4 15).toInt = (f 15).toInt from by first | exact k4_2 | omega), (show (f 8).toInt ≤ (f_4 8).toInt from by first | exact k4_3 | omega), (show Q5 (a_4 5) from hq5)⟩) d_Tok_skip_150
      · have nc1 : ¬ (f_4 7).toInt < x4_2.toInt := mt (i_lt (x := (f_4 7)) (y := x4_2)).mpr c1
        refine lv_iload_n S.x S.b d_Tok_skip_12 rfl (lv_at hl 1 rfl) ?_
        refine lv_if_eq (tgt := 150) S.x S.b d_Tok_skip_13 (by decide) (fun c2 => ?_) (fun c2 => ?_)
        · have nc2 : x4_1.toInt = (0 : Int) := (i_eq (x := x4_1) (y := 0)).mp c2
          first | exact px_vret S hr hlk hAe hw (Nat.le_of_ble_eq_true rfl) (Nat.le_of_ble_eq_true rfl) (⟨f_4, a_4, rfl, (show TokOk (f_4 7) (f_4 8) (f_4 10) (f_4 11) (f_4 12) (f_4 13) (f_4 17) (a_4 4) from ⟨⟨o1, o2⟩, ⟨o3, o4⟩, ⟨o5, o6⟩, ⟨o7, o8⟩, ⟨o9, o10⟩, ⟨o11, o12⟩, o13, hn4⟩), (show (f_4 7).toInt = (f 7).toInt from k4_0), (show (f_4 10).toInt = (f 10).toInt from k4_1), (show (f_4 15).toInt = (f 15).toInt from k4_2), (show (f 8).toInt ≤ (f_4 8).toInt from k4_3), (show Q5 (a_4 5) from hq5)⟩) d_Tok_skip_150 | exact px_vret S hr hlk hAe hw (Nat.le_of_ble_eq_true rfl) (Nat.le_of_ble_eq_true rfl) (⟨f_4, a_4, rfl, (show TokOk (f_4 7) (f_4 8) (f_4 10) (f_4 11) (f_4 12) (f_4 13) (f_4 17) (a_4 4) from ⟨⟨by first | exact o1 | omega, by first | exact o2 | omega⟩, ⟨by first | exact o3 | omega, by first | exact o4 | omega⟩, ⟨by first | exact o5 | omega, by first | exact o6 | omega⟩, ⟨by first | exact o7 | omega, by first | exact o8 | omega⟩, ⟨by first | exact o9 | omega, by first | exact o10 | omega⟩, ⟨by first | exact o11 | omega, by first | exact o12 | omega⟩, by first | exact o13 | omega, hn4⟩), (show (f_4 7).toInt = (f 7).toInt from by first | exact k4_0 | omega), (show (f_4 10).toInt = (f 10).toInt from by first | exact k4_1 | omega), (show (f_4 15).toInt = (f 15).toInt from by first | exact k4_2 | omega), (show (f 8).toInt ≤ (f_4 8).toInt from by first | exact k4_3 | omega), (show Q5 (a_4 5) from hq5)⟩) d_Tok_skip_150
        · have nc2 : ¬ x4_1.toInt = (0 : Int) := mt (i_eq (x := x4_1) (y := 0)).mpr c2
          refine lv_aload_n S.x S.b d_Tok_skip_16 rfl (lv_at hl 0 rfl) ?_
          refine lv_aload_n S.x S.b d_Tok_skip_17 rfl (lv_at hl 0 rfl) ?_
          refine px_get S k_Tok hT hw 0 0 8 (v := .int (f_4 8)) rfl rfl rfl (by decide) m1_111 d_Tok_skip_18 ?_
          first | refine px_calli (pr := []) (px_runV (As := [.int (f_4 8)]) (rest := []) S (c_Tok_byteAt l D cs h r tp tb f_4 a_4 g (f_4 8) (show TokOk (f_4 7) (f_4 8) (f_4 10) (f_4 11) (f_4 12) (f_4 13) (f_4 17) (a_4 4) from ⟨⟨o1, o2⟩, ⟨o3, o4⟩, ⟨o5, o6⟩, ⟨o7, o8⟩, ⟨o9, o10⟩, ⟨o11, o12⟩, o13, hn4⟩)  _) hT (pr := []) (pcs := [wd_Tok cs h r (fun _ => some tp) f_4 a_4 g, [(tp, .inl (cs 1, 2048, .inl tb))]]) hw px_X.tt (px_recv hT hw 0 0 rfl rfl rfl) m3_186 m3_183 m3_185 ms_1_6 m1_2 q_Tok_byteAt ⟨Nat.le_of_ble_eq_true rfl, Nat.le_of_ble_eq_true rfl⟩ hl.1 rfl (Nat.le_of_ble_eq_true rfl) d_Tok_skip_21 ⟨Nat.le_of_ble_eq_true rfl, Nat.le_of_ble_eq_true rfl⟩) hw hA (fun v6 p5 H locs hp5 hw => ?_) | refine px_calli (pr := []) (px_runV (As := [.int (f_4 8)]) (rest := []) S (c_Tok_byteAt l D cs h r tp tb f_4 a_4 g (f_4 8) (show TokOk (f_4 7) (f_4 8) (f_4 10) (f_4 11) (f_4 12) (f_4 13) (f_4 17) (a_4 4) from ⟨⟨by first | exact o1 | omega, by first | exact o2 | omega⟩, ⟨by first | exact o3 | omega, by first | exact o4 | omega⟩, ⟨by first | exact o5 | omega, by first | exact o6 | omega⟩, ⟨by first | exact o7 | omega, by first | exact o8 | omega⟩, ⟨by first | exact o9 | omega, by first | exact o10 | omega⟩, ⟨by first | exact o11 | omega, by first | exact o12 | omega⟩, by first | exact o13 | omega, hn4⟩)  _) hT (pr := []) (pcs := [wd_Tok cs h r (fun _ => some tp) f_4 a_4 g, [(tp, .inl (cs 1, 2048, .inl tb))]]) hw px_X.tt (px_recv hT hw 0 0 rfl rfl rfl) m3_186 m3_183 m3_185 ms_1_6 m1_2 q_Tok_byteAt ⟨Nat.le_of_ble_eq_true rfl, Nat.le_of_ble_eq_true rfl⟩ hl.1 rfl (Nat.le_of_ble_eq_true rfl) d_Tok_skip_21 ⟨Nat.le_of_ble_eq_true rfl, Nat.le_of_ble_eq_true rfl⟩) hw hA (fun v6 p5 H locs hp5 hw => ?_)
          obtain ⟨rfl, e7, e8, e9⟩ := hp5
          have e7 : -1 ≤ v6.toInt := e7
          have e8 : v6.toInt ≤ 255 := e8
          have e9 : 0 ≤ v6.toInt → 0 ≤ (f_4 8).toInt ∧ (f_4 8).toInt < (f_4 7).toInt := e9
          have lv6 := Int32.le_toInt v6
          have uv6 := Int32.toInt_lt v6
          refine lv_istore_n (lv' := [(3, .int v6), (0, .ref h), (1, .int x4_1), (2, .int x4_2)]) S.x S.b d_Tok_skip_24 rfl hl (by decide) rfl (fun ls hl => ?_)
          refine lv_aload_n S.x S.b d_Tok_skip_25 rfl (lv_at hl 1 rfl) ?_
          refine px_get S k_Tok hT hw 0 0 8 (v := .int (f_4 8)) rfl rfl rfl (by decide) m1_111 d_Tok_skip_26 ?_
          refine lv_istore (lv' := [(4, .int (f_4 8)), (3, .int v6), (0, .ref h), (1, .int x4_1), (2, .int x4_2)]) S.x S.b d_Tok_skip_29 hl (by decide) rfl (fun ls hl => ?_)
          refine lv_iload_n S.x S.b d_Tok_skip_31 rfl (lv_at hl 1 rfl) ?_
          refine lv_bipush (v := 32) S.x S.b d_Tok_skip_32 (by decide) ?_
          refine lv_icmp_eq (tgt := 55) S.x S.b d_Tok_skip_34 (by decide) (fun c10 => ?_) (fun c10 => ?_)
          · have nc10 : v6.toInt = (32 : Int) := (i_eq (x := v6) (y := 32)).mp c10
            refine lv_aload_n S.x S.b d_Tok_skip_55 rfl (lv_at hl 2 rfl) ?_
            refine px_get S k_Tok hT hw 0 0 8 (v := .int (f_4 8)) rfl rfl rfl (by decide) m1_111 d_Tok_skip_56 ?_
            refine lv_iconst (v := 1) S.x S.b d_Tok_skip_59 (by decide) ?_
            refine lv_iadd S.x S.b d_Tok_skip_60 ?_
            have lr11 := Int32.le_toInt (f_4 8)
            have ur11 := Int32.toInt_lt (f_4 8)
            refine lv_topi (fun z12 ez12 => ?_)
            have tz12 : z12.toInt = ((f_4 8).toInt + (1 : Int) + 2147483648) % 4294967296 - 2147483648 := by rw [ez12]; exact i_add (f_4 8) 1
            have lz12 := Int32.le_toInt z12
            have uz12 := Int32.toInt_lt z12
            try replace tz12 : z12.toInt = (f_4 8).toInt + (1 : Int) := by omega
            refine lv_istore (lv' := [(4, .int z12), (3, .int v6), (0, .ref h), (1, .int x4_1), (2, .int x4_2)]) S.x S.b d_Tok_skip_61 hl (by decide) rfl (fun ls hl => ?_)
            refine lv_goto (tgt := 123) S.x S.b d_Tok_skip_63 (by decide) ?_
            refine lv_iload S.x S.b d_Tok_skip_123 (lv_at hl 0 rfl) ?_
            refine lv_aload_n S.x S.b d_Tok_skip_125 rfl (lv_at hl 2 rfl) ?_
            refine px_get S k_Tok hT hw 0 0 8 (v := .int (f_4 8)) rfl rfl rfl (by decide) m1_111 d_Tok_skip_126 ?_
            refine lv_icmp_le (tgt := 136) S.x S.b d_Tok_skip_129 (by decide) (fun c13 => ?_) (fun c13 => ?_)
            · have nc13 : z12.toInt ≤ (f_4 8).toInt := (i_le (x := z12) (y := (f_4 8))).mp c13
              refine lv_iconst (v := 0) S.x S.b d_Tok_skip_136 (by decide) ?_
              refine lv_istore_n (lv' := [(1, .int 0), (4, .int z12), (3, .int v6), (0, .ref h), (2, .int x4_2)]) S.x S.b d_Tok_skip_137 rfl hl (by decide) rfl (fun ls hl => ?_)
              refine lv_aload_n S.x S.b d_Tok_skip_138 rfl (lv_at hl 3 rfl) ?_
              refine lv_iload S.x S.b d_Tok_skip_139 (lv_at hl 1 rfl) ?_
              refine px_put S k_Tok hT hw 0 0 8 rfl rfl (by decide) m1_111 rfl rfl rfl (Nat.le_of_ble_eq_true rfl) d_Tok_skip_141 (w' := wd_Tok cs h r (fun _ => some tp) (upd f_4 8 z12) a_4 g) (ps' := [wd_Tok cs h r (fun _ => some tp) (upd f_4 8 z12) a_4 g, [(tp, .inl (cs 1, 2048, .inl tb))]]) rfl rfl (fun H locs hw => ?_)
              obtain ⟨z14, ez14⟩ : ∃ y : Int32, y = x4_2 + 1 := ⟨_, rfl⟩
              have tz14 : z14.toInt = (x4_2.toInt + 1 + 2147483648) % 4294967296 - 2147483648 := by rw [ez14]; exact i_add x4_2 1
              have lz14 := Int32.le_toInt z14
              have uz14 := Int32.toInt_lt z14
              first | replace tz14 : z14.toInt = x4_2.toInt + 1 := (oz_d0a3671be7 tz12 nc13) | try replace tz14 : z14.toInt = x4_2.toInt + 1 := by first | exact oz_d0a3671be7 tz12 nc13 | omega
              refine lv_iinc (v := z14) (lv' := [(2, .int z14), (1, .int 0), (4, .int z12), (3, .int v6), (0, .ref h)]) S.x S.b d_Tok_skip_144 hl (k := 4) rfl (by rw [ez14]; rfl) (by decide) rfl (fun ls hl => ?_)
              refine lv_goto (tgt := 4) S.x S.b d_Tok_skip_147 (by decide) ?_
              first | exact ih4 (upd f_4 8 z12) a_4 (0 : Int32) z14 _ _ ls (show TokOk (f_4 7) z12 (f_4 10) (f_4 11) (f_4 12) (f_4 13) (f_4 17) (a_4 4) from ⟨⟨o1, o2⟩, ⟨(oz_b3b25f0e49 tz12 o3), (oz_f1d1298f6f tz12 nc13)⟩, ⟨o5, o6⟩, ⟨o7, o8⟩, ⟨o9, o10⟩, ⟨o11, o12⟩, o13, hn4⟩) (show (f_4 7).toInt = (f 7).toInt from k4_0) (show (f_4 10).toInt = (f 10).toInt from k4_1) (show (f_4 15).toInt = (f 15).toInt from k4_2) (show (f 8).toInt ≤ z12.toInt from (oz_df4877b868 k4_3 tz12)) (show 0 ≤ z14.toInt from (oz_ae613611c0 tz14 k4_4)) (show z14.toInt ≤ (f_4 7).toInt+1 from (oz_42d443b05b tz12 nc13)) (show Q5 (a_4 5) from hq5) (show (f_4 7).toInt+2-z14.toInt < (n_4 : Int) from (oz_ea2b3b93d5 tz12 nc13)) hw (lv_sub hl [4, 1, 0] rfl) | exact ih4 (upd f_4 8 z12) a_4 (0 : Int32) z14 _ _ ls (show TokOk (f_4 7) z12 (f_4 10) (f_4 11) (f_4 12) (f_4 13) (f_4 17) (a_4 4) from ⟨⟨by first | exact o1 | omega, by first | exact o2 | omega⟩, ⟨by first | exact oz_b3b25f0e49 tz12 o3 | omega, by first | exact oz_f1d1298f6f tz12 nc13 | omega⟩, ⟨by first | exact o5 | omega, by first | exact o6 | omega⟩, ⟨by first | exact o7 | omega, by first | exact o8 | omega⟩, ⟨by first | exact o9 | omega, by first | exact o10 | omega⟩, ⟨by first | exact o11 | omega, by first | exact o12 | omega⟩, by first | exact o13 | omega, hn4⟩) (show (f_4 7).toInt = (f 7).toInt from by first | exact k4_0 | omega) (show (f_4 10).toInt = (f 10).toInt from by first | exact k4_1 | omega) (show (f_4 15).toInt = (f 15).toInt from by first | exact k4_2 | omega) (show (f 8).toInt ≤ z12.toInt from by first | exact oz_df4877b868 k4_3 tz12 | omega) (show 0 ≤ z14.toInt from by first | exact oz_ae613611c0 tz14 k4_4 | omega) (show z14.toInt ≤ (f_4 7).toInt+1 from by first | exact oz_42d443b05b tz12 nc13 | omega) (show Q5 (a_4 5) from hq5) (show (f_4 7).toInt+2-z14.toInt < (n_4 : Int) from by first | exact oz_ea2b3b93d5 tz12 nc13 | omega) hw (lv_sub hl [4, 1, 0] rfl)
            · have nc13 : ¬ z12.toInt ≤ (f_4 8).toInt := mt (i_le (x := z12) (y := (f_4 8))).mpr c13
              refine lv_iconst (v := 1) S.x S.b d_Tok_skip_132 (by decide) ?_
              refine lv_goto (tgt := 137) S.x S.b d_Tok_skip_133 (by decide) ?_
              refine lv_istore_n (lv' := [(1, .int 1), (4, .int z12), (3, .int v6), (0, .ref h), (2, .int x4_2)]) S.x S.b d_Tok_skip_137 rfl hl (by decide) rfl (fun ls hl => ?_)
              refine lv_aload_n S.x S.b d_Tok_skip_138 rfl (lv_at hl 3 rfl) ?_
              refine lv_iload S.x S.b d_Tok_skip_139 (lv_at hl 1 rfl) ?_
              refine px_put S k_Tok hT hw 0 0 8 rfl rfl (by decide) m1_111 rfl rfl rfl (Nat.le_of_ble_eq_true rfl) d_Tok_skip_141 (w' := wd_Tok cs h r (fun _ => some tp) (upd f_4 8 z12) a_4 g) (ps' := [wd_Tok cs h r (fun _ => some tp) (upd f_4 8 z12) a_4 g, [(tp, .inl (cs 1, 2048, .inl tb))]]) rfl rfl (fun H locs hw => ?_)
              obtain ⟨z15, ez15⟩ : ∃ y : Int32, y = x4_2 + 1 := ⟨_, rfl⟩
              have tz15 : z15.toInt = (x4_2.toInt + 1 + 2147483648) % 4294967296 - 2147483648 := by rw [ez15]; exact i_add x4_2 1
              have lz15 := Int32.le_toInt z15
              have uz15 := Int32.toInt_lt z15
              try replace tz15 : z15.toInt = x4_2.toInt + 1 := by omega
              refine lv_iinc (v := z15) (lv' := [(2, .int z15), (1, .int 1), (4, .int z12), (3, .int v6), (0, .ref h)]) S.x S.b d_Tok_skip_144 hl (k := 4) rfl (by rw [ez15]; rfl) (by decide) rfl (fun ls hl => ?_)
              refine lv_goto (tgt := 4) S.x S.b d_Tok_skip_147 (by decide) ?_
              first | exact ih4 (upd f_4 8 z12) a_4 (1 : Int32) z15 _ _ ls (show TokOk (f_4 7) z12 (f_4 10) (f_4 11) (f_4 12) (f_4 13) (f_4 17) (a_4 4) from ⟨⟨o1, o2⟩, ⟨(oz_8c8b3d3770 nc13 o3), (oz_447bfbda56 tz12 nc10 e9)⟩, ⟨o5, o6⟩, ⟨o7, o8⟩, ⟨o9, o10⟩, ⟨o11, o12⟩, o13, hn4⟩) (show (f_4 7).toInt = (f 7).toInt from k4_0) (show (f_4 10).toInt = (f 10).toInt from k4_1) (show (f_4 15).toInt = (f 15).toInt from k4_2) (show (f 8).toInt ≤ z12.toInt from (oz_fbfdb238f4 k4_3 nc13)) (show 0 ≤ z15.toInt from (oz_ae613611c0 tz15 k4_4)) (show z15.toInt ≤ (f_4 7).toInt+1 from (oz_0c5335350d nc1 tz15)) (show Q5 (a_4 5) from hq5) (show (f_4 7).toInt+2-z15.toInt < (n_4 : Int) from (oz_1a25760b21 hm tz15)) hw (lv_sub hl [4, 1, 0] rfl) | exact ih4 (upd f_4 8 z12) a_4 (1 : Int32) z15 _ _ ls (show TokOk (f_4 7) z12 (f_4 10) (f_4 11) (f_4 12) (f_4 13) (f_4 17) (a_4 4) from ⟨⟨by first | exact o1 | omega, by first | exact o2 | omega⟩, ⟨by first | exact oz_8c8b3d3770 nc13 o3 | omega, by first | exact oz_447bfbda56 tz12 nc10 e9 | omega⟩, ⟨by first | exact o5 | omega, by first | exact o6 | omega⟩, ⟨by first | exact o7 | omega, by first | exact o8 | omega⟩, ⟨by first | exact o9 | omega, by first | exact o10 | omega⟩, ⟨by first | exact o11 | omega, by first | exact o12 | omega⟩, by first | exact o13 | omega, hn4⟩) (show (f_4 7).toInt = (f 7).toInt from by first | exact k4_0 | omega) (show (f_4 10).toInt = (f 10).toInt from by first | exact k4_1 | omega) (show (f_4 15).toInt = (f 15).toInt from by first | exact k4_2 | omega) (show (f 8).toInt ≤ z12.toInt from by first | exact oz_fbfdb238f4 k4_3 nc13 | omega) (show 0 ≤ z15.toInt from by first | exact oz_ae613611c0 tz15 k4_4 | omega) (show z15.toInt ≤ (f_4 7).toInt+1 from by first | exact oz_0c5335350d nc1 tz15 | omega) (show Q5 (a_4 5) from hq5) (show (f_4 7).toInt+2-z15.toInt < (n_4 : Int) from by first | exact oz_1a25760b21 hm tz15 | omega) hw (lv_sub hl [4, 1, 0] rfl)
          · have nc10 : ¬ v6.toInt = (32 : Int) := mt (i_eq (x := v6) (y := 32)).mpr c10
            refine lv_iload_n S.x S.b d_Tok_skip_37 rfl (lv_at hl 1 rfl) ?_
            refine lv_bipush (v := 9) S.x S.b d_Tok_skip_38 (by decide) ?_
            refine lv_icmp_eq (tgt := 55) S.x S.b d_Tok_skip_40 (by decide) (fun c16 => ?_) (fun c16 => ?_)
            · have nc16 : v6.toInt = (9 : Int) := (i_eq (x := v6) (y := 9)).mp c16
              refine lv_aload_n S.x S.b d_Tok_skip_55 rfl (lv_at hl 2 rfl) ?_
              refine px_get S k_Tok hT hw 0 0 8 (v := .int (f_4 8)) rfl rfl rfl (by decide) m1_111 d_Tok_skip_56 ?_
              refine lv_iconst (v := 1) S.x S.b d_Tok_skip_59 (by decide) ?_
              refine lv_iadd S.x S.b d_Tok_skip_60 ?_
              have lr17 := Int32.le_toInt (f_4 8)
              have ur17 := Int32.toInt_lt (f_4 8)
              refine lv_topi (fun z18 ez18 => ?_)
              have tz18 : z18.toInt = ((f_4 8).toInt + (1 : Int) + 2147483648) % 4294967296 - 2147483648 := by rw [ez18]; exact i_add (f_4 8) 1
              have lz18 := Int32.le_toInt z18
              have uz18 := Int32.toInt_lt z18
              try replace tz18 : z18.toInt = (f_4 8).toInt + (1 : Int) := by omega
              refine lv_istore (lv' := [(4, .int z18), (3, .int v6), (0, .ref h), (1, .int x4_1), (2, .int x4_2)]) S.x S.b d_Tok_skip_61 hl (by decide) rfl (fun ls hl => ?_)
              refine lv_goto (tgt := 123) S.x S.b d_Tok_skip_63 (by decide) ?_
              refine lv_iload S.x S.b d_Tok_skip_123 (lv_at hl 0 rfl) ?_
              refine lv_aload_n S.x S.b d_Tok_skip_125 rfl (lv_at hl 2 rfl) ?_
              refine px_get S k_Tok hT hw 0 0 8 (v := .int (f_4 8)) rfl rfl rfl (by decide) m1_111 d_Tok_skip_126 ?_
              refine lv_icmp_le (tgt := 136) S.x S.b d_Tok_skip_129 (by decide) (fun c19 => ?_) (fun c19 => ?_)
              · have nc19 : z18.toInt ≤ (f_4 8).toInt := (i_le (x := z18) (y := (f_4 8))).mp c19
                refine lv_iconst (v := 0) S.x S.b d_Tok_skip_136 (by decide) ?_
                refine lv_istore_n (lv' := [(1, .int 0), (4, .int z18), (3, .int v6), (0, .ref h), (2, .int x4_2)]) S.x S.b d_Tok_skip_137 rfl hl (by decide) rfl (fun ls hl => ?_)
                refine lv_aload_n S.x S.b d_Tok_skip_138 rfl (lv_at hl 3 rfl) ?_
                refine lv_iload S.x S.b d_Tok_skip_139 (lv_at hl 1 rfl) ?_
                refine px_put S k_Tok hT hw 0 0 8 rfl rfl (by decide) m1_111 rfl rfl rfl (Nat.le_of_ble_eq_true rfl) d_Tok_skip_141 (w' := wd_Tok cs h r (fun _ => some tp) (upd f_4 8 z18) a_4 g) (ps' := [wd_Tok cs h r (fun _ => some tp) (upd f_4 8 z18) a_4 g, [(tp, .inl (cs 1, 2048, .inl tb))]]) rfl rfl (fun H locs hw => ?_)
                obtain ⟨z20, ez20⟩ : ∃ y : Int32, y = x4_2 + 1 := ⟨_, rfl⟩
                have tz20 : z20.toInt = (x4_2.toInt + 1 + 2147483648) % 4294967296 - 2147483648 := by rw [ez20]; exact i_add x4_2 1
                have lz20 := Int32.le_toInt z20
                have uz20 := Int32.toInt_lt z20
                first | replace tz20 : z20.toInt = x4_2.toInt + 1 := (oz_d0a3671be7 tz18 nc19) | try replace tz20 : z20.toInt = x4_2.toInt + 1 := by first | exact oz_d0a3671be7 tz18 nc19 | omega
                refine lv_iinc (v := z20) (lv' := [(2, .int z20), (1, .int 0), (4, .int z18), (3, .int v6), (0, .ref h)]) S.x S.b d_Tok_skip_144 hl (k := 4) rfl (by rw [ez20]; rfl) (by decide) rfl (fun ls hl => ?_)
                refine lv_goto (tgt := 4) S.x S.b d_Tok_skip_147 (by decide) ?_
                first | exact ih4 (upd f_4 8 z18) a_4 (0 : Int32) z20 _ _ ls (show TokOk (f_4 7) z18 (f_4 10) (f_4 11) (f_4 12) (f_4 13) (f_4 17) (a_4 4) from ⟨⟨o1, o2⟩, ⟨(oz_b3b25f0e49 tz18 o3), (oz_f1d1298f6f tz18 nc19)⟩, ⟨o5, o6⟩, ⟨o7, o8⟩, ⟨o9, o10⟩, ⟨o11, o12⟩, o13, hn4⟩) (show (f_4 7).toInt = (f 7).toInt from k4_0) (show (f_4 10).toInt = (f 10).toInt from k4_1) (show (f_4 15).toInt = (f 15).toInt from k4_2) (show (f 8).toInt ≤ z18.toInt from (oz_df4877b868 k4_3 tz18)) (show 0 ≤ z20.toInt from (oz_ae613611c0 tz20 k4_4)) (show z20.toInt ≤ (f_4 7).toInt+1 from (oz_42d443b05b tz18 nc19)) (show Q5 (a_4 5) from hq5) (show (f_4 7).toInt+2-z20.toInt < (n_4 : Int) from (oz_ea2b3b93d5 tz18 nc19)) hw (lv_sub hl [4, 1, 0] rfl) | exact ih4 (upd f_4 8 z18) a_4 (0 : Int32) z20 _ _ ls (show TokOk (f_4 7) z18 (f_4 10) (f_4 11) (f_4 12) (f_4 13) (f_4 17) (a_4 4) from ⟨⟨by first | exact o1 | omega, by first | exact o2 | omega⟩, ⟨by first | exact oz_b3b25f0e49 tz18 o3 | omega, by first | exact oz_f1d1298f6f tz18 nc19 | omega⟩, ⟨by first | exact o5 | omega, by first | exact o6 | omega⟩, ⟨by first | exact o7 | omega, by first | exact o8 | omega⟩, ⟨by first | exact o9 | omega, by first | exact o10 | omega⟩, ⟨by first | exact o11 | omega, by first | exact o12 | omega⟩, by first | exact o13 | omega, hn4⟩) (show (f_4 7).toInt = (f 7).toInt from by first | exact k4_0 | omega) (show (f_4 10).toInt = (f 10).toInt from by first | exact k4_1 | omega) (show (f_4 15).toInt = (f 15).toInt from by first | exact k4_2 | omega) (show (f 8).toInt ≤ z18.toInt from by first | exact oz_df4877b868 k4_3 tz18 | omega) (show 0 ≤ z20.toInt from by first | exact oz_ae613611c0 tz20 k4_4 | omega) (show z20.toInt ≤ (f_4 7).toInt+1 from by first | exact oz_42d443b05b tz18 nc19 | omega) (show Q5 (a_4 5) from hq5) (show (f_4 7).toInt+2-z20.toInt < (n_4 : Int) from by first | exact oz_ea2b3b93d5 tz18 nc19 | omega) hw (lv_sub hl [4, 1, 0] rfl)
              · have nc19 : ¬ z18.toInt ≤ (f_4 8).toInt := mt (i_le (x := z18) (y := (f_4 8))).mpr c19
                refine lv_iconst (v := 1) S.x S.b d_Tok_skip_132 (by decide) ?_
                refine lv_goto (tgt := 137) S.x S.b d_Tok_skip_133 (by decide) ?_
                refine lv_istore_n (lv' := [(1, .int 1), (4, .int z18), (3, .int v6), (0, .ref h), (2, .int x4_2)]) S.x S.b d_Tok_skip_137 rfl hl (by decide) rfl (fun ls hl => ?_)
                refine lv_aload_n S.x S.b d_Tok_skip_138 rfl (lv_at hl 3 rfl) ?_
                refine lv_iload S.x S.b d_Tok_skip_139 (lv_at hl 1 rfl) ?_
                refine px_put S k_Tok hT hw 0 0 8 rfl rfl (by decide) m1_111 rfl rfl rfl (Nat.le_of_ble_eq_true rfl) d_Tok_skip_141 (w' := wd_Tok cs h r (fun _ => some tp) (upd f_4 8 z18) a_4 g) (ps' := [wd_Tok cs h r (fun _ => some tp) (upd f_4 8 z18) a_4 g, [(tp, .inl (cs 1, 2048, .inl tb))]]) rfl rfl (fun H locs hw => ?_)
                obtain ⟨z21, ez21⟩ : ∃ y : Int32, y = x4_2 + 1 := ⟨_, rfl⟩
                have tz21 : z21.toInt = (x4_2.toInt + 1 + 2147483648) % 4294967296 - 2147483648 := by rw [ez21]; exact i_add x4_2 1
                have lz21 := Int32.le_toInt z21
                have uz21 := Int32.toInt_lt z21
                try replace tz21 : z21.toInt = x4_2.toInt + 1 := by omega
                refine lv_iinc (v := z21) (lv' := [(2, .int z21), (1, .int 1), (4, .int z18), (3, .int v6), (0, .ref h)]) S.x S.b d_Tok_skip_144 hl (k := 4) rfl (by rw [ez21]; rfl) (by decide) rfl (fun ls hl => ?_)
                refine lv_goto (tgt := 4) S.x S.b d_Tok_skip_147 (by decide) ?_
                first | exact ih4 (upd f_4 8 z18) a_4 (1 : Int32) z21 _ _ ls (show TokOk (f_4 7) z18 (f_4 10) (f_4 11) (f_4 12) (f_4 13) (f_4 17) (a_4 4) from ⟨⟨o1, o2⟩, ⟨(oz_8c8b3d3770 nc19 o3), (oz_f86517a702 tz18 nc16 e9)⟩, ⟨o5, o6⟩, ⟨o7, o8⟩, ⟨o9, o10⟩, ⟨o11, o12⟩, o13, hn4⟩) (show (f_4 7).toInt = (f 7).toInt from k4_0) (show (f_4 10).toInt = (f 10).toInt from k4_1) (show (f_4 15).toInt = (f 15).toInt from k4_2) (show (f 8).toInt ≤ z18.toInt from (oz_fbfdb238f4 k4_3 nc19)) (show 0 ≤ z21.toInt from (oz_ae613611c0 tz21 k4_4)) (show z21.toInt ≤ (f_4 7).toInt+1 from (oz_0c5335350d nc1 tz21)) (show Q5 (a_4 5) from hq5) (show (f_4 7).toInt+2-z21.toInt < (n_4 : Int) from (oz_1a25760b21 hm tz21)) hw (lv_sub hl [4, 1, 0] rfl) | exact ih4 (upd f_4 8 z18) a_4 (1 : Int32) z21 _ _ ls (show TokOk (f_4 7) z18 (f_4 10) (f_4 11) (f_4 12) (f_4 13) (f_4 17) (a_4 4) from ⟨⟨by first | exact o1 | omega, by first | exact o2 | omega⟩, ⟨by first | exact oz_8c8b3d3770 nc19 o3 | omega, by first | exact oz_f86517a702 tz18 nc16 e9 | omega⟩, ⟨by first | exact o5 | omega, by first | exact o6 | omega⟩, ⟨by first | exact o7 | omega, by first | exact o8 | omega⟩, ⟨by first | exact o9 | omega, by first | exact o10 | omega⟩, ⟨by first | exact o11 | omega, by first | exact o12 | omega⟩, by first | exact o13 | omega, hn4⟩) (show (f_4 7).toInt = (f 7).toInt from by first | exact k4_0 | omega) (show (f_4 10).toInt = (f 10).toInt from by first | exact k4_1 | omega) (show (f_4 15).toInt = (f 15).toInt from by first | exact k4_2 | omega) (show (f 8).toInt ≤ z18.toInt from by first | exact oz_fbfdb238f4 k4_3 nc19 | omega) (show 0 ≤ z21.toInt from by first | exact oz_ae613611c0 tz21 k4_4 | omega) (show z21.toInt ≤ (f_4 7).toInt+1 from by first | exact oz_0c5335350d nc1 tz21 | omega) (show Q5 (a_4 5) from hq5) (show (f_4 7).toInt+2-z21.toInt < (n_4 : Int) from by first | exact oz_1a25760b21 hm tz21 | omega) hw (lv_sub hl [4, 1, 0] rfl)
            · have nc16 : ¬ v6.toInt = (9 : Int) := mt (i_eq (x := v6) (y := 9)).mpr c16
              refine lv_iload_n S.x S.b d_Tok_skip_43 rfl (lv_at hl 1 rfl) ?_
              refine lv_bipush (v := 10) S.x S.b d_Tok_skip_44 (by decide) ?_
              refine lv_icmp_eq (tgt := 55) S.x S.b d_Tok_skip_46 (by decide) (fun c22 => ?_) (fun c22 => ?_)
              · have nc22 : v6.toInt = (10 : Int) := (i_eq (x := v6) (y := 10)).mp c22
                refine lv_aload_n S.x S.b d_Tok_skip_55 rfl (lv_at hl 2 rfl) ?_
                refine px_get S k_Tok hT hw 0 0 8 (v := .int (f_4 8)) rfl rfl rfl (by decide) m1_111 d_Tok_skip_56 ?_
                refine lv_iconst (v := 1) S.x S.b d_Tok_skip_59 (by decide) ?_
                refine lv_iadd S.x S.b d_Tok_skip_60 ?_
                have lr23 := Int32.le_toInt (f_4 8)
                have ur23 := Int32.toInt_lt (f_4 8)
                refine lv_topi (fun z24 ez24 => ?_)
                have tz24 : z24.toInt = ((f_4 8).toInt + (1 : Int) + 2147483648) % 4294967296 - 2147483648 := by rw [ez24]; exact i_add (f_4 8) 1
                have lz24 := Int32.le_toInt z24
                have uz24 := Int32.toInt_lt z24
                try replace tz24 : z24.toInt = (f_4 8).toInt + (1 : Int) := by omega
                refine lv_istore (lv' := [(4, .int z24), (3, .int v6), (0, .ref h), (1, .int x4_1), (2, .int x4_2)]) S.x S.b d_Tok_skip_61 hl (by decide) rfl (fun ls hl => ?_)
                refine lv_goto (tgt := 123) S.x S.b d_Tok_skip_63 (by decide) ?_
                refine lv_iload S.x S.b d_Tok_skip_123 (lv_at hl 0 rfl) ?_
                refine lv_aload_n S.x S.b d_Tok_skip_125 rfl (lv_at hl 2 rfl) ?_
                refine px_get S k_Tok hT hw 0 0 8 (v := .int (f_4 8)) rfl rfl rfl (by decide) m1_111 d_Tok_skip_126 ?_
                refine lv_icmp_le (tgt := 136) S.x S.b d_Tok_skip_129 (by decide) (fun c25 => ?_) (fun c25 => ?_)
                · have nc25 : z24.toInt ≤ (f_4 8).toInt := (i_le (x := z24) (y := (f_4 8))).mp c25
                  refine lv_iconst (v := 0) S.x S.b d_Tok_skip_136 (by decide) ?_
                  refine lv_istore_n (lv' := [(1, .int 0), (4, .int z24), (3, .int v6), (0, .ref h), (2, .int x4_2)]) S.x S.b d_Tok_skip_137 rfl hl (by decide) rfl (fun ls hl => ?_)
                  refine lv_aload_n S.x S.b d_Tok_skip_138 rfl (lv_at hl 3 rfl) ?_
                  refine lv_iload S.x S.b d_Tok_skip_139 (lv_at hl 1 rfl) ?_
                  refine px_put S k_Tok hT hw 0 0 8 rfl rfl (by decide) m1_111 rfl rfl rfl (Nat.le_of_ble_eq_true rfl) d_Tok_skip_141 (w' := wd_Tok cs h r (fun _ => some tp) (upd f_4 8 z24) a_4 g) (ps' := [wd_Tok cs h r (fun _ => some tp) (upd f_4 8 z24) a_4 g, [(tp, .inl (cs 1, 2048, .inl tb))]]) rfl rfl (fun H locs hw => ?_)
                  obtain ⟨z26, ez26⟩ : ∃ y : Int32, y = x4_2 + 1 := ⟨_, rfl⟩
                  have tz26 : z26.toInt = (x4_2.toInt + 1 + 2147483648) % 4294967296 - 2147483648 := by rw [ez26]; exact i_add x4_2 1
                  have lz26 := Int32.le_toInt z26
                  have uz26 := Int32.toInt_lt z26
                  first | replace tz26 : z26.toInt = x4_2.toInt + 1 := (oz_d0a3671be7 tz24 nc25) | try replace tz26 : z26.toInt = x4_2.toInt + 1 := by first | exact oz_d0a3671be7 tz24 nc25 | omega
                  refine lv_iinc (v := z26) (lv' := [(2, .int z26), (1, .int 0), (4, .int z24), (3, .int v6), (0, .ref h)]) S.x S.b d_Tok_skip_144 hl (k := 4) rfl (by rw [ez26]; rfl) (by decide) rfl (fun ls hl => ?_)
                  refine lv_goto (tgt := 4) S.x S.b d_Tok_skip_147 (by decide) ?_
                  first | exact ih4 (upd f_4 8 z24) a_4 (0 : Int32) z26 _ _ ls (show TokOk (f_4 7) z24 (f_4 10) (f_4 11) (f_4 12) (f_4 13) (f_4 17) (a_4 4) from ⟨⟨o1, o2⟩, ⟨(oz_b3b25f0e49 tz24 o3), (oz_f1d1298f6f tz24 nc25)⟩, ⟨o5, o6⟩, ⟨o7, o8⟩, ⟨o9, o10⟩, ⟨o11, o12⟩, o13, hn4⟩) (show (f_4 7).toInt = (f 7).toInt from k4_0) (show (f_4 10).toInt = (f 10).toInt from k4_1) (show (f_4 15).toInt = (f 15).toInt from k4_2) (show (f 8).toInt ≤ z24.toInt from (oz_df4877b868 k4_3 tz24)) (show 0 ≤ z26.toInt from (oz_ae613611c0 tz26 k4_4)) (show z26.toInt ≤ (f_4 7).toInt+1 from (oz_42d443b05b tz24 nc25)) (show Q5 (a_4 5) from hq5) (show (f_4 7).toInt+2-z26.toInt < (n_4 : Int) from (oz_ea2b3b93d5 tz24 nc25)) hw (lv_sub hl [4, 1, 0] rfl) | exact ih4 (upd f_4 8 z24) a_4 (0 : Int32) z26 _ _ ls (show TokOk (f_4 7) z24 (f_4 10) (f_4 11) (f_4 12) (f_4 13) (f_4 17) (a_4 4) from ⟨⟨by first | exact o1 | omega, by first | exact o2 | omega⟩, ⟨by first | exact oz_b3b25f0e49 tz24 o3 | omega, by first | exact oz_f1d1298f6f tz24 nc25 | omega⟩, ⟨by first | exact o5 | omega, by first | exact o6 | omega⟩, ⟨by first | exact o7 | omega, by first | exact o8 | omega⟩, ⟨by first | exact o9 | omega, by first | exact o10 | omega⟩, ⟨by first | exact o11 | omega, by first | exact o12 | omega⟩, by first | exact o13 | omega, hn4⟩) (show (f_4 7).toInt = (f 7).toInt from by first | exact k4_0 | omega) (show (f_4 10).toInt = (f 10).toInt from by first | exact k4_1 | omega) (show (f_4 15).toInt = (f 15).toInt from by first | exact k4_2 | omega) (show (f 8).toInt ≤ z24.toInt from by first | exact oz_df4877b868 k4_3 tz24 | omega) (show 0 ≤ z26.toInt from by first | exact oz_ae613611c0 tz26 k4_4 | omega) (show z26.toInt ≤ (f_4 7).toInt+1 from by first | exact oz_42d443b05b tz24 nc25 | omega) (show Q5 (a_4 5) from hq5) (show (f_4 7).toInt+2-z26.toInt < (n_4 : Int) from by first | exact oz_ea2b3b93d5 tz24 nc25 | omega) hw (lv_sub hl [4, 1, 0] rfl)
                · have nc25 : ¬ z24.toInt ≤ (f_4 8).toInt := mt (i_le (x := z24) (y := (f_4 8))).mpr c25
                  refine lv_iconst (v := 1) S.x S.b d_Tok_skip_132 (by decide) ?_
                  refine lv_goto (tgt := 137) S.x S.b d_Tok_skip_133 (by decide) ?_
                  refine lv_istore_n (lv' := [(1, .int 1), (4, .int z24), (3, .int v6), (0, .ref h), (2, .int x4_2)]) S.x S.b d_Tok_skip_137 rfl hl (by decide) rfl (fun ls hl => ?_)
                  refine lv_aload_n S.x S.b d_Tok_skip_138 rfl (lv_at hl 3 rfl) ?_
                  refine lv_iload S.x S.b d_Tok_skip_139 (lv_at hl 1 rfl) ?_
                  refine px_put S k_Tok hT hw 0 0 8 rfl rfl (by decide) m1_111 rfl rfl rfl (Nat.le_of_ble_eq_true rfl) d_Tok_skip_141 (w' := wd_Tok cs h r (fun _ => some tp) (upd f_4 8 z24) a_4 g) (ps' := [wd_Tok cs h r (fun _ => some tp) (upd f_4 8 z24) a_4 g, [(tp, .inl (cs 1, 2048, .inl tb))]]) rfl rfl (fun H locs hw => ?_)
                  obtain ⟨z27, ez27⟩ : ∃ y : Int32, y = x4_2 + 1 := ⟨_, rfl⟩
                  have tz27 : z27.toInt = (x4_2.toInt + 1 + 2147483648) % 4294967296 - 2147483648 := by rw [ez27]; exact i_add x4_2 1
                  have lz27 := Int32.le_toInt z27
                  have uz27 := Int32.toInt_lt z27
                  try replace tz27 : z27.toInt = x4_2.toInt + 1 := by omega
                  refine lv_iinc (v := z27) (lv' := [(2, .int z27), (1, .int 1), (4, .int z24), (3, .int v6), (0, .ref h)]) S.x S.b d_Tok_skip_144 hl (k := 4) rfl (by rw [ez27]; rfl) (by decide) rfl (fun ls hl => ?_)
                  refine lv_goto (tgt := 4) S.x S.b d_Tok_skip_147 (by decide) ?_
                  first | exact ih4 (upd f_4 8 z24) a_4 (1 : Int32) z27 _ _ ls (show TokOk (f_4 7) z24 (f_4 10) (f_4 11) (f_4 12) (f_4 13) (f_4 17) (a_4 4) from ⟨⟨o1, o2⟩, ⟨(oz_8c8b3d3770 nc25 o3), (oz_c84fafa606 tz24 nc22 e9)⟩, ⟨o5, o6⟩, ⟨o7, o8⟩, ⟨o9, o10⟩, ⟨o11, o12⟩, o13, hn4⟩) (show (f_4 7).toInt = (f 7).toInt from k4_0) (show (f_4 10).toInt = (f 10).toInt from k4_1) (show (f_4 15).toInt = (f 15).toInt from k4_2) (show (f 8).toInt ≤ z24.toInt from (oz_fbfdb238f4 k4_3 nc25)) (show 0 ≤ z27.toInt from (oz_ae613611c0 tz27 k4_4)) (show z27.toInt ≤ (f_4 7).toInt+1 from (oz_0c5335350d nc1 tz27)) (show Q5 (a_4 5) from hq5) (show (f_4 7).toInt+2-z27.toInt < (n_4 : Int) from (oz_1a25760b21 hm tz27)) hw (lv_sub hl [4, 1, 0] rfl) | exact ih4 (upd f_4 8 z24) a_4 (1 : Int32) z27 _ _ ls (show TokOk (f_4 7) z24 (f_4 10) (f_4 11) (f_4 12) (f_4 13) (f_4 17) (a_4 4) from ⟨⟨by first | exact o1 | omega, by first | exact o2 | omega⟩, ⟨by first | exact oz_8c8b3d3770 nc25 o3 | omega, by first | exact oz_c84fafa606 tz24 nc22 e9 | omega⟩, ⟨by first | exact o5 | omega, by first | exact o6 | omega⟩, ⟨by first | exact o7 | omega, by first | exact o8 | omega⟩, ⟨by first | exact o9 | omega, by first | exact o10 | omega⟩, ⟨by first | exact o11 | omega, by first | exact o12 | omega⟩, by first | exact o13 | omega, hn4⟩) (show (f_4 7).toInt = (f 7).toInt from by first | exact k4_0 | omega) (show (f_4 10).toInt = (f 10).toInt from by first | exact k4_1 | omega) (show (f_4 15).toInt = (f 15).toInt from by first | exact k4_2 | omega) (show (f 8).toInt ≤ z24.toInt from by first | exact oz_fbfdb238f4 k4_3 nc25 | omega) (show 0 ≤ z27.toInt from by first | exact oz_ae613611c0 tz27 k4_4 | omega) (show z27.toInt ≤ (f_4 7).toInt+1 from by first | exact oz_0c5335350d nc1 tz27 | omega) (show Q5 (a_4 5) from hq5) (show (f_4 7).toInt+2-z27.toInt < (n_4 : Int) from by first | exact oz_1a25760b21 hm tz27 | omega) hw (lv_sub hl [4, 1, 0] rfl)
              · have nc22 : ¬ v6.toInt = (10 : Int) := mt (i_eq (x := v6) (y := 10)).mpr c22
                refine lv_iload_n S.x S.b d_Tok_skip_49 rfl (lv_at hl 1 rfl) ?_
                refine lv_bipush (v := 13) S.x S.b d_Tok_skip_50 (by decide) ?_
                refine lv_icmp_ne (tgt := 66) S.x S.b d_Tok_skip_52 (by decide) (fun c28 => ?_) (fun c28 => ?_)
                · have nc28 : ¬ v6.toInt = (13 : Int) := mt (i_eq (x := v6) (y := 13)).mpr c28
                  refine lv_iload_n S.x S.b d_Tok_skip_66 rfl (lv_at hl 1 rfl) ?_
                  refine lv_bipush (v := 47) S.x S.b d_Tok_skip_67 (by decide) ?_
                  refine lv_icmp_ne (tgt := 96) S.x S.b d_Tok_skip_69 (by decide) (fun c29 => ?_) (fun c29 => ?_)
                  · have nc29 : ¬ v6.toInt = (47 : Int) := mt (i_eq (x := v6) (y := 47)).mpr c29
                    refine lv_iload_n S.x S.b d_Tok_skip_96 rfl (lv_at hl 1 rfl) ?_
                    refine lv_bipush (v := 47) S.x S.b d_Tok_skip_97 (by decide) ?_
                    refine lv_icmp_ne (tgt := 123) S.x S.b d_Tok_skip_99 (by decide) (fun c30 => ?_) (fun c30 => ?_)
                    · have nc30 : ¬ v6.toInt = (47 : Int) := mt (i_eq (x := v6) (y := 47)).mpr c30
                      refine lv_iload S.x S.b d_Tok_skip_123 (lv_at hl 0 rfl) ?_
                      refine lv_aload_n S.x S.b d_Tok_skip_125 rfl (lv_at hl 2 rfl) ?_
                      refine px_get S k_Tok hT hw 0 0 8 (v := .int (f_4 8)) rfl rfl rfl (by decide) m1_111 d_Tok_skip_126 ?_
                      refine lv_icmp_le (tgt := 136) S.x S.b d_Tok_skip_129 (by decide) (fun c31 => ?_) (fun c31 => ?_)
                      · have nc31 : (f_4 8).toInt ≤ (f_4 8).toInt := (i_le (x := (f_4 8)) (y := (f_4 8))).mp c31
                        refine lv_iconst (v := 0) S.x S.b d_Tok_skip_136 (by decide) ?_
                        refine lv_istore_n (lv' := [(1, .int 0), (4, .int (f_4 8)), (3, .int v6), (0, .ref h), (2, .int x4_2)]) S.x S.b d_Tok_skip_137 rfl hl (by decide) rfl (fun ls hl => ?_)
                        refine lv_aload_n S.x S.b d_Tok_skip_138 rfl (lv_at hl 3 rfl) ?_
                        refine lv_iload S.x S.b d_Tok_skip_139 (lv_at hl 1 rfl) ?_
                        refine px_put S k_Tok hT hw 0 0 8 rfl rfl (by decide) m1_111 rfl rfl rfl (Nat.le_of_ble_eq_true rfl) d_Tok_skip_141 (w' := wd_Tok cs h r (fun _ => some tp) (upd f_4 8 (f_4 8)) a_4 g) (ps' := [wd_Tok cs h r (fun _ => some tp) (upd f_4 8 (f_4 8)) a_4 g, [(tp, .inl (cs 1, 2048, .inl tb))]]) rfl rfl (fun H locs hw => ?_)
                        obtain ⟨z32, ez32⟩ : ∃ y : Int32, y = x4_2 + 1 := ⟨_, rfl⟩
                        have tz32 : z32.toInt = (x4_2.toInt + 1 + 2147483648) % 4294967296 - 2147483648 := by rw [ez32]; exact i_add x4_2 1
                        have lz32 := Int32.le_toInt z32
                        have uz32 := Int32.toInt_lt z32
                        try replace tz32 : z32.toInt = x4_2.toInt + 1 := by omega
                        refine lv_iinc (v := z32) (lv' := [(2, .int z32), (1, .int 0), (4, .int (f_4 8)), (3, .int v6), (0, .ref h)]) S.x S.b d_Tok_skip_144 hl (k := 4) rfl (by rw [ez32]; rfl) (by decide) rfl (fun ls hl => ?_)
                        refine lv_goto (tgt := 4) S.x S.b d_Tok_skip_147 (by decide) ?_
                        first | exact ih4 (upd f_4 8 (f_4 8)) a_4 (0 : Int32) z32 _ _ ls (show TokOk (f_4 7) (f_4 8) (f_4 10) (f_4 11) (f_4 12) (f_4 13) (f_4 17) (a_4 4) from ⟨⟨o1, o2⟩, ⟨o3, o4⟩, ⟨o5, o6⟩, ⟨o7, o8⟩, ⟨o9, o10⟩, ⟨o11, o12⟩, o13, hn4⟩) (show (f_4 7).toInt = (f 7).toInt from k4_0) (show (f_4 10).toInt = (f 10).toInt from k4_1) (show (f_4 15).toInt = (f 15).toInt from k4_2) (show (f 8).toInt ≤ (f_4 8).toInt from k4_3) (show 0 ≤ z32.toInt from (oz_ae613611c0 tz32 k4_4)) (show z32.toInt ≤ (f_4 7).toInt+1 from (oz_0c5335350d nc1 tz32)) (show Q5 (a_4 5) from hq5) (show (f_4 7).toInt+2-z32.toInt < (n_4 : Int) from (oz_1a25760b21 hm tz32)) hw (lv_sub hl [4, 1, 0] rfl) | exact ih4 (upd f_4 8 (f_4 8)) a_4 (0 : Int32) z32 _ _ ls (show TokOk (f_4 7) (f_4 8) (f_4 10) (f_4 11) (f_4 12) (f_4 13) (f_4 17) (a_4 4) from ⟨⟨by first | exact o1 | omega, by first | exact o2 | omega⟩, ⟨by first | exact o3 | omega, by first | exact o4 | omega⟩, ⟨by first | exact o5 | omega, by first | exact o6 | omega⟩, ⟨by first | exact o7 | omega, by first | exact o8 | omega⟩, ⟨by first | exact o9 | omega, by first | exact o10 | omega⟩, ⟨by first | exact o11 | omega, by first | exact o12 | omega⟩, by first | exact o13 | omega, hn4⟩) (show (f_4 7).toInt = (f 7).toInt from by first | exact k4_0 | omega) (show (f_4 10).toInt = (f 10).toInt from by first | exact k4_1 | omega) (show (f_4 15).toInt = (f 15).toInt from by first | exact k4_2 | omega) (show (f 8).toInt ≤ (f_4 8).toInt from by first | exact k4_3 | omega) (show 0 ≤ z32.toInt from by first | exact oz_ae613611c0 tz32 k4_4 | omega) (show z32.toInt ≤ (f_4 7).toInt+1 from by first | exact oz_0c5335350d nc1 tz32 | omega) (show Q5 (a_4 5) from hq5) (show (f_4 7).toInt+2-z32.toInt < (n_4 : Int) from by first | exact oz_1a25760b21 hm tz32 | omega) hw (lv_sub hl [4, 1, 0] rfl)
                      · have nc31 : ¬ (f_4 8).toInt ≤ (f_4 8).toInt := mt (i_le (x := (f_4 8)) (y := (f_4 8))).mpr c31
                        refine lv_iconst (v := 1) S.x S.b d_Tok_skip_132 (by decide) ?_
                        refine lv_goto (tgt := 137) S.x S.b d_Tok_skip_133 (by decide) ?_
                        refine lv_istore_n (lv' := [(1, .int 1), (4, .int (f_4 8)), (3, .int v6), (0, .ref h), (2, .int x4_2)]) S.x S.b d_Tok_skip_137 rfl hl (by decide) rfl (fun ls hl => ?_)
                        refine lv_aload_n S.x S.b d_Tok_skip_138 rfl (lv_at hl 3 rfl) ?_
                        refine lv_iload S.x S.b d_Tok_skip_139 (lv_at hl 1 rfl) ?_
                        refine px_put S k_Tok hT hw 0 0 8 rfl rfl (by decide) m1_111 rfl rfl rfl (Nat.le_of_ble_eq_true rfl) d_Tok_skip_141 (w' := wd_Tok cs h r (fun _ => some tp) (upd f_4 8 (f_4 8)) a_4 g) (ps' := [wd_Tok cs h r (fun _ => some tp) (upd f_4 8 (f_4 8)) a_4 g, [(tp, .inl (cs 1, 2048, .inl tb))]]) rfl rfl (fun H locs hw => ?_)
                        obtain ⟨z33, ez33⟩ : ∃ y : Int32, y = x4_2 + 1 := ⟨_, rfl⟩
                        have tz33 : z33.toInt = (x4_2.toInt + 1 + 2147483648) % 4294967296 - 2147483648 := by rw [ez33]; exact i_add x4_2 1
                        have lz33 := Int32.le_toInt z33
                        have uz33 := Int32.toInt_lt z33
                        try replace tz33 : z33.toInt = x4_2.toInt + 1 := by omega
                        refine lv_iinc (v := z33) (lv' := [(2, .int z33), (1, .int 1), (4, .int (f_4 8)), (3, .int v6), (0, .ref h)]) S.x S.b d_Tok_skip_144 hl (k := 4) rfl (by rw [ez33]; rfl) (by decide) rfl (fun ls hl => ?_)
                        refine lv_goto (tgt := 4) S.x S.b d_Tok_skip_147 (by decide) ?_
                        first | exact ih4 (upd f_4 8 (f_4 8)) a_4 (1 : Int32) z33 _ _ ls (show TokOk (f_4 7) (f_4 8) (f_4 10) (f_4 11) (f_4 12) (f_4 13) (f_4 17) (a_4 4) from ⟨⟨o1, o2⟩, ⟨o3, o4⟩, ⟨o5, o6⟩, ⟨o7, o8⟩, ⟨o9, o10⟩, ⟨o11, o12⟩, o13, hn4⟩) (show (f_4 7).toInt = (f 7).toInt from k4_0) (show (f_4 10).toInt = (f 10).toInt from k4_1) (show (f_4 15).toInt = (f 15).toInt from k4_2) (show (f 8).toInt ≤ (f_4 8).toInt from k4_3) (show 0 ≤ z33.toInt from (oz_ae613611c0 tz33 k4_4)) (show z33.toInt ≤ (f_4 7).toInt+1 from (oz_0c5335350d nc1 tz33)) (show Q5 (a_4 5) from hq5) (show (f_4 7).toInt+2-z33.toInt < (n_4 : Int) from (oz_1a25760b21 hm tz33)) hw (lv_sub hl [4, 1, 0] rfl) | exact ih4 (upd f_4 8 (f_4 8)) a_4 (1 : Int32) z33 _ _ ls (show TokOk (f_4 7) (f_4 8) (f_4 10) (f_4 11) (f_4 12) (f_4 13) (f_4 17) (a_4 4) from ⟨⟨by first | exact o1 | omega, by first | exact o2 | omega⟩, ⟨by first | exact o3 | omega, by first | exact o4 | omega⟩, ⟨by first | exact o5 | omega, by first | exact o6 | omega⟩, ⟨by first | exact o7 | omega, by first | exact o8 | omega⟩, ⟨by first | exact o9 | omega, by first | exact o10 | omega⟩, ⟨by first | exact o11 | omega, by first | exact o12 | omega⟩, by first | exact o13 | omega, hn4⟩) (show (f_4 7).toInt = (f 7).toInt from by first | exact k4_0 | omega) (show (f_4 10).toInt = (f 10).toInt from by first | exact k4_1 | omega) (show (f_4 15).toInt = (f 15).toInt from by first | exact k4_2 | omega) (show (f 8).toInt ≤ (f_4 8).toInt from by first | exact k4_3 | omega) (show 0 ≤ z33.toInt from by first | exact oz_ae613611c0 tz33 k4_4 | omega) (show z33.toInt ≤ (f_4 7).toInt+1 from by first | exact oz_0c5335350d nc1 tz33 | omega) (show Q5 (a_4 5) from hq5) (show (f_4 7).toInt+2-z33.toInt < (n_4 : Int) from by first | exact oz_1a25760b21 hm tz33 | omega) hw (lv_sub hl [4, 1, 0] rfl)
                    · have nc30 : v6.toInt = (47 : Int) := (i_eq (x := v6) (y := 47)).mp c30
                      refine lv_aload_n S.x S.b d_Tok_skip_102 rfl (lv_at hl 2 rfl) ?_
                      refine lv_aload_n S.x S.b d_Tok_skip_103 rfl (lv_at hl 2 rfl) ?_
                      refine px_get S k_Tok hT hw 0 0 8 (v := .int (f_4 8)) rfl rfl rfl (by decide) m1_111 d_Tok_skip_104 ?_
                      refine lv_iconst (v := 1) S.x S.b d_Tok_skip_107 (by decide) ?_
                      refine lv_iadd S.x S.b d_Tok_skip_108 ?_
                      have lr34 := Int32.le_toInt (f_4 8)
                      have ur34 := Int32.toInt_lt (f_4 8)
                      refine lv_topi (fun z35 ez35 => ?_)
                      have tz35 : z35.toInt = ((f_4 8).toInt + (1 : Int) + 2147483648) % 4294967296 - 2147483648 := by rw [ez35]; exact i_add (f_4 8) 1
                      have lz35 := Int32.le_toInt z35
                      have uz35 := Int32.toInt_lt z35
                      try replace tz35 : z35.toInt = (f_4 8).toInt + (1 : Int) := by omega
                      first | refine px_calli (pr := []) (px_runV (As := [.int z35]) (rest := []) S (c_Tok_byteAt l D cs h r tp tb f_4 a_4 g z35 (show TokOk (f_4 7) (f_4 8) (f_4 10) (f_4 11) (f_4 12) (f_4 13) (f_4 17) (a_4 4) from ⟨⟨o1, o2⟩, ⟨o3, o4⟩, ⟨o5, o6⟩, ⟨o7, o8⟩, ⟨o9, o10⟩, ⟨o11, o12⟩, o13, hn4⟩)  _) hT (pr := []) (pcs := [wd_Tok cs h r (fun _ => some tp) f_4 a_4 g, [(tp, .inl (cs 1, 2048, .inl tb))]]) hw px_X.tt (px_recv hT hw 0 0 rfl rfl rfl) m3_186 m3_183 m3_185 ms_1_6 m1_2 q_Tok_byteAt ⟨Nat.le_of_ble_eq_true rfl, Nat.le_of_ble_eq_true rfl⟩ hl.1 rfl (Nat.le_of_ble_eq_true rfl) d_Tok_skip_109 ⟨Nat.le_of_ble_eq_true rfl, Nat.le_of_ble_eq_true rfl⟩) hw hA (fun v39 p38 H locs hp38 hw => ?_) | refine px_calli (pr := []) (px_runV (As := [.int z35]) (rest := []) S (c_Tok_byteAt l D cs h r tp tb f_4 a_4 g z35 (show TokOk (f_4 7) (f_4 8) (f_4 10) (f_4 11) (f_4 12) (f_4 13) (f_4 17) (a_4 4) from ⟨⟨by first | exact o1 | omega, by first | exact o2 | omega⟩, ⟨by first | exact o3 | omega, by first | exact o4 | omega⟩, ⟨by first | exact o5 | omega, by first | exact o6 | omega⟩, ⟨by first | exact o7 | omega, by first | exact o8 | omega⟩, ⟨by first | exact o9 | omega, by first | exact o10 | omega⟩, ⟨by first | exact o11 | omega, by first | exact o12 | omega⟩, by first | exact o13 | omega, hn4⟩)  _) hT (pr := []) (pcs := [wd_Tok cs h r (fun _ => some tp) f_4 a_4 g, [(tp, .inl (cs 1, 2048, .inl tb))]]) hw px_X.tt (px_recv hT hw 0 0 rfl rfl rfl) m3_186 m3_183 m3_185 ms_1_6 m1_2 q_Tok_byteAt ⟨Nat.le_of_ble_eq_true rfl, Nat.le_of_ble_eq_true rfl⟩ hl.1 rfl (Nat.le_of_ble_eq_true rfl) d_Tok_skip_109 ⟨Nat.le_of_ble_eq_true rfl, Nat.le_of_ble_eq_true rfl⟩) hw hA (fun v39 p38 H locs hp38 hw => ?_)
                      obtain ⟨rfl, e40, e41, e42⟩ := hp38
                      have e40 : -1 ≤ v39.toInt := e40
                      have e41 : v39.toInt ≤ 255 := e41
                      have e42 : 0 ≤ v39.toInt → 0 ≤ z35.toInt ∧ z35.toInt < (f_4 7).toInt := e42
                      have lv39 := Int32.le_toInt v39
                      have uv39 := Int32.toInt_lt v39
                      refine lv_bipush (v := 42) S.x S.b d_Tok_skip_112 (by decide) ?_
                      refine lv_icmp_ne (tgt := 123) S.x S.b d_Tok_skip_114 (by decide) (fun c43 => ?_) (fun c43 => ?_)
                      · have nc43 : ¬ v39.toInt = (42 : Int) := mt (i_eq (x := v39) (y := 42)).mpr c43
                        refine lv_iload S.x S.b d_Tok_skip_123 (lv_at hl 0 rfl) ?_
                        refine lv_aload_n S.x S.b d_Tok_skip_125 rfl (lv_at hl 2 rfl) ?_
                        refine px_get S k_Tok hT hw 0 0 8 (v := .int (f_4 8)) rfl rfl rfl (by decide) m1_111 d_Tok_skip_126 ?_
                        refine lv_icmp_le (tgt := 136) S.x S.b d_Tok_skip_129 (by decide) (fun c44 => ?_) (fun c44 => ?_)
                        · have nc44 : (f_4 8).toInt ≤ (f_4 8).toInt := (i_le (x := (f_4 8)) (y := (f_4 8))).mp c44
                          refine lv_iconst (v := 0) S.x S.b d_Tok_skip_136 (by decide) ?_
                          refine lv_istore_n (lv' := [(1, .int 0), (4, .int (f_4 8)), (3, .int v6), (0, .ref h), (2, .int x4_2)]) S.x S.b d_Tok_skip_137 rfl hl (by decide) rfl (fun ls hl => ?_)
                          refine lv_aload_n S.x S.b d_Tok_skip_138 rfl (lv_at hl 3 rfl) ?_
                          refine lv_iload S.x S.b d_Tok_skip_139 (lv_at hl 1 rfl) ?_
                          refine px_put S k_Tok hT hw 0 0 8 rfl rfl (by decide) m1_111 rfl rfl rfl (Nat.le_of_ble_eq_true rfl) d_Tok_skip_141 (w' := wd_Tok cs h r (fun _ => some tp) (upd f_4 8 (f_4 8)) a_4 g) (ps' := [wd_Tok cs h r (fun _ => some tp) (upd f_4 8 (f_4 8)) a_4 g, [(tp, .inl (cs 1, 2048, .inl tb))]]) rfl rfl (fun H locs hw => ?_)
                          obtain ⟨z45, ez45⟩ : ∃ y : Int32, y = x4_2 + 1 := ⟨_, rfl⟩
                          have tz45 : z45.toInt = (x4_2.toInt + 1 + 2147483648) % 4294967296 - 2147483648 := by rw [ez45]; exact i_add x4_2 1
                          have lz45 := Int32.le_toInt z45
                          have uz45 := Int32.toInt_lt z45
                          try replace tz45 : z45.toInt = x4_2.toInt + 1 := by omega
                          refine lv_iinc (v := z45) (lv' := [(2, .int z45), (1, .int 0), (4, .int (f_4 8)), (3, .int v6), (0, .ref h)]) S.x S.b d_Tok_skip_144 hl (k := 4) rfl (by rw [ez45]; rfl) (by decide) rfl (fun ls hl => ?_)
                          refine lv_goto (tgt := 4) S.x S.b d_Tok_skip_147 (by decide) ?_
                          first | exact ih4 (upd f_4 8 (f_4 8)) a_4 (0 : Int32) z45 _ _ ls (show TokOk (f_4 7) (f_4 8) (f_4 10) (f_4 11) (f_4 12) (f_4 13) (f_4 17) (a_4 4) from ⟨⟨o1, o2⟩, ⟨o3, o4⟩, ⟨o5, o6⟩, ⟨o7, o8⟩, ⟨o9, o10⟩, ⟨o11, o12⟩, o13, hn4⟩) (show (f_4 7).toInt = (f 7).toInt from k4_0) (show (f_4 10).toInt = (f 10).toInt from k4_1) (show (f_4 15).toInt = (f 15).toInt from k4_2) (show (f 8).toInt ≤ (f_4 8).toInt from k4_3) (show 0 ≤ z45.toInt from (oz_ae613611c0 tz45 k4_4)) (show z45.toInt ≤ (f_4 7).toInt+1 from (oz_0c5335350d nc1 tz45)) (show Q5 (a_4 5) from hq5) (show (f_4 7).toInt+2-z45.toInt < (n_4 : Int) from (oz_1a25760b21 hm tz45)) hw (lv_sub hl [4, 1, 0] rfl) | exact ih4 (upd f_4 8 (f_4 8)) a_4 (0 : Int32) z45 _ _ ls (show TokOk (f_4 7) (f_4 8) (f_4 10) (f_4 11) (f_4 12) (f_4 13) (f_4 17) (a_4 4) from ⟨⟨by first | exact o1 | omega, by first | exact o2 | omega⟩, ⟨by first | exact o3 | omega, by first | exact o4 | omega⟩, ⟨by first | exact o5 | omega, by first | exact o6 | omega⟩, ⟨by first | exact o7 | omega, by first | exact o8 | omega⟩, ⟨by first | exact o9 | omega, by first | exact o10 | omega⟩, ⟨by first | exact o11 | omega, by first | exact o12 | omega⟩, by first | exact o13 | omega, hn4⟩) (show (f_4 7).toInt = (f 7).toInt from by first | exact k4_0 | omega) (show (f_4 10).toInt = (f 10).toInt from by first | exact k4_1 | omega) (show (f_4 15).toInt = (f 15).toInt from by first | exact k4_2 | omega) (show (f 8).toInt ≤ (f_4 8).toInt from by first | exact k4_3 | omega) (show 0 ≤ z45.toInt from by first | exact oz_ae613611c0 tz45 k4_4 | omega) (show z45.toInt ≤ (f_4 7).toInt+1 from by first | exact oz_0c5335350d nc1 tz45 | omega) (show Q5 (a_4 5) from hq5) (show (f_4 7).toInt+2-z45.toInt < (n_4 : Int) from by first | exact oz_1a25760b21 hm tz45 | omega) hw (lv_sub hl [4, 1, 0] rfl)
                        · have nc44 : ¬ (f_4 8).toInt ≤ (f_4 8).toInt := mt (i_le (x := (f_4 8)) (y := (f_4 8))).mpr c44
                          refine lv_iconst (v := 1) S.x S.b d_Tok_skip_132 (by decide) ?_
                          refine lv_goto (tgt := 137) S.x S.b d_Tok_skip_133 (by decide) ?_
                          refine lv_istore_n (lv' := [(1, .int 1), (4, .int (f_4 8)), (3, .int v6), (0, .ref h), (2, .int x4_2)]) S.x S.b d_Tok_skip_137 rfl hl (by decide) rfl (fun ls hl => ?_)
                          refine lv_aload_n S.x S.b d_Tok_skip_138 rfl (lv_at hl 3 rfl) ?_
                          refine lv_iload S.x S.b d_Tok_skip_139 (lv_at hl 1 rfl) ?_
                          refine px_put S k_Tok hT hw 0 0 8 rfl rfl (by decide) m1_111 rfl rfl rfl (Nat.le_of_ble_eq_true rfl) d_Tok_skip_141 (w' := wd_Tok cs h r (fun _ => some tp) (upd f_4 8 (f_4 8)) a_4 g) (ps' := [wd_Tok cs h r (fun _ => some tp) (upd f_4 8 (f_4 8)) a_4 g, [(tp, .inl (cs 1, 2048, .inl tb))]]) rfl rfl (fun H locs hw => ?_)
                          obtain ⟨z46, ez46⟩ : ∃ y : Int32, y = x4_2 + 1 := ⟨_, rfl⟩
                          have tz46 : z46.toInt = (x4_2.toInt + 1 + 2147483648) % 4294967296 - 2147483648 := by rw [ez46]; exact i_add x4_2 1
                          have lz46 := Int32.le_toInt z46
                          have uz46 := Int32.toInt_lt z46
                          try replace tz46 : z46.toInt = x4_2.toInt + 1 := by omega
                          refine lv_iinc (v := z46) (lv' := [(2, .int z46), (1, .int 1), (4, .int (f_4 8)), (3, .int v6), (0, .ref h)]) S.x S.b d_Tok_skip_144 hl (k := 4) rfl (by rw [ez46]; rfl) (by decide) rfl (fun ls hl => ?_)
                          refine lv_goto (tgt := 4) S.x S.b d_Tok_skip_147 (by decide) ?_
                          first | exact ih4 (upd f_4 8 (f_4 8)) a_4 (1 : Int32) z46 _ _ ls (show TokOk (f_4 7) (f_4 8) (f_4 10) (f_4 11) (f_4 12) (f_4 13) (f_4 17) (a_4 4) from ⟨⟨o1, o2⟩, ⟨o3, o4⟩, ⟨o5, o6⟩, ⟨o7, o8⟩, ⟨o9, o10⟩, ⟨o11, o12⟩, o13, hn4⟩) (show (f_4 7).toInt = (f 7).toInt from k4_0) (show (f_4 10).toInt = (f 10).toInt from k4_1) (show (f_4 15).toInt = (f 15).toInt from k4_2) (show (f 8).toInt ≤ (f_4 8).toInt from k4_3) (show 0 ≤ z46.toInt from (oz_ae613611c0 tz46 k4_4)) (show z46.toInt ≤ (f_4 7).toInt+1 from (oz_0c5335350d nc1 tz46)) (show Q5 (a_4 5) from hq5) (show (f_4 7).toInt+2-z46.toInt < (n_4 : Int) from (oz_1a25760b21 hm tz46)) hw (lv_sub hl [4, 1, 0] rfl) | exact ih4 (upd f_4 8 (f_4 8)) a_4 (1 : Int32) z46 _ _ ls (show TokOk (f_4 7) (f_4 8) (f_4 10) (f_4 11) (f_4 12) (f_4 13) (f_4 17) (a_4 4) from ⟨⟨by first | exact o1 | omega, by first | exact o2 | omega⟩, ⟨by first | exact o3 | omega, by first | exact o4 | omega⟩, ⟨by first | exact o5 | omega, by first | exact o6 | omega⟩, ⟨by first | exact o7 | omega, by first | exact o8 | omega⟩, ⟨by first | exact o9 | omega, by first | exact o10 | omega⟩, ⟨by first | exact o11 | omega, by first | exact o12 | omega⟩, by first | exact o13 | omega, hn4⟩) (show (f_4 7).toInt = (f 7).toInt from by first | exact k4_0 | omega) (show (f_4 10).toInt = (f 10).toInt from by first | exact k4_1 | omega) (show (f_4 15).toInt = (f 15).toInt from by first | exact k4_2 | omega) (show (f 8).toInt ≤ (f_4 8).toInt from by first | exact k4_3 | omega) (show 0 ≤ z46.toInt from by first | exact oz_ae613611c0 tz46 k4_4 | omega) (show z46.toInt ≤ (f_4 7).toInt+1 from by first | exact oz_0c5335350d nc1 tz46 | omega) (show Q5 (a_4 5) from hq5) (show (f_4 7).toInt+2-z46.toInt < (n_4 : Int) from by first | exact oz_1a25760b21 hm tz46 | omega) hw (lv_sub hl [4, 1, 0] rfl)
                      · have nc43 : v39.toInt = (42 : Int) := (i_eq (x := v39) (y := 42)).mp c43
                        refine lv_aload_n S.x S.b d_Tok_skip_117 rfl (lv_at hl 2 rfl) ?_
                        first | refine px_calli (pr := []) (px_runV (As := []) (rest := []) S (c_t2_commentEnd l D cs h r tp tb g f_4 a_4   (show TokOk (f_4 7) (f_4 8) (f_4 10) (f_4 11) (f_4 12) (f_4 13) (f_4 17) (a_4 4) from ⟨⟨o1, o2⟩, ⟨o3, o4⟩, ⟨o5, o6⟩, ⟨o7, o8⟩, ⟨o9, o10⟩, ⟨o11, o12⟩, o13, hn4⟩) _) hT (pr := []) (pcs := [wd_Tok cs h r (fun _ => some tp) f_4 a_4 g, [(tp, .inl (cs 1, 2048, .inl tb))]]) hw px_X.tt (px_recv hT hw 0 0 rfl rfl rfl) m3_194 m3_191 m3_193 ms_1_8 m1_2 q_Tok_commentEnd ⟨Nat.le_of_ble_eq_true rfl, Nat.le_of_ble_eq_true rfl⟩ hl.1 rfl (Nat.le_of_ble_eq_true rfl) d_Tok_skip_118 ⟨Nat.le_of_ble_eq_true rfl, Nat.le_of_ble_eq_true rfl⟩) hw hA (fun v48 p47 H locs hp47 hw => ?_) | refine px_calli (pr := []) (px_runV (As := []) (rest := []) S (c_t2_commentEnd l D cs h r tp tb g f_4 a_4   (show TokOk (f_4 7) (f_4 8) (f_4 10) (f_4 11) (f_4 12) (f_4 13) (f_4 17) (a_4 4) from ⟨⟨by first | exact o1 | omega, by first | exact o2 | omega⟩, ⟨by first | exact o3 | omega, by first | exact o4 | omega⟩, ⟨by first | exact o5 | omega, by first | exact o6 | omega⟩, ⟨by first | exact o7 | omega, by first | exact o8 | omega⟩, ⟨by first | exact o9 | omega, by first | exact o10 | omega⟩, ⟨by first | exact o11 | omega, by first | exact o12 | omega⟩, by first | exact o13 | omega, hn4⟩) _) hT (pr := []) (pcs := [wd_Tok cs h r (fun _ => some tp) f_4 a_4 g, [(tp, .inl (cs 1, 2048, .inl tb))]]) hw px_X.tt (px_recv hT hw 0 0 rfl rfl rfl) m3_194 m3_191 m3_193 ms_1_8 m1_2 q_Tok_commentEnd ⟨Nat.le_of_ble_eq_true rfl, Nat.le_of_ble_eq_true rfl⟩ hl.1 rfl (Nat.le_of_ble_eq_true rfl) d_Tok_skip_118 ⟨Nat.le_of_ble_eq_true rfl, Nat.le_of_ble_eq_true rfl⟩) hw hA (fun v48 p47 H locs hp47 hw => ?_)
                        obtain ⟨rfl, e49, e50, e51⟩ := hp47
                        have e49 : 0 ≤ v48.toInt := e49
                        have e50 : v48.toInt ≤ (f_4 7).toInt+8 := e50
                        have e51 : (f_4 8).toInt ≤ v48.toInt := e51
                        have lv48 := Int32.le_toInt v48
                        have uv48 := Int32.toInt_lt v48
                        refine lv_istore (lv' := [(4, .int v48), (3, .int v6), (0, .ref h), (1, .int x4_1), (2, .int x4_2)]) S.x S.b d_Tok_skip_121 hl (by decide) rfl (fun ls hl => ?_)
                        refine lv_iload S.x S.b d_Tok_skip_123 (lv_at hl 0 rfl) ?_
                        refine lv_aload_n S.x S.b d_Tok_skip_125 rfl (lv_at hl 2 rfl) ?_
                        refine px_get S k_Tok hT hw 0 0 8 (v := .int (f_4 8)) rfl rfl rfl (by decide) m1_111 d_Tok_skip_126 ?_
                        refine lv_icmp_le (tgt := 136) S.x S.b d_Tok_skip_129 (by decide) (fun c52 => ?_) (fun c52 => ?_)
                        · have nc52 : v48.toInt ≤ (f_4 8).toInt := (i_le (x := v48) (y := (f_4 8))).mp c52
                          refine lv_iconst (v := 0) S.x S.b d_Tok_skip_136 (by decide) ?_
                          refine lv_istore_n (lv' := [(1, .int 0), (4, .int v48), (3, .int v6), (0, .ref h), (2, .int x4_2)]) S.x S.b d_Tok_skip_137 rfl hl (by decide) rfl (fun ls hl => ?_)
                          refine lv_aload_n S.x S.b d_Tok_skip_138 rfl (lv_at hl 3 rfl) ?_
                          refine lv_iload S.x S.b d_Tok_skip_139 (lv_at hl 1 rfl) ?_
                          refine px_put S k_Tok hT hw 0 0 8 rfl rfl (by decide) m1_111 rfl rfl rfl (Nat.le_of_ble_eq_true rfl) d_Tok_skip_141 (w' := wd_Tok cs h r (fun _ => some tp) (upd f_4 8 v48) a_4 g) (ps' := [wd_Tok cs h r (fun _ => some tp) (upd f_4 8 v48) a_4 g, [(tp, .inl (cs 1, 2048, .inl tb))]]) rfl rfl (fun H locs hw => ?_)
                          obtain ⟨z53, ez53⟩ : ∃ y : Int32, y = x4_2 + 1 := ⟨_, rfl⟩
                          have tz53 : z53.toInt = (x4_2.toInt + 1 + 2147483648) % 4294967296 - 2147483648 := by rw [ez53]; exact i_add x4_2 1
                          have lz53 := Int32.le_toInt z53
                          have uz53 := Int32.toInt_lt z53
                          try replace tz53 : z53.toInt = x4_2.toInt + 1 := by omega
                          refine lv_iinc (v := z53) (lv' := [(2, .int z53), (1, .int 0), (4, .int v48), (3, .int v6), (0, .ref h)]) S.x S.b d_Tok_skip_144 hl (k := 4) rfl (by rw [ez53]; rfl) (by decide) rfl (fun ls hl => ?_)
                          refine lv_goto (tgt := 4) S.x S.b d_Tok_skip_147 (by decide) ?_
                          first | exact ih4 (upd f_4 8 v48) a_4 (0 : Int32) z53 _ _ ls (show TokOk (f_4 7) v48 (f_4 10) (f_4 11) (f_4 12) (f_4 13) (f_4 17) (a_4 4) from ⟨⟨o1, o2⟩, ⟨e49, (oz_8908a45630 e50)⟩, ⟨o5, o6⟩, ⟨o7, o8⟩, ⟨o9, o10⟩, ⟨o11, o12⟩, o13, hn4⟩) (show (f_4 7).toInt = (f 7).toInt from k4_0) (show (f_4 10).toInt = (f 10).toInt from k4_1) (show (f_4 15).toInt = (f 15).toInt from k4_2) (show (f 8).toInt ≤ v48.toInt from (oz_be764f19f0 k4_3 e51)) (show 0 ≤ z53.toInt from (oz_ae613611c0 tz53 k4_4)) (show z53.toInt ≤ (f_4 7).toInt+1 from (oz_0c5335350d nc1 tz53)) (show Q5 (a_4 5) from hq5) (show (f_4 7).toInt+2-z53.toInt < (n_4 : Int) from (oz_1a25760b21 hm tz53)) hw (lv_sub hl [4, 1, 0] rfl) | exact ih4 (upd f_4 8 v48) a_4 (0 : Int32) z53 _ _ ls (show TokOk (f_4 7) v48 (f_4 10) (f_4 11) (f_4 12) (f_4 13) (f_4 17) (a_4 4) from ⟨⟨by first | exact o1 | omega, by first | exact o2 | omega⟩, ⟨by first | exact e49 | omega, by first | exact oz_8908a45630 e50 | omega⟩, ⟨by first | exact o5 | omega, by first | exact o6 | omega⟩, ⟨by first | exact o7 | omega, by first | exact o8 | omega⟩, ⟨by first | exact o9 | omega, by first | exact o10 | omega⟩, ⟨by first | exact o11 | omega, by first | exact o12 | omega⟩, by first | exact o13 | omega, hn4⟩) (show (f_4 7).toInt = (f 7).toInt from by first | exact k4_0 | omega) (show (f_4 10).toInt = (f 10).toInt from by first | exact k4_1 | omega) (show (f_4 15).toInt = (f 15).toInt from by first | exact k4_2 | omega) (show (f 8).toInt ≤ v48.toInt from by first | exact oz_be764f19f0 k4_3 e51 | omega) (show 0 ≤ z53.toInt from by first | exact oz_ae613611c0 tz53 k4_4 | omega) (show z53.toInt ≤ (f_4 7).toInt+1 from by first | exact oz_0c5335350d nc1 tz53 | omega) (show Q5 (a_4 5) from hq5) (show (f_4 7).toInt+2-z53.toInt < (n_4 : Int) from by first | exact oz_1a25760b21 hm tz53 | omega) hw (lv_sub hl [4, 1, 0] rfl)
                        · have nc52 : ¬ v48.toInt ≤ (f_4 8).toInt := mt (i_le (x := v48) (y := (f_4 8))).mpr c52
                          refine lv_iconst (v := 1) S.x S.b d_Tok_skip_132 (by decide) ?_
                          refine lv_goto (tgt := 137) S.x S.b d_Tok_skip_133 (by decide) ?_
                          refine lv_istore_n (lv' := [(1, .int 1), (4, .int v48), (3, .int v6), (0, .ref h), (2, .int x4_2)]) S.x S.b d_Tok_skip_137 rfl hl (by decide) rfl (fun ls hl => ?_)
                          refine lv_aload_n S.x S.b d_Tok_skip_138 rfl (lv_at hl 3 rfl) ?_
                          refine lv_iload S.x S.b d_Tok_skip_139 (lv_at hl 1 rfl) ?_
                          refine px_put S k_Tok hT hw 0 0 8 rfl rfl (by decide) m1_111 rfl rfl rfl (Nat.le_of_ble_eq_true rfl) d_Tok_skip_141 (w' := wd_Tok cs h r (fun _ => some tp) (upd f_4 8 v48) a_4 g) (ps' := [wd_Tok cs h r (fun _ => some tp) (upd f_4 8 v48) a_4 g, [(tp, .inl (cs 1, 2048, .inl tb))]]) rfl rfl (fun H locs hw => ?_)
                          obtain ⟨z54, ez54⟩ : ∃ y : Int32, y = x4_2 + 1 := ⟨_, rfl⟩
                          have tz54 : z54.toInt = (x4_2.toInt + 1 + 2147483648) % 4294967296 - 2147483648 := by rw [ez54]; exact i_add x4_2 1
                          have lz54 := Int32.le_toInt z54
                          have uz54 := Int32.toInt_lt z54
                          try replace tz54 : z54.toInt = x4_2.toInt + 1 := by omega
                          refine lv_iinc (v := z54) (lv' := [(2, .int z54), (1, .int 1), (4, .int v48), (3, .int v6), (0, .ref h)]) S.x S.b d_Tok_skip_144 hl (k := 4) rfl (by rw [ez54]; rfl) (by decide) rfl (fun ls hl => ?_)
                          refine lv_goto (tgt := 4) S.x S.b d_Tok_skip_147 (by decide) ?_
                          first | exact ih4 (upd f_4 8 v48) a_4 (1 : Int32) z54 _ _ ls (show TokOk (f_4 7) v48 (f_4 10) (f_4 11) (f_4 12) (f_4 13) (f_4 17) (a_4 4) from ⟨⟨o1, o2⟩, ⟨e49, (oz_8908a45630 e50)⟩, ⟨o5, o6⟩, ⟨o7, o8⟩, ⟨o9, o10⟩, ⟨o11, o12⟩, o13, hn4⟩) (show (f_4 7).toInt = (f 7).toInt from k4_0) (show (f_4 10).toInt = (f 10).toInt from k4_1) (show (f_4 15).toInt = (f 15).toInt from k4_2) (show (f 8).toInt ≤ v48.toInt from (oz_fbfdb238f4 k4_3 nc52)) (show 0 ≤ z54.toInt from (oz_ae613611c0 tz54 k4_4)) (show z54.toInt ≤ (f_4 7).toInt+1 from (oz_0c5335350d nc1 tz54)) (show Q5 (a_4 5) from hq5) (show (f_4 7).toInt+2-z54.toInt < (n_4 : Int) from (oz_1a25760b21 hm tz54)) hw (lv_sub hl [4, 1, 0] rfl) | exact ih4 (upd f_4 8 v48) a_4 (1 : Int32) z54 _ _ ls (show TokOk (f_4 7) v48 (f_4 10) (f_4 11) (f_4 12) (f_4 13) (f_4 17) (a_4 4) from ⟨⟨by first | exact o1 | omega, by first | exact o2 | omega⟩, ⟨by first | exact e49 | omega, by first | exact oz_8908a45630 e50 | omega⟩, ⟨by first | exact o5 | omega, by first | exact o6 | omega⟩, ⟨by first | exact o7 | omega, by first | exact o8 | omega⟩, ⟨by first | exact o9 | omega, by first | exact o10 | omega⟩, ⟨by first | exact o11 | omega, by first | exact o12 | omega⟩, by first | exact o13 | omega, hn4⟩) (show (f_4 7).toInt = (f 7).toInt from by first | exact k4_0 | omega) (show (f_4 10).toInt = (f 10).toInt from by first | exact k4_1 | omega) (show (f_4 15).toInt = (f 15).toInt from by first | exact k4_2 | omega) (show (f 8).toInt ≤ v48.toInt from by first | exact oz_fbfdb238f4 k4_3 nc52 | omega) (show 0 ≤ z54.toInt from by first | exact oz_ae613611c0 tz54 k4_4 | omega) (show z54.toInt ≤ (f_4 7).toInt+1 from by first | exact oz_0c5335350d nc1 tz54 | omega) (show Q5 (a_4 5) from hq5) (show (f_4 7).toInt+2-z54.toInt < (n_4 : Int) from by first | exact oz_1a25760b21 hm tz54 | omega) hw (lv_sub hl [4, 1, 0] rfl)
                  · have nc29 : v6.toInt = (47 : Int) := (i_eq (x := v6) (y := 47)).mp c29
                    refine lv_aload_n S.x S.b d_Tok_skip_72 rfl (lv_at hl 2 rfl) ?_
                    refine lv_aload_n S.x S.b d_Tok_skip_73 rfl (lv_at hl 2 rfl) ?_
                    refine px_get S k_Tok hT hw 0 0 8 (v := .int (f_4 8)) rfl rfl rfl (by decide) m1_111 d_Tok_skip_74 ?_
                    refine lv_iconst (v := 1) S.x S.b d_Tok_skip_77 (by decide) ?_
                    refine lv_iadd S.x S.b d_Tok_skip_78 ?_
                    have lr55 := Int32.le_toInt (f_4 8)
                    have ur55 := Int32.toInt_lt (f_4 8)
                    refine lv_topi (fun z56 ez56 => ?_)
                    have tz56 : z56.toInt = ((f_4 8).toInt + (1 : Int) + 2147483648) % 4294967296 - 2147483648 := by rw [ez56]; exact i_add (f_4 8) 1
                    have lz56 := Int32.le_toInt z56
                    have uz56 := Int32.toInt_lt z56
                    try replace tz56 : z56.toInt = (f_4 8).toInt + (1 : Int) := by omega
                    first | refine px_calli (pr := []) (px_runV (As := [.int z56]) (rest := []) S (c_Tok_byteAt l D cs h r tp tb f_4 a_4 g z56 (show TokOk (f_4 7) (f_4 8) (f_4 10) (f_4 11) (f_4 12) (f_4 13) (f_4 17) (a_4 4) from ⟨⟨o1, o2⟩, ⟨o3, o4⟩, ⟨o5, o6⟩, ⟨o7, o8⟩, ⟨o9, o10⟩, ⟨o11, o12⟩, o13, hn4⟩)  _) hT (pr := []) (pcs := [wd_Tok cs h r (fun _ => some tp) f_4 a_4 g, [(tp, .inl (cs 1, 2048, .inl tb))]]) hw px_X.tt (px_recv hT hw 0 0 rfl rfl rfl) m3_186 m3_183 m3_185 ms_1_6 m1_2 q_Tok_byteAt ⟨Nat.le_of_ble_eq_true rfl, Nat.le_of_ble_eq_true rfl⟩ hl.1 rfl (Nat.le_of_ble_eq_true rfl) d_Tok_skip_79 ⟨Nat.le_of_ble_eq_true rfl, Nat.le_of_ble_eq_true rfl⟩) hw hA (fun v60 p59 H locs hp59 hw => ?_) | refine px_calli (pr := []) (px_runV (As := [.int z56]) (rest := []) S (c_Tok_byteAt l D cs h r tp tb f_4 a_4 g z56 (show TokOk (f_4 7) (f_4 8) (f_4 10) (f_4 11) (f_4 12) (f_4 13) (f_4 17) (a_4 4) from ⟨⟨by first | exact o1 | omega, by first | exact o2 | omega⟩, ⟨by first | exact o3 | omega, by first | exact o4 | omega⟩, ⟨by first | exact o5 | omega, by first | exact o6 | omega⟩, ⟨by first | exact o7 | omega, by first | exact o8 | omega⟩, ⟨by first | exact o9 | omega, by first | exact o10 | omega⟩, ⟨by first | exact o11 | omega, by first | exact o12 | omega⟩, by first | exact o13 | omega, hn4⟩)  _) hT (pr := []) (pcs := [wd_Tok cs h r (fun _ => some tp) f_4 a_4 g, [(tp, .inl (cs 1, 2048, .inl tb))]]) hw px_X.tt (px_recv hT hw 0 0 rfl rfl rfl) m3_186 m3_183 m3_185 ms_1_6 m1_2 q_Tok_byteAt ⟨Nat.le_of_ble_eq_true rfl, Nat.le_of_ble_eq_true rfl⟩ hl.1 rfl (Nat.le_of_ble_eq_true rfl) d_Tok_skip_79 ⟨Nat.le_of_ble_eq_true rfl, Nat.le_of_ble_eq_true rfl⟩) hw hA (fun v60 p59 H locs hp59 hw => ?_)
                    obtain ⟨rfl, e61, e62, e63⟩ := hp59
                    have e61 : -1 ≤ v60.toInt := e61
                    have e62 : v60.toInt ≤ 255 := e62
                    have e63 : 0 ≤ v60.toInt → 0 ≤ z56.toInt ∧ z56.toInt < (f_4 7).toInt := e63
                    have lv60 := Int32.le_toInt v60
                    have uv60 := Int32.toInt_lt v60
                    refine lv_bipush (v := 47) S.x S.b d_Tok_skip_82 (by decide) ?_
                    refine lv_icmp_ne (tgt := 96) S.x S.b d_Tok_skip_84 (by decide) (fun c64 => ?_) (fun c64 => ?_)
                    · have nc64 : ¬ v60.toInt = (47 : Int) := mt (i_eq (x := v60) (y := 47)).mpr c64
                      refine lv_iload_n S.x S.b d_Tok_skip_96 rfl (lv_at hl 1 rfl) ?_
                      refine lv_bipush (v := 47) S.x S.b d_Tok_skip_97 (by decide) ?_
                      refine lv_icmp_ne (tgt := 123) S.x S.b d_Tok_skip_99 (by decide) (fun c65 => ?_) (fun c65 => ?_)
                      · have nc65 : ¬ v6.toInt = (47 : Int) := mt (i_eq (x := v6) (y := 47)).mpr c65
                        refine lv_iload S.x S.b d_Tok_skip_123 (lv_at hl 0 rfl) ?_
                        refine lv_aload_n S.x S.b d_Tok_skip_125 rfl (lv_at hl 2 rfl) ?_
                        refine px_get S k_Tok hT hw 0 0 8 (v := .int (f_4 8)) rfl rfl rfl (by decide) m1_111 d_Tok_skip_126 ?_
                        refine lv_icmp_le (tgt := 136) S.x S.b d_Tok_skip_129 (by decide) (fun c66 => ?_) (fun c66 => ?_)
                        · have nc66 : (f_4 8).toInt ≤ (f_4 8).toInt := (i_le (x := (f_4 8)) (y := (f_4 8))).mp c66
                          refine lv_iconst (v := 0) S.x S.b d_Tok_skip_136 (by decide) ?_
                          refine lv_istore_n (lv' := [(1, .int 0), (4, .int (f_4 8)), (3, .int v6), (0, .ref h), (2, .int x4_2)]) S.x S.b d_Tok_skip_137 rfl hl (by decide) rfl (fun ls hl => ?_)
                          refine lv_aload_n S.x S.b d_Tok_skip_138 rfl (lv_at hl 3 rfl) ?_
                          refine lv_iload S.x S.b d_Tok_skip_139 (lv_at hl 1 rfl) ?_
                          refine px_put S k_Tok hT hw 0 0 8 rfl rfl (by decide) m1_111 rfl rfl rfl (Nat.le_of_ble_eq_true rfl) d_Tok_skip_141 (w' := wd_Tok cs h r (fun _ => some tp) (upd f_4 8 (f_4 8)) a_4 g) (ps' := [wd_Tok cs h r (fun _ => some tp) (upd f_4 8 (f_4 8)) a_4 g, [(tp, .inl (cs 1, 2048, .inl tb))]]) rfl rfl (fun H locs hw => ?_)
                          obtain ⟨z67, ez67⟩ : ∃ y : Int32, y = x4_2 + 1 := ⟨_, rfl⟩
                          have tz67 : z67.toInt = (x4_2.toInt + 1 + 2147483648) % 4294967296 - 2147483648 := by rw [ez67]; exact i_add x4_2 1
                          have lz67 := Int32.le_toInt z67
                          have uz67 := Int32.toInt_lt z67
                          try replace tz67 : z67.toInt = x4_2.toInt + 1 := by omega
                          refine lv_iinc (v := z67) (lv' := [(2, .int z67), (1, .int 0), (4, .int (f_4 8)), (3, .int v6), (0, .ref h)]) S.x S.b d_Tok_skip_144 hl (k := 4) rfl (by rw [ez67]; rfl) (by decide) rfl (fun ls hl => ?_)
                          refine lv_goto (tgt := 4) S.x S.b d_Tok_skip_147 (by decide) ?_
                          first | exact ih4 (upd f_4 8 (f_4 8)) a_4 (0 : Int32) z67 _ _ ls (show TokOk (f_4 7) (f_4 8) (f_4 10) (f_4 11) (f_4 12) (f_4 13) (f_4 17) (a_4 4) from ⟨⟨o1, o2⟩, ⟨o3, o4⟩, ⟨o5, o6⟩, ⟨o7, o8⟩, ⟨o9, o10⟩, ⟨o11, o12⟩, o13, hn4⟩) (show (f_4 7).toInt = (f 7).toInt from k4_0) (show (f_4 10).toInt = (f 10).toInt from k4_1) (show (f_4 15).toInt = (f 15).toInt from k4_2) (show (f 8).toInt ≤ (f_4 8).toInt from k4_3) (show 0 ≤ z67.toInt from (oz_ae613611c0 tz67 k4_4)) (show z67.toInt ≤ (f_4 7).toInt+1 from (oz_0c5335350d nc1 tz67)) (show Q5 (a_4 5) from hq5) (show (f_4 7).toInt+2-z67.toInt < (n_4 : Int) from (oz_1a25760b21 hm tz67)) hw (lv_sub hl [4, 1, 0] rfl) | exact ih4 (upd f_4 8 (f_4 8)) a_4 (0 : Int32) z67 _ _ ls (show TokOk (f_4 7) (f_4 8) (f_4 10) (f_4 11) (f_4 12) (f_4 13) (f_4 17) (a_4 4) from ⟨⟨by first | exact o1 | omega, by first | exact o2 | omega⟩, ⟨by first | exact o3 | omega, by first | exact o4 | omega⟩, ⟨by first | exact o5 | omega, by first | exact o6 | omega⟩, ⟨by first | exact o7 | omega, by first | exact o8 | omega⟩, ⟨by first | exact o9 | omega, by first | exact o10 | omega⟩, ⟨by first | exact o11 | omega, by first | exact o12 | omega⟩, by first | exact o13 | omega, hn4⟩) (show (f_4 7).toInt = (f 7).toInt from by first | exact k4_0 | omega) (show (f_4 10).toInt = (f 10).toInt from by first | exact k4_1 | omega) (show (f_4 15).toInt = (f 15).toInt from by first | exact k4_2 | omega) (show (f 8).toInt ≤ (f_4 8).toInt from by first | exact k4_3 | omega) (show 0 ≤ z67.toInt from by first | exact oz_ae613611c0 tz67 k4_4 | omega) (show z67.toInt ≤ (f_4 7).toInt+1 from by first | exact oz_0c5335350d nc1 tz67 | omega) (show Q5 (a_4 5) from hq5) (show (f_4 7).toInt+2-z67.toInt < (n_4 : Int) from by first | exact oz_1a25760b21 hm tz67 | omega) hw (lv_sub hl [4, 1, 0] rfl)
                        · have nc66 : ¬ (f_4 8).toInt ≤ (f_4 8).toInt := mt (i_le (x := (f_4 8)) (y := (f_4 8))).mpr c66
                          refine lv_iconst (v := 1) S.x S.b d_Tok_skip_132 (by decide) ?_
                          refine lv_goto (tgt := 137) S.x S.b d_Tok_skip_133 (by decide) ?_
                          refine lv_istore_n (lv' := [(1, .int 1), (4, .int (f_4 8)), (3, .int v6), (0, .ref h), (2, .int x4_2)]) S.x S.b d_Tok_skip_137 rfl hl (by decide) rfl (fun ls hl => ?_)
                          refine lv_aload_n S.x S.b d_Tok_skip_138 rfl (lv_at hl 3 rfl) ?_
                          refine lv_iload S.x S.b d_Tok_skip_139 (lv_at hl 1 rfl) ?_
                          refine px_put S k_Tok hT hw 0 0 8 rfl rfl (by decide) m1_111 rfl rfl rfl (Nat.le_of_ble_eq_true rfl) d_Tok_skip_141 (w' := wd_Tok cs h r (fun _ => some tp) (upd f_4 8 (f_4 8)) a_4 g) (ps' := [wd_Tok cs h r (fun _ => some tp) (upd f_4 8 (f_4 8)) a_4 g, [(tp, .inl (cs 1, 2048, .inl tb))]]) rfl rfl (fun H locs hw => ?_)
                          obtain ⟨z68, ez68⟩ : ∃ y : Int32, y = x4_2 + 1 := ⟨_, rfl⟩
                          have tz68 : z68.toInt = (x4_2.toInt + 1 + 2147483648) % 4294967296 - 2147483648 := by rw [ez68]; exact i_add x4_2 1
                          have lz68 := Int32.le_toInt z68
                          have uz68 := Int32.toInt_lt z68
                          try replace tz68 : z68.toInt = x4_2.toInt + 1 := by omega
                          refine lv_iinc (v := z68) (lv' := [(2, .int z68), (1, .int 1), (4, .int (f_4 8)), (3, .int v6), (0, .ref h)]) S.x S.b d_Tok_skip_144 hl (k := 4) rfl (by rw [ez68]; rfl) (by decide) rfl (fun ls hl => ?_)
                          refine lv_goto (tgt := 4) S.x S.b d_Tok_skip_147 (by decide) ?_
                          first | exact ih4 (upd f_4 8 (f_4 8)) a_4 (1 : Int32) z68 _ _ ls (show TokOk (f_4 7) (f_4 8) (f_4 10) (f_4 11) (f_4 12) (f_4 13) (f_4 17) (a_4 4) from ⟨⟨o1, o2⟩, ⟨o3, o4⟩, ⟨o5, o6⟩, ⟨o7, o8⟩, ⟨o9, o10⟩, ⟨o11, o12⟩, o13, hn4⟩) (show (f_4 7).toInt = (f 7).toInt from k4_0) (show (f_4 10).toInt = (f 10).toInt from k4_1) (show (f_4 15).toInt = (f 15).toInt from k4_2) (show (f 8).toInt ≤ (f_4 8).toInt from k4_3) (show 0 ≤ z68.toInt from (oz_ae613611c0 tz68 k4_4)) (show z68.toInt ≤ (f_4 7).toInt+1 from (oz_0c5335350d nc1 tz68)) (show Q5 (a_4 5) from hq5) (show (f_4 7).toInt+2-z68.toInt < (n_4 : Int) from (oz_1a25760b21 hm tz68)) hw (lv_sub hl [4, 1, 0] rfl) | exact ih4 (upd f_4 8 (f_4 8)) a_4 (1 : Int32) z68 _ _ ls (show TokOk (f_4 7) (f_4 8) (f_4 10) (f_4 11) (f_4 12) (f_4 13) (f_4 17) (a_4 4) from ⟨⟨by first | exact o1 | omega, by first | exact o2 | omega⟩, ⟨by first | exact o3 | omega, by first | exact o4 | omega⟩, ⟨by first | exact o5 | omega, by first | exact o6 | omega⟩, ⟨by first | exact o7 | omega, by first | exact o8 | omega⟩, ⟨by first | exact o9 | omega, by first | exact o10 | omega⟩, ⟨by first | exact o11 | omega, by first | exact o12 | omega⟩, by first | exact o13 | omega, hn4⟩) (show (f_4 7).toInt = (f 7).toInt from by first | exact k4_0 | omega) (show (f_4 10).toInt = (f 10).toInt from by first | exact k4_1 | omega) (show (f_4 15).toInt = (f 15).toInt from by first | exact k4_2 | omega) (show (f 8).toInt ≤ (f_4 8).toInt from by first | exact k4_3 | omega) (show 0 ≤ z68.toInt from by first | exact oz_ae613611c0 tz68 k4_4 | omega) (show z68.toInt ≤ (f_4 7).toInt+1 from by first | exact oz_0c5335350d nc1 tz68 | omega) (show Q5 (a_4 5) from hq5) (show (f_4 7).toInt+2-z68.toInt < (n_4 : Int) from by first | exact oz_1a25760b21 hm tz68 | omega) hw (lv_sub hl [4, 1, 0] rfl)
                      · have nc65 : v6.toInt = (47 : Int) := (i_eq (x := v6) (y := 47)).mp c65
                        refine lv_aload_n S.x S.b d_Tok_skip_102 rfl (lv_at hl 2 rfl) ?_
                        refine lv_aload_n S.x S.b d_Tok_skip_103 rfl (lv_at hl 2 rfl) ?_
                        refine px_get S k_Tok hT hw 0 0 8 (v := .int (f_4 8)) rfl rfl rfl (by decide) m1_111 d_Tok_skip_104 ?_
                        refine lv_iconst (v := 1) S.x S.b d_Tok_skip_107 (by decide) ?_
                        refine lv_iadd S.x S.b d_Tok_skip_108 ?_
                        have lr69 := Int32.le_toInt (f_4 8)
                        have ur69 := Int32.toInt_lt (f_4 8)
                        refine lv_topi (fun z70 ez70 => ?_)
                        have tz70 : z70.toInt = ((f_4 8).toInt + (1 : Int) + 2147483648) % 4294967296 - 2147483648 := by rw [ez70]; exact i_add (f_4 8) 1
                        have lz70 := Int32.le_toInt z70
                        have uz70 := Int32.toInt_lt z70
                        try replace tz70 : z70.toInt = (f_4 8).toInt + (1 : Int) := by omega
                        first | refine px_calli (pr := []) (px_runV (As := [.int z70]) (rest := []) S (c_Tok_byteAt l D cs h r tp tb f_4 a_4 g z70 (show TokOk (f_4 7) (f_4 8) (f_4 10) (f_4 11) (f_4 12) (f_4 13) (f_4 17) (a_4 4) from ⟨⟨o1, o2⟩, ⟨o3, o4⟩, ⟨o5, o6⟩, ⟨o7, o8⟩, ⟨o9, o10⟩, ⟨o11, o12⟩, o13, hn4⟩)  _) hT (pr := []) (pcs := [wd_Tok cs h r (fun _ => some tp) f_4 a_4 g, [(tp, .inl (cs 1, 2048, .inl tb))]]) hw px_X.tt (px_recv hT hw 0 0 rfl rfl rfl) m3_186 m3_183 m3_185 ms_1_6 m1_2 q_Tok_byteAt ⟨Nat.le_of_ble_eq_true rfl, Nat.le_of_ble_eq_true rfl⟩ hl.1 rfl (Nat.le_of_ble_eq_true rfl) d_Tok_skip_109 ⟨Nat.le_of_ble_eq_true rfl, Nat.le_of_ble_eq_true rfl⟩) hw hA (fun v74 p73 H locs hp73 hw => ?_) | refine px_calli (pr := []) (px_runV (As := [.int z70]) (rest := []) S (c_Tok_byteAt l D cs h r tp tb f_4 a_4 g z70 (show TokOk (f_4 7) (f_4 8) (f_4 10) (f_4 11) (f_4 12) (f_4 13) (f_4 17) (a_4 4) from ⟨⟨by first | exact o1 | omega, by first | exact o2 | omega⟩, ⟨by first | exact o3 | omega, by first | exact o4 | omega⟩, ⟨by first | exact o5 | omega, by first | exact o6 | omega⟩, ⟨by first | exact o7 | omega, by first | exact o8 | omega⟩, ⟨by first | exact o9 | omega, by first | exact o10 | omega⟩, ⟨by first | exact o11 | omega, by first | exact o12 | omega⟩, by first | exact o13 | omega, hn4⟩)  _) hT (pr := []) (pcs := [wd_Tok cs h r (fun _ => some tp) f_4 a_4 g, [(tp, .inl (cs 1, 2048, .inl tb))]]) hw px_X.tt (px_recv hT hw 0 0 rfl rfl rfl) m3_186 m3_183 m3_185 ms_1_6 m1_2 q_Tok_byteAt ⟨Nat.le_of_ble_eq_true rfl, Nat.le_of_ble_eq_true rfl⟩ hl.1 rfl (Nat.le_of_ble_eq_true rfl) d_Tok_skip_109 ⟨Nat.le_of_ble_eq_true rfl, Nat.le_of_ble_eq_true rfl⟩) hw hA (fun v74 p73 H locs hp73 hw => ?_)
                        obtain ⟨rfl, e75, e76, e77⟩ := hp73
                        have e75 : -1 ≤ v74.toInt := e75
                        have e76 : v74.toInt ≤ 255 := e76
                        have e77 : 0 ≤ v74.toInt → 0 ≤ z70.toInt ∧ z70.toInt < (f_4 7).toInt := e77
                        have lv74 := Int32.le_toInt v74
                        have uv74 := Int32.toInt_lt v74
                        refine lv_bipush (v := 42) S.x S.b d_Tok_skip_112 (by decide) ?_
                        refine lv_icmp_ne (tgt := 123) S.x S.b d_Tok_skip_114 (by decide) (fun c78 => ?_) (fun c78 => ?_)
                        · have nc78 : ¬ v74.toInt = (42 : Int) := mt (i_eq (x := v74) (y := 42)).mpr c78
                          refine lv_iload S.x S.b d_Tok_skip_123 (lv_at hl 0 rfl) ?_
                          refine lv_aload_n S.x S.b d_Tok_skip_125 rfl (lv_at hl 2 rfl) ?_
                          refine px_get S k_Tok hT hw 0 0 8 (v := .int (f_4 8)) rfl rfl rfl (by decide) m1_111 d_Tok_skip_126 ?_
                          refine lv_icmp_le (tgt := 136) S.x S.b d_Tok_skip_129 (by decide) (fun c79 => ?_) (fun c79 => ?_)
                          · have nc79 : (f_4 8).toInt ≤ (f_4 8).toInt := (i_le (x := (f_4 8)) (y := (f_4 8))).mp c79
                            refine lv_iconst (v := 0) S.x S.b d_Tok_skip_136 (by decide) ?_
                            refine lv_istore_n (lv' := [(1, .int 0), (4, .int (f_4 8)), (3, .int v6), (0, .ref h), (2, .int x4_2)]) S.x S.b d_Tok_skip_137 rfl hl (by decide) rfl (fun ls hl => ?_)
                            refine lv_aload_n S.x S.b d_Tok_skip_138 rfl (lv_at hl 3 rfl) ?_
                            refine lv_iload S.x S.b d_Tok_skip_139 (lv_at hl 1 rfl) ?_
                            refine px_put S k_Tok hT hw 0 0 8 rfl rfl (by decide) m1_111 rfl rfl rfl (Nat.le_of_ble_eq_true rfl) d_Tok_skip_141 (w' := wd_Tok cs h r (fun _ => some tp) (upd f_4 8 (f_4 8)) a_4 g) (ps' := [wd_Tok cs h r (fun _ => some tp) (upd f_4 8 (f_4 8)) a_4 g, [(tp, .inl (cs 1, 2048, .inl tb))]]) rfl rfl (fun H locs hw => ?_)
                            obtain ⟨z80, ez80⟩ : ∃ y : Int32, y = x4_2 + 1 := ⟨_, rfl⟩
                            have tz80 : z80.toInt = (x4_2.toInt + 1 + 2147483648) % 4294967296 - 2147483648 := by rw [ez80]; exact i_add x4_2 1
                            have lz80 := Int32.le_toInt z80
                            have uz80 := Int32.toInt_lt z80
                            try replace tz80 : z80.toInt = x4_2.toInt + 1 := by omega
                            refine lv_iinc (v := z80) (lv' := [(2, .int z80), (1, .int 0), (4, .int (f_4 8)), (3, .int v6), (0, .ref h)]) S.x S.b d_Tok_skip_144 hl (k := 4) rfl (by rw [ez80]; rfl) (by decide) rfl (fun ls hl => ?_)
                            refine lv_goto (tgt := 4) S.x S.b d_Tok_skip_147 (by decide) ?_
                            first | exact ih4 (upd f_4 8 (f_4 8)) a_4 (0 : Int32) z80 _ _ ls (show TokOk (f_4 7) (f_4 8) (f_4 10) (f_4 11) (f_4 12) (f_4 13) (f_4 17) (a_4 4) from ⟨⟨o1, o2⟩, ⟨o3, o4⟩, ⟨o5, o6⟩, ⟨o7, o8⟩, ⟨o9, o10⟩, ⟨o11, o12⟩, o13, hn4⟩) (show (f_4 7).toInt = (f 7).toInt from k4_0) (show (f_4 10).toInt = (f 10).toInt from k4_1) (show (f_4 15).toInt = (f 15).toInt from k4_2) (show (f 8).toInt ≤ (f_4 8).toInt from k4_3) (show 0 ≤ z80.toInt from (oz_ae613611c0 tz80 k4_4)) (show z80.toInt ≤ (f_4 7).toInt+1 from (oz_0c5335350d nc1 tz80)) (show Q5 (a_4 5) from hq5) (show (f_4 7).toInt+2-z80.toInt < (n_4 : Int) from (oz_1a25760b21 hm tz80)) hw (lv_sub hl [4, 1, 0] rfl) | exact ih4 (upd f_4 8 (f_4 8)) a_4 (0 : Int32) z80 _ _ ls (show TokOk (f_4 7) (f_4 8) (f_4 10) (f_4 11) (f_4 12) (f_4 13) (f_4 17) (a_4 4) from ⟨⟨by first | exact o1 | omega, by first | exact o2 | omega⟩, ⟨by first | exact o3 | omega, by first | exact o4 | omega⟩, ⟨by first | exact o5 | omega, by first | exact o6 | omega⟩, ⟨by first | exact o7 | omega, by first | exact o8 | omega⟩, ⟨by first | exact o9 | omega, by first | exact o10 | omega⟩, ⟨by first | exact o11 | omega, by first | exact o12 | omega⟩, by first | exact o13 | omega, hn4⟩) (show (f_4 7).toInt = (f 7).toInt from by first | exact k4_0 | omega) (show (f_4 10).toInt = (f 10).toInt from by first | exact k4_1 | omega) (show (f_4 15).toInt = (f 15).toInt from by first | exact k4_2 | omega) (show (f 8).toInt ≤ (f_4 8).toInt from by first | exact k4_3 | omega) (show 0 ≤ z80.toInt from by first | exact oz_ae613611c0 tz80 k4_4 | omega) (show z80.toInt ≤ (f_4 7).toInt+1 from by first | exact oz_0c5335350d nc1 tz80 | omega) (show Q5 (a_4 5) from hq5) (show (f_4 7).toInt+2-z80.toInt < (n_4 : Int) from by first | exact oz_1a25760b21 hm tz80 | omega) hw (lv_sub hl [4, 1, 0] rfl)
                          · have nc79 : ¬ (f_4 8).toInt ≤ (f_4 8).toInt := mt (i_le (x := (f_4 8)) (y := (f_4 8))).mpr c79
                            refine lv_iconst (v := 1) S.x S.b d_Tok_skip_132 (by decide) ?_
                            refine lv_goto (tgt := 137) S.x S.b d_Tok_skip_133 (by decide) ?_
                            refine lv_istore_n (lv' := [(1, .int 1), (4, .int (f_4 8)), (3, .int v6), (0, .ref h), (2, .int x4_2)]) S.x S.b d_Tok_skip_137 rfl hl (by decide) rfl (fun ls hl => ?_)
                            refine lv_aload_n S.x S.b d_Tok_skip_138 rfl (lv_at hl 3 rfl) ?_
                            refine lv_iload S.x S.b d_Tok_skip_139 (lv_at hl 1 rfl) ?_
                            refine px_put S k_Tok hT hw 0 0 8 rfl rfl (by decide) m1_111 rfl rfl rfl (Nat.le_of_ble_eq_true rfl) d_Tok_skip_141 (w' := wd_Tok cs h r (fun _ => some tp) (upd f_4 8 (f_4 8)) a_4 g) (ps' := [wd_Tok cs h r (fun _ => some tp) (upd f_4 8 (f_4 8)) a_4 g, [(tp, .inl (cs 1, 2048, .inl tb))]]) rfl rfl (fun H locs hw => ?_)
                            obtain ⟨z81, ez81⟩ : ∃ y : Int32, y = x4_2 + 1 := ⟨_, rfl⟩
                            have tz81 : z81.toInt = (x4_2.toInt + 1 + 2147483648) % 4294967296 - 2147483648 := by rw [ez81]; exact i_add x4_2 1
                            have lz81 := Int32.le_toInt z81
                            have uz81 := Int32.toInt_lt z81
                            try replace tz81 : z81.toInt = x4_2.toInt + 1 := by omega
                            refine lv_iinc (v := z81) (lv' := [(2, .int z81), (1, .int 1), (4, .int (f_4 8)), (3, .int v6), (0, .ref h)]) S.x S.b d_Tok_skip_144 hl (k := 4) rfl (by rw [ez81]; rfl) (by decide) rfl (fun ls hl => ?_)
                            refine lv_goto (tgt := 4) S.x S.b d_Tok_skip_147 (by decide) ?_
                            first | exact ih4 (upd f_4 8 (f_4 8)) a_4 (1 : Int32) z81 _ _ ls (show TokOk (f_4 7) (f_4 8) (f_4 10) (f_4 11) (f_4 12) (f_4 13) (f_4 17) (a_4 4) from ⟨⟨o1, o2⟩, ⟨o3, o4⟩, ⟨o5, o6⟩, ⟨o7, o8⟩, ⟨o9, o10⟩, ⟨o11, o12⟩, o13, hn4⟩) (show (f_4 7).toInt = (f 7).toInt from k4_0) (show (f_4 10).toInt = (f 10).toInt from k4_1) (show (f_4 15).toInt = (f 15).toInt from k4_2) (show (f 8).toInt ≤ (f_4 8).toInt from k4_3) (show 0 ≤ z81.toInt from (oz_ae613611c0 tz81 k4_4)) (show z81.toInt ≤ (f_4 7).toInt+1 from (oz_0c5335350d nc1 tz81)) (show Q5 (a_4 5) from hq5) (show (f_4 7).toInt+2-z81.toInt < (n_4 : Int) from (oz_1a25760b21 hm tz81)) hw (lv_sub hl [4, 1, 0] rfl) | exact ih4 (upd f_4 8 (f_4 8)) a_4 (1 : Int32) z81 _ _ ls (show TokOk (f_4 7) (f_4 8) (f_4 10) (f_4 11) (f_4 12) (f_4 13) (f_4 17) (a_4 4) from ⟨⟨by first | exact o1 | omega, by first | exact o2 | omega⟩, ⟨by first | exact o3 | omega, by first | exact o4 | omega⟩, ⟨by first | exact o5 | omega, by first | exact o6 | omega⟩, ⟨by first | exact o7 | omega, by first | exact o8 | omega⟩, ⟨by first | exact o9 | omega, by first | exact o10 | omega⟩, ⟨by first | exact o11 | omega, by first | exact o12 | omega⟩, by first | exact o13 | omega, hn4⟩) (show (f_4 7).toInt = (f 7).toInt from by first | exact k4_0 | omega) (show (f_4 10).toInt = (f 10).toInt from by first | exact k4_1 | omega) (show (f_4 15).toInt = (f 15).toInt from by first | exact k4_2 | omega) (show (f 8).toInt ≤ (f_4 8).toInt from by first | exact k4_3 | omega) (show 0 ≤ z81.toInt from by first | exact oz_ae613611c0 tz81 k4_4 | omega) (show z81.toInt ≤ (f_4 7).toInt+1 from by first | exact oz_0c5335350d nc1 tz81 | omega) (show Q5 (a_4 5) from hq5) (show (f_4 7).toInt+2-z81.toInt < (n_4 : Int) from by first | exact oz_1a25760b21 hm tz81 | omega) hw (lv_sub hl [4, 1, 0] rfl)
                        · have nc78 : v74.toInt = (42 : Int) := (i_eq (x := v74) (y := 42)).mp c78
                          refine lv_aload_n S.x S.b d_Tok_skip_117 rfl (lv_at hl 2 rfl) ?_
                          first | refine px_calli (pr := []) (px_runV (As := []) (rest := []) S (c_t2_commentEnd l D cs h r tp tb g f_4 a_4   (show TokOk (f_4 7) (f_4 8) (f_4 10) (f_4 11) (f_4 12) (f_4 13) (f_4 17) (a_4 4) from ⟨⟨o1, o2⟩, ⟨o3, o4⟩, ⟨o5, o6⟩, ⟨o7, o8⟩, ⟨o9, o10⟩, ⟨o11, o12⟩, o13, hn4⟩) _) hT (pr := []) (pcs := [wd_Tok cs h r (fun _ => some tp) f_4 a_4 g, [(tp, .inl (cs 1, 2048, .inl tb))]]) hw px_X.tt (px_recv hT hw 0 0 rfl rfl rfl) m3_194 m3_191 m3_193 ms_1_8 m1_2 q_Tok_commentEnd ⟨Nat.le_of_ble_eq_true rfl, Nat.le_of_ble_eq_true rfl⟩ hl.1 rfl (Nat.le_of_ble_eq_true rfl) d_Tok_skip_118 ⟨Nat.le_of_ble_eq_true rfl, Nat.le_of_ble_eq_true rfl⟩) hw hA (fun v83 p82 H locs hp82 hw => ?_) | refine px_calli (pr := []) (px_runV (As := []) (rest := []) S (c_t2_commentEnd l D cs h r tp tb g f_4 a_4   (show TokOk (f_4 7) (f_4 8) (f_4 10) (f_4 11) (f_4 12) (f_4 13) (f_4 17) (a_4 4) from ⟨⟨by first | exact o1 | omega, by first | exact o2 | omega⟩, ⟨by first | exact o3 | omega, by first | exact o4 | omega⟩, ⟨by first | exact o5 | omega, by first | exact o6 | omega⟩, ⟨by first | exact o7 | omega, by first | exact o8 | omega⟩, ⟨by first | exact o9 | omega, by first | exact o10 | omega⟩, ⟨by first | exact o11 | omega, by first | exact o12 | omega⟩, by first | exact o13 | omega, hn4⟩) _) hT (pr := []) (pcs := [wd_Tok cs h r (fun _ => some tp) f_4 a_4 g, [(tp, .inl (cs 1, 2048, .inl tb))]]) hw px_X.tt (px_recv hT hw 0 0 rfl rfl rfl) m3_194 m3_191 m3_193 ms_1_8 m1_2 q_Tok_commentEnd ⟨Nat.le_of_ble_eq_true rfl, Nat.le_of_ble_eq_true rfl⟩ hl.1 rfl (Nat.le_of_ble_eq_true rfl) d_Tok_skip_118 ⟨Nat.le_of_ble_eq_true rfl, Nat.le_of_ble_eq_true rfl⟩) hw hA (fun v83 p82 H locs hp82 hw => ?_)
                          obtain ⟨rfl, e84, e85, e86⟩ := hp82
                          have e84 : 0 ≤ v83.toInt := e84
                          have e85 : v83.toInt ≤ (f_4 7).toInt+8 := e85
                          have e86 : (f_4 8).toInt ≤ v83.toInt := e86
                          have lv83 := Int32.le_toInt v83
                          have uv83 := Int32.toInt_lt v83
                          refine lv_istore (lv' := [(4, .int v83), (3, .int v6), (0, .ref h), (1, .int x4_1), (2, .int x4_2)]) S.x S.b d_Tok_skip_121 hl (by decide) rfl (fun ls hl => ?_)
                          refine lv_iload S.x S.b d_Tok_skip_123 (lv_at hl 0 rfl) ?_
                          refine lv_aload_n S.x S.b d_Tok_skip_125 rfl (lv_at hl 2 rfl) ?_
                          refine px_get S k_Tok hT hw 0 0 8 (v := .int (f_4 8)) rfl rfl rfl (by decide) m1_111 d_Tok_skip_126 ?_
                          refine lv_icmp_le (tgt := 136) S.x S.b d_Tok_skip_129 (by decide) (fun c87 => ?_) (fun c87 => ?_)
                          · have nc87 : v83.toInt ≤ (f_4 8).toInt := (i_le (x := v83) (y := (f_4 8))).mp c87
                            refine lv_iconst (v := 0) S.x S.b d_Tok_skip_136 (by decide) ?_
                            refine lv_istore_n (lv' := [(1, .int 0), (4, .int v83), (3, .int v6), (0, .ref h), (2, .int x4_2)]) S.x S.b d_Tok_skip_137 rfl hl (by decide) rfl (fun ls hl => ?_)
                            refine lv_aload_n S.x S.b d_Tok_skip_138 rfl (lv_at hl 3 rfl) ?_
                            refine lv_iload S.x S.b d_Tok_skip_139 (lv_at hl 1 rfl) ?_
                            refine px_put S k_Tok hT hw 0 0 8 rfl rfl (by decide) m1_111 rfl rfl rfl (Nat.le_of_ble_eq_true rfl) d_Tok_skip_141 (w' := wd_Tok cs h r (fun _ => some tp) (upd f_4 8 v83) a_4 g) (ps' := [wd_Tok cs h r (fun _ => some tp) (upd f_4 8 v83) a_4 g, [(tp, .inl (cs 1, 2048, .inl tb))]]) rfl rfl (fun H locs hw => ?_)
                            obtain ⟨z88, ez88⟩ : ∃ y : Int32, y = x4_2 + 1 := ⟨_, rfl⟩
                            have tz88 : z88.toInt = (x4_2.toInt + 1 + 2147483648) % 4294967296 - 2147483648 := by rw [ez88]; exact i_add x4_2 1
                            have lz88 := Int32.le_toInt z88
                            have uz88 := Int32.toInt_lt z88
                            try replace tz88 : z88.toInt = x4_2.toInt + 1 := by omega
                            refine lv_iinc (v := z88) (lv' := [(2, .int z88), (1, .int 0), (4, .int v83), (3, .int v6), (0, .ref h)]) S.x S.b d_Tok_skip_144 hl (k := 4) rfl (by rw [ez88]; rfl) (by decide) rfl (fun ls hl => ?_)
                            refine lv_goto (tgt := 4) S.x S.b d_Tok_skip_147 (by decide) ?_
                            first | exact ih4 (upd f_4 8 v83) a_4 (0 : Int32) z88 _ _ ls (show TokOk (f_4 7) v83 (f_4 10) (f_4 11) (f_4 12) (f_4 13) (f_4 17) (a_4 4) from ⟨⟨o1, o2⟩, ⟨e84, (oz_8908a45630 e85)⟩, ⟨o5, o6⟩, ⟨o7, o8⟩, ⟨o9, o10⟩, ⟨o11, o12⟩, o13, hn4⟩) (show (f_4 7).toInt = (f 7).toInt from k4_0) (show (f_4 10).toInt = (f 10).toInt from k4_1) (show (f_4 15).toInt = (f 15).toInt from k4_2) (show (f 8).toInt ≤ v83.toInt from (oz_be764f19f0 k4_3 e86)) (show 0 ≤ z88.toInt from (oz_ae613611c0 tz88 k4_4)) (show z88.toInt ≤ (f_4 7).toInt+1 from (oz_0c5335350d nc1 tz88)) (show Q5 (a_4 5) from hq5) (show (f_4 7).toInt+2-z88.toInt < (n_4 : Int) from (oz_1a25760b21 hm tz88)) hw (lv_sub hl [4, 1, 0] rfl) | exact ih4 (upd f_4 8 v83) a_4 (0 : Int32) z88 _ _ ls (show TokOk (f_4 7) v83 (f_4 10) (f_4 11) (f_4 12) (f_4 13) (f_4 17) (a_4 4) from ⟨⟨by first | exact o1 | omega, by first | exact o2 | omega⟩, ⟨by first | exact e84 | omega, by first | exact oz_8908a45630 e85 | omega⟩, ⟨by first | exact o5 | omega, by first | exact o6 | omega⟩, ⟨by first | exact o7 | omega, by first | exact o8 | omega⟩, ⟨by first | exact o9 | omega, by first | exact o10 | omega⟩, ⟨by first | exact o11 | omega, by first | exact o12 | omega⟩, by first | exact o13 | omega, hn4⟩) (show (f_4 7).toInt = (f 7).toInt from by first | exact k4_0 | omega) (show (f_4 10).toInt = (f 10).toInt from by first | exact k4_1 | omega) (show (f_4 15).toInt = (f 15).toInt from by first | exact k4_2 | omega) (show (f 8).toInt ≤ v83.toInt from by first | exact oz_be764f19f0 k4_3 e86 | omega) (show 0 ≤ z88.toInt from by first | exact oz_ae613611c0 tz88 k4_4 | omega) (show z88.toInt ≤ (f_4 7).toInt+1 from by first | exact oz_0c5335350d nc1 tz88 | omega) (show Q5 (a_4 5) from hq5) (show (f_4 7).toInt+2-z88.toInt < (n_4 : Int) from by first | exact oz_1a25760b21 hm tz88 | omega) hw (lv_sub hl [4, 1, 0] rfl)
                          · have nc87 : ¬ v83.toInt ≤ (f_4 8).toInt := mt (i_le (x := v83) (y := (f_4 8))).mpr c87
                            refine lv_iconst (v := 1) S.x S.b d_Tok_skip_132 (by decide) ?_
                            refine lv_goto (tgt := 137) S.x S.b d_Tok_skip_133 (by decide) ?_
                            refine lv_istore_n (lv' := [(1, .int 1), (4, .int v83), (3, .int v6), (0, .ref h), (2, .int x4_2)]) S.x S.b d_Tok_skip_137 rfl hl (by decide) rfl (fun ls hl => ?_)
                            refine lv_aload_n S.x S.b d_Tok_skip_138 rfl (lv_at hl 3 rfl) ?_
                            refine lv_iload S.x S.b d_Tok_skip_139 (lv_at hl 1 rfl) ?_
                            refine px_put S k_Tok hT hw 0 0 8 rfl rfl (by decide) m1_111 rfl rfl rfl (Nat.le_of_ble_eq_true rfl) d_Tok_skip_141 (w' := wd_Tok cs h r (fun _ => some tp) (upd f_4 8 v83) a_4 g) (ps' := [wd_Tok cs h r (fun _ => some tp) (upd f_4 8 v83) a_4 g, [(tp, .inl (cs 1, 2048, .inl tb))]]) rfl rfl (fun H locs hw => ?_)
                            obtain ⟨z89, ez89⟩ : ∃ y : Int32, y = x4_2 + 1 := ⟨_, rfl⟩
                            have tz89 : z89.toInt = (x4_2.toInt + 1 + 2147483648) % 4294967296 - 2147483648 := by rw [ez89]; exact i_add x4_2 1
                            have lz89 := Int32.le_toInt z89
                            have uz89 := Int32.toInt_lt z89
                            try replace tz89 : z89.toInt = x4_2.toInt + 1 := by omega
                            refine lv_iinc (v := z89) (lv' := [(2, .int z89), (1, .int 1), (4, .int v83), (3, .int v6), (0, .ref h)]) S.x S.b d_Tok_skip_144 hl (k := 4) rfl (by rw [ez89]; rfl) (by decide) rfl (fun ls hl => ?_)
                            refine lv_goto (tgt := 4) S.x S.b d_Tok_skip_147 (by decide) ?_
                            first | exact ih4 (upd f_4 8 v83) a_4 (1 : Int32) z89 _ _ ls (show TokOk (f_4 7) v83 (f_4 10) (f_4 11) (f_4 12) (f_4 13) (f_4 17) (a_4 4) from ⟨⟨o1, o2⟩, ⟨e84, (oz_8908a45630 e85)⟩, ⟨o5, o6⟩, ⟨o7, o8⟩, ⟨o9, o10⟩, ⟨o11, o12⟩, o13, hn4⟩) (show (f_4 7).toInt = (f 7).toInt from k4_0) (show (f_4 10).toInt = (f 10).toInt from k4_1) (show (f_4 15).toInt = (f 15).toInt from k4_2) (show (f 8).toInt ≤ v83.toInt from (oz_fbfdb238f4 k4_3 nc87)) (show 0 ≤ z89.toInt from (oz_ae613611c0 tz89 k4_4)) (show z89.toInt ≤ (f_4 7).toInt+1 from (oz_0c5335350d nc1 tz89)) (show Q5 (a_4 5) from hq5) (show (f_4 7).toInt+2-z89.toInt < (n_4 : Int) from (oz_1a25760b21 hm tz89)) hw (lv_sub hl [4, 1, 0] rfl) | exact ih4 (upd f_4 8 v83) a_4 (1 : Int32) z89 _ _ ls (show TokOk (f_4 7) v83 (f_4 10) (f_4 11) (f_4 12) (f_4 13) (f_4 17) (a_4 4) from ⟨⟨by first | exact o1 | omega, by first | exact o2 | omega⟩, ⟨by first | exact e84 | omega, by first | exact oz_8908a45630 e85 | omega⟩, ⟨by first | exact o5 | omega, by first | exact o6 | omega⟩, ⟨by first | exact o7 | omega, by first | exact o8 | omega⟩, ⟨by first | exact o9 | omega, by first | exact o10 | omega⟩, ⟨by first | exact o11 | omega, by first | exact o12 | omega⟩, by first | exact o13 | omega, hn4⟩) (show (f_4 7).toInt = (f 7).toInt from by first | exact k4_0 | omega) (show (f_4 10).toInt = (f 10).toInt from by first | exact k4_1 | omega) (show (f_4 15).toInt = (f 15).toInt from by first | exact k4_2 | omega) (show (f 8).toInt ≤ v83.toInt from by first | exact oz_fbfdb238f4 k4_3 nc87 | omega) (show 0 ≤ z89.toInt from by first | exact oz_ae613611c0 tz89 k4_4 | omega) (show z89.toInt ≤ (f_4 7).toInt+1 from by first | exact oz_0c5335350d nc1 tz89 | omega) (show Q5 (a_4 5) from hq5) (show (f_4 7).toInt+2-z89.toInt < (n_4 : Int) from by first | exact oz_1a25760b21 hm tz89 | omega) hw (lv_sub hl [4, 1, 0] rfl)
                    · have nc64 : v60.toInt = (47 : Int) := (i_eq (x := v60) (y := 47)).mp c64
                      refine lv_aload_n S.x S.b d_Tok_skip_87 rfl (lv_at hl 2 rfl) ?_
                      first | refine px_calli (pr := []) (px_runV (As := []) (rest := []) S (c_t2_lineEnd l D cs h r tp tb g f_4 a_4   (show TokOk (f_4 7) (f_4 8) (f_4 10) (f_4 11) (f_4 12) (f_4 13) (f_4 17) (a_4 4) from ⟨⟨o1, o2⟩, ⟨o3, o4⟩, ⟨o5, o6⟩, ⟨o7, o8⟩, ⟨o9, o10⟩, ⟨o11, o12⟩, o13, hn4⟩) _) hT (pr := []) (pcs := [wd_Tok cs h r (fun _ => some tp) f_4 a_4 g, [(tp, .inl (cs 1, 2048, .inl tb))]]) hw px_X.tt (px_recv hT hw 0 0 rfl rfl rfl) m3_190 m3_187 m3_189 ms_1_7 m1_2 q_Tok_lineEnd ⟨Nat.le_of_ble_eq_true rfl, Nat.le_of_ble_eq_true rfl⟩ hl.1 rfl (Nat.le_of_ble_eq_true rfl) d_Tok_skip_88 ⟨Nat.le_of_ble_eq_true rfl, Nat.le_of_ble_eq_true rfl⟩) hw hA (fun v91 p90 H locs hp90 hw => ?_) | refine px_calli (pr := []) (px_runV (As := []) (rest := []) S (c_t2_lineEnd l D cs h r tp tb g f_4 a_4   (show TokOk (f_4 7) (f_4 8) (f_4 10) (f_4 11) (f_4 12) (f_4 13) (f_4 17) (a_4 4) from ⟨⟨by first | exact o1 | omega, by first | exact o2 | omega⟩, ⟨by first | exact o3 | omega, by first | exact o4 | omega⟩, ⟨by first | exact o5 | omega, by first | exact o6 | omega⟩, ⟨by first | exact o7 | omega, by first | exact o8 | omega⟩, ⟨by first | exact o9 | omega, by first | exact o10 | omega⟩, ⟨by first | exact o11 | omega, by first | exact o12 | omega⟩, by first | exact o13 | omega, hn4⟩) _) hT (pr := []) (pcs := [wd_Tok cs h r (fun _ => some tp) f_4 a_4 g, [(tp, .inl (cs 1, 2048, .inl tb))]]) hw px_X.tt (px_recv hT hw 0 0 rfl rfl rfl) m3_190 m3_187 m3_189 ms_1_7 m1_2 q_Tok_lineEnd ⟨Nat.le_of_ble_eq_true rfl, Nat.le_of_ble_eq_true rfl⟩ hl.1 rfl (Nat.le_of_ble_eq_true rfl) d_Tok_skip_88 ⟨Nat.le_of_ble_eq_true rfl, Nat.le_of_ble_eq_true rfl⟩) hw hA (fun v91 p90 H locs hp90 hw => ?_)
                      obtain ⟨rfl, e92, e93, e94⟩ := hp90
                      have e92 : 0 ≤ v91.toInt := e92
                      have e93 : v91.toInt ≤ (f_4 7).toInt+8 := e93
                      have e94 : (f_4 8).toInt ≤ (f_4 7).toInt → (f_4 8).toInt ≤ v91.toInt := e94
                      have lv91 := Int32.le_toInt v91
                      have uv91 := Int32.toInt_lt v91
                      refine lv_istore (lv' := [(4, .int v91), (3, .int v6), (0, .ref h), (1, .int x4_1), (2, .int x4_2)]) S.x S.b d_Tok_skip_91 hl (by decide) rfl (fun ls hl => ?_)
                      refine lv_goto (tgt := 123) S.x S.b d_Tok_skip_93 (by decide) ?_
                      refine lv_iload S.x S.b d_Tok_skip_123 (lv_at hl 0 rfl) ?_
                      refine lv_aload_n S.x S.b d_Tok_skip_125 rfl (lv_at hl 2 rfl) ?_
                      refine px_get S k_Tok hT hw 0 0 8 (v := .int (f_4 8)) rfl rfl rfl (by decide) m1_111 d_Tok_skip_126 ?_
                      refine lv_icmp_le (tgt := 136) S.x S.b d_Tok_skip_129 (by decide) (fun c95 => ?_) (fun c95 => ?_)
                      · have nc95 : v91.toInt ≤ (f_4 8).toInt := (i_le (x := v91) (y := (f_4 8))).mp c95
                        refine lv_iconst (v := 0) S.x S.b d_Tok_skip_136 (by decide) ?_
                        refine lv_istore_n (lv' := [(1, .int 0), (4, .int v91), (3, .int v6), (0, .ref h), (2, .int x4_2)]) S.x S.b d_Tok_skip_137 rfl hl (by decide) rfl (fun ls hl => ?_)
                        refine lv_aload_n S.x S.b d_Tok_skip_138 rfl (lv_at hl 3 rfl) ?_
                        refine lv_iload S.x S.b d_Tok_skip_139 (lv_at hl 1 rfl) ?_
                        refine px_put S k_Tok hT hw 0 0 8 rfl rfl (by decide) m1_111 rfl rfl rfl (Nat.le_of_ble_eq_true rfl) d_Tok_skip_141 (w' := wd_Tok cs h r (fun _ => some tp) (upd f_4 8 v91) a_4 g) (ps' := [wd_Tok cs h r (fun _ => some tp) (upd f_4 8 v91) a_4 g, [(tp, .inl (cs 1, 2048, .inl tb))]]) rfl rfl (fun H locs hw => ?_)
                        obtain ⟨z96, ez96⟩ : ∃ y : Int32, y = x4_2 + 1 := ⟨_, rfl⟩
                        have tz96 : z96.toInt = (x4_2.toInt + 1 + 2147483648) % 4294967296 - 2147483648 := by rw [ez96]; exact i_add x4_2 1
                        have lz96 := Int32.le_toInt z96
                        have uz96 := Int32.toInt_lt z96
                        try replace tz96 : z96.toInt = x4_2.toInt + 1 := by omega
                        refine lv_iinc (v := z96) (lv' := [(2, .int z96), (1, .int 0), (4, .int v91), (3, .int v6), (0, .ref h)]) S.x S.b d_Tok_skip_144 hl (k := 4) rfl (by rw [ez96]; rfl) (by decide) rfl (fun ls hl => ?_)
                        refine lv_goto (tgt := 4) S.x S.b d_Tok_skip_147 (by decide) ?_
                        first | exact ih4 (upd f_4 8 v91) a_4 (0 : Int32) z96 _ _ ls (show TokOk (f_4 7) v91 (f_4 10) (f_4 11) (f_4 12) (f_4 13) (f_4 17) (a_4 4) from ⟨⟨o1, o2⟩, ⟨e92, (oz_8908a45630 e93)⟩, ⟨o5, o6⟩, ⟨o7, o8⟩, ⟨o9, o10⟩, ⟨o11, o12⟩, o13, hn4⟩) (show (f_4 7).toInt = (f 7).toInt from k4_0) (show (f_4 10).toInt = (f 10).toInt from k4_1) (show (f_4 15).toInt = (f 15).toInt from k4_2) (show (f 8).toInt ≤ v91.toInt from (oz_95d7c919dd k4_3 tz56 nc64 e63 e94)) (show 0 ≤ z96.toInt from (oz_ae613611c0 tz96 k4_4)) (show z96.toInt ≤ (f_4 7).toInt+1 from (oz_0c5335350d nc1 tz96)) (show Q5 (a_4 5) from hq5) (show (f_4 7).toInt+2-z96.toInt < (n_4 : Int) from (oz_1a25760b21 hm tz96)) hw (lv_sub hl [4, 1, 0] rfl) | exact ih4 (upd f_4 8 v91) a_4 (0 : Int32) z96 _ _ ls (show TokOk (f_4 7) v91 (f_4 10) (f_4 11) (f_4 12) (f_4 13) (f_4 17) (a_4 4) from ⟨⟨by first | exact o1 | omega, by first | exact o2 | omega⟩, ⟨by first | exact e92 | omega, by first | exact oz_8908a45630 e93 | omega⟩, ⟨by first | exact o5 | omega, by first | exact o6 | omega⟩, ⟨by first | exact o7 | omega, by first | exact o8 | omega⟩, ⟨by first | exact o9 | omega, by first | exact o10 | omega⟩, ⟨by first | exact o11 | omega, by first | exact o12 | omega⟩, by first | exact o13 | omega, hn4⟩) (show (f_4 7).toInt = (f 7).toInt from by first | exact k4_0 | omega) (show (f_4 10).toInt = (f 10).toInt from by first | exact k4_1 | omega) (show (f_4 15).toInt = (f 15).toInt from by first | exact k4_2 | omega) (show (f 8).toInt ≤ v91.toInt from by first | exact oz_95d7c919dd k4_3 tz56 nc64 e63 e94 | omega) (show 0 ≤ z96.toInt from by first | exact oz_ae613611c0 tz96 k4_4 | omega) (show z96.toInt ≤ (f_4 7).toInt+1 from by first | exact oz_0c5335350d nc1 tz96 | omega) (show Q5 (a_4 5) from hq5) (show (f_4 7).toInt+2-z96.toInt < (n_4 : Int) from by first | exact oz_1a25760b21 hm tz96 | omega) hw (lv_sub hl [4, 1, 0] rfl)
                      · have nc95 : ¬ v91.toInt ≤ (f_4 8).toInt := mt (i_le (x := v91) (y := (f_4 8))).mpr c95
                        refine lv_iconst (v := 1) S.x S.b d_Tok_skip_132 (by decide) ?_
                        refine lv_goto (tgt := 137) S.x S.b d_Tok_skip_133 (by decide) ?_
                        refine lv_istore_n (lv' := [(1, .int 1), (4, .int v91), (3, .int v6), (0, .ref h), (2, .int x4_2)]) S.x S.b d_Tok_skip_137 rfl hl (by decide) rfl (fun ls hl => ?_)
                        refine lv_aload_n S.x S.b d_Tok_skip_138 rfl (lv_at hl 3 rfl) ?_
                        refine lv_iload S.x S.b d_Tok_skip_139 (lv_at hl 1 rfl) ?_
                        refine px_put S k_Tok hT hw 0 0 8 rfl rfl (by decide) m1_111 rfl rfl rfl (Nat.le_of_ble_eq_true rfl) d_Tok_skip_141 (w' := wd_Tok cs h r (fun _ => some tp) (upd f_4 8 v91) a_4 g) (ps' := [wd_Tok cs h r (fun _ => some tp) (upd f_4 8 v91) a_4 g, [(tp, .inl (cs 1, 2048, .inl tb))]]) rfl rfl (fun H locs hw => ?_)
                        obtain ⟨z97, ez97⟩ : ∃ y : Int32, y = x4_2 + 1 := ⟨_, rfl⟩
                        have tz97 : z97.toInt = (x4_2.toInt + 1 + 2147483648) % 4294967296 - 2147483648 := by rw [ez97]; exact i_add x4_2 1
                        have lz97 := Int32.le_toInt z97
                        have uz97 := Int32.toInt_lt z97
                        try replace tz97 : z97.toInt = x4_2.toInt + 1 := by omega
                        refine lv_iinc (v := z97) (lv' := [(2, .int z97), (1, .int 1), (4, .int v91), (3, .int v6), (0, .ref h)]) S.x S.b d_Tok_skip_144 hl (k := 4) rfl (by rw [ez97]; rfl) (by decide) rfl (fun ls hl => ?_)
                        refine lv_goto (tgt := 4) S.x S.b d_Tok_skip_147 (by decide) ?_
                        first | exact ih4 (upd f_4 8 v91) a_4 (1 : Int32) z97 _ _ ls (show TokOk (f_4 7) v91 (f_4 10) (f_4 11) (f_4 12) (f_4 13) (f_4 17) (a_4 4) from ⟨⟨o1, o2⟩, ⟨e92, (oz_8908a45630 e93)⟩, ⟨o5, o6⟩, ⟨o7, o8⟩, ⟨o9, o10⟩, ⟨o11, o12⟩, o13, hn4⟩) (show (f_4 7).toInt = (f 7).toInt from k4_0) (show (f_4 10).toInt = (f 10).toInt from k4_1) (show (f_4 15).toInt = (f 15).toInt from k4_2) (show (f 8).toInt ≤ v91.toInt from (oz_fbfdb238f4 k4_3 nc95)) (show 0 ≤ z97.toInt from (oz_ae613611c0 tz97 k4_4)) (show z97.toInt ≤ (f_4 7).toInt+1 from (oz_0c5335350d nc1 tz97)) (show Q5 (a_4 5) from hq5) (show (f_4 7).toInt+2-z97.toInt < (n_4 : Int) from (oz_1a25760b21 hm tz97)) hw (lv_sub hl [4, 1, 0] rfl) | exact ih4 (upd f_4 8 v91) a_4 (1 : Int32) z97 _ _ ls (show TokOk (f_4 7) v91 (f_4 10) (f_4 11) (f_4 12) (f_4 13) (f_4 17) (a_4 4) from ⟨⟨by first | exact o1 | omega, by first | exact o2 | omega⟩, ⟨by first | exact e92 | omega, by first | exact oz_8908a45630 e93 | omega⟩, ⟨by first | exact o5 | omega, by first | exact o6 | omega⟩, ⟨by first | exact o7 | omega, by first | exact o8 | omega⟩, ⟨by first | exact o9 | omega, by first | exact o10 | omega⟩, ⟨by first | exact o11 | omega, by first | exact o12 | omega⟩, by first | exact o13 | omega, hn4⟩) (show (f_4 7).toInt = (f 7).toInt from by first | exact k4_0 | omega) (show (f_4 10).toInt = (f 10).toInt from by first | exact k4_1 | omega) (show (f_4 15).toInt = (f 15).toInt from by first | exact k4_2 | omega) (show (f 8).toInt ≤ v91.toInt from by first | exact oz_fbfdb238f4 k4_3 nc95 | omega) (show 0 ≤ z97.toInt from by first | exact oz_ae613611c0 tz97 k4_4 | omega) (show z97.toInt ≤ (f_4 7).toInt+1 from by first | exact oz_0c5335350d nc1 tz97 | omega) (show Q5 (a_4 5) from hq5) (show (f_4 7).toInt+2-z97.toInt < (n_4 : Int) from by first | exact oz_1a25760b21 hm tz97 | omega) hw (lv_sub hl [4, 1, 0] rfl)
                · have nc28 : v6.toInt = (13 : Int) := (i_eq (x := v6) (y := 13)).mp c28
                  refine lv_aload_n S.x S.b d_Tok_skip_55 rfl (lv_at hl 2 rfl) ?_
                  refine px_get S k_Tok hT hw 0 0 8 (v := .int (f_4 8)) rfl rfl rfl (by decide) m1_111 d_Tok_skip_56 ?_
                  refine lv_iconst (v := 1) S.x S.b d_Tok_skip_59 (by decide) ?_
                  refine lv_iadd S.x S.b d_Tok_skip_60 ?_
                  have lr98 := Int32.le_toInt (f_4 8)
                  have ur98 := Int32.toInt_lt (f_4 8)
                  refine lv_topi (fun z99 ez99 => ?_)
                  have tz99 : z99.toInt = ((f_4 8).toInt + (1 : Int) + 2147483648) % 4294967296 - 2147483648 := by rw [ez99]; exact i_add (f_4 8) 1
                  have lz99 := Int32.le_toInt z99
                  have uz99 := Int32.toInt_lt z99
                  try replace tz99 : z99.toInt = (f_4 8).toInt + (1 : Int) := by omega
                  refine lv_istore (lv' := [(4, .int z99), (3, .int v6), (0, .ref h), (1, .int x4_1), (2, .int x4_2)]) S.x S.b d_Tok_skip_61 hl (by decide) rfl (fun ls hl => ?_)
                  refine lv_goto (tgt := 123) S.x S.b d_Tok_skip_63 (by decide) ?_
                  refine lv_iload S.x S.b d_Tok_skip_123 (lv_at hl 0 rfl) ?_
                  refine lv_aload_n S.x S.b d_Tok_skip_125 rfl (lv_at hl 2 rfl) ?_
                  refine px_get S k_Tok hT hw 0 0 8 (v := .int (f_4 8)) rfl rfl rfl (by decide) m1_111 d_Tok_skip_126 ?_
                  refine lv_icmp_le (tgt := 136) S.x S.b d_Tok_skip_129 (by decide) (fun c100 => ?_) (fun c100 => ?_)
                  · have nc100 : z99.toInt ≤ (f_4 8).toInt := (i_le (x := z99) (y := (f_4 8))).mp c100
                    refine lv_iconst (v := 0) S.x S.b d_Tok_skip_136 (by decide) ?_
                    refine lv_istore_n (lv' := [(1, .int 0), (4, .int z99), (3, .int v6), (0, .ref h), (2, .int x4_2)]) S.x S.b d_Tok_skip_137 rfl hl (by decide) rfl (fun ls hl => ?_)
                    refine lv_aload_n S.x S.b d_Tok_skip_138 rfl (lv_at hl 3 rfl) ?_
                    refine lv_iload S.x S.b d_Tok_skip_139 (lv_at hl 1 rfl) ?_
                    refine px_put S k_Tok hT hw 0 0 8 rfl rfl (by decide) m1_111 rfl rfl rfl (Nat.le_of_ble_eq_true rfl) d_Tok_skip_141 (w' := wd_Tok cs h r (fun _ => some tp) (upd f_4 8 z99) a_4 g) (ps' := [wd_Tok cs h r (fun _ => some tp) (upd f_4 8 z99) a_4 g, [(tp, .inl (cs 1, 2048, .inl tb))]]) rfl rfl (fun H locs hw => ?_)
                    obtain ⟨z101, ez101⟩ : ∃ y : Int32, y = x4_2 + 1 := ⟨_, rfl⟩
                    have tz101 : z101.toInt = (x4_2.toInt + 1 + 2147483648) % 4294967296 - 2147483648 := by rw [ez101]; exact i_add x4_2 1
                    have lz101 := Int32.le_toInt z101
                    have uz101 := Int32.toInt_lt z101
                    first | replace tz101 : z101.toInt = x4_2.toInt + 1 := (oz_d0a3671be7 tz99 nc100) | try replace tz101 : z101.toInt = x4_2.toInt + 1 := by first | exact oz_d0a3671be7 tz99 nc100 | omega
                    refine lv_iinc (v := z101) (lv' := [(2, .int z101), (1, .int 0), (4, .int z99), (3, .int v6), (0, .ref h)]) S.x S.b d_Tok_skip_144 hl (k := 4) rfl (by rw [ez101]; rfl) (by decide) rfl (fun ls hl => ?_)
                    refine lv_goto (tgt := 4) S.x S.b d_Tok_skip_147 (by decide) ?_
                    first | exact ih4 (upd f_4 8 z99) a_4 (0 : Int32) z101 _ _ ls (show TokOk (f_4 7) z99 (f_4 10) (f_4 11) (f_4 12) (f_4 13) (f_4 17) (a_4 4) from ⟨⟨o1, o2⟩, ⟨(oz_b3b25f0e49 tz99 o3), (oz_f1d1298f6f tz99 nc100)⟩, ⟨o5, o6⟩, ⟨o7, o8⟩, ⟨o9, o10⟩, ⟨o11, o12⟩, o13, hn4⟩) (show (f_4 7).toInt = (f 7).toInt from k4_0) (show (f_4 10).toInt = (f 10).toInt from k4_1) (show (f_4 15).toInt = (f 15).toInt from k4_2) (show (f 8).toInt ≤ z99.toInt from (oz_df4877b868 k4_3 tz99)) (show 0 ≤ z101.toInt from (oz_ae613611c0 tz101 k4_4)) (show z101.toInt ≤ (f_4 7).toInt+1 from (oz_42d443b05b tz99 nc100)) (show Q5 (a_4 5) from hq5) (show (f_4 7).toInt+2-z101.toInt < (n_4 : Int) from (oz_ea2b3b93d5 tz99 nc100)) hw (lv_sub hl [4, 1, 0] rfl) | exact ih4 (upd f_4 8 z99) a_4 (0 : Int32) z101 _ _ ls (show TokOk (f_4 7) z99 (f_4 10) (f_4 11) (f_4 12) (f_4 13) (f_4 17) (a_4 4) from ⟨⟨by first | exact o1 | omega, by first | exact o2 | omega⟩, ⟨by first | exact oz_b3b25f0e49 tz99 o3 | omega, by first | exact oz_f1d1298f6f tz99 nc100 | omega⟩, ⟨by first | exact o5 | omega, by first | exact o6 | omega⟩, ⟨by first | exact o7 | omega, by first | exact o8 | omega⟩, ⟨by first | exact o9 | omega, by first | exact o10 | omega⟩, ⟨by first | exact o11 | omega, by first | exact o12 | omega⟩, by first | exact o13 | omega, hn4⟩) (show (f_4 7).toInt = (f 7).toInt from by first | exact k4_0 | omega) (show (f_4 10).toInt = (f 10).toInt from by first | exact k4_1 | omega) (show (f_4 15).toInt = (f 15).toInt from by first | exact k4_2 | omega) (show (f 8).toInt ≤ z99.toInt from by first | exact oz_df4877b868 k4_3 tz99 | omega) (show 0 ≤ z101.toInt from by first | exact oz_ae613611c0 tz101 k4_4 | omega) (show z101.toInt ≤ (f_4 7).toInt+1 from by first | exact oz_42d443b05b tz99 nc100 | omega) (show Q5 (a_4 5) from hq5) (show (f_4 7).toInt+2-z101.toInt < (n_4 : Int) from by first | exact oz_ea2b3b93d5 tz99 nc100 | omega) hw (lv_sub hl [4, 1, 0] rfl)
                  · have nc100 : ¬ z99.toInt ≤ (f_4 8).toInt := mt (i_le (x := z99) (y := (f_4 8))).mpr c100
                    refine lv_iconst (v := 1) S.x S.b d_Tok_skip_132 (by decide) ?_
                    refine lv_goto (tgt := 137) S.x S.b d_Tok_skip_133 (by decide) ?_
                    refine lv_istore_n (lv' := [(1, .int 1), (4, .int z99), (3, .int v6), (0, .ref h), (2, .int x4_2)]) S.x S.b d_Tok_skip_137 rfl hl (by decide) rfl (fun ls hl => ?_)
                    refine lv_aload_n S.x S.b d_Tok_skip_138 rfl (lv_at hl 3 rfl) ?_
                    refine lv_iload S.x S.b d_Tok_skip_139 (lv_at hl 1 rfl) ?_
                    refine px_put S k_Tok hT hw 0 0 8 rfl rfl (by decide) m1_111 rfl rfl rfl (Nat.le_of_ble_eq_true rfl) d_Tok_skip_141 (w' := wd_Tok cs h r (fun _ => some tp) (upd f_4 8 z99) a_4 g) (ps' := [wd_Tok cs h r (fun _ => some tp) (upd f_4 8 z99) a_4 g, [(tp, .inl (cs 1, 2048, .inl tb))]]) rfl rfl (fun H locs hw => ?_)
                    obtain ⟨z102, ez102⟩ : ∃ y : Int32, y = x4_2 + 1 := ⟨_, rfl⟩
                    have tz102 : z102.toInt = (x4_2.toInt + 1 + 2147483648) % 4294967296 - 2147483648 := by rw [ez102]; exact i_add x4_2 1
                    have lz102 := Int32.le_toInt z102
                    have uz102 := Int32.toInt_lt z102
                    try replace tz102 : z102.toInt = x4_2.toInt + 1 := by omega
                    refine lv_iinc (v := z102) (lv' := [(2, .int z102), (1, .int 1), (4, .int z99), (3, .int v6), (0, .ref h)]) S.x S.b d_Tok_skip_144 hl (k := 4) rfl (by rw [ez102]; rfl) (by decide) rfl (fun ls hl => ?_)
                    refine lv_goto (tgt := 4) S.x S.b d_Tok_skip_147 (by decide) ?_
                    first | exact ih4 (upd f_4 8 z99) a_4 (1 : Int32) z102 _ _ ls (show TokOk (f_4 7) z99 (f_4 10) (f_4 11) (f_4 12) (f_4 13) (f_4 17) (a_4 4) from ⟨⟨o1, o2⟩, ⟨(oz_8c8b3d3770 nc100 o3), (oz_9626c71e54 tz99 nc28 e9)⟩, ⟨o5, o6⟩, ⟨o7, o8⟩, ⟨o9, o10⟩, ⟨o11, o12⟩, o13, hn4⟩) (show (f_4 7).toInt = (f 7).toInt from k4_0) (show (f_4 10).toInt = (f 10).toInt from k4_1) (show (f_4 15).toInt = (f 15).toInt from k4_2) (show (f 8).toInt ≤ z99.toInt from (oz_fbfdb238f4 k4_3 nc100)) (show 0 ≤ z102.toInt from (oz_ae613611c0 tz102 k4_4)) (show z102.toInt ≤ (f_4 7).toInt+1 from (oz_0c5335350d nc1 tz102)) (show Q5 (a_4 5) from hq5) (show (f_4 7).toInt+2-z102.toInt < (n_4 : Int) from (oz_1a25760b21 hm tz102)) hw (lv_sub hl [4, 1, 0] rfl) | exact ih4 (upd f_4 8 z99) a_4 (1 : Int32) z102 _ _ ls (show TokOk (f_4 7) z99 (f_4 10) (f_4 11) (f_4 12) (f_4 13) (f_4 17) (a_4 4) from ⟨⟨by first | exact o1 | omega, by first | exact o2 | omega⟩, ⟨by first | exact oz_8c8b3d3770 nc100 o3 | omega, by first | exact oz_9626c71e54 tz99 nc28 e9 | omega⟩, ⟨by first | exact o5 | omega, by first | exact o6 | omega⟩, ⟨by first | exact o7 | omega, by first | exact o8 | omega⟩, ⟨by first | exact o9 | omega, by first | exact o10 | omega⟩, ⟨by first | exact o11 | omega, by first | exact o12 | omega⟩, by first | exact o13 | omega, hn4⟩) (show (f_4 7).toInt = (f 7).toInt from by first | exact k4_0 | omega) (show (f_4 10).toInt = (f 10).toInt from by first | exact k4_1 | omega) (show (f_4 15).toInt = (f 15).toInt from by first | exact k4_2 | omega) (show (f 8).toInt ≤ z99.toInt from by first | exact oz_fbfdb238f4 k4_3 nc100 | omega) (show 0 ≤ z102.toInt from by first | exact oz_ae613611c0 tz102 k4_4 | omega) (show z102.toInt ≤ (f_4 7).toInt+1 from by first | exact oz_0c5335350d nc1 tz102 | omega) (show Q5 (a_4 5) from hq5) (show (f_4 7).toInt+2-z102.toInt < (n_4 : Int) from by first | exact oz_1a25760b21 hm tz102 | omega) hw (lv_sub hl [4, 1, 0] rfl)
  refine lv_iconst (v := 1) S.x S.b d_Tok_skip_0 (by decide) ?_
  refine lv_istore_n (lv' := [(1, .int 1), (0, .ref h)]) S.x S.b d_Tok_skip_1 rfl hl (by decide) rfl (fun ls hl => ?_)
  refine lv_iconst (v := 0) S.x S.b d_Tok_skip_2 (by decide) ?_
  refine lv_istore_n (lv' := [(2, .int 0), (1, .int 1), (0, .ref h)]) S.x S.b d_Tok_skip_3 rfl hl (by decide) rfl (fun ls hl => ?_)
  first | exact J4 (((f 7).toInt+2-(0 : Int)).toNat + 1) f a (1 : Int32) (0 : Int32) _ _ ls (show TokOk (f 7) (f 8) (f 10) (f 11) (f 12) (f 13) (f 17) (a 4) from ⟨⟨o1, o2⟩, ⟨o3, o4⟩, ⟨o5, o6⟩, ⟨o7, o8⟩, ⟨o9, o10⟩, ⟨o11, o12⟩, o13, hn4⟩) (show (f 7).toInt = (f 7).toInt from rfl) (show (f 10).toInt = (f 10).toInt from rfl) (show (f 15).toInt = (f 15).toInt from rfl) (show (f 8).toInt ≤ (f 8).toInt from oz_1cb5f934a5) (show 0 ≤ (0 : Int) from by first | decide | omega) (show (0 : Int) ≤ (f 7).toInt+1 from (oz_86d3cb77db o1)) (show Q5 (a 5) from hq5) (show (f 7).toInt+2-(0 : Int) < (((((f 7).toInt+2-(0 : Int)).toNat + 1 : Nat) : Int) : Int) from oz_natlt) hw (lv_sub hl [2, 1, 0] rfl) | exact J4 (((f 7).toInt+2-(0 : Int)).toNat + 1) f a (1 : Int32) (0 : Int32) _ _ ls (show TokOk (f 7) (f 8) (f 10) (f 11) (f 12) (f 13) (f 17) (a 4) from ⟨⟨by first | exact o1 | omega, by first | exact o2 | omega⟩, ⟨by first | exact o3 | omega, by first | exact o4 | omega⟩, ⟨by first | exact o5 | omega, by first | exact o6 | omega⟩, ⟨by first | exact o7 | omega, by first | exact o8 | omega⟩, ⟨by first | exact o9 | omega, by first | exact o10 | omega⟩, ⟨by first | exact o11 | omega, by first | exact o12 | omega⟩, by first | exact o13 | omega, hn4⟩) (show (f 7).toInt = (f 7).toInt from rfl) (show (f 10).toInt = (f 10).toInt from rfl) (show (f 15).toInt = (f 15).toInt from rfl) (show (f 8).toInt ≤ (f 8).toInt from by first | exact oz_1cb5f934a5 | omega) (show 0 ≤ (0 : Int) from by first | decide | omega) (show (0 : Int) ≤ (f 7).toInt+1 from by first | exact oz_86d3cb77db o1 | omega) (show Q5 (a 5) from hq5) (show (f 7).toInt+2-(0 : Int) < (((((f 7).toInt+2-(0 : Int)).toNat + 1 : Nat) : Int) : Int) from by first | exact oz_natlt | omega) hw (lv_sub hl [2, 1, 0] rfl)
set_option maxHeartbeats 4000000 in
set_option maxRecDepth 100000 in
theorem c_t2_quotedAt (l : Launch) (D : va_G) (cs : Nat → ClassId) (h : Nat) (r : Nat → Nat) (tp : Nat) (tb : Nat → Int32) (g : Nat → Nat → Option Nat) (f : Nat → Int32) (a : Nat → Nat → Int32) (p0 p1 : Int32)  (hinv0 : TokOk (f 7) (f 8) (f 10) (f 11) (f 12) (f 13) (f 17) (a 4)) (g0 : p1.toInt ≤ 100) : MetI l y_Tok_quotedAt b_Tok_quotedAt 5 (.int) D cs 1 22 (0) (0) [.ref h, .int p0, .int p1] [wd_Tok cs h r (fun _ => some tp) f a g, [(tp, .inl (cs 1, 2048, .inl tb))]] (fun _ => True) (fun v ps => (ps = [wd_Tok cs h r (fun _ => some tp) f a g, [(tp, .inl (cs 1, 2048, .inl tb))]]) ∧ (-1 ≤ v.toInt) ∧ (v.toInt ≤ 200) ∧ (0 ≤ v.toInt → 0 ≤ p0.toInt ∧ p0.toInt < (f 7).toInt)) := by
  refine px_enter (by decide) (Nat.le_of_ble_eq_true rfl) ?_
  intro p e s m below meth c A ls hAe S hr hlk hnm hA hT hX hw hl
  have hl : lv_has ls 5 [(0, .ref h), (1, .int p0), (2, .int p1)] := hl
  have lp0 := Int32.le_toInt p0
  have up0 := Int32.toInt_lt p0
  have lp1 := Int32.le_toInt p1
  have up1 := Int32.toInt_lt p1
  have cstm1 : ((-1) : Int32).toInt = (-1) := rfl
  have cst0 : (0 : Int32).toInt = 0 := rfl
  have cst1 : (1 : Int32).toInt = 1 := rfl
  have cst10 : (10 : Int32).toInt = 10 := rfl
  have cst32 : (32 : Int32).toInt = 32 := rfl
  have cst48 : (48 : Int32).toInt = 48 := rfl
  have cst92 : (92 : Int32).toInt = 92 := rfl
  have cst110 : (110 : Int32).toInt = 110 := rfl
  have cst126 : (126 : Int32).toInt = 126 := rfl
  obtain ⟨⟨o1, o2⟩, ⟨o3, o4⟩, ⟨o5, o6⟩, ⟨o7, o8⟩, ⟨o9, o10⟩, ⟨o11, o12⟩, o13, hn4⟩ := hinv0
  refine lv_aload_n S.x S.b d_Tok_quotedAt_0 rfl (lv_at hl 0 rfl) ?_
  refine lv_iload_n S.x S.b d_Tok_quotedAt_1 rfl (lv_at hl 1 rfl) ?_
  first | refine px_calli (pr := []) (px_runV (As := [.int p0]) (rest := []) S (c_Tok_byteAt l D cs h r tp tb f a g p0 (show TokOk (f 7) (f 8) (f 10) (f 11) (f 12) (f 13) (f 17) (a 4) from ⟨⟨o1, o2⟩, ⟨o3, o4⟩, ⟨o5, o6⟩, ⟨o7, o8⟩, ⟨o9, o10⟩, ⟨o11, o12⟩, o13, hn4⟩)  _) hT (pr := []) (pcs := [wd_Tok cs h r (fun _ => some tp) f a g, [(tp, .inl (cs 1, 2048, .inl tb))]]) hw px_X.tt (px_recv hT hw 0 0 rfl rfl rfl) m3_186 m3_183 m3_185 ms_1_6 m1_2 q_Tok_byteAt ⟨Nat.le_of_ble_eq_true rfl, Nat.le_of_ble_eq_true rfl⟩ hl.1 rfl (Nat.le_of_ble_eq_true rfl) d_Tok_quotedAt_2 ⟨Nat.le_of_ble_eq_true rfl, Nat.le_of_ble_eq_true rfl⟩) hw hA (fun v4 p3 H locs hp3 hw => ?_) | refine px_calli (pr := []) (px_runV (As := [.int p0]) (rest := []) S (c_Tok_byteAt l D cs h r tp tb f a g p0 (show TokOk (f 7) (f 8) (f 10) (f 11) (f 12) (f 13) (f 17) (a 4) from ⟨⟨by first | exact o1 | omega, by first | exact o2 | omega⟩, ⟨by first | exact o3 | omega, by first | exact o4 | omega⟩, ⟨by first | exact o5 | omega, by first | exact o6 | omega⟩, ⟨by first | exact o7 | omega, by first | exact o8 | omega⟩, ⟨by first | exact o9 | omega, by first | exact o10 | omega⟩, ⟨by first | exact o11 | omega, by first | exact o12 | omega⟩, by first | exact o13 | omega, hn4⟩)  _) hT (pr := []) (pcs := [wd_Tok cs h r (fun _ => some tp) f a g, [(tp, .inl (cs 1, 2048, .inl tb))]]) hw px_X.tt (px_recv hT hw 0 0 rfl rfl rfl) m3_186 m3_183 m3_185 ms_1_6 m1_2 q_Tok_byteAt ⟨Nat.le_of_ble_eq_true rfl, Nat.le_of_ble_eq_true rfl⟩ hl.1 rfl (Nat.le_of_ble_eq_true rfl) d_Tok_quotedAt_2 ⟨Nat.le_of_ble_eq_true rfl, Nat.le_of_ble_eq_true rfl⟩) hw hA (fun v4 p3 H locs hp3 hw => ?_)
  obtain ⟨rfl, e5, e6, e7⟩ := hp3
  have e5 : -1 ≤ v4.toInt := e5
  have e6 : v4.toInt ≤ 255 := e6
  have e7 : 0 ≤ v4.toInt → 0 ≤ p0.toInt ∧ p0.toInt < (f 7).toInt := e7
  have lv4 := Int32.le_toInt v4
  have uv4 := Int32.toInt_lt v4
  refine lv_istore_n (lv' := [(3, .int v4), (0, .ref h), (1, .int p0), (2, .int p1)]) S.x S.b d_Tok_quotedAt_5 rfl hl (by decide) rfl (fun ls hl => ?_)
  refine lv_iload_n S.x S.b d_Tok_quotedAt_6 rfl (lv_at hl 0 rfl) ?_
  refine lv_bipush (v := 92) S.x S.b d_Tok_quotedAt_7 (by decide) ?_
  refine lv_icmp_ne (tgt := 60) S.x S.b d_Tok_quotedAt_9 (by decide) (fun c8 => ?_) (fun c8 => ?_)
  · have nc8 : ¬ v4.toInt = (92 : Int) := mt (i_eq (x := v4) (y := 92)).mpr c8
    refine lv_iload_n S.x S.b d_Tok_quotedAt_60 rfl (lv_at hl 0 rfl) ?_
    refine lv_bipush (v := 32) S.x S.b d_Tok_quotedAt_61 (by decide) ?_
    refine lv_icmp_lt (tgt := 81) S.x S.b d_Tok_quotedAt_63 (by decide) (fun c9 => ?_) (fun c9 => ?_)
    · have nc9 : v4.toInt < (32 : Int) := (i_lt (x := v4) (y := 32)).mp c9
      refine lv_iconst (v := (-1)) S.x S.b d_Tok_quotedAt_81 (by decide) ?_
      exact px_iret (v := (-1)) S hr rfl hlk hAe hw (Nat.le_of_ble_eq_true rfl) (Nat.le_of_ble_eq_true rfl) (⟨rfl, (show -1 ≤ (-1 : Int) from by first | decide | omega), (show (-1 : Int) ≤ 200 from by first | decide | omega), (show 0 ≤ (-1 : Int) → 0 ≤ p0.toInt ∧ p0.toInt < (f 7).toInt from by first | with_reducible rfl | with_reducible assumption | omega)⟩) d_Tok_quotedAt_82
    · have nc9 : ¬ v4.toInt < (32 : Int) := mt (i_lt (x := v4) (y := 32)).mpr c9
      refine lv_iload_n S.x S.b d_Tok_quotedAt_66 rfl (lv_at hl 0 rfl) ?_
      refine lv_bipush (v := 126) S.x S.b d_Tok_quotedAt_67 (by decide) ?_
      refine lv_icmp_gt (tgt := 81) S.x S.b d_Tok_quotedAt_69 (by decide) (fun c10 => ?_) (fun c10 => ?_)
      · have nc10 : (126 : Int) < v4.toInt := (i_lt (x := 126) (y := v4)).mp c10
        refine lv_iconst (v := (-1)) S.x S.b d_Tok_quotedAt_81 (by decide) ?_
        exact px_iret (v := (-1)) S hr rfl hlk hAe hw (Nat.le_of_ble_eq_true rfl) (Nat.le_of_ble_eq_true rfl) (⟨rfl, (show -1 ≤ (-1 : Int) from by first | decide | omega), (show (-1 : Int) ≤ 200 from by first | decide | omega), (show 0 ≤ (-1 : Int) → 0 ≤ p0.toInt ∧ p0.toInt < (f 7).toInt from by first | with_reducible rfl | with_reducible assumption | omega)⟩) d_Tok_quotedAt_82
      · have nc10 : ¬ (126 : Int) < v4.toInt := mt (i_lt (x := 126) (y := v4)).mpr c10
        refine lv_iload_n S.x S.b d_Tok_quotedAt_72 rfl (lv_at hl 0 rfl) ?_
        refine lv_iload_n S.x S.b d_Tok_quotedAt_73 rfl (lv_at hl 3 rfl) ?_
        refine lv_icmp_eq (tgt := 81) S.x S.b d_Tok_quotedAt_74 (by decide) (fun c11 => ?_) (fun c11 => ?_)
        · have nc11 : v4.toInt = p1.toInt := (i_eq (x := v4) (y := p1)).mp c11
          refine lv_iconst (v := (-1)) S.x S.b d_Tok_quotedAt_81 (by decide) ?_
          exact px_iret (v := (-1)) S hr rfl hlk hAe hw (Nat.le_of_ble_eq_true rfl) (Nat.le_of_ble_eq_true rfl) (⟨rfl, (show -1 ≤ (-1 : Int) from by first | decide | omega), (show (-1 : Int) ≤ 200 from by first | decide | omega), (show 0 ≤ (-1 : Int) → 0 ≤ p0.toInt ∧ p0.toInt < (f 7).toInt from by first | with_reducible rfl | with_reducible assumption | omega)⟩) d_Tok_quotedAt_82
        · have nc11 : ¬ v4.toInt = p1.toInt := mt (i_eq (x := v4) (y := p1)).mpr c11
          refine lv_iload_n S.x S.b d_Tok_quotedAt_77 rfl (lv_at hl 0 rfl) ?_
          refine lv_goto (tgt := 82) S.x S.b d_Tok_quotedAt_78 (by decide) ?_
          first | exact px_iret (v := v4) S hr rfl hlk hAe hw (Nat.le_of_ble_eq_true rfl) (Nat.le_of_ble_eq_true rfl) (⟨rfl, (show -1 ≤ v4.toInt from e5), (show v4.toInt ≤ 200 from (oz_81847fae50 nc10)), (show 0 ≤ v4.toInt → 0 ≤ p0.toInt ∧ p0.toInt < (f 7).toInt from e7)⟩) d_Tok_quotedAt_82 | exact px_iret (v := v4) S hr rfl hlk hAe hw (Nat.le_of_ble_eq_true rfl) (Nat.le_of_ble_eq_true rfl) (⟨rfl, (show -1 ≤ v4.toInt from by first | exact e5 | omega), (show v4.toInt ≤ 200 from by first | exact oz_81847fae50 nc10 | omega), (show 0 ≤ v4.toInt → 0 ≤ p0.toInt ∧ p0.toInt < (f 7).toInt from by first | exact e7 | omega)⟩) d_Tok_quotedAt_82
  · have nc8 : v4.toInt = (92 : Int) := (i_eq (x := v4) (y := 92)).mp c8
    refine lv_aload_n S.x S.b d_Tok_quotedAt_12 rfl (lv_at hl 1 rfl) ?_
    refine lv_iload_n S.x S.b d_Tok_quotedAt_13 rfl (lv_at hl 2 rfl) ?_
    refine lv_iconst (v := 1) S.x S.b d_Tok_quotedAt_14 (by decide) ?_
    refine lv_iadd S.x S.b d_Tok_quotedAt_15 ?_
    refine lv_topi (fun z12 ez12 => ?_)
    have tz12 : z12.toInt = (p0.toInt + (1 : Int) + 2147483648) % 4294967296 - 2147483648 := by rw [ez12]; exact i_add p0 1
    have lz12 := Int32.le_toInt z12
    have uz12 := Int32.toInt_lt z12
    try replace tz12 : z12.toInt = p0.toInt + (1 : Int) := by omega
    first | refine px_calli (pr := []) (px_runV (As := [.int z12]) (rest := []) S (c_Tok_byteAt l D cs h r tp tb f a g z12 (show TokOk (f 7) (f 8) (f 10) (f 11) (f 12) (f 13) (f 17) (a 4) from ⟨⟨o1, o2⟩, ⟨o3, o4⟩, ⟨o5, o6⟩, ⟨o7, o8⟩, ⟨o9, o10⟩, ⟨o11, o12⟩, o13, hn4⟩)  _) hT (pr := []) (pcs := [wd_Tok cs h r (fun _ => some tp) f a g, [(tp, .inl (cs 1, 2048, .inl tb))]]) hw px_X.tt (px_recv hT hw 0 0 rfl rfl rfl) m3_186 m3_183 m3_185 ms_1_6 m1_2 q_Tok_byteAt ⟨Nat.le_of_ble_eq_true rfl, Nat.le_of_ble_eq_true rfl⟩ hl.1 rfl (Nat.le_of_ble_eq_true rfl) d_Tok_quotedAt_16 ⟨Nat.le_of_ble_eq_true rfl, Nat.le_of_ble_eq_true rfl⟩) hw hA (fun v16 p15 H locs hp15 hw => ?_) | refine px_calli (pr := []) (px_runV (As := [.int z12]) (rest := []) S (c_Tok_byteAt l D cs h r tp tb f a g z12 (show TokOk (f 7) (f 8) (f 10) (f 11) (f 12) (f 13) (f 17) (a 4) from ⟨⟨by first | exact o1 | omega, by first | exact o2 | omega⟩, ⟨by first | exact o3 | omega, by first | exact o4 | omega⟩, ⟨by first | exact o5 | omega, by first | exact o6 | omega⟩, ⟨by first | exact o7 | omega, by first | exact o8 | omega⟩, ⟨by first | exact o9 | omega, by first | exact o10 | omega⟩, ⟨by first | exact o11 | omega, by first | exact o12 | omega⟩, by first | exact o13 | omega, hn4⟩)  _) hT (pr := []) (pcs := [wd_Tok cs h r (fun _ => some tp) f a g, [(tp, .inl (cs 1, 2048, .inl tb))]]) hw px_X.tt (px_recv hT hw 0 0 rfl rfl rfl) m3_186 m3_183 m3_185 ms_1_6 m1_2 q_Tok_byteAt ⟨Nat.le_of_ble_eq_true rfl, Nat.le_of_ble_eq_true rfl⟩ hl.1 rfl (Nat.le_of_ble_eq_true rfl) d_Tok_quotedAt_16 ⟨Nat.le_of_ble_eq_true rfl, Nat.le_of_ble_eq_true rfl⟩) hw hA (fun v16 p15 H locs hp15 hw => ?_)
    obtain ⟨rfl, e17, e18, e19⟩ := hp15
    have e17 : -1 ≤ v16.toInt := e17
    have e18 : v16.toInt ≤ 255 := e18
    have e19 : 0 ≤ v16.toInt → 0 ≤ z12.toInt ∧ z12.toInt < (f 7).toInt := e19
    have lv16 := Int32.le_toInt v16
    have uv16 := Int32.toInt_lt v16
    refine lv_istore (lv' := [(4, .int v16), (3, .int v4), (0, .ref h), (1, .int p0), (2, .int p1)]) S.x S.b d_Tok_quotedAt_19 hl (by decide) rfl (fun ls hl => ?_)
    refine lv_iload S.x S.b d_Tok_quotedAt_21 (lv_at hl 0 rfl) ?_
    refine lv_bipush (v := 110) S.x S.b d_Tok_quotedAt_23 (by decide) ?_
    refine lv_icmp_ne (tgt := 31) S.x S.b d_Tok_quotedAt_25 (by decide) (fun c20 => ?_) (fun c20 => ?_)
    · have nc20 : ¬ v16.toInt = (110 : Int) := mt (i_eq (x := v16) (y := 110)).mpr c20
      refine lv_iload S.x S.b d_Tok_quotedAt_31 (lv_at hl 0 rfl) ?_
      refine lv_bipush (v := 48) S.x S.b d_Tok_quotedAt_33 (by decide) ?_
      refine lv_icmp_ne (tgt := 40) S.x S.b d_Tok_quotedAt_35 (by decide) (fun c21 => ?_) (fun c21 => ?_)
      · have nc21 : ¬ v16.toInt = (48 : Int) := mt (i_eq (x := v16) (y := 48)).mpr c21
        refine lv_iload S.x S.b d_Tok_quotedAt_40 (lv_at hl 0 rfl) ?_
        refine lv_iload_n S.x S.b d_Tok_quotedAt_42 rfl (lv_at hl 4 rfl) ?_
        refine lv_icmp_eq (tgt := 53) S.x S.b d_Tok_quotedAt_43 (by decide) (fun c22 => ?_) (fun c22 => ?_)
        · have nc22 : v16.toInt = p1.toInt := (i_eq (x := v16) (y := p1)).mp c22
          refine lv_iload S.x S.b d_Tok_quotedAt_53 (lv_at hl 0 rfl) ?_
          refine lv_goto (tgt := 59) S.x S.b d_Tok_quotedAt_55 (by decide) ?_
          first | exact px_iret (v := v16) S hr rfl hlk hAe hw (Nat.le_of_ble_eq_true rfl) (Nat.le_of_ble_eq_true rfl) (⟨rfl, (show -1 ≤ v16.toInt from e17), (show v16.toInt ≤ 200 from (oz_242b92e872 nc22 g0)), (show 0 ≤ v16.toInt → 0 ≤ p0.toInt ∧ p0.toInt < (f 7).toInt from (fun q9 => oz_b5a98028f4 nc8 e7))⟩) d_Tok_quotedAt_59 | exact px_iret (v := v16) S hr rfl hlk hAe hw (Nat.le_of_ble_eq_true rfl) (Nat.le_of_ble_eq_true rfl) (⟨rfl, (show -1 ≤ v16.toInt from by first | exact e17 | omega), (show v16.toInt ≤ 200 from by first | exact oz_242b92e872 nc22 g0 | omega), (show 0 ≤ v16.toInt → 0 ≤ p0.toInt ∧ p0.toInt < (f 7).toInt from by first | exact fun q9 => oz_b5a98028f4 nc8 e7 | omega)⟩) d_Tok_quotedAt_59
        · have nc22 : ¬ v16.toInt = p1.toInt := mt (i_eq (x := v16) (y := p1)).mpr c22
          refine lv_iload S.x S.b d_Tok_quotedAt_46 (lv_at hl 0 rfl) ?_
          refine lv_bipush (v := 92) S.x S.b d_Tok_quotedAt_48 (by decide) ?_
          refine lv_icmp_ne (tgt := 58) S.x S.b d_Tok_quotedAt_50 (by decide) (fun c23 => ?_) (fun c23 => ?_)
          · have nc23 : ¬ v16.toInt = (92 : Int) := mt (i_eq (x := v16) (y := 92)).mpr c23
            refine lv_iconst (v := (-1)) S.x S.b d_Tok_quotedAt_58 (by decide) ?_
            exact px_iret (v := (-1)) S hr rfl hlk hAe hw (Nat.le_of_ble_eq_true rfl) (Nat.le_of_ble_eq_true rfl) (⟨rfl, (show -1 ≤ (-1 : Int) from by first | decide | omega), (show (-1 : Int) ≤ 200 from by first | decide | omega), (show 0 ≤ (-1 : Int) → 0 ≤ p0.toInt ∧ p0.toInt < (f 7).toInt from by first | with_reducible rfl | with_reducible assumption | omega)⟩) d_Tok_quotedAt_59
          · have nc23 : v16.toInt = (92 : Int) := (i_eq (x := v16) (y := 92)).mp c23
            refine lv_iload S.x S.b d_Tok_quotedAt_53 (lv_at hl 0 rfl) ?_
            refine lv_goto (tgt := 59) S.x S.b d_Tok_quotedAt_55 (by decide) ?_
            first | exact px_iret (v := v16) S hr rfl hlk hAe hw (Nat.le_of_ble_eq_true rfl) (Nat.le_of_ble_eq_true rfl) (⟨rfl, (show -1 ≤ v16.toInt from e17), (show v16.toInt ≤ 200 from (oz_649850f1a1 nc23)), (show 0 ≤ v16.toInt → 0 ≤ p0.toInt ∧ p0.toInt < (f 7).toInt from (fun q9 => oz_5d7574dca0 nc8 e7 tz12 nc23 e19))⟩) d_Tok_quotedAt_59 | exact px_iret (v := v16) S hr rfl hlk hAe hw (Nat.le_of_ble_eq_true rfl) (Nat.le_of_ble_eq_true rfl) (⟨rfl, (show -1 ≤ v16.toInt from by first | exact e17 | omega), (show v16.toInt ≤ 200 from by first | exact oz_649850f1a1 nc23 | omega), (show 0 ≤ v16.toInt → 0 ≤ p0.toInt ∧ p0.toInt < (f 7).toInt from by first | exact fun q9 => oz_5d7574dca0 nc8 e7 tz12 nc23 e19 | omega)⟩) d_Tok_quotedAt_59
      · have nc21 : v16.toInt = (48 : Int) := (i_eq (x := v16) (y := 48)).mp c21
        refine lv_iconst (v := 0) S.x S.b d_Tok_quotedAt_38 (by decide) ?_
        exact px_iret (v := 0) S hr rfl hlk hAe hw (Nat.le_of_ble_eq_true rfl) (Nat.le_of_ble_eq_true rfl) (⟨rfl, (show -1 ≤ (0 : Int) from by first | decide | omega), (show (0 : Int) ≤ 200 from by first | decide | omega), (show 0 ≤ (0 : Int) → 0 ≤ p0.toInt ∧ p0.toInt < (f 7).toInt from by first | with_reducible rfl | with_reducible assumption | omega)⟩) d_Tok_quotedAt_39
    · have nc20 : v16.toInt = (110 : Int) := (i_eq (x := v16) (y := 110)).mp c20
      refine lv_bipush (v := 10) S.x S.b d_Tok_quotedAt_28 (by decide) ?_
      exact px_iret (v := 10) S hr rfl hlk hAe hw (Nat.le_of_ble_eq_true rfl) (Nat.le_of_ble_eq_true rfl) (⟨rfl, (show -1 ≤ (10 : Int) from by first | decide | omega), (show (10 : Int) ≤ 200 from by first | decide | omega), (show 0 ≤ (10 : Int) → 0 ≤ p0.toInt ∧ p0.toInt < (f 7).toInt from by first | with_reducible rfl | with_reducible assumption | omega)⟩) d_Tok_quotedAt_30
set_option maxHeartbeats 4000000 in
set_option maxRecDepth 100000 in
theorem c_t2_intern (l : Launch) (D : va_G) (cs : Nat → ClassId) (h : Nat) (r : Nat → Nat) (tp : Nat) (tb : Nat → Int32) (g : Nat → Nat → Option Nat) (f : Nat → Int32) (a : Nat → Nat → Int32) (p0 p1 : Int32)  (hinv0 : TokOk (f 7) (f 8) (f 10) (f 11) (f 12) (f 13) (f 17) (a 4)) (g0 : 0 ≤ p0.toInt) (g1 : p0.toInt ≤ 1000 + 24 * ((f 11).toInt - 1)) (g2 : 0 ≤ p1.toInt) (g3 : p1.toInt ≤ 24) (hq5 : Q5 (a 5)) : MetI l y_Tok_intern b_Tok_intern 5 (.int) D cs 1 30 (0) (0) [.ref h, .int p0, .int p1] [wd_Tok cs h r (fun _ => some tp) f a g, [(tp, .inl (cs 1, 2048, .inl tb))]] (fun _ => True) (fun v ps => ∃ (f' : Nat → Int32) (a' : Nat → Nat → Int32), (ps = [wd_Tok cs h r (fun _ => some tp) f' a' g, [(tp, .inl (cs 1, 2048, .inl tb))]]) ∧ (TokOk (f' 7) (f' 8) (f' 10) (f' 11) (f' 12) (f' 13) (f' 17) (a' 4)) ∧ ((f' 7).toInt = (f 7).toInt) ∧ ((f' 10).toInt = (f 10).toInt) ∧ ((f' 15).toInt = (f 15).toInt) ∧ ((f' 8).toInt = (f 8).toInt) ∧ (Q5 (a' 5))) := by
  refine px_enter (by decide) (Nat.le_of_ble_eq_true rfl) ?_
  intro p e s m below meth c A ls hAe S hr hlk hnm hA hT hX hw hl
  have hl : lv_has ls 5 [(0, .ref h), (1, .int p0), (2, .int p1)] := hl
  have lp0 := Int32.le_toInt p0
  have up0 := Int32.toInt_lt p0
  have lp1 := Int32.le_toInt p1
  have up1 := Int32.toInt_lt p1
  have cst0 : (0 : Int32).toInt = 0 := rfl
  have cst1 : (1 : Int32).toInt = 1 := rfl
  obtain ⟨⟨o1, o2⟩, ⟨o3, o4⟩, ⟨o5, o6⟩, ⟨o7, o8⟩, ⟨o9, o10⟩, ⟨o11, o12⟩, o13, hn4⟩ := hinv0
  have J5 : ∀ (n_5 : Nat) (f_5 : Nat → Int32) (a_5 : Nat → Nat → Int32) (x5_3 x5_4 : Int32) (H : Heap) (locs : List Loc) (ls : Array Slot), (TokOk (f_5 7) (f_5 8) (f_5 10) (f_5 11) (f_5 12) (f_5 13) (f_5 17) (a_5 4)) → ((f_5 7).toInt = (f 7).toInt) → ((f_5 10).toInt = (f 10).toInt) → ((f_5 15).toInt = (f 15).toInt) → ((f_5 8).toInt = (f 8).toInt) → ((f_5 11).toInt = (f 11).toInt) → (0 ≤ x5_3.toInt) → (x5_3.toInt ≤ 100000) → (0 ≤ x5_4.toInt) → (x5_4.toInt ≤ (f_5 11).toInt) → (Q5 (a_5 5)) → (f_5 11).toInt+1-x5_4.toInt < (n_5 : Int) → pw D A s.heap H locs [wd_Tok cs h r (fun _ => some tp) f_5 a_5 g, [(tp, .inl (cs 1, 2048, .inl tb))]] → lv_has ls 5 [(0, .ref h), (1, .int p0), (2, .int p1), (3, .int x5_3), (4, .int x5_4)] → W p l e { frames := 1, cells := 0, slots := 0, locals := 30 } s m [.ref h, .int p0, .int p1].toArray below meth c H locs 0 0 (MQ below (va_Qi (fun v ps => ∃ (f' : Nat → Int32) (a' : Nat → Nat → Int32), (ps = [wd_Tok cs h r (fun _ => some tp) f' a' g, [(tp, .inl (cs 1, 2048, .inl tb))]]) ∧ (TokOk (f' 7) (f' 8) (f' 10) (f' 11) (f' 12) (f' 13) (f' 17) (a' 4)) ∧ ((f' 7).toInt = (f 7).toInt) ∧ ((f' 10).toInt = (f 10).toInt) ∧ ((f' 15).toInt = (f 15).toInt) ∧ ((f' 8).toInt = (f 8).toInt) ∧ (Q5 (a' 5))) (pc_B D (va_A ([wd_Tok cs h r (fun _ => some tp) f a g, [(tp, .inl (cs 1, 2048, .inl tb))]] : List va_W).flatten s.heap.size)) (va_A ([wd_Tok cs h r (fun _ => some tp) f a g, [(tp, .inl (cs 1, 2048, .inl tb))]] : List va_W).flatten s.heap.size)) [.ref h, .int p0, .int p1].toArray s 0 0 A) (F0 m 5 ls []) := by
    intro  n_5
    induction n_5 with
    | zero =>
      intro f_5 a_5 x5_3 x5_4 H locs ls hi5_0 k5_0 k5_1 k5_2 k5_3 k5_4 k5_5 k5_6 k5_7 k5_8 k5_9 hm hw hl
      obtain ⟨⟨o1, o2⟩, ⟨o3, o4⟩, ⟨o5, o6⟩, ⟨o7, o8⟩, ⟨o9, o10⟩, ⟨o11, o12⟩, o13, hn4⟩ := hi5_0
      have lx5_3 := Int32.le_toInt x5_3
      have ux5_3 := Int32.toInt_lt x5_3
      have lx5_4 := Int32.le_toInt x5_4
      have ux5_4 := Int32.toInt_lt x5_4
      have hq5 := k5_9
      exact absurd hm (by omega)
    | succ n_5 ih5 =>
      intro f_5 a_5 x5_3 x5_4 H locs ls hi5_0 k5_0 k5_1 k5_2 k5_3 k5_4 k5_5 k5_6 k5_7 k5_8 k5_9 hm hw hl
      obtain ⟨⟨o1, o2⟩, ⟨o3, o4⟩, ⟨o5, o6⟩, ⟨o7, o8⟩, ⟨o9, o10⟩, ⟨o11, o12⟩, o13, hn4⟩ := hi5_0
      have lx5_3 := Int32.le_toInt x5_3
      have ux5_3 := Int32.toInt_lt x5_3
      have lx5_4 := Int32.le_toInt x5_4
      have ux5_4 := Int32.toInt_lt x5_4
      have hq5 := k5_9
      refine lv_iload S.x S.b d_Tok_intern_5 (lv_at hl 4 rfl) ?_
      refine lv_aload_n S.x S.b d_Tok_intern_7 rfl (lv_at hl 0 rfl) ?_
      refine px_get S k_Tok hT hw 0 0 11 (v := .int (f_5 11)) rfl rfl rfl (by decide) m1_114 d_Tok_intern_8 ?_
      refine lv_icmp_ge (tgt := 54) S.x S.b d_Tok_intern_11 (by decide) (fun c1 => ?_) (fun c1 => ?_)
      · have nc1 : (f_5 11).toInt ≤ x5_4.toInt := (i_le (x := (f_5 11)) (y := x5_4)).mp c1
        refine lv_aload_n S.x S.b d_Tok_intern_54 rfl (lv_at hl 0 rfl) ?_
        refine px_get S k_Tok hT hw 0 0 11 (v := .int (f_5 11)) rfl rfl rfl (by decide) m1_114 d_Tok_intern_55 ?_
        refine lv_aload_n S.x S.b d_Tok_intern_58 rfl (lv_at hl 0 rfl) ?_
        refine px_get S k_Tok hT hw 0 0 4 (v := .ref (r 4)) rfl rfl rfl (by decide) m1_107 d_Tok_intern_59 ?_
        refine px_len S hT hw 0 5 0 rfl rfl rfl (v := 2074) rfl d_Tok_intern_62 ?_
        refine lv_icmp_ge (tgt := 88) S.x S.b d_Tok_intern_63 (by decide) (fun c2 => ?_) (fun c2 => ?_)
        · have nc2 : (2074 : Int) ≤ (f_5 11).toInt := (i_le (x := 2074) (y := (f_5 11))).mp c2
          refine lv_aload_n S.x S.b d_Tok_intern_88 rfl (lv_at hl 0 rfl) ?_
          refine px_get S k_Tok hT hw 0 0 11 (v := .int (f_5 11)) rfl rfl rfl (by decide) m1_114 d_Tok_intern_89 ?_
          refine lv_iconst (v := 1) S.x S.b d_Tok_intern_92 (by decide) ?_
          refine lv_isub S.x S.b d_Tok_intern_93 ?_
          have lr3 := Int32.le_toInt (f_5 11)
          have ur3 := Int32.toInt_lt (f_5 11)
          refine lv_topi (fun z4 ez4 => ?_)
          have tz4 : z4.toInt = ((f_5 11).toInt - (1 : Int) + 2147483648) % 4294967296 - 2147483648 := by rw [ez4]; exact i_sub (f_5 11) 1
          have lz4 := Int32.le_toInt z4
          have uz4 := Int32.toInt_lt z4
          try replace tz4 : z4.toInt = (f_5 11).toInt - (1 : Int) := by omega
          first | exact px_iret (v := z4) S hr rfl hlk hAe hw (Nat.le_of_ble_eq_true rfl) (Nat.le_of_ble_eq_true rfl) (⟨f_5, a_5, rfl, (show TokOk (f_5 7) (f_5 8) (f_5 10) (f_5 11) (f_5 12) (f_5 13) (f_5 17) (a_5 4) from ⟨⟨o1, o2⟩, ⟨o3, o4⟩, ⟨o5, o6⟩, ⟨o7, o8⟩, ⟨o9, o10⟩, ⟨o11, o12⟩, o13, hn4⟩), (show (f_5 7).toInt = (f 7).toInt from k5_0), (show (f_5 10).toInt = (f 10).toInt from k5_1), (show (f_5 15).toInt = (f 15).toInt from k5_2), (show (f_5 8).toInt = (f 8).toInt from k5_3), (show Q5 (a_5 5) from hq5)⟩) d_Tok_intern_94 | exact px_iret (v := z4) S hr rfl hlk hAe hw (Nat.le_of_ble_eq_true rfl) (Nat.le_of_ble_eq_true rfl) (⟨f_5, a_5, rfl, (show TokOk (f_5 7) (f_5 8) (f_5 10) (f_5 11) (f_5 12) (f_5 13) (f_5 17) (a_5 4) from ⟨⟨by first | exact o1 | omega, by first | exact o2 | omega⟩, ⟨by first | exact o3 | omega, by first | exact o4 | omega⟩, ⟨by first | exact o5 | omega, by first | exact o6 | omega⟩, ⟨by first | exact o7 | omega, by first | exact o8 | omega⟩, ⟨by first | exact o9 | omega, by first | exact o10 | omega⟩, ⟨by first | exact o11 | omega, by first | exact o12 | omega⟩, by first | exact o13 | omega, hn4⟩), (show (f_5 7).toInt = (f 7).toInt from by first | exact k5_0 | omega), (show (f_5 10).toInt = (f 10).toInt from by first | exact k5_1 | omega), (show (f_5 15).toInt = (f 15).toInt from by first | exact k5_2 | omega), (show (f_5 8).toInt = (f 8).toInt from by first | exact k5_3 | omega), (show Q5 (a_5 5) from hq5)⟩) d_Tok_intern_94
        · have nc2 : ¬ (2074 : Int) ≤ (f_5 11).toInt := mt (i_le (x := 2074) (y := (f_5 11))).mpr c2
          refine lv_aload_n S.x S.b d_Tok_intern_66 rfl (lv_at hl 0 rfl) ?_
          refine px_get S k_Tok hT hw 0 0 4 (v := .ref (r 4)) rfl rfl rfl (by decide) m1_107 d_Tok_intern_67 ?_
          refine lv_aload_n S.x S.b d_Tok_intern_70 rfl (lv_at hl 0 rfl) ?_
          refine px_get S k_Tok hT hw 0 0 11 (v := .int (f_5 11)) rfl rfl rfl (by decide) m1_114 d_Tok_intern_71 ?_
          refine lv_iload_n S.x S.b d_Tok_intern_74 rfl (lv_at hl 1 rfl) ?_
          refine lv_iload_n S.x S.b d_Tok_intern_75 rfl (lv_at hl 2 rfl) ?_
          refine lv_iadd S.x S.b d_Tok_intern_76 ?_
          refine lv_topi (fun z5 ez5 => ?_)
          have tz5 : z5.toInt = (p0.toInt + p1.toInt + 2147483648) % 4294967296 - 2147483648 := by rw [ez5]; exact i_add p0 p1
          have lz5 := Int32.le_toInt z5
          have uz5 := Int32.toInt_lt z5
          try replace tz5 : z5.toInt = p0.toInt + p1.toInt := by omega
          refine px_iast S hT hw 0 5 (n := 2074) (f := (a_5 4)) (x := (f_5 11)) (y := z5) rfl (ga_Tok_4 _ _ _ _ _ _ _) (vp_in_iff.mpr (by constructor <;> omega)) d_Tok_intern_77 (w' := wd_Tok cs h r (fun _ => some tp) f_5 (va_up a_5 4 (upd (a_5 4) (f_5 11).toNatClampNeg z5)) g) (ps' := [wd_Tok cs h r (fun _ => some tp) f_5 (va_up a_5 4 (upd (a_5 4) (f_5 11).toNatClampNeg z5)) g, [(tp, .inl (cs 1, 2048, .inl tb))]]) (sa_Tok_4 _ _ _ _ _ _ _ _) rfl (fun H locs hw => ?_)
          have hn4 := n4_up hn4 (x := (f_5 11)) (z := z5) (by omega) (by omega) (by omega)
          refine lv_aload_n S.x S.b d_Tok_intern_78 rfl (lv_at hl 0 rfl) ?_
          refine lv_dup S.x S.b d_Tok_intern_79 rfl ?_
          refine px_get S k_Tok hT hw 0 0 11 (v := .int (f_5 11)) rfl rfl rfl (by decide) m1_114 d_Tok_intern_80 ?_
          refine lv_iconst (v := 1) S.x S.b d_Tok_intern_83 (by decide) ?_
          refine lv_iadd S.x S.b d_Tok_intern_84 ?_
          have lr6 := Int32.le_toInt (f_5 11)
          have ur6 := Int32.toInt_lt (f_5 11)
          refine lv_topi (fun z7 ez7 => ?_)
          have tz7 : z7.toInt = ((f_5 11).toInt + (1 : Int) + 2147483648) % 4294967296 - 2147483648 := by rw [ez7]; exact i_add (f_5 11) 1
          have lz7 := Int32.le_toInt z7
          have uz7 := Int32.toInt_lt z7
          try replace tz7 : z7.toInt = (f_5 11).toInt + (1 : Int) := by omega
          refine px_put S k_Tok hT hw 0 0 11 rfl rfl (by decide) m1_114 rfl rfl rfl (Nat.le_of_ble_eq_true rfl) d_Tok_intern_85 (w' := wd_Tok cs h r (fun _ => some tp) (upd f_5 11 z7) (va_up a_5 4 (upd (a_5 4) (f_5 11).toNatClampNeg z5)) g) (ps' := [wd_Tok cs h r (fun _ => some tp) (upd f_5 11 z7) (va_up a_5 4 (upd (a_5 4) (f_5 11).toNatClampNeg z5)) g, [(tp, .inl (cs 1, 2048, .inl tb))]]) rfl rfl (fun H locs hw => ?_)
          refine lv_aload_n S.x S.b d_Tok_intern_88 rfl (lv_at hl 0 rfl) ?_
          refine px_get S k_Tok hT hw 0 0 11 (v := .int z7) rfl rfl rfl (by decide) m1_114 d_Tok_intern_89 ?_
          refine lv_iconst (v := 1) S.x S.b d_Tok_intern_92 (by decide) ?_
          refine lv_isub S.x S.b d_Tok_intern_93 ?_
          refine lv_topi (fun z8 ez8 => ?_)
          have tz8 : z8.toInt = (z7.toInt - (1 : Int) + 2147483648) % 4294967296 - 2147483648 := by rw [ez8]; exact i_sub z7 1
          have lz8 := Int32.le_toInt z8
          have uz8 := Int32.toInt_lt z8
          try replace tz8 : z8.toInt = z7.toInt - (1 : Int) := by omega
          first | exact px_iret (v := z8) S hr rfl hlk hAe hw (Nat.le_of_ble_eq_true rfl) (Nat.le_of_ble_eq_true rfl) (⟨(upd f_5 11 z7), (va_up a_5 4 (upd (a_5 4) (f_5 11).toNatClampNeg z5)), rfl, (show TokOk (f_5 7) (f_5 8) (f_5 10) z7 (f_5 12) (f_5 13) (f_5 17) ((va_up a_5 4 (upd (a_5 4) (f_5 11).toNatClampNeg z5)) 4) from ⟨⟨o1, o2⟩, ⟨o3, o4⟩, ⟨o5, o6⟩, ⟨(oz_a2ef7ae5fe tz7 o7), (oz_b0fcc062c9 tz7 nc2)⟩, ⟨o9, o10⟩, ⟨o11, o12⟩, o13, (by rw [va_up_s]; exact hn4)⟩), (show (f_5 7).toInt = (f 7).toInt from k5_0), (show (f_5 10).toInt = (f 10).toInt from k5_1), (show (f_5 15).toInt = (f 15).toInt from k5_2), (show (f_5 8).toInt = (f 8).toInt from k5_3), (show Q5 ((va_up a_5 4 (upd (a_5 4) (f_5 11).toNatClampNeg z5)) 5) from (by rw [va_up_n (by decide)]; exact hq5))⟩) d_Tok_intern_94 | exact px_iret (v := z8) S hr rfl hlk hAe hw (Nat.le_of_ble_eq_true rfl) (Nat.le_of_ble_eq_true rfl) (⟨(upd f_5 11 z7), (va_up a_5 4 (upd (a_5 4) (f_5 11).toNatClampNeg z5)), rfl, (show TokOk (f_5 7) (f_5 8) (f_5 10) z7 (f_5 12) (f_5 13) (f_5 17) ((va_up a_5 4 (upd (a_5 4) (f_5 11).toNatClampNeg z5)) 4) from ⟨⟨by first | exact o1 | omega, by first | exact o2 | omega⟩, ⟨by first | exact o3 | omega, by first | exact o4 | omega⟩, ⟨by first | exact o5 | omega, by first | exact o6 | omega⟩, ⟨by first | exact oz_a2ef7ae5fe tz7 o7 | omega, by first | exact oz_b0fcc062c9 tz7 nc2 | omega⟩, ⟨by first | exact o9 | omega, by first | exact o10 | omega⟩, ⟨by first | exact o11 | omega, by first | exact o12 | omega⟩, by first | exact o13 | omega, (by rw [va_up_s]; exact hn4)⟩), (show (f_5 7).toInt = (f 7).toInt from by first | exact k5_0 | omega), (show (f_5 10).toInt = (f 10).toInt from by first | exact k5_1 | omega), (show (f_5 15).toInt = (f 15).toInt from by first | exact k5_2 | omega), (show (f_5 8).toInt = (f 8).toInt from by first | exact k5_3 | omega), (show Q5 ((va_up a_5 4 (upd (a_5 4) (f_5 11).toNatClampNeg z5)) 5) from (by rw [va_up_n (by decide)]; exact hq5))⟩) d_Tok_intern_94
      · have nc1 : ¬ (f_5 11).toInt ≤ x5_4.toInt := mt (i_le (x := (f_5 11)) (y := x5_4)).mpr c1
        refine lv_aload_n S.x S.b d_Tok_intern_14 rfl (lv_at hl 0 rfl) ?_
        refine px_get S k_Tok hT hw 0 0 4 (v := .ref (r 4)) rfl rfl rfl (by decide) m1_107 d_Tok_intern_15 ?_
        refine lv_iload S.x S.b d_Tok_intern_18 (lv_at hl 4 rfl) ?_
        refine px_iald S hT hw 0 5 (n := 2074) (f := (a_5 4)) rfl (ga_Tok_4 _ _ _ _ _ _ _) (x := x5_4) (vp_in_iff.mpr (by first | exact oz_8ba622097f k5_7 nc1 o8 | (constructor <;> omega))) d_Tok_intern_20 ?_
        refine lv_topi (fun z9 ez9 => ?_)
        have lz9 := Int32.le_toInt z9
        have uz9 := Int32.toInt_lt z9
        have rz9 := n4_at hn4 (x := x5_4) (by omega) ez9
        refine lv_iload_n S.x S.b d_Tok_intern_21 rfl (lv_at hl 3 rfl) ?_
        refine lv_isub S.x S.b d_Tok_intern_22 ?_
        refine lv_topi (fun z10 ez10 => ?_)
        have tz10 : z10.toInt = (z9.toInt - x5_3.toInt + 2147483648) % 4294967296 - 2147483648 := by rw [ez10]; exact i_sub z9 x5_3
        have lz10 := Int32.le_toInt z10
        have uz10 := Int32.toInt_lt z10
        try replace tz10 : z10.toInt = z9.toInt - x5_3.toInt := by omega
        refine lv_iload_n S.x S.b d_Tok_intern_23 rfl (lv_at hl 2 rfl) ?_
        refine lv_icmp_ne (tgt := 40) S.x S.b d_Tok_intern_24 (by decide) (fun c11 => ?_) (fun c11 => ?_)
        · have nc11 : ¬ z10.toInt = p1.toInt := mt (i_eq (x := z10) (y := p1)).mpr c11
          refine lv_aload_n S.x S.b d_Tok_intern_40 rfl (lv_at hl 0 rfl) ?_
          refine px_get S k_Tok hT hw 0 0 4 (v := .ref (r 4)) rfl rfl rfl (by decide) m1_107 d_Tok_intern_41 ?_
          refine lv_iload S.x S.b d_Tok_intern_44 (lv_at hl 4 rfl) ?_
          refine px_iald S hT hw 0 5 (n := 2074) (f := (a_5 4)) rfl (ga_Tok_4 _ _ _ _ _ _ _) (x := x5_4) (vp_in_iff.mpr (by first | exact oz_8ba622097f k5_7 nc1 o8 | (constructor <;> omega))) d_Tok_intern_46 ?_
          refine lv_topi (fun z12 ez12 => ?_)
          have lz12 := Int32.le_toInt z12
          have uz12 := Int32.toInt_lt z12
          have rz12 := n4_at hn4 (x := x5_4) (by omega) ez12
          refine lv_istore_n (lv' := [(3, .int z12), (0, .ref h), (1, .int p0), (2, .int p1), (4, .int x5_4)]) S.x S.b d_Tok_intern_47 rfl hl (by decide) rfl (fun ls hl => ?_)
          obtain ⟨z13, ez13⟩ : ∃ y : Int32, y = x5_4 + 1 := ⟨_, rfl⟩
          have tz13 : z13.toInt = (x5_4.toInt + 1 + 2147483648) % 4294967296 - 2147483648 := by rw [ez13]; exact i_add x5_4 1
          have lz13 := Int32.le_toInt z13
          have uz13 := Int32.toInt_lt z13
          try replace tz13 : z13.toInt = x5_4.toInt + 1 := by omega
          refine lv_iinc (v := z13) (lv' := [(4, .int z13), (3, .int z12), (0, .ref h), (1, .int p0), (2, .int p1)]) S.x S.b d_Tok_intern_48 hl (k := 4) rfl (by rw [ez13]; rfl) (by decide) rfl (fun ls hl => ?_)
          refine lv_goto (tgt := 5) S.x S.b d_Tok_intern_51 (by decide) ?_
          first | exact ih5 f_5 a_5 z12 z13 _ _ ls (show TokOk (f_5 7) (f_5 8) (f_5 10) (f_5 11) (f_5 12) (f_5 13) (f_5 17) (a_5 4) from ⟨⟨o1, o2⟩, ⟨o3, o4⟩, ⟨o5, o6⟩, ⟨o7, o8⟩, ⟨o9, o10⟩, ⟨o11, o12⟩, o13, hn4⟩) (show (f_5 7).toInt = (f 7).toInt from k5_0) (show (f_5 10).toInt = (f 10).toInt from k5_1) (show (f_5 15).toInt = (f 15).toInt from k5_2) (show (f_5 8).toInt = (f 8).toInt from k5_3) (show (f_5 11).toInt = (f 11).toInt from k5_4) (show 0 ≤ z12.toInt from rz12.1) (show z12.toInt ≤ 100000 from (oz_b4306d7374 rz12.2 nc1 o8)) (show 0 ≤ z13.toInt from (oz_ae613611c0 tz13 k5_7)) (show z13.toInt ≤ (f_5 11).toInt from (oz_b1314744c8 nc1 tz13)) (show Q5 (a_5 5) from hq5) (show (f_5 11).toInt+1-z13.toInt < (n_5 : Int) from (oz_a86078dd04 hm tz13)) hw (lv_sub hl [2, 3, 4, 1, 0] rfl) | exact ih5 f_5 a_5 z12 z13 _ _ ls (show TokOk (f_5 7) (f_5 8) (f_5 10) (f_5 11) (f_5 12) (f_5 13) (f_5 17) (a_5 4) from ⟨⟨by first | exact o1 | omega, by first | exact o2 | omega⟩, ⟨by first | exact o3 | omega, by first | exact o4 | omega⟩, ⟨by first | exact o5 | omega, by first | exact o6 | omega⟩, ⟨by first | exact o7 | omega, by first | exact o8 | omega⟩, ⟨by first | exact o9 | omega, by first | exact o10 | omega⟩, ⟨by first | exact o11 | omega, by first | exact o12 | omega⟩, by first | exact o13 | omega, hn4⟩) (show (f_5 7).toInt = (f 7).toInt from by first | exact k5_0 | omega) (show (f_5 10).toInt = (f 10).toInt from by first | exact k5_1 | omega) (show (f_5 15).toInt = (f 15).toInt from by first | exact k5_2 | omega) (show (f_5 8).toInt = (f 8).toInt from by first | exact k5_3 | omega) (show (f_5 11).toInt = (f 11).toInt from by first | exact k5_4 | omega) (show 0 ≤ z12.toInt from by first | exact rz12.1 | omega) (show z12.toInt ≤ 100000 from by first | exact oz_b4306d7374 rz12.2 nc1 o8 | omega) (show 0 ≤ z13.toInt from by first | exact oz_ae613611c0 tz13 k5_7 | omega) (show z13.toInt ≤ (f_5 11).toInt from by first | exact oz_b1314744c8 nc1 tz13 | omega) (show Q5 (a_5 5) from hq5) (show (f_5 11).toInt+1-z13.toInt < (n_5 : Int) from by first | exact oz_a86078dd04 hm tz13 | omega) hw (lv_sub hl [2, 3, 4, 1, 0] rfl)
        · have nc11 : z10.toInt = p1.toInt := (i_eq (x := z10) (y := p1)).mp c11
          refine lv_aload_n S.x S.b d_Tok_intern_27 rfl (lv_at hl 0 rfl) ?_
          refine lv_iload_n S.x S.b d_Tok_intern_28 rfl (lv_at hl 3 rfl) ?_
          refine lv_iload_n S.x S.b d_Tok_intern_29 rfl (lv_at hl 1 rfl) ?_
          refine lv_iload_n S.x S.b d_Tok_intern_30 rfl (lv_at hl 2 rfl) ?_
          first | refine px_calli (pr := []) (px_runV (As := [.int x5_3, .int p0, .int p1]) (rest := []) S (c_Tok_sameLetters l D cs h r tp tb f_5 a_5 g x5_3 p0 p1 (show TokOk (f_5 7) (f_5 8) (f_5 10) (f_5 11) (f_5 12) (f_5 13) (f_5 17) (a_5 4) from ⟨⟨o1, o2⟩, ⟨o3, o4⟩, ⟨o5, o6⟩, ⟨o7, o8⟩, ⟨o9, o10⟩, ⟨o11, o12⟩, o13, hn4⟩) (show 0 ≤ x5_3.toInt from k5_5) (show x5_3.toInt ≤ 1000000 from (oz_4cae13f11a k5_6)) (show 0 ≤ p0.toInt from g0) (show p0.toInt ≤ 1000000 from (oz_1d49980e24 g1 k5_4 o8)) (show 0 ≤ p1.toInt from g2) (show p1.toInt ≤ 1000000 from (oz_e30befe568 g3)) _) hT (pr := []) (pcs := [wd_Tok cs h r (fun _ => some tp) f_5 a_5 g, [(tp, .inl (cs 1, 2048, .inl tb))]]) hw px_X.tt (px_recv hT hw 0 0 rfl rfl rfl) m3_216 m3_213 m3_215 ms_1_12 m1_2 q_Tok_sameLetters ⟨Nat.le_of_ble_eq_true rfl, Nat.le_of_ble_eq_true rfl⟩ hl.1 rfl (Nat.le_of_ble_eq_true rfl) d_Tok_intern_31 ⟨Nat.le_of_ble_eq_true rfl, Nat.le_of_ble_eq_true rfl⟩) hw hA (fun v17 p16 H locs hp16 hw => ?_) | refine px_calli (pr := []) (px_runV (As := [.int x5_3, .int p0, .int p1]) (rest := []) S (c_Tok_sameLetters l D cs h r tp tb f_5 a_5 g x5_3 p0 p1 (show TokOk (f_5 7) (f_5 8) (f_5 10) (f_5 11) (f_5 12) (f_5 13) (f_5 17) (a_5 4) from ⟨⟨by first | exact o1 | omega, by first | exact o2 | omega⟩, ⟨by first | exact o3 | omega, by first | exact o4 | omega⟩, ⟨by first | exact o5 | omega, by first | exact o6 | omega⟩, ⟨by first | exact o7 | omega, by first | exact o8 | omega⟩, ⟨by first | exact o9 | omega, by first | exact o10 | omega⟩, ⟨by first | exact o11 | omega, by first | exact o12 | omega⟩, by first | exact o13 | omega, hn4⟩) (show 0 ≤ x5_3.toInt from by first | exact k5_5 | omega) (show x5_3.toInt ≤ 1000000 from by first | exact oz_4cae13f11a k5_6 | omega) (show 0 ≤ p0.toInt from by first | exact g0 | omega) (show p0.toInt ≤ 1000000 from by first | exact oz_1d49980e24 g1 k5_4 o8 | omega) (show 0 ≤ p1.toInt from by first | exact g2 | omega) (show p1.toInt ≤ 1000000 from by first | exact oz_e30befe568 g3 | omega) _) hT (pr := []) (pcs := [wd_Tok cs h r (fun _ => some tp) f_5 a_5 g, [(tp, .inl (cs 1, 2048, .inl tb))]]) hw px_X.tt (px_recv hT hw 0 0 rfl rfl rfl) m3_216 m3_213 m3_215 ms_1_12 m1_2 q_Tok_sameLetters ⟨Nat.le_of_ble_eq_true rfl, Nat.le_of_ble_eq_true rfl⟩ hl.1 rfl (Nat.le_of_ble_eq_true rfl) d_Tok_intern_31 ⟨Nat.le_of_ble_eq_true rfl, Nat.le_of_ble_eq_true rfl⟩) hw hA (fun v17 p16 H locs hp16 hw => ?_)
          obtain ⟨rfl, e18⟩ := hp16
          have e18 := z_int e18
          have lv17 := Int32.le_toInt v17
          have uv17 := Int32.toInt_lt v17
          refine lv_if_eq (tgt := 40) S.x S.b d_Tok_intern_34 (by decide) (fun c19 => ?_) (fun c19 => ?_)
          · have nc19 : v17.toInt = (0 : Int) := (i_eq (x := v17) (y := 0)).mp c19
            refine lv_aload_n S.x S.b d_Tok_intern_40 rfl (lv_at hl 0 rfl) ?_
            refine px_get S k_Tok hT hw 0 0 4 (v := .ref (r 4)) rfl rfl rfl (by decide) m1_107 d_Tok_intern_41 ?_
            refine lv_iload S.x S.b d_Tok_intern_44 (lv_at hl 4 rfl) ?_
            refine px_iald S hT hw 0 5 (n := 2074) (f := (a_5 4)) rfl (ga_Tok_4 _ _ _ _ _ _ _) (x := x5_4) (vp_in_iff.mpr (by first | exact oz_8ba622097f k5_7 nc1 o8 | (constructor <;> omega))) d_Tok_intern_46 ?_
            refine lv_topi (fun z20 ez20 => ?_)
            have lz20 := Int32.le_toInt z20
            have uz20 := Int32.toInt_lt z20
            have rz20 := n4_at hn4 (x := x5_4) (by omega) ez20
            refine lv_istore_n (lv' := [(3, .int z20), (0, .ref h), (1, .int p0), (2, .int p1), (4, .int x5_4)]) S.x S.b d_Tok_intern_47 rfl hl (by decide) rfl (fun ls hl => ?_)
            obtain ⟨z21, ez21⟩ : ∃ y : Int32, y = x5_4 + 1 := ⟨_, rfl⟩
            have tz21 : z21.toInt = (x5_4.toInt + 1 + 2147483648) % 4294967296 - 2147483648 := by rw [ez21]; exact i_add x5_4 1
            have lz21 := Int32.le_toInt z21
            have uz21 := Int32.toInt_lt z21
            try replace tz21 : z21.toInt = x5_4.toInt + 1 := by omega
            refine lv_iinc (v := z21) (lv' := [(4, .int z21), (3, .int z20), (0, .ref h), (1, .int p0), (2, .int p1)]) S.x S.b d_Tok_intern_48 hl (k := 4) rfl (by rw [ez21]; rfl) (by decide) rfl (fun ls hl => ?_)
            refine lv_goto (tgt := 5) S.x S.b d_Tok_intern_51 (by decide) ?_
            first | exact ih5 f_5 a_5 z20 z21 _ _ ls (show TokOk (f_5 7) (f_5 8) (f_5 10) (f_5 11) (f_5 12) (f_5 13) (f_5 17) (a_5 4) from ⟨⟨o1, o2⟩, ⟨o3, o4⟩, ⟨o5, o6⟩, ⟨o7, o8⟩, ⟨o9, o10⟩, ⟨o11, o12⟩, o13, hn4⟩) (show (f_5 7).toInt = (f 7).toInt from k5_0) (show (f_5 10).toInt = (f 10).toInt from k5_1) (show (f_5 15).toInt = (f 15).toInt from k5_2) (show (f_5 8).toInt = (f 8).toInt from k5_3) (show (f_5 11).toInt = (f 11).toInt from k5_4) (show 0 ≤ z20.toInt from rz20.1) (show z20.toInt ≤ 100000 from (oz_b4306d7374 rz20.2 nc1 o8)) (show 0 ≤ z21.toInt from (oz_ae613611c0 tz21 k5_7)) (show z21.toInt ≤ (f_5 11).toInt from (oz_b1314744c8 nc1 tz21)) (show Q5 (a_5 5) from hq5) (show (f_5 11).toInt+1-z21.toInt < (n_5 : Int) from (oz_a86078dd04 hm tz21)) hw (lv_sub hl [2, 3, 4, 1, 0] rfl) | exact ih5 f_5 a_5 z20 z21 _ _ ls (show TokOk (f_5 7) (f_5 8) (f_5 10) (f_5 11) (f_5 12) (f_5 13) (f_5 17) (a_5 4) from ⟨⟨by first | exact o1 | omega, by first | exact o2 | omega⟩, ⟨by first | exact o3 | omega, by first | exact o4 | omega⟩, ⟨by first | exact o5 | omega, by first | exact o6 | omega⟩, ⟨by first | exact o7 | omega, by first | exact o8 | omega⟩, ⟨by first | exact o9 | omega, by first | exact o10 | omega⟩, ⟨by first | exact o11 | omega, by first | exact o12 | omega⟩, by first | exact o13 | omega, hn4⟩) (show (f_5 7).toInt = (f 7).toInt from by first | exact k5_0 | omega) (show (f_5 10).toInt = (f 10).toInt from by first | exact k5_1 | omega) (show (f_5 15).toInt = (f 15).toInt from by first | exact k5_2 | omega) (show (f_5 8).toInt = (f 8).toInt from by first | exact k5_3 | omega) (show (f_5 11).toInt = (f 11).toInt from by first | exact k5_4 | omega) (show 0 ≤ z20.toInt from by first | exact rz20.1 | omega) (show z20.toInt ≤ 100000 from by first | exact oz_b4306d7374 rz20.2 nc1 o8 | omega) (show 0 ≤ z21.toInt from by first | exact oz_ae613611c0 tz21 k5_7 | omega) (show z21.toInt ≤ (f_5 11).toInt from by first | exact oz_b1314744c8 nc1 tz21 | omega) (show Q5 (a_5 5) from hq5) (show (f_5 11).toInt+1-z21.toInt < (n_5 : Int) from by first | exact oz_a86078dd04 hm tz21 | omega) hw (lv_sub hl [2, 3, 4, 1, 0] rfl)
          · have nc19 : ¬ v17.toInt = (0 : Int) := mt (i_eq (x := v17) (y := 0)).mpr c19
            refine lv_iload S.x S.b d_Tok_intern_37 (lv_at hl 4 rfl) ?_
            first | exact px_iret (v := x5_4) S hr rfl hlk hAe hw (Nat.le_of_ble_eq_true rfl) (Nat.le_of_ble_eq_true rfl) (⟨f_5, a_5, rfl, (show TokOk (f_5 7) (f_5 8) (f_5 10) (f_5 11) (f_5 12) (f_5 13) (f_5 17) (a_5 4) from ⟨⟨o1, o2⟩, ⟨o3, o4⟩, ⟨o5, o6⟩, ⟨o7, o8⟩, ⟨o9, o10⟩, ⟨o11, o12⟩, o13, hn4⟩), (show (f_5 7).toInt = (f 7).toInt from k5_0), (show (f_5 10).toInt = (f 10).toInt from k5_1), (show (f_5 15).toInt = (f 15).toInt from k5_2), (show (f_5 8).toInt = (f 8).toInt from k5_3), (show Q5 (a_5 5) from hq5)⟩) d_Tok_intern_39 | exact px_iret (v := x5_4) S hr rfl hlk hAe hw (Nat.le_of_ble_eq_true rfl) (Nat.le_of_ble_eq_true rfl) (⟨f_5, a_5, rfl, (show TokOk (f_5 7) (f_5 8) (f_5 10) (f_5 11) (f_5 12) (f_5 13) (f_5 17) (a_5 4) from ⟨⟨by first | exact o1 | omega, by first | exact o2 | omega⟩, ⟨by first | exact o3 | omega, by first | exact o4 | omega⟩, ⟨by first | exact o5 | omega, by first | exact o6 | omega⟩, ⟨by first | exact o7 | omega, by first | exact o8 | omega⟩, ⟨by first | exact o9 | omega, by first | exact o10 | omega⟩, ⟨by first | exact o11 | omega, by first | exact o12 | omega⟩, by first | exact o13 | omega, hn4⟩), (show (f_5 7).toInt = (f 7).toInt from by first | exact k5_0 | omega), (show (f_5 10).toInt = (f 10).toInt from by first | exact k5_1 | omega), (show (f_5 15).toInt = (f 15).toInt from by first | exact k5_2 | omega), (show (f_5 8).toInt = (f 8).toInt from by first | exact k5_3 | omega), (show Q5 (a_5 5) from hq5)⟩) d_Tok_intern_39
  refine lv_iconst (v := 0) S.x S.b d_Tok_intern_0 (by decide) ?_
  refine lv_istore_n (lv' := [(3, .int 0), (0, .ref h), (1, .int p0), (2, .int p1)]) S.x S.b d_Tok_intern_1 rfl hl (by decide) rfl (fun ls hl => ?_)
  refine lv_iconst (v := 0) S.x S.b d_Tok_intern_2 (by decide) ?_
  refine lv_istore (lv' := [(4, .int 0), (3, .int 0), (0, .ref h), (1, .int p0), (2, .int p1)]) S.x S.b d_Tok_intern_3 hl (by decide) rfl (fun ls hl => ?_)
  first | exact J5 (((f 11).toInt+1-(0 : Int)).toNat + 1) f a (0 : Int32) (0 : Int32) _ _ ls (show TokOk (f 7) (f 8) (f 10) (f 11) (f 12) (f 13) (f 17) (a 4) from ⟨⟨o1, o2⟩, ⟨o3, o4⟩, ⟨o5, o6⟩, ⟨o7, o8⟩, ⟨o9, o10⟩, ⟨o11, o12⟩, o13, hn4⟩) (show (f 7).toInt = (f 7).toInt from rfl) (show (f 10).toInt = (f 10).toInt from rfl) (show (f 15).toInt = (f 15).toInt from rfl) (show (f 8).toInt = (f 8).toInt from rfl) (show (f 11).toInt = (f 11).toInt from rfl) (show 0 ≤ (0 : Int) from by first | decide | omega) (show (0 : Int) ≤ 100000 from by first | decide | omega) (show 0 ≤ (0 : Int) from by first | decide | omega) (show (0 : Int) ≤ (f 11).toInt from (oz_5e5e39b270 o7)) (show Q5 (a 5) from hq5) (show (f 11).toInt+1-(0 : Int) < (((((f 11).toInt+1-(0 : Int)).toNat + 1 : Nat) : Int) : Int) from oz_natlt) hw (lv_sub hl [2, 3, 4, 1, 0] rfl) | exact J5 (((f 11).toInt+1-(0 : Int)).toNat + 1) f a (0 : Int32) (0 : Int32) _ _ ls (show TokOk (f 7) (f 8) (f 10) (f 11) (f 12) (f 13) (f 17) (a 4) from ⟨⟨by first | exact o1 | omega, by first | exact o2 | omega⟩, ⟨by first | exact o3 | omega, by first | exact o4 | omega⟩, ⟨by first | exact o5 | omega, by first | exact o6 | omega⟩, ⟨by first | exact o7 | omega, by first | exact o8 | omega⟩, ⟨by first | exact o9 | omega, by first | exact o10 | omega⟩, ⟨by first | exact o11 | omega, by first | exact o12 | omega⟩, by first | exact o13 | omega, hn4⟩) (show (f 7).toInt = (f 7).toInt from rfl) (show (f 10).toInt = (f 10).toInt from rfl) (show (f 15).toInt = (f 15).toInt from rfl) (show (f 8).toInt = (f 8).toInt from rfl) (show (f 11).toInt = (f 11).toInt from rfl) (show 0 ≤ (0 : Int) from by first | decide | omega) (show (0 : Int) ≤ 100000 from by first | decide | omega) (show 0 ≤ (0 : Int) from by first | decide | omega) (show (0 : Int) ≤ (f 11).toInt from by first | exact oz_5e5e39b270 o7 | omega) (show Q5 (a 5) from hq5) (show (f 11).toInt+1-(0 : Int) < (((((f 11).toInt+1-(0 : Int)).toNat + 1 : Nat) : Int) : Int) from by first | exact oz_natlt | omega) hw (lv_sub hl [2, 3, 4, 1, 0] rfl)
set_option maxHeartbeats 4000000 in
set_option maxRecDepth 100000 in
theorem c_t2_name (l : Launch) (D : va_G) (cs : Nat → ClassId) (h : Nat) (r : Nat → Nat) (tp : Nat) (tb : Nat → Int32) (g : Nat → Nat → Option Nat) (f : Nat → Int32) (a : Nat → Nat → Int32)  (hinv0 : TokOk (f 7) (f 8) (f 10) (f 11) (f 12) (f 13) (f 17) (a 4)) (g0 : (f 8).toInt < (f 7).toInt) (hL : ltr (tb (f 8).toNatClampNeg &&& 255) = 1) (hq5 : Q5 (a 5)) : MetI l y_Tok_name b_Tok_name 4 (.int) D cs 2 60 (0) (0) [.ref h] [wd_Tok cs h r (fun _ => some tp) f a g, [(tp, .inl (cs 1, 2048, .inl tb))]] (fun _ => True) (fun v ps => ∃ (f' : Nat → Int32) (a' : Nat → Nat → Int32), (ps = [wd_Tok cs h r (fun _ => some tp) f' a' g, [(tp, .inl (cs 1, 2048, .inl tb))]]) ∧ (TokOk (f' 7) (f' 8) (f' 10) (f' 11) (f' 12) (f' 13) (f' 17) (a' 4)) ∧ ((f' 7).toInt = (f 7).toInt) ∧ ((f' 10).toInt = (f 10).toInt) ∧ ((f' 15).toInt = (f 15).toInt) ∧ ((f 8).toInt + 1 ≤ (f' 8).toInt) ∧ (Q5 (a' 5))) := by
  refine px_enter (by decide) (Nat.le_of_ble_eq_true rfl) ?_
  intro p e s m below meth c A ls hAe S hr hlk hnm hA hT hX hw hl
  have hl : lv_has ls 4 [(0, .ref h)] := hl
  have cst0 : (0 : Int32).toInt = 0 := rfl
  have cst1 : (1 : Int32).toInt = 1 := rfl
  have cst15 : (15 : Int32).toInt = 15 := rfl
  have cst16 : (16 : Int32).toInt = 16 := rfl
  have cst19 : (19 : Int32).toInt = 19 := rfl
  have cst24 : (24 : Int32).toInt = 24 := rfl
  obtain ⟨⟨o1, o2⟩, ⟨o3, o4⟩, ⟨o5, o6⟩, ⟨o7, o8⟩, ⟨o9, o10⟩, ⟨o11, o12⟩, o13, hn4⟩ := hinv0
  have J94 : ∀ (f_94 : Nat → Int32) (a_94 : Nat → Nat → Int32) (x94_1 x94_2 : Int32) (H : Heap) (locs : List Loc) (ls : Array Slot), (TokOk (f_94 7) (f_94 8) (f_94 10) (f_94 11) (f_94 12) (f_94 13) (f_94 17) (a_94 4)) → ((f_94 7).toInt = (f 7).toInt) → ((f_94 10).toInt = (f 10).toInt) → ((f_94 15).toInt = (f 15).toInt) → ((f 8).toInt + 1 ≤ (f_94 8).toInt) → ((f_94 8).toInt ≤ (f_94 7).toInt) → (0 ≤ x94_1.toInt) → (x94_1.toInt ≤ 1000 + 24 * ((f_94 11).toInt - 1)) → (0 ≤ x94_2.toInt) → (x94_2.toInt ≤ (f_94 8).toInt) → (Q5 (a_94 5)) → pw D A s.heap H locs [wd_Tok cs h r (fun _ => some tp) f_94 a_94 g, [(tp, .inl (cs 1, 2048, .inl tb))]] → lv_has ls 4 [(0, .ref h), (1, .int x94_1), (2, .int x94_2)] → W p l e { frames := 2, cells := 0, slots := 0, locals := 60 } s m [.ref h].toArray below meth c H locs 0 0 (MQ below (va_Qi (fun v ps => ∃ (f' : Nat → Int32) (a' : Nat → Nat → Int32), (ps = [wd_Tok cs h r (fun _ => some tp) f' a' g, [(tp, .inl (cs 1, 2048, .inl tb))]]) ∧ (TokOk (f' 7) (f' 8) (f' 10) (f' 11) (f' 12) (f' 13) (f' 17) (a' 4)) ∧ ((f' 7).toInt = (f 7).toInt) ∧ ((f' 10).toInt = (f 10).toInt) ∧ ((f' 15).toInt = (f 15).toInt) ∧ ((f 8).toInt + 1 ≤ (f' 8).toInt) ∧ (Q5 (a' 5))) (pc_B D (va_A ([wd_Tok cs h r (fun _ => some tp) f a g, [(tp, .inl (cs 1, 2048, .inl tb))]] : List va_W).flatten s.heap.size)) (va_A ([wd_Tok cs h r (fun _ => some tp) f a g, [(tp, .inl (cs 1, 2048, .inl tb))]] : List va_W).flatten s.heap.size)) [.ref h].toArray s 0 0 A) (F0 m 94 ls []) := by
    intro f_94 a_94 x94_1 x94_2 H locs ls hi94_0 k94_0 k94_1 k94_2 k94_3 k94_4 k94_5 k94_6 k94_7 k94_8 k94_9 hw hl
    obtain ⟨⟨o1, o2⟩, ⟨o3, o4⟩, ⟨o5, o6⟩, ⟨o7, o8⟩, ⟨o9, o10⟩, ⟨o11, o12⟩, o13, hn4⟩ := hi94_0
    have lx94_1 := Int32.le_toInt x94_1
    have ux94_1 := Int32.toInt_lt x94_1
    have lx94_2 := Int32.le_toInt x94_2
    have ux94_2 := Int32.toInt_lt x94_2
    have hq5 := k94_9
    refine lv_iload_n S.x S.b d_Tok_name_94 rfl (lv_at hl 2 rfl) ?_
    refine lv_bipush (v := 24) S.x S.b d_Tok_name_95 (by decide) ?_
    refine lv_icmp_le (tgt := 103) S.x S.b d_Tok_name_97 (by decide) (fun c1 => ?_) (fun c1 => ?_)
    · have nc1 : x94_2.toInt ≤ (24 : Int) := (i_le (x := x94_2) (y := 24)).mp c1
      refine lv_aload_n S.x S.b d_Tok_name_103 rfl (lv_at hl 0 rfl) ?_
      refine lv_aload_n S.x S.b d_Tok_name_104 rfl (lv_at hl 0 rfl) ?_
      refine lv_iload_n S.x S.b d_Tok_name_105 rfl (lv_at hl 1 rfl) ?_
      refine lv_iload_n S.x S.b d_Tok_name_106 rfl (lv_at hl 2 rfl) ?_
      first | refine px_calli (pr := []) (px_runV (As := [.int x94_1, .int x94_2]) (rest := [.ref h]) S (c_t2_intern l D cs h r tp tb g f_94 a_94 x94_1 x94_2  (show TokOk (f_94 7) (f_94 8) (f_94 10) (f_94 11) (f_94 12) (f_94 13) (f_94 17) (a_94 4) from ⟨⟨o1, o2⟩, ⟨o3, o4⟩, ⟨o5, o6⟩, ⟨o7, o8⟩, ⟨o9, o10⟩, ⟨o11, o12⟩, o13, hn4⟩) (show 0 ≤ x94_1.toInt from k94_5) (show x94_1.toInt ≤ 1000 + 24 * ((f_94 11).toInt - 1) from k94_6) (show 0 ≤ x94_2.toInt from k94_7) (show x94_2.toInt ≤ 24 from (oz_86da80c8d4 nc1)) hq5 _) hT (pr := []) (pcs := [wd_Tok cs h r (fun _ => some tp) f_94 a_94 g, [(tp, .inl (cs 1, 2048, .inl tb))]]) hw px_X.tt (px_recv hT hw 0 0 rfl rfl rfl) m3_212 m3_209 m3_211 ms_1_11 m1_2 q_Tok_intern ⟨Nat.le_of_ble_eq_true rfl, Nat.le_of_ble_eq_true rfl⟩ hl.1 rfl (Nat.le_of_ble_eq_true rfl) d_Tok_name_107 ⟨Nat.le_of_ble_eq_true rfl, Nat.le_of_ble_eq_true rfl⟩) hw hA (fun v7 p6 H locs hp6 hw => ?_) | refine px_calli (pr := []) (px_runV (As := [.int x94_1, .int x94_2]) (rest := [.ref h]) S (c_t2_intern l D cs h r tp tb g f_94 a_94 x94_1 x94_2  (show TokOk (f_94 7) (f_94 8) (f_94 10) (f_94 11) (f_94 12) (f_94 13) (f_94 17) (a_94 4) from ⟨⟨by first | exact o1 | omega, by first | exact o2 | omega⟩, ⟨by first | exact o3 | omega, by first | exact o4 | omega⟩, ⟨by first | exact o5 | omega, by first | exact o6 | omega⟩, ⟨by first | exact o7 | omega, by first | exact o8 | omega⟩, ⟨by first | exact o9 | omega, by first | exact o10 | omega⟩, ⟨by first | exact o11 | omega, by first | exact o12 | omega⟩, by first | exact o13 | omega, hn4⟩) (show 0 ≤ x94_1.toInt from by first | exact k94_5 | omega) (show x94_1.toInt ≤ 1000 + 24 * ((f_94 11).toInt - 1) from by first | exact k94_6 | omega) (show 0 ≤ x94_2.toInt from by first | exact k94_7 | omega) (show x94_2.toInt ≤ 24 from by first | exact oz_86da80c8d4 nc1 | omega) hq5 _) hT (pr := []) (pcs := [wd_Tok cs h r (fun _ => some tp) f_94 a_94 g, [(tp, .inl (cs 1, 2048, .inl tb))]]) hw px_X.tt (px_recv hT hw 0 0 rfl rfl rfl) m3_212 m3_209 m3_211 ms_1_11 m1_2 q_Tok_intern ⟨Nat.le_of_ble_eq_true rfl, Nat.le_of_ble_eq_true rfl⟩ hl.1 rfl (Nat.le_of_ble_eq_true rfl) d_Tok_name_107 ⟨Nat.le_of_ble_eq_true rfl, Nat.le_of_ble_eq_true rfl⟩) hw hA (fun v7 p6 H locs hp6 hw => ?_)
      obtain ⟨f4, a5, rfl, h13, e8, e9, e10, e11, e12⟩ := hp6
      obtain ⟨⟨o1, o2⟩, ⟨o3, o4⟩, ⟨o5, o6⟩, ⟨o7, o8⟩, ⟨o9, o10⟩, ⟨o11, o12⟩, o13, hn4⟩ := h13
      have e8 : (f4 7).toInt = (f_94 7).toInt := e8
      have e9 : (f4 10).toInt = (f_94 10).toInt := e9
      have e10 : (f4 15).toInt = (f_94 15).toInt := e10
      have e11 : (f4 8).toInt = (f_94 8).toInt := e11
      have e12 : Q5 (a5 5) := e12
      have hq5 := e12
      have lv7 := Int32.le_toInt v7
      have uv7 := Int32.toInt_lt v7
      refine px_put S k_Tok hT hw 0 0 9 rfl rfl (by decide) m1_112 rfl rfl rfl (Nat.le_of_ble_eq_true rfl) d_Tok_name_110 (w' := wd_Tok cs h r (fun _ => some tp) (upd f4 9 v7) a5 g) (ps' := [wd_Tok cs h r (fun _ => some tp) (upd f4 9 v7) a5 g, [(tp, .inl (cs 1, 2048, .inl tb))]]) rfl rfl (fun H locs hw => ?_)
      refine lv_aload_n S.x S.b d_Tok_name_113 rfl (lv_at hl 0 rfl) ?_
      refine px_get S k_Tok hT hw 0 0 9 (v := .int v7) rfl rfl rfl (by decide) m1_112 d_Tok_name_114 ?_
      refine lv_bipush (v := 15) S.x S.b d_Tok_name_117 (by decide) ?_
      refine lv_icmp_ge (tgt := 131) S.x S.b d_Tok_name_119 (by decide) (fun c14 => ?_) (fun c14 => ?_)
      · have nc14 : (15 : Int) ≤ v7.toInt := (i_le (x := 15) (y := v7)).mp c14
        refine lv_bipush (v := 16) S.x S.b d_Tok_name_131 (by decide) ?_
        first | exact px_iret (v := 16) S hr rfl hlk hAe hw (Nat.le_of_ble_eq_true rfl) (Nat.le_of_ble_eq_true rfl) (⟨(upd f4 9 v7), a5, rfl, (show TokOk (f4 7) (f4 8) (f4 10) (f4 11) (f4 12) (f4 13) (f4 17) (a5 4) from ⟨⟨o1, o2⟩, ⟨o3, o4⟩, ⟨o5, o6⟩, ⟨o7, o8⟩, ⟨o9, o10⟩, ⟨o11, o12⟩, o13, hn4⟩), (show (f4 7).toInt = (f 7).toInt from (oz_1687f4cc65 k94_0 e8)), (show (f4 10).toInt = (f 10).toInt from (oz_1687f4cc65 k94_1 e9)), (show (f4 15).toInt = (f 15).toInt from (oz_1687f4cc65 k94_2 e10)), (show (f 8).toInt + 1 ≤ (f4 8).toInt from (oz_213e98d3f1 k94_3 e11)), (show Q5 (a5 5) from hq5)⟩) d_Tok_name_133 | exact px_iret (v := 16) S hr rfl hlk hAe hw (Nat.le_of_ble_eq_true rfl) (Nat.le_of_ble_eq_true rfl) (⟨(upd f4 9 v7), a5, rfl, (show TokOk (f4 7) (f4 8) (f4 10) (f4 11) (f4 12) (f4 13) (f4 17) (a5 4) from ⟨⟨by first | exact o1 | omega, by first | exact o2 | omega⟩, ⟨by first | exact o3 | omega, by first | exact o4 | omega⟩, ⟨by first | exact o5 | omega, by first | exact o6 | omega⟩, ⟨by first | exact o7 | omega, by first | exact o8 | omega⟩, ⟨by first | exact o9 | omega, by first | exact o10 | omega⟩, ⟨by first | exact o11 | omega, by first | exact o12 | omega⟩, by first | exact o13 | omega, hn4⟩), (show (f4 7).toInt = (f 7).toInt from by first | exact oz_1687f4cc65 k94_0 e8 | omega), (show (f4 10).toInt = (f 10).toInt from by first | exact oz_1687f4cc65 k94_1 e9 | omega), (show (f4 15).toInt = (f 15).toInt from by first | exact oz_1687f4cc65 k94_2 e10 | omega), (show (f 8).toInt + 1 ≤ (f4 8).toInt from by first | exact oz_213e98d3f1 k94_3 e11 | omega), (show Q5 (a5 5) from hq5)⟩) d_Tok_name_133
      · have nc14 : ¬ (15 : Int) ≤ v7.toInt := mt (i_le (x := 15) (y := v7)).mpr c14
        refine lv_aload_n S.x S.b d_Tok_name_122 rfl (lv_at hl 0 rfl) ?_
        refine px_get S k_Tok hT hw 0 0 9 (v := .int v7) rfl rfl rfl (by decide) m1_112 d_Tok_name_123 ?_
        refine lv_iconst (v := 1) S.x S.b d_Tok_name_126 (by decide) ?_
        refine lv_iadd S.x S.b d_Tok_name_127 ?_
        refine lv_topi (fun z15 ez15 => ?_)
        have tz15 : z15.toInt = (v7.toInt + (1 : Int) + 2147483648) % 4294967296 - 2147483648 := by rw [ez15]; exact i_add v7 1
        have lz15 := Int32.le_toInt z15
        have uz15 := Int32.toInt_lt z15
        try replace tz15 : z15.toInt = v7.toInt + (1 : Int) := by omega
        refine lv_goto (tgt := 133) S.x S.b d_Tok_name_128 (by decide) ?_
        first | exact px_iret (v := z15) S hr rfl hlk hAe hw (Nat.le_of_ble_eq_true rfl) (Nat.le_of_ble_eq_true rfl) (⟨(upd f4 9 v7), a5, rfl, (show TokOk (f4 7) (f4 8) (f4 10) (f4 11) (f4 12) (f4 13) (f4 17) (a5 4) from ⟨⟨o1, o2⟩, ⟨o3, o4⟩, ⟨o5, o6⟩, ⟨o7, o8⟩, ⟨o9, o10⟩, ⟨o11, o12⟩, o13, hn4⟩), (show (f4 7).toInt = (f 7).toInt from (oz_1687f4cc65 k94_0 e8)), (show (f4 10).toInt = (f 10).toInt from (oz_1687f4cc65 k94_1 e9)), (show (f4 15).toInt = (f 15).toInt from (oz_1687f4cc65 k94_2 e10)), (show (f 8).toInt + 1 ≤ (f4 8).toInt from (oz_213e98d3f1 k94_3 e11)), (show Q5 (a5 5) from hq5)⟩) d_Tok_name_133 | exact px_iret (v := z15) S hr rfl hlk hAe hw (Nat.le_of_ble_eq_true rfl) (Nat.le_of_ble_eq_true rfl) (⟨(upd f4 9 v7), a5, rfl, (show TokOk (f4 7) (f4 8) (f4 10) (f4 11) (f4 12) (f4 13) (f4 17) (a5 4) from ⟨⟨by first | exact o1 | omega, by first | exact o2 | omega⟩, ⟨by first | exact o3 | omega, by first | exact o4 | omega⟩, ⟨by first | exact o5 | omega, by first | exact o6 | omega⟩, ⟨by first | exact o7 | omega, by first | exact o8 | omega⟩, ⟨by first | exact o9 | omega, by first | exact o10 | omega⟩, ⟨by first | exact o11 | omega, by first | exact o12 | omega⟩, by first | exact o13 | omega, hn4⟩), (show (f4 7).toInt = (f 7).toInt from by first | exact oz_1687f4cc65 k94_0 e8 | omega), (show (f4 10).toInt = (f 10).toInt from by first | exact oz_1687f4cc65 k94_1 e9 | omega), (show (f4 15).toInt = (f 15).toInt from by first | exact oz_1687f4cc65 k94_2 e10 | omega), (show (f 8).toInt + 1 ≤ (f4 8).toInt from by first | exact oz_213e98d3f1 k94_3 e11 | omega), (show Q5 (a5 5) from hq5)⟩) d_Tok_name_133
    · have nc1 : ¬ x94_2.toInt ≤ (24 : Int) := mt (i_le (x := x94_2) (y := 24)).mpr c1
      refine lv_bipush (v := 19) S.x S.b d_Tok_name_100 (by decide) ?_
      first | exact px_iret (v := 19) S hr rfl hlk hAe hw (Nat.le_of_ble_eq_true rfl) (Nat.le_of_ble_eq_true rfl) (⟨f_94, a_94, rfl, (show TokOk (f_94 7) (f_94 8) (f_94 10) (f_94 11) (f_94 12) (f_94 13) (f_94 17) (a_94 4) from ⟨⟨o1, o2⟩, ⟨o3, o4⟩, ⟨o5, o6⟩, ⟨o7, o8⟩, ⟨o9, o10⟩, ⟨o11, o12⟩, o13, hn4⟩), (show (f_94 7).toInt = (f 7).toInt from k94_0), (show (f_94 10).toInt = (f 10).toInt from k94_1), (show (f_94 15).toInt = (f 15).toInt from k94_2), (show (f 8).toInt + 1 ≤ (f_94 8).toInt from k94_3), (show Q5 (a_94 5) from hq5)⟩) d_Tok_name_102 | exact px_iret (v := 19) S hr rfl hlk hAe hw (Nat.le_of_ble_eq_true rfl) (Nat.le_of_ble_eq_true rfl) (⟨f_94, a_94, rfl, (show TokOk (f_94 7) (f_94 8) (f_94 10) (f_94 11) (f_94 12) (f_94 13) (f_94 17) (a_94 4) from ⟨⟨by first | exact o1 | omega, by first | exact o2 | omega⟩, ⟨by first | exact o3 | omega, by first | exact o4 | omega⟩, ⟨by first | exact o5 | omega, by first | exact o6 | omega⟩, ⟨by first | exact o7 | omega, by first | exact o8 | omega⟩, ⟨by first | exact o9 | omega, by first | exact o10 | omega⟩, ⟨by first | exact o11 | omega, by first | exact o12 | omega⟩, by first | exact o13 | omega, hn4⟩), (show (f_94 7).toInt = (f 7).toInt from by first | exact k94_0 | omega), (show (f_94 10).toInt = (f 10).toInt from by first | exact k94_1 | omega), (show (f_94 15).toInt = (f 15).toInt from by first | exact k94_2 | omega), (show (f 8).toInt + 1 ≤ (f_94 8).toInt from by first | exact k94_3 | omega), (show Q5 (a_94 5) from hq5)⟩) d_Tok_name_102
  have J23 : ∀ (n_23 : Nat) (f_23 : Nat → Int32) (a_23 : Nat → Nat → Int32) (x23_1 x23_2 x23_3 : Int32) (H : Heap) (locs : List Loc) (ls : Array Slot), (TokOk (f_23 7) (f_23 8) (f_23 10) (f_23 11) (f_23 12) (f_23 13) (f_23 17) (a_23 4)) → ((f_23 7).toInt = (f 7).toInt) → ((f_23 10).toInt = (f 10).toInt) → ((f_23 15).toInt = (f 15).toInt) → ((f 8).toInt ≤ (f_23 8).toInt) → ((f_23 8).toInt ≤ (f_23 7).toInt) → (0 ≤ x23_1.toInt) → (x23_1.toInt ≤ 1000 + 24 * ((f_23 11).toInt - 1)) → (0 ≤ x23_2.toInt) → (x23_2.toInt ≤ (f_23 8).toInt) → (Q5 (a_23 5)) → (Nm0 tb (f 8) (f_23 8) x23_3) → (f_23 7).toInt+9-(f_23 8).toInt < (n_23 : Int) → pw D A s.heap H locs [wd_Tok cs h r (fun _ => some tp) f_23 a_23 g, [(tp, .inl (cs 1, 2048, .inl tb))]] → lv_has ls 4 [(0, .ref h), (1, .int x23_1), (2, .int x23_2), (3, .int x23_3)] → W p l e { frames := 2, cells := 0, slots := 0, locals := 60 } s m [.ref h].toArray below meth c H locs 0 0 (MQ below (va_Qi (fun v ps => ∃ (f' : Nat → Int32) (a' : Nat → Nat → Int32), (ps = [wd_Tok cs h r (fun _ => some tp) f' a' g, [(tp, .inl (cs 1, 2048, .inl tb))]]) ∧ (TokOk (f' 7) (f' 8) (f' 10) (f' 11) (f' 12) (f' 13) (f' 17) (a' 4)) ∧ ((f' 7).toInt = (f 7).toInt) ∧ ((f' 10).toInt = (f 10).toInt) ∧ ((f' 15).toInt = (f 15).toInt) ∧ ((f 8).toInt + 1 ≤ (f' 8).toInt) ∧ (Q5 (a' 5))) (pc_B D (va_A ([wd_Tok cs h r (fun _ => some tp) f a g, [(tp, .inl (cs 1, 2048, .inl tb))]] : List va_W).flatten s.heap.size)) (va_A ([wd_Tok cs h r (fun _ => some tp) f a g, [(tp, .inl (cs 1, 2048, .inl tb))]] : List va_W).flatten s.heap.size)) [.ref h].toArray s 0 0 A) (F0 m 23 ls []) := by
    intro  n_23
    induction n_23 with
    | zero =>
      intro f_23 a_23 x23_1 x23_2 x23_3 H locs ls hi23_0 k23_0 k23_1 k23_2 k23_3 k23_4 k23_5 k23_6 k23_7 k23_8 k23_9 k23_10 hm hw hl
      obtain ⟨⟨o1, o2⟩, ⟨o3, o4⟩, ⟨o5, o6⟩, ⟨o7, o8⟩, ⟨o9, o10⟩, ⟨o11, o12⟩, o13, hn4⟩ := hi23_0
      have lx23_1 := Int32.le_toInt x23_1
      have ux23_1 := Int32.toInt_lt x23_1
      have lx23_2 := Int32.le_toInt x23_2
      have ux23_2 := Int32.toInt_lt x23_2
      have lx23_3 := Int32.le_toInt x23_3
      have ux23_3 := Int32.toInt_lt x23_3
      have hq5 := k23_9
      have hnm := k23_10
      exact absurd hm (by omega)
    | succ n_23 ih23 =>
      intro f_23 a_23 x23_1 x23_2 x23_3 H locs ls hi23_0 k23_0 k23_1 k23_2 k23_3 k23_4 k23_5 k23_6 k23_7 k23_8 k23_9 k23_10 hm hw hl
      obtain ⟨⟨o1, o2⟩, ⟨o3, o4⟩, ⟨o5, o6⟩, ⟨o7, o8⟩, ⟨o9, o10⟩, ⟨o11, o12⟩, o13, hn4⟩ := hi23_0
      have lx23_1 := Int32.le_toInt x23_1
      have ux23_1 := Int32.toInt_lt x23_1
      have lx23_2 := Int32.le_toInt x23_2
      have ux23_2 := Int32.toInt_lt x23_2
      have lx23_3 := Int32.le_toInt x23_3
      have ux23_3 := Int32.toInt_lt x23_3
      have hq5 := k23_9
      have hnm := k23_10
      refine lv_aload_n S.x S.b d_Tok_name_23 rfl (lv_at hl 0 rfl) ?_
      refine px_get S k_Tok hT hw 0 0 8 (v := .int (f_23 8)) rfl rfl rfl (by decide) m1_111 d_Tok_name_24 ?_
      refine lv_aload_n S.x S.b d_Tok_name_27 rfl (lv_at hl 0 rfl) ?_
      refine px_get S k_Tok hT hw 0 0 7 (v := .int (f_23 7)) rfl rfl rfl (by decide) m1_110 d_Tok_name_28 ?_
      refine lv_icmp_ge (tgt := 94) S.x S.b d_Tok_name_31 (by decide) (fun c16 => ?_) (fun c16 => ?_)
      · have nc16 : (f_23 7).toInt ≤ (f_23 8).toInt := (i_le (x := (f_23 7)) (y := (f_23 8))).mp c16
        first | exact J94 f_23 a_23 x23_1 x23_2 _ _ ls (show TokOk (f_23 7) (f_23 8) (f_23 10) (f_23 11) (f_23 12) (f_23 13) (f_23 17) (a_23 4) from ⟨⟨o1, o2⟩, ⟨o3, o4⟩, ⟨o5, o6⟩, ⟨o7, o8⟩, ⟨o9, o10⟩, ⟨o11, o12⟩, o13, hn4⟩) (show (f_23 7).toInt = (f 7).toInt from k23_0) (show (f_23 10).toInt = (f 10).toInt from k23_1) (show (f_23 15).toInt = (f 15).toInt from k23_2) (show (f 8).toInt + 1 ≤ (f_23 8).toInt from (oz_b298d6b515 g0 nc16 k23_0)) (show (f_23 8).toInt ≤ (f_23 7).toInt from k23_4) (show 0 ≤ x23_1.toInt from k23_5) (show x23_1.toInt ≤ 1000 + 24 * ((f_23 11).toInt - 1) from k23_6) (show 0 ≤ x23_2.toInt from k23_7) (show x23_2.toInt ≤ (f_23 8).toInt from k23_8) (show Q5 (a_23 5) from hq5) hw (lv_sub hl [0, 1, 2] rfl) | exact J94 f_23 a_23 x23_1 x23_2 _ _ ls (show TokOk (f_23 7) (f_23 8) (f_23 10) (f_23 11) (f_23 12) (f_23 13) (f_23 17) (a_23 4) from ⟨⟨by first | exact o1 | omega, by first | exact o2 | omega⟩, ⟨by first | exact o3 | omega, by first | exact o4 | omega⟩, ⟨by first | exact o5 | omega, by first | exact o6 | omega⟩, ⟨by first | exact o7 | omega, by first | exact o8 | omega⟩, ⟨by first | exact o9 | omega, by first | exact o10 | omega⟩, ⟨by first | exact o11 | omega, by first | exact o12 | omega⟩, by first | exact o13 | omega, hn4⟩) (show (f_23 7).toInt = (f 7).toInt from by first | exact k23_0 | omega) (show (f_23 10).toInt = (f 10).toInt from by first | exact k23_1 | omega) (show (f_23 15).toInt = (f 15).toInt from by first | exact k23_2 | omega) (show (f 8).toInt + 1 ≤ (f_23 8).toInt from by first | exact oz_b298d6b515 g0 nc16 k23_0 | omega) (show (f_23 8).toInt ≤ (f_23 7).toInt from by first | exact k23_4 | omega) (show 0 ≤ x23_1.toInt from by first | exact k23_5 | omega) (show x23_1.toInt ≤ 1000 + 24 * ((f_23 11).toInt - 1) from by first | exact k23_6 | omega) (show 0 ≤ x23_2.toInt from by first | exact k23_7 | omega) (show x23_2.toInt ≤ (f_23 8).toInt from by first | exact k23_8 | omega) (show Q5 (a_23 5) from hq5) hw (lv_sub hl [0, 1, 2] rfl)
      · have nc16 : ¬ (f_23 7).toInt ≤ (f_23 8).toInt := mt (i_le (x := (f_23 7)) (y := (f_23 8))).mpr c16
        refine lv_iload_n S.x S.b d_Tok_name_34 rfl (lv_at hl 3 rfl) ?_
        refine px_calli (pr := [wd_Tok cs h r (fun _ => some tp) f_23 a_23 g, [(tp, .inl (cs 1, 2048, .inl tb))]]) (px_runS (As := [.int x23_3]) (rest := []) S (c_t2_isLetter l D cs  x23_3   _) hT (pr := [wd_Tok cs h r (fun _ => some tp) f_23 a_23 g, [(tp, .inl (cs 1, 2048, .inl tb))]]) (pcs := []) hw px_X.tt m3_201 m3_199 m3_200 m1_2 q_Tok_isLetter ⟨Nat.le_of_ble_eq_true rfl, Nat.le_of_ble_eq_true rfl⟩ hl.1 rfl (Nat.le_of_ble_eq_true rfl) d_Tok_name_35 ⟨Nat.le_of_ble_eq_true rfl, Nat.le_of_ble_eq_true rfl⟩) hw hA (fun v18 p17 H locs hp17 hw => ?_)
        obtain ⟨rfl, e19, e20⟩ := hp17
        have e19 := z_rng e19
        have e20 : IsLt v18 x23_3 := e20
        have lv18 := Int32.le_toInt v18
        have uv18 := Int32.toInt_lt v18
        refine lv_if_ne (tgt := 48) S.x S.b d_Tok_name_38 (by decide) (fun c21 => ?_) (fun c21 => ?_)
        · have nc21 : ¬ v18.toInt = (0 : Int) := mt (i_eq (x := v18) (y := 0)).mpr c21
          refine lv_iload_n S.x S.b d_Tok_name_48 rfl (lv_at hl 1 rfl) ?_
          refine lv_iload_n S.x S.b d_Tok_name_49 rfl (lv_at hl 2 rfl) ?_
          refine lv_iadd S.x S.b d_Tok_name_50 ?_
          refine lv_topi (fun z22 ez22 => ?_)
          have tz22 : z22.toInt = (x23_1.toInt + x23_2.toInt + 2147483648) % 4294967296 - 2147483648 := by rw [ez22]; exact i_add x23_1 x23_2
          have lz22 := Int32.le_toInt z22
          have uz22 := Int32.toInt_lt z22
          try replace tz22 : z22.toInt = x23_1.toInt + x23_2.toInt := by omega
          refine lv_aload_n S.x S.b d_Tok_name_51 rfl (lv_at hl 0 rfl) ?_
          refine px_get S k_Tok hT hw 0 0 3 (v := .ref (r 3)) rfl rfl rfl (by decide) m1_106 d_Tok_name_52 ?_
          refine px_len S hT hw 0 4 2 rfl rfl rfl (v := 2181) rfl d_Tok_name_55 ?_
          refine lv_icmp_ge (tgt := 69) S.x S.b d_Tok_name_56 (by decide) (fun c23 => ?_) (fun c23 => ?_)
          · have nc23 : (2181 : Int) ≤ z22.toInt := (i_le (x := 2181) (y := z22)).mp c23
            obtain ⟨z24, ez24⟩ : ∃ y : Int32, y = x23_2 + 1 := ⟨_, rfl⟩
            have tz24 : z24.toInt = (x23_2.toInt + 1 + 2147483648) % 4294967296 - 2147483648 := by rw [ez24]; exact i_add x23_2 1
            have lz24 := Int32.le_toInt z24
            have uz24 := Int32.toInt_lt z24
            try replace tz24 : z24.toInt = x23_2.toInt + 1 := by omega
            refine lv_iinc (v := z24) (lv' := [(2, .int z24), (0, .ref h), (1, .int x23_1), (3, .int x23_3)]) S.x S.b d_Tok_name_69 hl (k := 2) rfl (by rw [ez24]; rfl) (by decide) rfl (fun ls hl => ?_)
            refine lv_aload_n S.x S.b d_Tok_name_72 rfl (lv_at hl 1 rfl) ?_
            refine lv_dup S.x S.b d_Tok_name_73 rfl ?_
            refine px_get S k_Tok hT hw 0 0 8 (v := .int (f_23 8)) rfl rfl rfl (by decide) m1_111 d_Tok_name_74 ?_
            refine lv_iconst (v := 1) S.x S.b d_Tok_name_77 (by decide) ?_
            refine lv_iadd S.x S.b d_Tok_name_78 ?_
            have lr25 := Int32.le_toInt (f_23 8)
            have ur25 := Int32.toInt_lt (f_23 8)
            refine lv_topi (fun z26 ez26 => ?_)
            have tz26 : z26.toInt = ((f_23 8).toInt + (1 : Int) + 2147483648) % 4294967296 - 2147483648 := by rw [ez26]; exact i_add (f_23 8) 1
            have lz26 := Int32.le_toInt z26
            have uz26 := Int32.toInt_lt z26
            try replace tz26 : z26.toInt = (f_23 8).toInt + (1 : Int) := by omega
            refine px_put S k_Tok hT hw 0 0 8 rfl rfl (by decide) m1_111 rfl rfl rfl (Nat.le_of_ble_eq_true rfl) d_Tok_name_79 (w' := wd_Tok cs h r (fun _ => some tp) (upd f_23 8 z26) a_23 g) (ps' := [wd_Tok cs h r (fun _ => some tp) (upd f_23 8 z26) a_23 g, [(tp, .inl (cs 1, 2048, .inl tb))]]) rfl rfl (fun H locs hw => ?_)
            refine lv_aload_n S.x S.b d_Tok_name_82 rfl (lv_at hl 1 rfl) ?_
            refine lv_aload_n S.x S.b d_Tok_name_83 rfl (lv_at hl 1 rfl) ?_
            refine px_get S k_Tok hT hw 0 0 8 (v := .int z26) rfl rfl rfl (by decide) m1_111 d_Tok_name_84 ?_
            first | refine px_calli (pr := []) (px_runV (As := [.int z26]) (rest := []) S (c_t2_byteAt l D cs h r tp tb g (upd f_23 8 z26) a_23 z26  (show TokOk (f_23 7) z26 (f_23 10) (f_23 11) (f_23 12) (f_23 13) (f_23 17) (a_23 4) from ⟨⟨o1, o2⟩, ⟨(oz_b3b25f0e49 tz26 o3), (oz_b18b803a23 nc16 tz26)⟩, ⟨o5, o6⟩, ⟨o7, o8⟩, ⟨o9, o10⟩, ⟨o11, o12⟩, o13, hn4⟩) _) hT (pr := []) (pcs := [wd_Tok cs h r (fun _ => some tp) (upd f_23 8 z26) a_23 g, [(tp, .inl (cs 1, 2048, .inl tb))]]) hw px_X.tt (px_recv hT hw 0 0 rfl rfl rfl) m3_186 m3_183 m3_185 ms_1_6 m1_2 q_Tok_byteAt ⟨Nat.le_of_ble_eq_true rfl, Nat.le_of_ble_eq_true rfl⟩ hl.1 rfl (Nat.le_of_ble_eq_true rfl) d_Tok_name_87 ⟨Nat.le_of_ble_eq_true rfl, Nat.le_of_ble_eq_true rfl⟩) hw hA (fun v28 p27 H locs hp27 hw => ?_) | refine px_calli (pr := []) (px_runV (As := [.int z26]) (rest := []) S (c_t2_byteAt l D cs h r tp tb g (upd f_23 8 z26) a_23 z26  (show TokOk (f_23 7) z26 (f_23 10) (f_23 11) (f_23 12) (f_23 13) (f_23 17) (a_23 4) from ⟨⟨by first | exact o1 | omega, by first | exact o2 | omega⟩, ⟨by first | exact oz_b3b25f0e49 tz26 o3 | omega, by first | exact oz_b18b803a23 nc16 tz26 | omega⟩, ⟨by first | exact o5 | omega, by first | exact o6 | omega⟩, ⟨by first | exact o7 | omega, by first | exact o8 | omega⟩, ⟨by first | exact o9 | omega, by first | exact o10 | omega⟩, ⟨by first | exact o11 | omega, by first | exact o12 | omega⟩, by first | exact o13 | omega, hn4⟩) _) hT (pr := []) (pcs := [wd_Tok cs h r (fun _ => some tp) (upd f_23 8 z26) a_23 g, [(tp, .inl (cs 1, 2048, .inl tb))]]) hw px_X.tt (px_recv hT hw 0 0 rfl rfl rfl) m3_186 m3_183 m3_185 ms_1_6 m1_2 q_Tok_byteAt ⟨Nat.le_of_ble_eq_true rfl, Nat.le_of_ble_eq_true rfl⟩ hl.1 rfl (Nat.le_of_ble_eq_true rfl) d_Tok_name_87 ⟨Nat.le_of_ble_eq_true rfl, Nat.le_of_ble_eq_true rfl⟩) hw hA (fun v28 p27 H locs hp27 hw => ?_)
            obtain ⟨rfl, e29, e30, e31, e32⟩ := hp27
            have e29 : -1 ≤ v28.toInt := e29
            have e30 : v28.toInt ≤ 255 := e30
            have e31 : 0 ≤ v28.toInt → 0 ≤ z26.toInt ∧ z26.toInt < (f_23 7).toInt := e31
            have e32 : By tb (f_23 7) z26 v28 := e32
            have lv28 := Int32.le_toInt v28
            have uv28 := Int32.toInt_lt v28
            refine lv_istore_n (lv' := [(3, .int v28), (2, .int z24), (0, .ref h), (1, .int x23_1)]) S.x S.b d_Tok_name_90 rfl hl (by decide) rfl (fun ls hl => ?_)
            refine lv_goto (tgt := 23) S.x S.b d_Tok_name_91 (by decide) ?_
            first | exact ih23 (upd f_23 8 z26) a_23 x23_1 z24 v28 _ _ ls (show TokOk (f_23 7) z26 (f_23 10) (f_23 11) (f_23 12) (f_23 13) (f_23 17) (a_23 4) from ⟨⟨o1, o2⟩, ⟨(oz_b3b25f0e49 tz26 o3), (oz_b18b803a23 nc16 tz26)⟩, ⟨o5, o6⟩, ⟨o7, o8⟩, ⟨o9, o10⟩, ⟨o11, o12⟩, o13, hn4⟩) (show (f_23 7).toInt = (f 7).toInt from k23_0) (show (f_23 10).toInt = (f 10).toInt from k23_1) (show (f_23 15).toInt = (f 15).toInt from k23_2) (show (f 8).toInt ≤ z26.toInt from (oz_df4877b868 k23_3 tz26)) (show z26.toInt ≤ (f_23 7).toInt from (oz_7eb37145d2 nc16 tz26)) (show 0 ≤ x23_1.toInt from k23_5) (show x23_1.toInt ≤ 1000 + 24 * ((f_23 11).toInt - 1) from k23_6) (show 0 ≤ z24.toInt from (oz_ae613611c0 tz24 k23_7)) (show z24.toInt ≤ z26.toInt from (oz_122b8b9fb7 tz24 tz26 k23_8)) (show Q5 (a_23 5) from hq5) (show Nm0 tb (f 8) z26 v28 from (by first | (right; exact ⟨rfl, by assumption⟩) | (left; omega) | exact Or.inr ⟨rfl, (show By _ _ _ _ by assumption) (by omega) (by omega)⟩)) (show (f_23 7).toInt+9-z26.toInt < (n_23 : Int) from (oz_c735cfbd81 hm tz26)) hw (lv_sub hl [2, 3, 1, 0] rfl) | exact ih23 (upd f_23 8 z26) a_23 x23_1 z24 v28 _ _ ls (show TokOk (f_23 7) z26 (f_23 10) (f_23 11) (f_23 12) (f_23 13) (f_23 17) (a_23 4) from ⟨⟨by first | exact o1 | omega, by first | exact o2 | omega⟩, ⟨by first | exact oz_b3b25f0e49 tz26 o3 | omega, by first | exact oz_b18b803a23 nc16 tz26 | omega⟩, ⟨by first | exact o5 | omega, by first | exact o6 | omega⟩, ⟨by first | exact o7 | omega, by first | exact o8 | omega⟩, ⟨by first | exact o9 | omega, by first | exact o10 | omega⟩, ⟨by first | exact o11 | omega, by first | exact o12 | omega⟩, by first | exact o13 | omega, hn4⟩) (show (f_23 7).toInt = (f 7).toInt from by first | exact k23_0 | omega) (show (f_23 10).toInt = (f 10).toInt from by first | exact k23_1 | omega) (show (f_23 15).toInt = (f 15).toInt from by first | exact k23_2 | omega) (show (f 8).toInt ≤ z26.toInt from by first | exact oz_df4877b868 k23_3 tz26 | omega) (show z26.toInt ≤ (f_23 7).toInt from by first | exact oz_7eb37145d2 nc16 tz26 | omega) (show 0 ≤ x23_1.toInt from by first | exact k23_5 | omega) (show x23_1.toInt ≤ 1000 + 24 * ((f_23 11).toInt - 1) from by first | exact k23_6 | omega) (show 0 ≤ z24.toInt from by first | exact oz_ae613611c0 tz24 k23_7 | omega) (show z24.toInt ≤ z26.toInt from by first | exact oz_122b8b9fb7 tz24 tz26 k23_8 | omega) (show Q5 (a_23 5) from hq5) (show Nm0 tb (f 8) z26 v28 from (by first | (right; exact ⟨rfl, by assumption⟩) | (left; omega) | exact Or.inr ⟨rfl, (show By _ _ _ _ by assumption) (by omega) (by omega)⟩)) (show (f_23 7).toInt+9-z26.toInt < (n_23 : Int) from by first | exact oz_c735cfbd81 hm tz26 | omega) hw (lv_sub hl [2, 3, 1, 0] rfl)
          · have nc23 : ¬ (2181 : Int) ≤ z22.toInt := mt (i_le (x := 2181) (y := z22)).mpr c23
            refine lv_aload_n S.x S.b d_Tok_name_59 rfl (lv_at hl 0 rfl) ?_
            refine px_get S k_Tok hT hw 0 0 3 (v := .ref (r 3)) rfl rfl rfl (by decide) m1_106 d_Tok_name_60 ?_
            refine lv_iload_n S.x S.b d_Tok_name_63 rfl (lv_at hl 1 rfl) ?_
            refine lv_iload_n S.x S.b d_Tok_name_64 rfl (lv_at hl 2 rfl) ?_
            refine lv_iadd S.x S.b d_Tok_name_65 ?_
            refine lv_topi (fun z33 ez33 => ?_)
            have tz33 : z33.toInt = (x23_1.toInt + x23_2.toInt + 2147483648) % 4294967296 - 2147483648 := by rw [ez33]; exact i_add x23_1 x23_2
            have lz33 := Int32.le_toInt z33
            have uz33 := Int32.toInt_lt z33
            try replace tz33 : z33.toInt = x23_1.toInt + x23_2.toInt := by omega
            refine lv_iload_n S.x S.b d_Tok_name_66 rfl (lv_at hl 3 rfl) ?_
            refine lv_i2c S.x S.b d_Tok_name_67 rfl ?_
            refine lv_topi (fun z34 ez34 => ?_)
            have lz34 := Int32.le_toInt z34
            have uz34 := Int32.toInt_lt z34
            refine px_cast S hT hw 0 4 (n := 2181) (f := (a_23 3)) (x := z33) (y := z34) rfl (ga_Tok_3 _ _ _ _ _ _ _) (vp_in_iff.mpr (by constructor <;> omega)) d_Tok_name_68 (w' := wd_Tok cs h r (fun _ => some tp) f_23 (va_up a_23 3 (upd (a_23 3) z33.toNatClampNeg (vp_nar .char z34))) g) (ps' := [wd_Tok cs h r (fun _ => some tp) f_23 (va_up a_23 3 (upd (a_23 3) z33.toNatClampNeg (vp_nar .char z34))) g, [(tp, .inl (cs 1, 2048, .inl tb))]]) (sa_Tok_3 _ _ _ _ _ _ _ _) rfl (fun H locs hw => ?_)
            obtain ⟨z35, ez35⟩ : ∃ y : Int32, y = x23_2 + 1 := ⟨_, rfl⟩
            have tz35 : z35.toInt = (x23_2.toInt + 1 + 2147483648) % 4294967296 - 2147483648 := by rw [ez35]; exact i_add x23_2 1
            have lz35 := Int32.le_toInt z35
            have uz35 := Int32.toInt_lt z35
            try replace tz35 : z35.toInt = x23_2.toInt + 1 := by omega
            refine lv_iinc (v := z35) (lv' := [(2, .int z35), (0, .ref h), (1, .int x23_1), (3, .int x23_3)]) S.x S.b d_Tok_name_69 hl (k := 2) rfl (by rw [ez35]; rfl) (by decide) rfl (fun ls hl => ?_)
            refine lv_aload_n S.x S.b d_Tok_name_72 rfl (lv_at hl 1 rfl) ?_
            refine lv_dup S.x S.b d_Tok_name_73 rfl ?_
            refine px_get S k_Tok hT hw 0 0 8 (v := .int (f_23 8)) rfl rfl rfl (by decide) m1_111 d_Tok_name_74 ?_
            refine lv_iconst (v := 1) S.x S.b d_Tok_name_77 (by decide) ?_
            refine lv_iadd S.x S.b d_Tok_name_78 ?_
            have lr36 := Int32.le_toInt (f_23 8)
            have ur36 := Int32.toInt_lt (f_23 8)
            refine lv_topi (fun z37 ez37 => ?_)
            have tz37 : z37.toInt = ((f_23 8).toInt + (1 : Int) + 2147483648) % 4294967296 - 2147483648 := by rw [ez37]; exact i_add (f_23 8) 1
            have lz37 := Int32.le_toInt z37
            have uz37 := Int32.toInt_lt z37
            try replace tz37 : z37.toInt = (f_23 8).toInt + (1 : Int) := by omega
            refine px_put S k_Tok hT hw 0 0 8 rfl rfl (by decide) m1_111 rfl rfl rfl (Nat.le_of_ble_eq_true rfl) d_Tok_name_79 (w' := wd_Tok cs h r (fun _ => some tp) (upd f_23 8 z37) (va_up a_23 3 (upd (a_23 3) z33.toNatClampNeg (vp_nar .char z34))) g) (ps' := [wd_Tok cs h r (fun _ => some tp) (upd f_23 8 z37) (va_up a_23 3 (upd (a_23 3) z33.toNatClampNeg (vp_nar .char z34))) g, [(tp, .inl (cs 1, 2048, .inl tb))]]) rfl rfl (fun H locs hw => ?_)
            refine lv_aload_n S.x S.b d_Tok_name_82 rfl (lv_at hl 1 rfl) ?_
            refine lv_aload_n S.x S.b d_Tok_name_83 rfl (lv_at hl 1 rfl) ?_
            refine px_get S k_Tok hT hw 0 0 8 (v := .int z37) rfl rfl rfl (by decide) m1_111 d_Tok_name_84 ?_
            first | refine px_calli (pr := []) (px_runV (As := [.int z37]) (rest := []) S (c_t2_byteAt l D cs h r tp tb g (upd f_23 8 z37) (va_up a_23 3 (upd (a_23 3) z33.toNatClampNeg (vp_nar .char z34))) z37  (show TokOk (f_23 7) z37 (f_23 10) (f_23 11) (f_23 12) (f_23 13) (f_23 17) ((va_up a_23 3 (upd (a_23 3) z33.toNatClampNeg (vp_nar .char z34))) 4) from ⟨⟨o1, o2⟩, ⟨(oz_b3b25f0e49 tz37 o3), (oz_b18b803a23 nc16 tz37)⟩, ⟨o5, o6⟩, ⟨o7, o8⟩, ⟨o9, o10⟩, ⟨o11, o12⟩, o13, (by rw [va_up_n (by decide)]; exact hn4)⟩) _) hT (pr := []) (pcs := [wd_Tok cs h r (fun _ => some tp) (upd f_23 8 z37) (va_up a_23 3 (upd (a_23 3) z33.toNatClampNeg (vp_nar .char z34))) g, [(tp, .inl (cs 1, 2048, .inl tb))]]) hw px_X.tt (px_recv hT hw 0 0 rfl rfl rfl) m3_186 m3_183 m3_185 ms_1_6 m1_2 q_Tok_byteAt ⟨Nat.le_of_ble_eq_true rfl, Nat.le_of_ble_eq_true rfl⟩ hl.1 rfl (Nat.le_of_ble_eq_true rfl) d_Tok_name_87 ⟨Nat.le_of_ble_eq_true rfl, Nat.le_of_ble_eq_true rfl⟩) hw hA (fun v39 p38 H locs hp38 hw => ?_) | refine px_calli (pr := []) (px_runV (As := [.int z37]) (rest := []) S (c_t2_byteAt l D cs h r tp tb g (upd f_23 8 z37) (va_up a_23 3 (upd (a_23 3) z33.toNatClampNeg (vp_nar .char z34))) z37  (show TokOk (f_23 7) z37 (f_23 10) (f_23 11) (f_23 12) (f_23 13) (f_23 17) ((va_up a_23 3 (upd (a_23 3) z33.toNatClampNeg (vp_nar .char z34))) 4) from ⟨⟨by first | exact o1 | omega, by first | exact o2 | omega⟩, ⟨by first | exact oz_b3b25f0e49 tz37 o3 | omega, by first | exact oz_b18b803a23 nc16 tz37 | omega⟩, ⟨by first | exact o5 | omega, by first | exact o6 | omega⟩, ⟨by first | exact o7 | omega, by first | exact o8 | omega⟩, ⟨by first | exact o9 | omega, by first | exact o10 | omega⟩, ⟨by first | exact o11 | omega, by first | exact o12 | omega⟩, by first | exact o13 | omega, (by rw [va_up_n (by decide)]; exact hn4)⟩) _) hT (pr := []) (pcs := [wd_Tok cs h r (fun _ => some tp) (upd f_23 8 z37) (va_up a_23 3 (upd (a_23 3) z33.toNatClampNeg (vp_nar .char z34))) g, [(tp, .inl (cs 1, 2048, .inl tb))]]) hw px_X.tt (px_recv hT hw 0 0 rfl rfl rfl) m3_186 m3_183 m3_185 ms_1_6 m1_2 q_Tok_byteAt ⟨Nat.le_of_ble_eq_true rfl, Nat.le_of_ble_eq_true rfl⟩ hl.1 rfl (Nat.le_of_ble_eq_true rfl) d_Tok_name_87 ⟨Nat.le_of_ble_eq_true rfl, Nat.le_of_ble_eq_true rfl⟩) hw hA (fun v39 p38 H locs hp38 hw => ?_)
            obtain ⟨rfl, e40, e41, e42, e43⟩ := hp38
            have e40 : -1 ≤ v39.toInt := e40
            have e41 : v39.toInt ≤ 255 := e41
            have e42 : 0 ≤ v39.toInt → 0 ≤ z37.toInt ∧ z37.toInt < (f_23 7).toInt := e42
            have e43 : By tb (f_23 7) z37 v39 := e43
            have lv39 := Int32.le_toInt v39
            have uv39 := Int32.toInt_lt v39
            refine lv_istore_n (lv' := [(3, .int v39), (2, .int z35), (0, .ref h), (1, .int x23_1)]) S.x S.b d_Tok_name_90 rfl hl (by decide) rfl (fun ls hl => ?_)
            refine lv_goto (tgt := 23) S.x S.b d_Tok_name_91 (by decide) ?_
            first | exact ih23 (upd f_23 8 z37) (va_up a_23 3 (upd (a_23 3) z33.toNatClampNeg (vp_nar .char z34))) x23_1 z35 v39 _ _ ls (show TokOk (f_23 7) z37 (f_23 10) (f_23 11) (f_23 12) (f_23 13) (f_23 17) ((va_up a_23 3 (upd (a_23 3) z33.toNatClampNeg (vp_nar .char z34))) 4) from ⟨⟨o1, o2⟩, ⟨(oz_b3b25f0e49 tz37 o3), (oz_b18b803a23 nc16 tz37)⟩, ⟨o5, o6⟩, ⟨o7, o8⟩, ⟨o9, o10⟩, ⟨o11, o12⟩, o13, (by rw [va_up_n (by decide)]; exact hn4)⟩) (show (f_23 7).toInt = (f 7).toInt from k23_0) (show (f_23 10).toInt = (f 10).toInt from k23_1) (show (f_23 15).toInt = (f 15).toInt from k23_2) (show (f 8).toInt ≤ z37.toInt from (oz_df4877b868 k23_3 tz37)) (show z37.toInt ≤ (f_23 7).toInt from (oz_7eb37145d2 nc16 tz37)) (show 0 ≤ x23_1.toInt from k23_5) (show x23_1.toInt ≤ 1000 + 24 * ((f_23 11).toInt - 1) from k23_6) (show 0 ≤ z35.toInt from (oz_ae613611c0 tz35 k23_7)) (show z35.toInt ≤ z37.toInt from (oz_122b8b9fb7 tz35 tz37 k23_8)) (show Q5 ((va_up a_23 3 (upd (a_23 3) z33.toNatClampNeg (vp_nar .char z34))) 5) from (by rw [va_up_n (by decide)]; exact hq5)) (show Nm0 tb (f 8) z37 v39 from (by first | (right; exact ⟨rfl, by assumption⟩) | (left; omega) | exact Or.inr ⟨rfl, (show By _ _ _ _ by assumption) (by omega) (by omega)⟩)) (show (f_23 7).toInt+9-z37.toInt < (n_23 : Int) from (oz_c735cfbd81 hm tz37)) hw (lv_sub hl [2, 3, 1, 0] rfl) | exact ih23 (upd f_23 8 z37) (va_up a_23 3 (upd (a_23 3) z33.toNatClampNeg (vp_nar .char z34))) x23_1 z35 v39 _ _ ls (show TokOk (f_23 7) z37 (f_23 10) (f_23 11) (f_23 12) (f_23 13) (f_23 17) ((va_up a_23 3 (upd (a_23 3) z33.toNatClampNeg (vp_nar .char z34))) 4) from ⟨⟨by first | exact o1 | omega, by first | exact o2 | omega⟩, ⟨by first | exact oz_b3b25f0e49 tz37 o3 | omega, by first | exact oz_b18b803a23 nc16 tz37 | omega⟩, ⟨by first | exact o5 | omega, by first | exact o6 | omega⟩, ⟨by first | exact o7 | omega, by first | exact o8 | omega⟩, ⟨by first | exact o9 | omega, by first | exact o10 | omega⟩, ⟨by first | exact o11 | omega, by first | exact o12 | omega⟩, by first | exact o13 | omega, (by rw [va_up_n (by decide)]; exact hn4)⟩) (show (f_23 7).toInt = (f 7).toInt from by first | exact k23_0 | omega) (show (f_23 10).toInt = (f 10).toInt from by first | exact k23_1 | omega) (show (f_23 15).toInt = (f 15).toInt from by first | exact k23_2 | omega) (show (f 8).toInt ≤ z37.toInt from by first | exact oz_df4877b868 k23_3 tz37 | omega) (show z37.toInt ≤ (f_23 7).toInt from by first | exact oz_7eb37145d2 nc16 tz37 | omega) (show 0 ≤ x23_1.toInt from by first | exact k23_5 | omega) (show x23_1.toInt ≤ 1000 + 24 * ((f_23 11).toInt - 1) from by first | exact k23_6 | omega) (show 0 ≤ z35.toInt from by first | exact oz_ae613611c0 tz35 k23_7 | omega) (show z35.toInt ≤ z37.toInt from by first | exact oz_122b8b9fb7 tz35 tz37 k23_8 | omega) (show Q5 ((va_up a_23 3 (upd (a_23 3) z33.toNatClampNeg (vp_nar .char z34))) 5) from (by rw [va_up_n (by decide)]; exact hq5)) (show Nm0 tb (f 8) z37 v39 from (by first | (right; exact ⟨rfl, by assumption⟩) | (left; omega) | exact Or.inr ⟨rfl, (show By _ _ _ _ by assumption) (by omega) (by omega)⟩)) (show (f_23 7).toInt+9-z37.toInt < (n_23 : Int) from by first | exact oz_c735cfbd81 hm tz37 | omega) hw (lv_sub hl [2, 3, 1, 0] rfl)
        · have nc21 : v18.toInt = (0 : Int) := (i_eq (x := v18) (y := 0)).mp c21
          refine lv_iload_n S.x S.b d_Tok_name_41 rfl (lv_at hl 3 rfl) ?_
          have hgo := Nm0.go hnm hL (by assumption) (by omega)
          refine px_calli (pr := [wd_Tok cs h r (fun _ => some tp) f_23 a_23 g, [(tp, .inl (cs 1, 2048, .inl tb))]]) (px_runS (As := [.int x23_3]) (rest := []) S (c_Tok_isDigit l D cs x23_3 _) hT (pr := [wd_Tok cs h r (fun _ => some tp) f_23 a_23 g, [(tp, .inl (cs 1, 2048, .inl tb))]]) (pcs := []) hw px_X.tt m3_208 m3_206 m3_207 m1_2 q_Tok_isDigit ⟨Nat.le_of_ble_eq_true rfl, Nat.le_of_ble_eq_true rfl⟩ hl.1 rfl (Nat.le_of_ble_eq_true rfl) d_Tok_name_42 ⟨Nat.le_of_ble_eq_true rfl, Nat.le_of_ble_eq_true rfl⟩) hw hA (fun v47 p46 H locs hp46 hw => ?_)
          obtain ⟨rfl, e48⟩ := hp46
          have e48 := z_int e48
          have lv47 := Int32.le_toInt v47
          have uv47 := Int32.toInt_lt v47
          refine lv_if_eq (tgt := 94) S.x S.b d_Tok_name_45 (by decide) (fun c49 => ?_) (fun c49 => ?_)
          · have nc49 : v47.toInt = (0 : Int) := (i_eq (x := v47) (y := 0)).mp c49
            first | exact J94 f_23 a_23 x23_1 x23_2 _ _ ls (show TokOk (f_23 7) (f_23 8) (f_23 10) (f_23 11) (f_23 12) (f_23 13) (f_23 17) (a_23 4) from ⟨⟨o1, o2⟩, ⟨o3, o4⟩, ⟨o5, o6⟩, ⟨o7, o8⟩, ⟨o9, o10⟩, ⟨o11, o12⟩, o13, hn4⟩) (show (f_23 7).toInt = (f 7).toInt from k23_0) (show (f_23 10).toInt = (f 10).toInt from k23_1) (show (f_23 15).toInt = (f 15).toInt from k23_2) (show (f 8).toInt + 1 ≤ (f_23 8).toInt from (oz_54480d698e hgo)) (show (f_23 8).toInt ≤ (f_23 7).toInt from k23_4) (show 0 ≤ x23_1.toInt from k23_5) (show x23_1.toInt ≤ 1000 + 24 * ((f_23 11).toInt - 1) from k23_6) (show 0 ≤ x23_2.toInt from k23_7) (show x23_2.toInt ≤ (f_23 8).toInt from k23_8) (show Q5 (a_23 5) from hq5) hw (lv_sub hl [0, 1, 2] rfl) | exact J94 f_23 a_23 x23_1 x23_2 _ _ ls (show TokOk (f_23 7) (f_23 8) (f_23 10) (f_23 11) (f_23 12) (f_23 13) (f_23 17) (a_23 4) from ⟨⟨by first | exact o1 | omega, by first | exact o2 | omega⟩, ⟨by first | exact o3 | omega, by first | exact o4 | omega⟩, ⟨by first | exact o5 | omega, by first | exact o6 | omega⟩, ⟨by first | exact o7 | omega, by first | exact o8 | omega⟩, ⟨by first | exact o9 | omega, by first | exact o10 | omega⟩, ⟨by first | exact o11 | omega, by first | exact o12 | omega⟩, by first | exact o13 | omega, hn4⟩) (show (f_23 7).toInt = (f 7).toInt from by first | exact k23_0 | omega) (show (f_23 10).toInt = (f 10).toInt from by first | exact k23_1 | omega) (show (f_23 15).toInt = (f 15).toInt from by first | exact k23_2 | omega) (show (f 8).toInt + 1 ≤ (f_23 8).toInt from by first | exact oz_54480d698e hgo | omega) (show (f_23 8).toInt ≤ (f_23 7).toInt from by first | exact k23_4 | omega) (show 0 ≤ x23_1.toInt from by first | exact k23_5 | omega) (show x23_1.toInt ≤ 1000 + 24 * ((f_23 11).toInt - 1) from by first | exact k23_6 | omega) (show 0 ≤ x23_2.toInt from by first | exact k23_7 | omega) (show x23_2.toInt ≤ (f_23 8).toInt from by first | exact k23_8 | omega) (show Q5 (a_23 5) from hq5) hw (lv_sub hl [0, 1, 2] rfl)
          · have nc49 : ¬ v47.toInt = (0 : Int) := mt (i_eq (x := v47) (y := 0)).mpr c49
            refine lv_iload_n S.x S.b d_Tok_name_48 rfl (lv_at hl 1 rfl) ?_
            refine lv_iload_n S.x S.b d_Tok_name_49 rfl (lv_at hl 2 rfl) ?_
            refine lv_iadd S.x S.b d_Tok_name_50 ?_
            refine lv_topi (fun z50 ez50 => ?_)
            have tz50 : z50.toInt = (x23_1.toInt + x23_2.toInt + 2147483648) % 4294967296 - 2147483648 := by rw [ez50]; exact i_add x23_1 x23_2
            have lz50 := Int32.le_toInt z50
            have uz50 := Int32.toInt_lt z50
            try replace tz50 : z50.toInt = x23_1.toInt + x23_2.toInt := by omega
            refine lv_aload_n S.x S.b d_Tok_name_51 rfl (lv_at hl 0 rfl) ?_
            refine px_get S k_Tok hT hw 0 0 3 (v := .ref (r 3)) rfl rfl rfl (by decide) m1_106 d_Tok_name_52 ?_
            refine px_len S hT hw 0 4 2 rfl rfl rfl (v := 2181) rfl d_Tok_name_55 ?_
            refine lv_icmp_ge (tgt := 69) S.x S.b d_Tok_name_56 (by decide) (fun c51 => ?_) (fun c51 => ?_)
            · have nc51 : (2181 : Int) ≤ z50.toInt := (i_le (x := 2181) (y := z50)).mp c51
              obtain ⟨z52, ez52⟩ : ∃ y : Int32, y = x23_2 + 1 := ⟨_, rfl⟩
              have tz52 : z52.toInt = (x23_2.toInt + 1 + 2147483648) % 4294967296 - 2147483648 := by rw [ez52]; exact i_add x23_2 1
              have lz52 := Int32.le_toInt z52
              have uz52 := Int32.toInt_lt z52
              try replace tz52 : z52.toInt = x23_2.toInt + 1 := by omega
              refine lv_iinc (v := z52) (lv' := [(2, .int z52), (0, .ref h), (1, .int x23_1), (3, .int x23_3)]) S.x S.b d_Tok_name_69 hl (k := 2) rfl (by rw [ez52]; rfl) (by decide) rfl (fun ls hl => ?_)
              refine lv_aload_n S.x S.b d_Tok_name_72 rfl (lv_at hl 1 rfl) ?_
              refine lv_dup S.x S.b d_Tok_name_73 rfl ?_
              refine px_get S k_Tok hT hw 0 0 8 (v := .int (f_23 8)) rfl rfl rfl (by decide) m1_111 d_Tok_name_74 ?_
              refine lv_iconst (v := 1) S.x S.b d_Tok_name_77 (by decide) ?_
              refine lv_iadd S.x S.b d_Tok_name_78 ?_
              have lr53 := Int32.le_toInt (f_23 8)
              have ur53 := Int32.toInt_lt (f_23 8)
              refine lv_topi (fun z54 ez54 => ?_)
              have tz54 : z54.toInt = ((f_23 8).toInt + (1 : Int) + 2147483648) % 4294967296 - 2147483648 := by rw [ez54]; exact i_add (f_23 8) 1
              have lz54 := Int32.le_toInt z54
              have uz54 := Int32.toInt_lt z54
              try replace tz54 : z54.toInt = (f_23 8).toInt + (1 : Int) := by omega
              refine px_put S k_Tok hT hw 0 0 8 rfl rfl (by decide) m1_111 rfl rfl rfl (Nat.le_of_ble_eq_true rfl) d_Tok_name_79 (w' := wd_Tok cs h r (fun _ => some tp) (upd f_23 8 z54) a_23 g) (ps' := [wd_Tok cs h r (fun _ => some tp) (upd f_23 8 z54) a_23 g, [(tp, .inl (cs 1, 2048, .inl tb))]]) rfl rfl (fun H locs hw => ?_)
              refine lv_aload_n S.x S.b d_Tok_name_82 rfl (lv_at hl 1 rfl) ?_
              refine lv_aload_n S.x S.b d_Tok_name_83 rfl (lv_at hl 1 rfl) ?_
              refine px_get S k_Tok hT hw 0 0 8 (v := .int z54) rfl rfl rfl (by decide) m1_111 d_Tok_name_84 ?_
              first | refine px_calli (pr := []) (px_runV (As := [.int z54]) (rest := []) S (c_t2_byteAt l D cs h r tp tb g (upd f_23 8 z54) a_23 z54  (show TokOk (f_23 7) z54 (f_23 10) (f_23 11) (f_23 12) (f_23 13) (f_23 17) (a_23 4) from ⟨⟨o1, o2⟩, ⟨(oz_b3b25f0e49 tz54 o3), (oz_b18b803a23 nc16 tz54)⟩, ⟨o5, o6⟩, ⟨o7, o8⟩, ⟨o9, o10⟩, ⟨o11, o12⟩, o13, hn4⟩) _) hT (pr := []) (pcs := [wd_Tok cs h r (fun _ => some tp) (upd f_23 8 z54) a_23 g, [(tp, .inl (cs 1, 2048, .inl tb))]]) hw px_X.tt (px_recv hT hw 0 0 rfl rfl rfl) m3_186 m3_183 m3_185 ms_1_6 m1_2 q_Tok_byteAt ⟨Nat.le_of_ble_eq_true rfl, Nat.le_of_ble_eq_true rfl⟩ hl.1 rfl (Nat.le_of_ble_eq_true rfl) d_Tok_name_87 ⟨Nat.le_of_ble_eq_true rfl, Nat.le_of_ble_eq_true rfl⟩) hw hA (fun v56 p55 H locs hp55 hw => ?_) | refine px_calli (pr := []) (px_runV (As := [.int z54]) (rest := []) S (c_t2_byteAt l D cs h r tp tb g (upd f_23 8 z54) a_23 z54  (show TokOk (f_23 7) z54 (f_23 10) (f_23 11) (f_23 12) (f_23 13) (f_23 17) (a_23 4) from ⟨⟨by first | exact o1 | omega, by first | exact o2 | omega⟩, ⟨by first | exact oz_b3b25f0e49 tz54 o3 | omega, by first | exact oz_b18b803a23 nc16 tz54 | omega⟩, ⟨by first | exact o5 | omega, by first | exact o6 | omega⟩, ⟨by first | exact o7 | omega, by first | exact o8 | omega⟩, ⟨by first | exact o9 | omega, by first | exact o10 | omega⟩, ⟨by first | exact o11 | omega, by first | exact o12 | omega⟩, by first | exact o13 | omega, hn4⟩) _) hT (pr := []) (pcs := [wd_Tok cs h r (fun _ => some tp) (upd f_23 8 z54) a_23 g, [(tp, .inl (cs 1, 2048, .inl tb))]]) hw px_X.tt (px_recv hT hw 0 0 rfl rfl rfl) m3_186 m3_183 m3_185 ms_1_6 m1_2 q_Tok_byteAt ⟨Nat.le_of_ble_eq_true rfl, Nat.le_of_ble_eq_true rfl⟩ hl.1 rfl (Nat.le_of_ble_eq_true rfl) d_Tok_name_87 ⟨Nat.le_of_ble_eq_true rfl, Nat.le_of_ble_eq_true rfl⟩) hw hA (fun v56 p55 H locs hp55 hw => ?_)
              obtain ⟨rfl, e57, e58, e59, e60⟩ := hp55
              have e57 : -1 ≤ v56.toInt := e57
              have e58 : v56.toInt ≤ 255 := e58
              have e59 : 0 ≤ v56.toInt → 0 ≤ z54.toInt ∧ z54.toInt < (f_23 7).toInt := e59
              have e60 : By tb (f_23 7) z54 v56 := e60
              have lv56 := Int32.le_toInt v56
              have uv56 := Int32.toInt_lt v56
              refine lv_istore_n (lv' := [(3, .int v56), (2, .int z52), (0, .ref h), (1, .int x23_1)]) S.x S.b d_Tok_name_90 rfl hl (by decide) rfl (fun ls hl => ?_)
              refine lv_goto (tgt := 23) S.x S.b d_Tok_name_91 (by decide) ?_
              first | exact ih23 (upd f_23 8 z54) a_23 x23_1 z52 v56 _ _ ls (show TokOk (f_23 7) z54 (f_23 10) (f_23 11) (f_23 12) (f_23 13) (f_23 17) (a_23 4) from ⟨⟨o1, o2⟩, ⟨(oz_b3b25f0e49 tz54 o3), (oz_b18b803a23 nc16 tz54)⟩, ⟨o5, o6⟩, ⟨o7, o8⟩, ⟨o9, o10⟩, ⟨o11, o12⟩, o13, hn4⟩) (show (f_23 7).toInt = (f 7).toInt from k23_0) (show (f_23 10).toInt = (f 10).toInt from k23_1) (show (f_23 15).toInt = (f 15).toInt from k23_2) (show (f 8).toInt ≤ z54.toInt from (oz_c086c81b49 hgo tz54)) (show z54.toInt ≤ (f_23 7).toInt from (oz_7eb37145d2 nc16 tz54)) (show 0 ≤ x23_1.toInt from k23_5) (show x23_1.toInt ≤ 1000 + 24 * ((f_23 11).toInt - 1) from k23_6) (show 0 ≤ z52.toInt from (oz_ae613611c0 tz52 k23_7)) (show z52.toInt ≤ z54.toInt from (oz_122b8b9fb7 tz52 tz54 k23_8)) (show Q5 (a_23 5) from hq5) (show Nm0 tb (f 8) z54 v56 from (by first | (right; exact ⟨rfl, by assumption⟩) | (left; omega) | exact Or.inr ⟨rfl, (show By _ _ _ _ by assumption) (by omega) (by omega)⟩)) (show (f_23 7).toInt+9-z54.toInt < (n_23 : Int) from (oz_c735cfbd81 hm tz54)) hw (lv_sub hl [2, 3, 1, 0] rfl) | exact ih23 (upd f_23 8 z54) a_23 x23_1 z52 v56 _ _ ls (show TokOk (f_23 7) z54 (f_23 10) (f_23 11) (f_23 12) (f_23 13) (f_23 17) (a_23 4) from ⟨⟨by first | exact o1 | omega, by first | exact o2 | omega⟩, ⟨by first | exact oz_b3b25f0e49 tz54 o3 | omega, by first | exact oz_b18b803a23 nc16 tz54 | omega⟩, ⟨by first | exact o5 | omega, by first | exact o6 | omega⟩, ⟨by first | exact o7 | omega, by first | exact o8 | omega⟩, ⟨by first | exact o9 | omega, by first | exact o10 | omega⟩, ⟨by first | exact o11 | omega, by first | exact o12 | omega⟩, by first | exact o13 | omega, hn4⟩) (show (f_23 7).toInt = (f 7).toInt from by first | exact k23_0 | omega) (show (f_23 10).toInt = (f 10).toInt from by first | exact k23_1 | omega) (show (f_23 15).toInt = (f 15).toInt from by first | exact k23_2 | omega) (show (f 8).toInt ≤ z54.toInt from by first | exact oz_c086c81b49 hgo tz54 | omega) (show z54.toInt ≤ (f_23 7).toInt from by first | exact oz_7eb37145d2 nc16 tz54 | omega) (show 0 ≤ x23_1.toInt from by first | exact k23_5 | omega) (show x23_1.toInt ≤ 1000 + 24 * ((f_23 11).toInt - 1) from by first | exact k23_6 | omega) (show 0 ≤ z52.toInt from by first | exact oz_ae613611c0 tz52 k23_7 | omega) (show z52.toInt ≤ z54.toInt from by first | exact oz_122b8b9fb7 tz52 tz54 k23_8 | omega) (show Q5 (a_23 5) from hq5) (show Nm0 tb (f 8) z54 v56 from (by first | (right; exact ⟨rfl, by assumption⟩) | (left; omega) | exact Or.inr ⟨rfl, (show By _ _ _ _ by assumption) (by omega) (by omega)⟩)) (show (f_23 7).toInt+9-z54.toInt < (n_23 : Int) from by first | exact oz_c735cfbd81 hm tz54 | omega) hw (lv_sub hl [2, 3, 1, 0] rfl)
            · have nc51 : ¬ (2181 : Int) ≤ z50.toInt := mt (i_le (x := 2181) (y := z50)).mpr c51
              refine lv_aload_n S.x S.b d_Tok_name_59 rfl (lv_at hl 0 rfl) ?_
              refine px_get S k_Tok hT hw 0 0 3 (v := .ref (r 3)) rfl rfl rfl (by decide) m1_106 d_Tok_name_60 ?_
              refine lv_iload_n S.x S.b d_Tok_name_63 rfl (lv_at hl 1 rfl) ?_
              refine lv_iload_n S.x S.b d_Tok_name_64 rfl (lv_at hl 2 rfl) ?_
              refine lv_iadd S.x S.b d_Tok_name_65 ?_
              refine lv_topi (fun z61 ez61 => ?_)
              have tz61 : z61.toInt = (x23_1.toInt + x23_2.toInt + 2147483648) % 4294967296 - 2147483648 := by rw [ez61]; exact i_add x23_1 x23_2
              have lz61 := Int32.le_toInt z61
              have uz61 := Int32.toInt_lt z61
              try replace tz61 : z61.toInt = x23_1.toInt + x23_2.toInt := by omega
              refine lv_iload_n S.x S.b d_Tok_name_66 rfl (lv_at hl 3 rfl) ?_
              refine lv_i2c S.x S.b d_Tok_name_67 rfl ?_
              refine lv_topi (fun z62 ez62 => ?_)
              have lz62 := Int32.le_toInt z62
              have uz62 := Int32.toInt_lt z62
              refine px_cast S hT hw 0 4 (n := 2181) (f := (a_23 3)) (x := z61) (y := z62) rfl (ga_Tok_3 _ _ _ _ _ _ _) (vp_in_iff.mpr (by constructor <;> omega)) d_Tok_name_68 (w' := wd_Tok cs h r (fun _ => some tp) f_23 (va_up a_23 3 (upd (a_23 3) z61.toNatClampNeg (vp_nar .char z62))) g) (ps' := [wd_Tok cs h r (fun _ => some tp) f_23 (va_up a_23 3 (upd (a_23 3) z61.toNatClampNeg (vp_nar .char z62))) g, [(tp, .inl (cs 1, 2048, .inl tb))]]) (sa_Tok_3 _ _ _ _ _ _ _ _) rfl (fun H locs hw => ?_)
              obtain ⟨z63, ez63⟩ : ∃ y : Int32, y = x23_2 + 1 := ⟨_, rfl⟩
              have tz63 : z63.toInt = (x23_2.toInt + 1 + 2147483648) % 4294967296 - 2147483648 := by rw [ez63]; exact i_add x23_2 1
              have lz63 := Int32.le_toInt z63
              have uz63 := Int32.toInt_lt z63
              try replace tz63 : z63.toInt = x23_2.toInt + 1 := by omega
              refine lv_iinc (v := z63) (lv' := [(2, .int z63), (0, .ref h), (1, .int x23_1), (3, .int x23_3)]) S.x S.b d_Tok_name_69 hl (k := 2) rfl (by rw [ez63]; rfl) (by decide) rfl (fun ls hl => ?_)
              refine lv_aload_n S.x S.b d_Tok_name_72 rfl (lv_at hl 1 rfl) ?_
              refine lv_dup S.x S.b d_Tok_name_73 rfl ?_
              refine px_get S k_Tok hT hw 0 0 8 (v := .int (f_23 8)) rfl rfl rfl (by decide) m1_111 d_Tok_name_74 ?_
              refine lv_iconst (v := 1) S.x S.b d_Tok_name_77 (by decide) ?_
              refine lv_iadd S.x S.b d_Tok_name_78 ?_
              have lr64 := Int32.le_toInt (f_23 8)
              have ur64 := Int32.toInt_lt (f_23 8)
              refine lv_topi (fun z65 ez65 => ?_)
              have tz65 : z65.toInt = ((f_23 8).toInt + (1 : Int) + 2147483648) % 4294967296 - 2147483648 := by rw [ez65]; exact i_add (f_23 8) 1
              have lz65 := Int32.le_toInt z65
              have uz65 := Int32.toInt_lt z65
              try replace tz65 : z65.toInt = (f_23 8).toInt + (1 : Int) := by omega
              refine px_put S k_Tok hT hw 0 0 8 rfl rfl (by decide) m1_111 rfl rfl rfl (Nat.le_of_ble_eq_true rfl) d_Tok_name_79 (w' := wd_Tok cs h r (fun _ => some tp) (upd f_23 8 z65) (va_up a_23 3 (upd (a_23 3) z61.toNatClampNeg (vp_nar .char z62))) g) (ps' := [wd_Tok cs h r (fun _ => some tp) (upd f_23 8 z65) (va_up a_23 3 (upd (a_23 3) z61.toNatClampNeg (vp_nar .char z62))) g, [(tp, .inl (cs 1, 2048, .inl tb))]]) rfl rfl (fun H locs hw => ?_)
              refine lv_aload_n S.x S.b d_Tok_name_82 rfl (lv_at hl 1 rfl) ?_
              refine lv_aload_n S.x S.b d_Tok_name_83 rfl (lv_at hl 1 rfl) ?_
              refine px_get S k_Tok hT hw 0 0 8 (v := .int z65) rfl rfl rfl (by decide) m1_111 d_Tok_name_84 ?_
              first | refine px_calli (pr := []) (px_runV (As := [.int z65]) (rest := []) S (c_t2_byteAt l D cs h r tp tb g (upd f_23 8 z65) (va_up a_23 3 (upd (a_23 3) z61.toNatClampNeg (vp_nar .char z62))) z65  (show TokOk (f_23 7) z65 (f_23 10) (f_23 11) (f_23 12) (f_23 13) (f_23 17) ((va_up a_23 3 (upd (a_23 3) z61.toNatClampNeg (vp_nar .char z62))) 4) from ⟨⟨o1, o2⟩, ⟨(oz_b3b25f0e49 tz65 o3), (oz_b18b803a23 nc16 tz65)⟩, ⟨o5, o6⟩, ⟨o7, o8⟩, ⟨o9, o10⟩, ⟨o11, o12⟩, o13, (by rw [va_up_n (by decide)]; exact hn4)⟩) _) hT (pr := []) (pcs := [wd_Tok cs h r (fun _ => some tp) (upd f_23 8 z65) (va_up a_23 3 (upd (a_23 3) z61.toNatClampNeg (vp_nar .char z62))) g, [(tp, .inl (cs 1, 2048, .inl tb))]]) hw px_X.tt (px_recv hT hw 0 0 rfl rfl rfl) m3_186 m3_183 m3_185 ms_1_6 m1_2 q_Tok_byteAt ⟨Nat.le_of_ble_eq_true rfl, Nat.le_of_ble_eq_true rfl⟩ hl.1 rfl (Nat.le_of_ble_eq_true rfl) d_Tok_name_87 ⟨Nat.le_of_ble_eq_true rfl, Nat.le_of_ble_eq_true rfl⟩) hw hA (fun v67 p66 H locs hp66 hw => ?_) | refine px_calli (pr := []) (px_runV (As := [.int z65]) (rest := []) S (c_t2_byteAt l D cs h r tp tb g (upd f_23 8 z65) (va_up a_23 3 (upd (a_23 3) z61.toNatClampNeg (vp_nar .char z62))) z65  (show TokOk (f_23 7) z65 (f_23 10) (f_23 11) (f_23 12) (f_23 13) (f_23 17) ((va_up a_23 3 (upd (a_23 3) z61.toNatClampNeg (vp_nar .char z62))) 4) from ⟨⟨by first | exact o1 | omega, by first | exact o2 | omega⟩, ⟨by first | exact oz_b3b25f0e49 tz65 o3 | omega, by first | exact oz_b18b803a23 nc16 tz65 | omega⟩, ⟨by first | exact o5 | omega, by first | exact o6 | omega⟩, ⟨by first | exact o7 | omega, by first | exact o8 | omega⟩, ⟨by first | exact o9 | omega, by first | exact o10 | omega⟩, ⟨by first | exact o11 | omega, by first | exact o12 | omega⟩, by first | exact o13 | omega, (by rw [va_up_n (by decide)]; exact hn4)⟩) _) hT (pr := []) (pcs := [wd_Tok cs h r (fun _ => some tp) (upd f_23 8 z65) (va_up a_23 3 (upd (a_23 3) z61.toNatClampNeg (vp_nar .char z62))) g, [(tp, .inl (cs 1, 2048, .inl tb))]]) hw px_X.tt (px_recv hT hw 0 0 rfl rfl rfl) m3_186 m3_183 m3_185 ms_1_6 m1_2 q_Tok_byteAt ⟨Nat.le_of_ble_eq_true rfl, Nat.le_of_ble_eq_true rfl⟩ hl.1 rfl (Nat.le_of_ble_eq_true rfl) d_Tok_name_87 ⟨Nat.le_of_ble_eq_true rfl, Nat.le_of_ble_eq_true rfl⟩) hw hA (fun v67 p66 H locs hp66 hw => ?_)
              obtain ⟨rfl, e68, e69, e70, e71⟩ := hp66
              have e68 : -1 ≤ v67.toInt := e68
              have e69 : v67.toInt ≤ 255 := e69
              have e70 : 0 ≤ v67.toInt → 0 ≤ z65.toInt ∧ z65.toInt < (f_23 7).toInt := e70
              have e71 : By tb (f_23 7) z65 v67 := e71
              have lv67 := Int32.le_toInt v67
              have uv67 := Int32.toInt_lt v67
              refine lv_istore_n (lv' := [(3, .int v67), (2, .int z63), (0, .ref h), (1, .int x23_1)]) S.x S.b d_Tok_name_90 rfl hl (by decide) rfl (fun ls hl => ?_)
              refine lv_goto (tgt := 23) S.x S.b d_Tok_name_91 (by decide) ?_
              first | exact ih23 (upd f_23 8 z65) (va_up a_23 3 (upd (a_23 3) z61.toNatClampNeg (vp_nar .char z62))) x23_1 z63 v67 _ _ ls (show TokOk (f_23 7) z65 (f_23 10) (f_23 11) (f_23 12) (f_23 13) (f_23 17) ((va_up a_23 3 (upd (a_23 3) z61.toNatClampNeg (vp_nar .char z62))) 4) from ⟨⟨o1, o2⟩, ⟨(oz_b3b25f0e49 tz65 o3), (oz_b18b803a23 nc16 tz65)⟩, ⟨o5, o6⟩, ⟨o7, o8⟩, ⟨o9, o10⟩, ⟨o11, o12⟩, o13, (by rw [va_up_n (by decide)]; exact hn4)⟩) (show (f_23 7).toInt = (f 7).toInt from k23_0) (show (f_23 10).toInt = (f 10).toInt from k23_1) (show (f_23 15).toInt = (f 15).toInt from k23_2) (show (f 8).toInt ≤ z65.toInt from (oz_c086c81b49 hgo tz65)) (show z65.toInt ≤ (f_23 7).toInt from (oz_7eb37145d2 nc16 tz65)) (show 0 ≤ x23_1.toInt from k23_5) (show x23_1.toInt ≤ 1000 + 24 * ((f_23 11).toInt - 1) from k23_6) (show 0 ≤ z63.toInt from (oz_ae613611c0 tz63 k23_7)) (show z63.toInt ≤ z65.toInt from (oz_122b8b9fb7 tz63 tz65 k23_8)) (show Q5 ((va_up a_23 3 (upd (a_23 3) z61.toNatClampNeg (vp_nar .char z62))) 5) from (by rw [va_up_n (by decide)]; exact hq5)) (show Nm0 tb (f 8) z65 v67 from (by first | (right; exact ⟨rfl, by assumption⟩) | (left; omega) | exact Or.inr ⟨rfl, (show By _ _ _ _ by assumption) (by omega) (by omega)⟩)) (show (f_23 7).toInt+9-z65.toInt < (n_23 : Int) from (oz_c735cfbd81 hm tz65)) hw (lv_sub hl [2, 3, 1, 0] rfl) | exact ih23 (upd f_23 8 z65) (va_up a_23 3 (upd (a_23 3) z61.toNatClampNeg (vp_nar .char z62))) x23_1 z63 v67 _ _ ls (show TokOk (f_23 7) z65 (f_23 10) (f_23 11) (f_23 12) (f_23 13) (f_23 17) ((va_up a_23 3 (upd (a_23 3) z61.toNatClampNeg (vp_nar .char z62))) 4) from ⟨⟨by first | exact o1 | omega, by first | exact o2 | omega⟩, ⟨by first | exact oz_b3b25f0e49 tz65 o3 | omega, by first | exact oz_b18b803a23 nc16 tz65 | omega⟩, ⟨by first | exact o5 | omega, by first | exact o6 | omega⟩, ⟨by first | exact o7 | omega, by first | exact o8 | omega⟩, ⟨by first | exact o9 | omega, by first | exact o10 | omega⟩, ⟨by first | exact o11 | omega, by first | exact o12 | omega⟩, by first | exact o13 | omega, (by rw [va_up_n (by decide)]; exact hn4)⟩) (show (f_23 7).toInt = (f 7).toInt from by first | exact k23_0 | omega) (show (f_23 10).toInt = (f 10).toInt from by first | exact k23_1 | omega) (show (f_23 15).toInt = (f 15).toInt from by first | exact k23_2 | omega) (show (f 8).toInt ≤ z65.toInt from by first | exact oz_c086c81b49 hgo tz65 | omega) (show z65.toInt ≤ (f_23 7).toInt from by first | exact oz_7eb37145d2 nc16 tz65 | omega) (show 0 ≤ x23_1.toInt from by first | exact k23_5 | omega) (show x23_1.toInt ≤ 1000 + 24 * ((f_23 11).toInt - 1) from by first | exact k23_6 | omega) (show 0 ≤ z63.toInt from by first | exact oz_ae613611c0 tz63 k23_7 | omega) (show z63.toInt ≤ z65.toInt from by first | exact oz_122b8b9fb7 tz63 tz65 k23_8 | omega) (show Q5 ((va_up a_23 3 (upd (a_23 3) z61.toNatClampNeg (vp_nar .char z62))) 5) from (by rw [va_up_n (by decide)]; exact hq5)) (show Nm0 tb (f 8) z65 v67 from (by first | (right; exact ⟨rfl, by assumption⟩) | (left; omega) | exact Or.inr ⟨rfl, (show By _ _ _ _ by assumption) (by omega) (by omega)⟩)) (show (f_23 7).toInt+9-z65.toInt < (n_23 : Int) from by first | exact oz_c735cfbd81 hm tz65 | omega) hw (lv_sub hl [2, 3, 1, 0] rfl)
  refine lv_aload_n S.x S.b d_Tok_name_0 rfl (lv_at hl 0 rfl) ?_
  refine px_get S k_Tok hT hw 0 0 4 (v := .ref (r 4)) rfl rfl rfl (by decide) m1_107 d_Tok_name_1 ?_
  refine lv_aload_n S.x S.b d_Tok_name_4 rfl (lv_at hl 0 rfl) ?_
  refine px_get S k_Tok hT hw 0 0 11 (v := .int (f 11)) rfl rfl rfl (by decide) m1_114 d_Tok_name_5 ?_
  refine lv_iconst (v := 1) S.x S.b d_Tok_name_8 (by decide) ?_
  refine lv_isub S.x S.b d_Tok_name_9 ?_
  have lr72 := Int32.le_toInt (f 11)
  have ur72 := Int32.toInt_lt (f 11)
  refine lv_topi (fun z73 ez73 => ?_)
  have tz73 : z73.toInt = ((f 11).toInt - (1 : Int) + 2147483648) % 4294967296 - 2147483648 := by rw [ez73]; exact i_sub (f 11) 1
  have lz73 := Int32.le_toInt z73
  have uz73 := Int32.toInt_lt z73
  try replace tz73 : z73.toInt = (f 11).toInt - (1 : Int) := by omega
  refine px_iald S hT hw 0 5 (n := 2074) (f := (a 4)) rfl (ga_Tok_4 _ _ _ _ _ _ _) (x := z73) (vp_in_iff.mpr (by first | exact oz_b62fa091b7 tz73 o7 o8 | (constructor <;> omega))) d_Tok_name_10 ?_
  refine lv_topi (fun z74 ez74 => ?_)
  have lz74 := Int32.le_toInt z74
  have uz74 := Int32.toInt_lt z74
  have rz74 := n4_at hn4 (x := z73) (by omega) ez74
  refine lv_istore_n (lv' := [(1, .int z74), (0, .ref h)]) S.x S.b d_Tok_name_11 rfl hl (by decide) rfl (fun ls hl => ?_)
  refine lv_iconst (v := 0) S.x S.b d_Tok_name_12 (by decide) ?_
  refine lv_istore_n (lv' := [(2, .int 0), (1, .int z74), (0, .ref h)]) S.x S.b d_Tok_name_13 rfl hl (by decide) rfl (fun ls hl => ?_)
  refine lv_aload_n S.x S.b d_Tok_name_14 rfl (lv_at hl 2 rfl) ?_
  refine lv_aload_n S.x S.b d_Tok_name_15 rfl (lv_at hl 2 rfl) ?_
  refine px_get S k_Tok hT hw 0 0 8 (v := .int (f 8)) rfl rfl rfl (by decide) m1_111 d_Tok_name_16 ?_
  first | refine px_calli (pr := []) (px_runV (As := [.int (f 8)]) (rest := []) S (c_t2_byteAt l D cs h r tp tb g f a (f 8)  (show TokOk (f 7) (f 8) (f 10) (f 11) (f 12) (f 13) (f 17) (a 4) from ⟨⟨o1, o2⟩, ⟨o3, o4⟩, ⟨o5, o6⟩, ⟨o7, o8⟩, ⟨o9, o10⟩, ⟨o11, o12⟩, o13, hn4⟩) _) hT (pr := []) (pcs := [wd_Tok cs h r (fun _ => some tp) f a g, [(tp, .inl (cs 1, 2048, .inl tb))]]) hw px_X.tt (px_recv hT hw 0 0 rfl rfl rfl) m3_186 m3_183 m3_185 ms_1_6 m1_2 q_Tok_byteAt ⟨Nat.le_of_ble_eq_true rfl, Nat.le_of_ble_eq_true rfl⟩ hl.1 rfl (Nat.le_of_ble_eq_true rfl) d_Tok_name_19 ⟨Nat.le_of_ble_eq_true rfl, Nat.le_of_ble_eq_true rfl⟩) hw hA (fun v76 p75 H locs hp75 hw => ?_) | refine px_calli (pr := []) (px_runV (As := [.int (f 8)]) (rest := []) S (c_t2_byteAt l D cs h r tp tb g f a (f 8)  (show TokOk (f 7) (f 8) (f 10) (f 11) (f 12) (f 13) (f 17) (a 4) from ⟨⟨by first | exact o1 | omega, by first | exact o2 | omega⟩, ⟨by first | exact o3 | omega, by first | exact o4 | omega⟩, ⟨by first | exact o5 | omega, by first | exact o6 | omega⟩, ⟨by first | exact o7 | omega, by first | exact o8 | omega⟩, ⟨by first | exact o9 | omega, by first | exact o10 | omega⟩, ⟨by first | exact o11 | omega, by first | exact o12 | omega⟩, by first | exact o13 | omega, hn4⟩) _) hT (pr := []) (pcs := [wd_Tok cs h r (fun _ => some tp) f a g, [(tp, .inl (cs 1, 2048, .inl tb))]]) hw px_X.tt (px_recv hT hw 0 0 rfl rfl rfl) m3_186 m3_183 m3_185 ms_1_6 m1_2 q_Tok_byteAt ⟨Nat.le_of_ble_eq_true rfl, Nat.le_of_ble_eq_true rfl⟩ hl.1 rfl (Nat.le_of_ble_eq_true rfl) d_Tok_name_19 ⟨Nat.le_of_ble_eq_true rfl, Nat.le_of_ble_eq_true rfl⟩) hw hA (fun v76 p75 H locs hp75 hw => ?_)
  obtain ⟨rfl, e77, e78, e79, e80⟩ := hp75
  have e77 : -1 ≤ v76.toInt := e77
  have e78 : v76.toInt ≤ 255 := e78
  have e79 : 0 ≤ v76.toInt → 0 ≤ (f 8).toInt ∧ (f 8).toInt < (f 7).toInt := e79
  have e80 : By tb (f 7) (f 8) v76 := e80
  have lv76 := Int32.le_toInt v76
  have uv76 := Int32.toInt_lt v76
  refine lv_istore_n (lv' := [(3, .int v76), (2, .int 0), (1, .int z74), (0, .ref h)]) S.x S.b d_Tok_name_22 rfl hl (by decide) rfl (fun ls hl => ?_)
  first | exact J23 (((f 7).toInt+9-(f 8).toInt).toNat + 1) f a z74 (0 : Int32) v76 _ _ ls (show TokOk (f 7) (f 8) (f 10) (f 11) (f 12) (f 13) (f 17) (a 4) from ⟨⟨o1, o2⟩, ⟨o3, o4⟩, ⟨o5, o6⟩, ⟨o7, o8⟩, ⟨o9, o10⟩, ⟨o11, o12⟩, o13, hn4⟩) (show (f 7).toInt = (f 7).toInt from rfl) (show (f 10).toInt = (f 10).toInt from rfl) (show (f 15).toInt = (f 15).toInt from rfl) (show (f 8).toInt ≤ (f 8).toInt from oz_1cb5f934a5) (show (f 8).toInt ≤ (f 7).toInt from (oz_f675372ee2 g0)) (show 0 ≤ z74.toInt from rz74.1) (show z74.toInt ≤ 1000 + 24 * ((f 11).toInt - 1) from (oz_d72d579ea5 tz73 rz74.2)) (show 0 ≤ (0 : Int) from by first | decide | omega) (show (0 : Int) ≤ (f 8).toInt from (oz_50c21e157e o3)) (show Q5 (a 5) from hq5) (show Nm0 tb (f 8) (f 8) v76 from (by first | (right; exact ⟨rfl, by assumption⟩) | (left; omega) | exact Or.inr ⟨rfl, (show By _ _ _ _ by assumption) (by omega) (by omega)⟩)) (show (f 7).toInt+9-(f 8).toInt < (((((f 7).toInt+9-(f 8).toInt).toNat + 1 : Nat) : Int) : Int) from oz_natlt) hw (lv_sub hl [3, 2, 1, 0] rfl) | exact J23 (((f 7).toInt+9-(f 8).toInt).toNat + 1) f a z74 (0 : Int32) v76 _ _ ls (show TokOk (f 7) (f 8) (f 10) (f 11) (f 12) (f 13) (f 17) (a 4) from ⟨⟨by first | exact o1 | omega, by first | exact o2 | omega⟩, ⟨by first | exact o3 | omega, by first | exact o4 | omega⟩, ⟨by first | exact o5 | omega, by first | exact o6 | omega⟩, ⟨by first | exact o7 | omega, by first | exact o8 | omega⟩, ⟨by first | exact o9 | omega, by first | exact o10 | omega⟩, ⟨by first | exact o11 | omega, by first | exact o12 | omega⟩, by first | exact o13 | omega, hn4⟩) (show (f 7).toInt = (f 7).toInt from rfl) (show (f 10).toInt = (f 10).toInt from rfl) (show (f 15).toInt = (f 15).toInt from rfl) (show (f 8).toInt ≤ (f 8).toInt from by first | exact oz_1cb5f934a5 | omega) (show (f 8).toInt ≤ (f 7).toInt from by first | exact oz_f675372ee2 g0 | omega) (show 0 ≤ z74.toInt from by first | exact rz74.1 | omega) (show z74.toInt ≤ 1000 + 24 * ((f 11).toInt - 1) from by first | exact oz_d72d579ea5 tz73 rz74.2 | omega) (show 0 ≤ (0 : Int) from by first | decide | omega) (show (0 : Int) ≤ (f 8).toInt from by first | exact oz_50c21e157e o3 | omega) (show Q5 (a 5) from hq5) (show Nm0 tb (f 8) (f 8) v76 from (by first | (right; exact ⟨rfl, by assumption⟩) | (left; omega) | exact Or.inr ⟨rfl, (show By _ _ _ _ by assumption) (by omega) (by omega)⟩)) (show (f 7).toInt+9-(f 8).toInt < (((((f 7).toInt+9-(f 8).toInt).toNat + 1 : Nat) : Int) : Int) from by first | exact oz_natlt | omega) hw (lv_sub hl [3, 2, 1, 0] rfl)
set_option maxHeartbeats 4000000 in
set_option maxRecDepth 100000 in
theorem c_t2_number (l : Launch) (D : va_G) (cs : Nat → ClassId) (h : Nat) (r : Nat → Nat) (tp : Nat) (tb : Nat → Int32) (g : Nat → Nat → Option Nat) (f : Nat → Int32) (a : Nat → Nat → Int32)  (hinv0 : TokOk (f 7) (f 8) (f 10) (f 11) (f 12) (f 13) (f 17) (a 4)) (hq5 : Q5 (a 5)) : MetI l y_Tok_number b_Tok_number 8 (.int) D cs 2 60 (0) (0) [.ref h] [wd_Tok cs h r (fun _ => some tp) f a g, [(tp, .inl (cs 1, 2048, .inl tb))]] (fun _ => True) (fun v ps => ∃ (f' : Nat → Int32) (a' : Nat → Nat → Int32), (ps = [wd_Tok cs h r (fun _ => some tp) f' a' g, [(tp, .inl (cs 1, 2048, .inl tb))]]) ∧ (TokOk (f' 7) (f' 8) (f' 10) (f' 11) (f' 12) (f' 13) (f' 17) (a' 4)) ∧ ((f' 7).toInt = (f 7).toInt) ∧ ((f' 10).toInt = (f 10).toInt) ∧ ((f' 15).toInt = (f 15).toInt) ∧ (v.toInt = 19 ∨ (f 8).toInt + 1 ≤ (f' 8).toInt) ∧ (Q5 (a' 5))) := by
  refine px_enter (by decide) (Nat.le_of_ble_eq_true rfl) ?_
  intro p e s m below meth c A ls hAe S hr hlk hnm hA hT hX hw hl
  have hl : lv_has ls 8 [(0, .ref h)] := hl
  have cst0 : (0 : Int32).toInt = 0 := rfl
  have cst1 : (1 : Int32).toInt = 1 := rfl
  have cst2 : (2 : Int32).toInt = 2 := rfl
  have cst8 : (8 : Int32).toInt = 8 := rfl
  have cst10 : (10 : Int32).toInt = 10 := rfl
  have cst16 : (16 : Int32).toInt = 16 := rfl
  have cst17 : (17 : Int32).toInt = 17 := rfl
  have cst19 : (19 : Int32).toInt = 19 := rfl
  have cst48 : (48 : Int32).toInt = 48 := rfl
  have cst120 : (120 : Int32).toInt = 120 := rfl
  obtain ⟨⟨o1, o2⟩, ⟨o3, o4⟩, ⟨o5, o6⟩, ⟨o7, o8⟩, ⟨o9, o10⟩, ⟨o11, o12⟩, o13, hn4⟩ := hinv0
  have J89 : ∀ (n_89 : Nat) (f_89 : Nat → Int32) (a_89 : Nat → Nat → Int32) (x89_2 x89_3 x89_4 x89_7 : Int32) (x89_5 : Int64) (H : Heap) (locs : List Loc) (ls : Array Slot), (TokOk (f_89 7) (f_89 8) (f_89 10) (f_89 11) (f_89 12) (f_89 13) (f_89 17) (a_89 4)) → ((f_89 7).toInt = (f 7).toInt) → ((f_89 10).toInt = (f 10).toInt) → ((f_89 15).toInt = (f 15).toInt) → (0 ≤ x89_4.toInt) → ((f 8).toInt + x89_4.toInt ≤ (f_89 8).toInt) → (Q5 (a_89 5)) → (f_89 7).toInt+9-(f_89 8).toInt < (n_89 : Int) → pw D A s.heap H locs [wd_Tok cs h r (fun _ => some tp) f_89 a_89 g, [(tp, .inl (cs 1, 2048, .inl tb))]] → lv_has ls 8 [(0, .ref h), (2, .int x89_2), (3, .int x89_3), (4, .int x89_4), (7, .int x89_7), (5, .long x89_5)] → W p l e { frames := 2, cells := 0, slots := 0, locals := 60 } s m [.ref h].toArray below meth c H locs 0 0 (MQ below (va_Qi (fun v ps => ∃ (f' : Nat → Int32) (a' : Nat → Nat → Int32), (ps = [wd_Tok cs h r (fun _ => some tp) f' a' g, [(tp, .inl (cs 1, 2048, .inl tb))]]) ∧ (TokOk (f' 7) (f' 8) (f' 10) (f' 11) (f' 12) (f' 13) (f' 17) (a' 4)) ∧ ((f' 7).toInt = (f 7).toInt) ∧ ((f' 10).toInt = (f 10).toInt) ∧ ((f' 15).toInt = (f 15).toInt) ∧ (v.toInt = 19 ∨ (f 8).toInt + 1 ≤ (f' 8).toInt) ∧ (Q5 (a' 5))) (pc_B D (va_A ([wd_Tok cs h r (fun _ => some tp) f a g, [(tp, .inl (cs 1, 2048, .inl tb))]] : List va_W).flatten s.heap.size)) (va_A ([wd_Tok cs h r (fun _ => some tp) f a g, [(tp, .inl (cs 1, 2048, .inl tb))]] : List va_W).flatten s.heap.size)) [.ref h].toArray s 0 0 A) (F0 m 89 ls []) := by
    intro n_89
    induction n_89 with
    | zero =>
      intro f_89 a_89 x89_2 x89_3 x89_4 x89_7 x89_5 H locs ls hi89_0 k89_0 k89_1 k89_2 k89_3 k89_4 k89_5 hm hw hl
      obtain ⟨⟨o1, o2⟩, ⟨o3, o4⟩, ⟨o5, o6⟩, ⟨o7, o8⟩, ⟨o9, o10⟩, ⟨o11, o12⟩, o13, hn4⟩ := hi89_0
      have lx89_2 := Int32.le_toInt x89_2
      have ux89_2 := Int32.toInt_lt x89_2
      have lx89_3 := Int32.le_toInt x89_3
      have ux89_3 := Int32.toInt_lt x89_3
      have lx89_4 := Int32.le_toInt x89_4
      have ux89_4 := Int32.toInt_lt x89_4
      have lx89_7 := Int32.le_toInt x89_7
      have ux89_7 := Int32.toInt_lt x89_7
      have hq5 := k89_5
      exact absurd hm (by omega)
    | succ n_89 ih89 =>
      intro f_89 a_89 x89_2 x89_3 x89_4 x89_7 x89_5 H locs ls hi89_0 k89_0 k89_1 k89_2 k89_3 k89_4 k89_5 hm hw hl
      obtain ⟨⟨o1, o2⟩, ⟨o3, o4⟩, ⟨o5, o6⟩, ⟨o7, o8⟩, ⟨o9, o10⟩, ⟨o11, o12⟩, o13, hn4⟩ := hi89_0
      have lx89_2 := Int32.le_toInt x89_2
      have ux89_2 := Int32.toInt_lt x89_2
      have lx89_3 := Int32.le_toInt x89_3
      have ux89_3 := Int32.toInt_lt x89_3
      have lx89_4 := Int32.le_toInt x89_4
      have ux89_4 := Int32.toInt_lt x89_4
      have lx89_7 := Int32.le_toInt x89_7
      have ux89_7 := Int32.toInt_lt x89_7
      have hq5 := k89_5
      refine lv_aload_n S.x S.b d_Tok_number_89 rfl (lv_at hl 0 rfl) ?_
      refine px_get S k_Tok hT hw 0 0 8 (v := .int (f_89 8)) rfl rfl rfl (by decide) m1_111 d_Tok_number_90 ?_
      refine lv_aload_n S.x S.b d_Tok_number_93 rfl (lv_at hl 0 rfl) ?_
      refine px_get S k_Tok hT hw 0 0 7 (v := .int (f_89 7)) rfl rfl rfl (by decide) m1_110 d_Tok_number_94 ?_
      refine lv_icmp_ge (tgt := 150) S.x S.b d_Tok_number_97 (by decide) (fun c1 => ?_) (fun c1 => ?_)
      · have nc1 : (f_89 7).toInt ≤ (f_89 8).toInt := (i_le (x := (f_89 7)) (y := (f_89 8))).mp c1
        refine lv_iload S.x S.b d_Tok_number_150 (lv_at hl 3 rfl) ?_
        refine lv_if_eq (tgt := 170) S.x S.b d_Tok_number_152 (by decide) (fun c2 => ?_) (fun c2 => ?_)
        · have nc2 : x89_4.toInt = (0 : Int) := (i_eq (x := x89_4) (y := 0)).mp c2
          refine lv_bipush (v := 19) S.x S.b d_Tok_number_170 (by decide) ?_
          first | exact px_iret (v := 19) S hr rfl hlk hAe hw (Nat.le_of_ble_eq_true rfl) (Nat.le_of_ble_eq_true rfl) (⟨f_89, a_89, rfl, (show TokOk (f_89 7) (f_89 8) (f_89 10) (f_89 11) (f_89 12) (f_89 13) (f_89 17) (a_89 4) from ⟨⟨o1, o2⟩, ⟨o3, o4⟩, ⟨o5, o6⟩, ⟨o7, o8⟩, ⟨o9, o10⟩, ⟨o11, o12⟩, o13, hn4⟩), (show (f_89 7).toInt = (f 7).toInt from k89_0), (show (f_89 10).toInt = (f 10).toInt from k89_1), (show (f_89 15).toInt = (f 15).toInt from k89_2), (show (19 : Int) = 19 ∨ (f 8).toInt + 1 ≤ (f_89 8).toInt from by first | with_reducible rfl | with_reducible assumption | omega), (show Q5 (a_89 5) from hq5)⟩) d_Tok_number_172 | exact px_iret (v := 19) S hr rfl hlk hAe hw (Nat.le_of_ble_eq_true rfl) (Nat.le_of_ble_eq_true rfl) (⟨f_89, a_89, rfl, (show TokOk (f_89 7) (f_89 8) (f_89 10) (f_89 11) (f_89 12) (f_89 13) (f_89 17) (a_89 4) from ⟨⟨by first | exact o1 | omega, by first | exact o2 | omega⟩, ⟨by first | exact o3 | omega, by first | exact o4 | omega⟩, ⟨by first | exact o5 | omega, by first | exact o6 | omega⟩, ⟨by first | exact o7 | omega, by first | exact o8 | omega⟩, ⟨by first | exact o9 | omega, by first | exact o10 | omega⟩, ⟨by first | exact o11 | omega, by first | exact o12 | omega⟩, by first | exact o13 | omega, hn4⟩), (show (f_89 7).toInt = (f 7).toInt from by first | exact k89_0 | omega), (show (f_89 10).toInt = (f 10).toInt from by first | exact k89_1 | omega), (show (f_89 15).toInt = (f 15).toInt from by first | exact k89_2 | omega), (show (19 : Int) = 19 ∨ (f 8).toInt + 1 ≤ (f_89 8).toInt from by first | with_reducible rfl | with_reducible assumption | omega), (show Q5 (a_89 5) from hq5)⟩) d_Tok_number_172
        · have nc2 : ¬ x89_4.toInt = (0 : Int) := mt (i_eq (x := x89_4) (y := 0)).mpr c2
          refine lv_iload S.x S.b d_Tok_number_155 (lv_at hl 3 rfl) ?_
          refine lv_iload_n S.x S.b d_Tok_number_157 rfl (lv_at hl 2 rfl) ?_
          refine lv_icmp_gt (tgt := 170) S.x S.b d_Tok_number_158 (by decide) (fun c3 => ?_) (fun c3 => ?_)
          · have nc3 : x89_3.toInt < x89_4.toInt := (i_lt (x := x89_3) (y := x89_4)).mp c3
            refine lv_bipush (v := 19) S.x S.b d_Tok_number_170 (by decide) ?_
            first | exact px_iret (v := 19) S hr rfl hlk hAe hw (Nat.le_of_ble_eq_true rfl) (Nat.le_of_ble_eq_true rfl) (⟨f_89, a_89, rfl, (show TokOk (f_89 7) (f_89 8) (f_89 10) (f_89 11) (f_89 12) (f_89 13) (f_89 17) (a_89 4) from ⟨⟨o1, o2⟩, ⟨o3, o4⟩, ⟨o5, o6⟩, ⟨o7, o8⟩, ⟨o9, o10⟩, ⟨o11, o12⟩, o13, hn4⟩), (show (f_89 7).toInt = (f 7).toInt from k89_0), (show (f_89 10).toInt = (f 10).toInt from k89_1), (show (f_89 15).toInt = (f 15).toInt from k89_2), (show (19 : Int) = 19 ∨ (f 8).toInt + 1 ≤ (f_89 8).toInt from by first | with_reducible rfl | with_reducible assumption | omega), (show Q5 (a_89 5) from hq5)⟩) d_Tok_number_172 | exact px_iret (v := 19) S hr rfl hlk hAe hw (Nat.le_of_ble_eq_true rfl) (Nat.le_of_ble_eq_true rfl) (⟨f_89, a_89, rfl, (show TokOk (f_89 7) (f_89 8) (f_89 10) (f_89 11) (f_89 12) (f_89 13) (f_89 17) (a_89 4) from ⟨⟨by first | exact o1 | omega, by first | exact o2 | omega⟩, ⟨by first | exact o3 | omega, by first | exact o4 | omega⟩, ⟨by first | exact o5 | omega, by first | exact o6 | omega⟩, ⟨by first | exact o7 | omega, by first | exact o8 | omega⟩, ⟨by first | exact o9 | omega, by first | exact o10 | omega⟩, ⟨by first | exact o11 | omega, by first | exact o12 | omega⟩, by first | exact o13 | omega, hn4⟩), (show (f_89 7).toInt = (f 7).toInt from by first | exact k89_0 | omega), (show (f_89 10).toInt = (f 10).toInt from by first | exact k89_1 | omega), (show (f_89 15).toInt = (f 15).toInt from by first | exact k89_2 | omega), (show (19 : Int) = 19 ∨ (f 8).toInt + 1 ≤ (f_89 8).toInt from by first | with_reducible rfl | with_reducible assumption | omega), (show Q5 (a_89 5) from hq5)⟩) d_Tok_number_172
          · have nc3 : ¬ x89_3.toInt < x89_4.toInt := mt (i_lt (x := x89_3) (y := x89_4)).mpr c3
            refine lv_lload S.x S.b d_Tok_number_161 (lv_at hl 5 rfl) ?_
            refine lv_ldc2 (v := 4294967295) S.x S.b S.own (S.w m3_225) d_Tok_number_163 ?_
            refine W.lcmp S.x S.b d_Tok_number_166 ?_
            refine lv_topi (fun z4 ez4 => ?_)
            have lz4 := Int32.le_toInt z4
            have uz4 := Int32.toInt_lt z4
            refine lv_if_le (tgt := 173) S.x S.b d_Tok_number_167 (by decide) (fun c5 => ?_) (fun c5 => ?_)
            · have nc5 : z4.toInt ≤ (0 : Int) := (i_le (x := z4) (y := 0)).mp c5
              refine lv_aload_n S.x S.b d_Tok_number_173 rfl (lv_at hl 0 rfl) ?_
              refine lv_lload S.x S.b d_Tok_number_174 (lv_at hl 5 rfl) ?_
              refine lv_l2i S.x S.b d_Tok_number_176 rfl ?_
              refine lv_topi (fun z6 ez6 => ?_)
              have lz6 := Int32.le_toInt z6
              have uz6 := Int32.toInt_lt z6
              refine px_put S k_Tok hT hw 0 0 9 rfl rfl (by decide) m1_112 rfl rfl rfl (Nat.le_of_ble_eq_true rfl) d_Tok_number_177 (w' := wd_Tok cs h r (fun _ => some tp) (upd f_89 9 z6) a_89 g) (ps' := [wd_Tok cs h r (fun _ => some tp) (upd f_89 9 z6) a_89 g, [(tp, .inl (cs 1, 2048, .inl tb))]]) rfl rfl (fun H locs hw => ?_)
              refine lv_bipush (v := 17) S.x S.b d_Tok_number_180 (by decide) ?_
              first | exact px_iret (v := 17) S hr rfl hlk hAe hw (Nat.le_of_ble_eq_true rfl) (Nat.le_of_ble_eq_true rfl) (⟨(upd f_89 9 z6), a_89, rfl, (show TokOk (f_89 7) (f_89 8) (f_89 10) (f_89 11) (f_89 12) (f_89 13) (f_89 17) (a_89 4) from ⟨⟨o1, o2⟩, ⟨o3, o4⟩, ⟨o5, o6⟩, ⟨o7, o8⟩, ⟨o9, o10⟩, ⟨o11, o12⟩, o13, hn4⟩), (show (f_89 7).toInt = (f 7).toInt from k89_0), (show (f_89 10).toInt = (f 10).toInt from k89_1), (show (f_89 15).toInt = (f 15).toInt from k89_2), (show (17 : Int) = 19 ∨ (f 8).toInt + 1 ≤ (f_89 8).toInt from by first | with_reducible rfl | with_reducible assumption | omega), (show Q5 (a_89 5) from hq5)⟩) d_Tok_number_182 | exact px_iret (v := 17) S hr rfl hlk hAe hw (Nat.le_of_ble_eq_true rfl) (Nat.le_of_ble_eq_true rfl) (⟨(upd f_89 9 z6), a_89, rfl, (show TokOk (f_89 7) (f_89 8) (f_89 10) (f_89 11) (f_89 12) (f_89 13) (f_89 17) (a_89 4) from ⟨⟨by first | exact o1 | omega, by first | exact o2 | omega⟩, ⟨by first | exact o3 | omega, by first | exact o4 | omega⟩, ⟨by first | exact o5 | omega, by first | exact o6 | omega⟩, ⟨by first | exact o7 | omega, by first | exact o8 | omega⟩, ⟨by first | exact o9 | omega, by first | exact o10 | omega⟩, ⟨by first | exact o11 | omega, by first | exact o12 | omega⟩, by first | exact o13 | omega, hn4⟩), (show (f_89 7).toInt = (f 7).toInt from by first | exact k89_0 | omega), (show (f_89 10).toInt = (f 10).toInt from by first | exact k89_1 | omega), (show (f_89 15).toInt = (f 15).toInt from by first | exact k89_2 | omega), (show (17 : Int) = 19 ∨ (f 8).toInt + 1 ≤ (f_89 8).toInt from by first | with_reducible rfl | with_reducible assumption | omega), (show Q5 (a_89 5) from hq5)⟩) d_Tok_number_182
            · have nc5 : ¬ z4.toInt ≤ (0 : Int) := mt (i_le (x := z4) (y := 0)).mpr c5
              refine lv_bipush (v := 19) S.x S.b d_Tok_number_170 (by decide) ?_
              first | exact px_iret (v := 19) S hr rfl hlk hAe hw (Nat.le_of_ble_eq_true rfl) (Nat.le_of_ble_eq_true rfl) (⟨f_89, a_89, rfl, (show TokOk (f_89 7) (f_89 8) (f_89 10) (f_89 11) (f_89 12) (f_89 13) (f_89 17) (a_89 4) from ⟨⟨o1, o2⟩, ⟨o3, o4⟩, ⟨o5, o6⟩, ⟨o7, o8⟩, ⟨o9, o10⟩, ⟨o11, o12⟩, o13, hn4⟩), (show (f_89 7).toInt = (f 7).toInt from k89_0), (show (f_89 10).toInt = (f 10).toInt from k89_1), (show (f_89 15).toInt = (f 15).toInt from k89_2), (show (19 : Int) = 19 ∨ (f 8).toInt + 1 ≤ (f_89 8).toInt from by first | with_reducible rfl | with_reducible assumption | omega), (show Q5 (a_89 5) from hq5)⟩) d_Tok_number_172 | exact px_iret (v := 19) S hr rfl hlk hAe hw (Nat.le_of_ble_eq_true rfl) (Nat.le_of_ble_eq_true rfl) (⟨f_89, a_89, rfl, (show TokOk (f_89 7) (f_89 8) (f_89 10) (f_89 11) (f_89 12) (f_89 13) (f_89 17) (a_89 4) from ⟨⟨by first | exact o1 | omega, by first | exact o2 | omega⟩, ⟨by first | exact o3 | omega, by first | exact o4 | omega⟩, ⟨by first | exact o5 | omega, by first | exact o6 | omega⟩, ⟨by first | exact o7 | omega, by first | exact o8 | omega⟩, ⟨by first | exact o9 | omega, by first | exact o10 | omega⟩, ⟨by first | exact o11 | omega, by first | exact o12 | omega⟩, by first | exact o13 | omega, hn4⟩), (show (f_89 7).toInt = (f 7).toInt from by first | exact k89_0 | omega), (show (f_89 10).toInt = (f 10).toInt from by first | exact k89_1 | omega), (show (f_89 15).toInt = (f 15).toInt from by first | exact k89_2 | omega), (show (19 : Int) = 19 ∨ (f 8).toInt + 1 ≤ (f_89 8).toInt from by first | with_reducible rfl | with_reducible assumption | omega), (show Q5 (a_89 5) from hq5)⟩) d_Tok_number_172
      · have nc1 : ¬ (f_89 7).toInt ≤ (f_89 8).toInt := mt (i_le (x := (f_89 7)) (y := (f_89 8))).mpr c1
        refine lv_iload S.x S.b d_Tok_number_100 (lv_at hl 4 rfl) ?_
        refine lv_if_lt (tgt := 150) S.x S.b d_Tok_number_102 (by decide) (fun c7 => ?_) (fun c7 => ?_)
        · have nc7 : x89_7.toInt < (0 : Int) := (i_lt (x := x89_7) (y := 0)).mp c7
          refine lv_iload S.x S.b d_Tok_number_150 (lv_at hl 3 rfl) ?_
          refine lv_if_eq (tgt := 170) S.x S.b d_Tok_number_152 (by decide) (fun c8 => ?_) (fun c8 => ?_)
          · have nc8 : x89_4.toInt = (0 : Int) := (i_eq (x := x89_4) (y := 0)).mp c8
            refine lv_bipush (v := 19) S.x S.b d_Tok_number_170 (by decide) ?_
            first | exact px_iret (v := 19) S hr rfl hlk hAe hw (Nat.le_of_ble_eq_true rfl) (Nat.le_of_ble_eq_true rfl) (⟨f_89, a_89, rfl, (show TokOk (f_89 7) (f_89 8) (f_89 10) (f_89 11) (f_89 12) (f_89 13) (f_89 17) (a_89 4) from ⟨⟨o1, o2⟩, ⟨o3, o4⟩, ⟨o5, o6⟩, ⟨o7, o8⟩, ⟨o9, o10⟩, ⟨o11, o12⟩, o13, hn4⟩), (show (f_89 7).toInt = (f 7).toInt from k89_0), (show (f_89 10).toInt = (f 10).toInt from k89_1), (show (f_89 15).toInt = (f 15).toInt from k89_2), (show (19 : Int) = 19 ∨ (f 8).toInt + 1 ≤ (f_89 8).toInt from by first | with_reducible rfl | with_reducible assumption | omega), (show Q5 (a_89 5) from hq5)⟩) d_Tok_number_172 | exact px_iret (v := 19) S hr rfl hlk hAe hw (Nat.le_of_ble_eq_true rfl) (Nat.le_of_ble_eq_true rfl) (⟨f_89, a_89, rfl, (show TokOk (f_89 7) (f_89 8) (f_89 10) (f_89 11) (f_89 12) (f_89 13) (f_89 17) (a_89 4) from ⟨⟨by first | exact o1 | omega, by first | exact o2 | omega⟩, ⟨by first | exact o3 | omega, by first | exact o4 | omega⟩, ⟨by first | exact o5 | omega, by first | exact o6 | omega⟩, ⟨by first | exact o7 | omega, by first | exact o8 | omega⟩, ⟨by first | exact o9 | omega, by first | exact o10 | omega⟩, ⟨by first | exact o11 | omega, by first | exact o12 | omega⟩, by first | exact o13 | omega, hn4⟩), (show (f_89 7).toInt = (f 7).toInt from by first | exact k89_0 | omega), (show (f_89 10).toInt = (f 10).toInt from by first | exact k89_1 | omega), (show (f_89 15).toInt = (f 15).toInt from by first | exact k89_2 | omega), (show (19 : Int) = 19 ∨ (f 8).toInt + 1 ≤ (f_89 8).toInt from by first | with_reducible rfl | with_reducible assumption | omega), (show Q5 (a_89 5) from hq5)⟩) d_Tok_number_172
          · have nc8 : ¬ x89_4.toInt = (0 : Int) := mt (i_eq (x := x89_4) (y := 0)).mpr c8
            refine lv_iload S.x S.b d_Tok_number_155 (lv_at hl 3 rfl) ?_
            refine lv_iload_n S.x S.b d_Tok_number_157 rfl (lv_at hl 2 rfl) ?_
            refine lv_icmp_gt (tgt := 170) S.x S.b d_Tok_number_158 (by decide) (fun c9 => ?_) (fun c9 => ?_)
            · have nc9 : x89_3.toInt < x89_4.toInt := (i_lt (x := x89_3) (y := x89_4)).mp c9
              refine lv_bipush (v := 19) S.x S.b d_Tok_number_170 (by decide) ?_
              first | exact px_iret (v := 19) S hr rfl hlk hAe hw (Nat.le_of_ble_eq_true rfl) (Nat.le_of_ble_eq_true rfl) (⟨f_89, a_89, rfl, (show TokOk (f_89 7) (f_89 8) (f_89 10) (f_89 11) (f_89 12) (f_89 13) (f_89 17) (a_89 4) from ⟨⟨o1, o2⟩, ⟨o3, o4⟩, ⟨o5, o6⟩, ⟨o7, o8⟩, ⟨o9, o10⟩, ⟨o11, o12⟩, o13, hn4⟩), (show (f_89 7).toInt = (f 7).toInt from k89_0), (show (f_89 10).toInt = (f 10).toInt from k89_1), (show (f_89 15).toInt = (f 15).toInt from k89_2), (show (19 : Int) = 19 ∨ (f 8).toInt + 1 ≤ (f_89 8).toInt from by first | with_reducible rfl | with_reducible assumption | omega), (show Q5 (a_89 5) from hq5)⟩) d_Tok_number_172 | exact px_iret (v := 19) S hr rfl hlk hAe hw (Nat.le_of_ble_eq_true rfl) (Nat.le_of_ble_eq_true rfl) (⟨f_89, a_89, rfl, (show TokOk (f_89 7) (f_89 8) (f_89 10) (f_89 11) (f_89 12) (f_89 13) (f_89 17) (a_89 4) from ⟨⟨by first | exact o1 | omega, by first | exact o2 | omega⟩, ⟨by first | exact o3 | omega, by first | exact o4 | omega⟩, ⟨by first | exact o5 | omega, by first | exact o6 | omega⟩, ⟨by first | exact o7 | omega, by first | exact o8 | omega⟩, ⟨by first | exact o9 | omega, by first | exact o10 | omega⟩, ⟨by first | exact o11 | omega, by first | exact o12 | omega⟩, by first | exact o13 | omega, hn4⟩), (show (f_89 7).toInt = (f 7).toInt from by first | exact k89_0 | omega), (show (f_89 10).toInt = (f 10).toInt from by first | exact k89_1 | omega), (show (f_89 15).toInt = (f 15).toInt from by first | exact k89_2 | omega), (show (19 : Int) = 19 ∨ (f 8).toInt + 1 ≤ (f_89 8).toInt from by first | with_reducible rfl | with_reducible assumption | omega), (show Q5 (a_89 5) from hq5)⟩) d_Tok_number_172
            · have nc9 : ¬ x89_3.toInt < x89_4.toInt := mt (i_lt (x := x89_3) (y := x89_4)).mpr c9
              refine lv_lload S.x S.b d_Tok_number_161 (lv_at hl 5 rfl) ?_
              refine lv_ldc2 (v := 4294967295) S.x S.b S.own (S.w m3_225) d_Tok_number_163 ?_
              refine W.lcmp S.x S.b d_Tok_number_166 ?_
              refine lv_topi (fun z10 ez10 => ?_)
              have lz10 := Int32.le_toInt z10
              have uz10 := Int32.toInt_lt z10
              refine lv_if_le (tgt := 173) S.x S.b d_Tok_number_167 (by decide) (fun c11 => ?_) (fun c11 => ?_)
              · have nc11 : z10.toInt ≤ (0 : Int) := (i_le (x := z10) (y := 0)).mp c11
                refine lv_aload_n S.x S.b d_Tok_number_173 rfl (lv_at hl 0 rfl) ?_
                refine lv_lload S.x S.b d_Tok_number_174 (lv_at hl 5 rfl) ?_
                refine lv_l2i S.x S.b d_Tok_number_176 rfl ?_
                refine lv_topi (fun z12 ez12 => ?_)
                have lz12 := Int32.le_toInt z12
                have uz12 := Int32.toInt_lt z12
                refine px_put S k_Tok hT hw 0 0 9 rfl rfl (by decide) m1_112 rfl rfl rfl (Nat.le_of_ble_eq_true rfl) d_Tok_number_177 (w' := wd_Tok cs h r (fun _ => some tp) (upd f_89 9 z12) a_89 g) (ps' := [wd_Tok cs h r (fun _ => some tp) (upd f_89 9 z12) a_89 g, [(tp, .inl (cs 1, 2048, .inl tb))]]) rfl rfl (fun H locs hw => ?_)
                refine lv_bipush (v := 17) S.x S.b d_Tok_number_180 (by decide) ?_
                first | exact px_iret (v := 17) S hr rfl hlk hAe hw (Nat.le_of_ble_eq_true rfl) (Nat.le_of_ble_eq_true rfl) (⟨(upd f_89 9 z12), a_89, rfl, (show TokOk (f_89 7) (f_89 8) (f_89 10) (f_89 11) (f_89 12) (f_89 13) (f_89 17) (a_89 4) from ⟨⟨o1, o2⟩, ⟨o3, o4⟩, ⟨o5, o6⟩, ⟨o7, o8⟩, ⟨o9, o10⟩, ⟨o11, o12⟩, o13, hn4⟩), (show (f_89 7).toInt = (f 7).toInt from k89_0), (show (f_89 10).toInt = (f 10).toInt from k89_1), (show (f_89 15).toInt = (f 15).toInt from k89_2), (show (17 : Int) = 19 ∨ (f 8).toInt + 1 ≤ (f_89 8).toInt from by first | with_reducible rfl | with_reducible assumption | omega), (show Q5 (a_89 5) from hq5)⟩) d_Tok_number_182 | exact px_iret (v := 17) S hr rfl hlk hAe hw (Nat.le_of_ble_eq_true rfl) (Nat.le_of_ble_eq_true rfl) (⟨(upd f_89 9 z12), a_89, rfl, (show TokOk (f_89 7) (f_89 8) (f_89 10) (f_89 11) (f_89 12) (f_89 13) (f_89 17) (a_89 4) from ⟨⟨by first | exact o1 | omega, by first | exact o2 | omega⟩, ⟨by first | exact o3 | omega, by first | exact o4 | omega⟩, ⟨by first | exact o5 | omega, by first | exact o6 | omega⟩, ⟨by first | exact o7 | omega, by first | exact o8 | omega⟩, ⟨by first | exact o9 | omega, by first | exact o10 | omega⟩, ⟨by first | exact o11 | omega, by first | exact o12 | omega⟩, by first | exact o13 | omega, hn4⟩), (show (f_89 7).toInt = (f 7).toInt from by first | exact k89_0 | omega), (show (f_89 10).toInt = (f 10).toInt from by first | exact k89_1 | omega), (show (f_89 15).toInt = (f 15).toInt from by first | exact k89_2 | omega), (show (17 : Int) = 19 ∨ (f 8).toInt + 1 ≤ (f_89 8).toInt from by first | with_reducible rfl | with_reducible assumption | omega), (show Q5 (a_89 5) from hq5)⟩) d_Tok_number_182
              · have nc11 : ¬ z10.toInt ≤ (0 : Int) := mt (i_le (x := z10) (y := 0)).mpr c11
                refine lv_bipush (v := 19) S.x S.b d_Tok_number_170 (by decide) ?_
                first | exact px_iret (v := 19) S hr rfl hlk hAe hw (Nat.le_of_ble_eq_true rfl) (Nat.le_of_ble_eq_true rfl) (⟨f_89, a_89, rfl, (show TokOk (f_89 7) (f_89 8) (f_89 10) (f_89 11) (f_89 12) (f_89 13) (f_89 17) (a_89 4) from ⟨⟨o1, o2⟩, ⟨o3, o4⟩, ⟨o5, o6⟩, ⟨o7, o8⟩, ⟨o9, o10⟩, ⟨o11, o12⟩, o13, hn4⟩), (show (f_89 7).toInt = (f 7).toInt from k89_0), (show (f_89 10).toInt = (f 10).toInt from k89_1), (show (f_89 15).toInt = (f 15).toInt from k89_2), (show (19 : Int) = 19 ∨ (f 8).toInt + 1 ≤ (f_89 8).toInt from by first | with_reducible rfl | with_reducible assumption | omega), (show Q5 (a_89 5) from hq5)⟩) d_Tok_number_172 | exact px_iret (v := 19) S hr rfl hlk hAe hw (Nat.le_of_ble_eq_true rfl) (Nat.le_of_ble_eq_true rfl) (⟨f_89, a_89, rfl, (show TokOk (f_89 7) (f_89 8) (f_89 10) (f_89 11) (f_89 12) (f_89 13) (f_89 17) (a_89 4) from ⟨⟨by first | exact o1 | omega, by first | exact o2 | omega⟩, ⟨by first | exact o3 | omega, by first | exact o4 | omega⟩, ⟨by first | exact o5 | omega, by first | exact o6 | omega⟩, ⟨by first | exact o7 | omega, by first | exact o8 | omega⟩, ⟨by first | exact o9 | omega, by first | exact o10 | omega⟩, ⟨by first | exact o11 | omega, by first | exact o12 | omega⟩, by first | exact o13 | omega, hn4⟩), (show (f_89 7).toInt = (f 7).toInt from by first | exact k89_0 | omega), (show (f_89 10).toInt = (f 10).toInt from by first | exact k89_1 | omega), (show (f_89 15).toInt = (f 15).toInt from by first | exact k89_2 | omega), (show (19 : Int) = 19 ∨ (f 8).toInt + 1 ≤ (f_89 8).toInt from by first | with_reducible rfl | with_reducible assumption | omega), (show Q5 (a_89 5) from hq5)⟩) d_Tok_number_172
        · have nc7 : ¬ x89_7.toInt < (0 : Int) := mt (i_lt (x := x89_7) (y := 0)).mpr c7
          refine lv_iload S.x S.b d_Tok_number_105 (lv_at hl 3 rfl) ?_
          refine lv_iload_n S.x S.b d_Tok_number_107 rfl (lv_at hl 2 rfl) ?_
          refine lv_icmp_ge (tgt := 123) S.x S.b d_Tok_number_108 (by decide) (fun c13 => ?_) (fun c13 => ?_)
          · have nc13 : x89_3.toInt ≤ x89_4.toInt := (i_le (x := x89_3) (y := x89_4)).mp c13
            refine lv_lload S.x S.b d_Tok_number_123 (lv_at hl 5 rfl) ?_
            refine lv_lstore (lv' := [(5, .long x89_5), (0, .ref h), (2, .int x89_2), (3, .int x89_3), (4, .int x89_4), (7, .int x89_7)]) S.x S.b d_Tok_number_125 hl (by decide) rfl (fun ls hl => ?_)
            obtain ⟨z14, ez14⟩ : ∃ y : Int32, y = x89_4 + 1 := ⟨_, rfl⟩
            have tz14 : z14.toInt = (x89_4.toInt + 1 + 2147483648) % 4294967296 - 2147483648 := by rw [ez14]; exact i_add x89_4 1
            have lz14 := Int32.le_toInt z14
            have uz14 := Int32.toInt_lt z14
            try replace tz14 : z14.toInt = x89_4.toInt + 1 := by omega
            refine lv_iinc (v := z14) (lv' := [(4, .int z14), (5, .long x89_5), (0, .ref h), (2, .int x89_2), (3, .int x89_3), (7, .int x89_7)]) S.x S.b d_Tok_number_127 hl (k := 4) rfl (by rw [ez14]; rfl) (by decide) rfl (fun ls hl => ?_)
            refine lv_aload_n S.x S.b d_Tok_number_130 rfl (lv_at hl 2 rfl) ?_
            refine lv_dup S.x S.b d_Tok_number_131 rfl ?_
            refine px_get S k_Tok hT hw 0 0 8 (v := .int (f_89 8)) rfl rfl rfl (by decide) m1_111 d_Tok_number_132 ?_
            refine lv_iconst (v := 1) S.x S.b d_Tok_number_135 (by decide) ?_
            refine lv_iadd S.x S.b d_Tok_number_136 ?_
            have lr15 := Int32.le_toInt (f_89 8)
            have ur15 := Int32.toInt_lt (f_89 8)
            refine lv_topi (fun z16 ez16 => ?_)
            have tz16 : z16.toInt = ((f_89 8).toInt + (1 : Int) + 2147483648) % 4294967296 - 2147483648 := by rw [ez16]; exact i_add (f_89 8) 1
            have lz16 := Int32.le_toInt z16
            have uz16 := Int32.toInt_lt z16
            try replace tz16 : z16.toInt = (f_89 8).toInt + (1 : Int) := by omega
            refine px_put S k_Tok hT hw 0 0 8 rfl rfl (by decide) m1_111 rfl rfl rfl (Nat.le_of_ble_eq_true rfl) d_Tok_number_137 (w' := wd_Tok cs h r (fun _ => some tp) (upd f_89 8 z16) a_89 g) (ps' := [wd_Tok cs h r (fun _ => some tp) (upd f_89 8 z16) a_89 g, [(tp, .inl (cs 1, 2048, .inl tb))]]) rfl rfl (fun H locs hw => ?_)
            refine lv_aload_n S.x S.b d_Tok_number_140 rfl (lv_at hl 2 rfl) ?_
            refine lv_iload_n S.x S.b d_Tok_number_141 rfl (lv_at hl 3 rfl) ?_
            first | refine px_calli (pr := []) (px_runV (As := [.int x89_2]) (rest := []) S (c_Tok_digit l D cs h r tp tb (upd f_89 8 z16) a_89 g x89_2 (show TokOk (f_89 7) z16 (f_89 10) (f_89 11) (f_89 12) (f_89 13) (f_89 17) (a_89 4) from ⟨⟨o1, o2⟩, ⟨(oz_b3b25f0e49 tz16 o3), (oz_b18b803a23 nc1 tz16)⟩, ⟨o5, o6⟩, ⟨o7, o8⟩, ⟨o9, o10⟩, ⟨o11, o12⟩, o13, hn4⟩)  _) hT (pr := []) (pcs := [wd_Tok cs h r (fun _ => some tp) (upd f_89 8 z16) a_89 g, [(tp, .inl (cs 1, 2048, .inl tb))]]) hw px_X.tt (px_recv hT hw 0 0 rfl rfl rfl) m3_224 m3_221 m3_223 ms_1_14 m1_2 q_Tok_digit ⟨Nat.le_of_ble_eq_true rfl, Nat.le_of_ble_eq_true rfl⟩ hl.1 rfl (Nat.le_of_ble_eq_true rfl) d_Tok_number_142 ⟨Nat.le_of_ble_eq_true rfl, Nat.le_of_ble_eq_true rfl⟩) hw hA (fun v20 p19 H locs hp19 hw => ?_) | refine px_calli (pr := []) (px_runV (As := [.int x89_2]) (rest := []) S (c_Tok_digit l D cs h r tp tb (upd f_89 8 z16) a_89 g x89_2 (show TokOk (f_89 7) z16 (f_89 10) (f_89 11) (f_89 12) (f_89 13) (f_89 17) (a_89 4) from ⟨⟨by first | exact o1 | omega, by first | exact o2 | omega⟩, ⟨by first | exact oz_b3b25f0e49 tz16 o3 | omega, by first | exact oz_b18b803a23 nc1 tz16 | omega⟩, ⟨by first | exact o5 | omega, by first | exact o6 | omega⟩, ⟨by first | exact o7 | omega, by first | exact o8 | omega⟩, ⟨by first | exact o9 | omega, by first | exact o10 | omega⟩, ⟨by first | exact o11 | omega, by first | exact o12 | omega⟩, by first | exact o13 | omega, hn4⟩)  _) hT (pr := []) (pcs := [wd_Tok cs h r (fun _ => some tp) (upd f_89 8 z16) a_89 g, [(tp, .inl (cs 1, 2048, .inl tb))]]) hw px_X.tt (px_recv hT hw 0 0 rfl rfl rfl) m3_224 m3_221 m3_223 ms_1_14 m1_2 q_Tok_digit ⟨Nat.le_of_ble_eq_true rfl, Nat.le_of_ble_eq_true rfl⟩ hl.1 rfl (Nat.le_of_ble_eq_true rfl) d_Tok_number_142 ⟨Nat.le_of_ble_eq_true rfl, Nat.le_of_ble_eq_true rfl⟩) hw hA (fun v20 p19 H locs hp19 hw => ?_)
            subst hp19
            have lv20 := Int32.le_toInt v20
            have uv20 := Int32.toInt_lt v20
            refine lv_istore (lv' := [(7, .int v20), (4, .int z14), (5, .long x89_5), (0, .ref h), (2, .int x89_2), (3, .int x89_3)]) S.x S.b d_Tok_number_145 hl (by decide) rfl (fun ls hl => ?_)
            refine lv_goto (tgt := 89) S.x S.b d_Tok_number_147 (by decide) ?_
            first | exact ih89 (upd f_89 8 z16) a_89 x89_2 x89_3 z14 v20 x89_5 _ _ ls (show TokOk (f_89 7) z16 (f_89 10) (f_89 11) (f_89 12) (f_89 13) (f_89 17) (a_89 4) from ⟨⟨o1, o2⟩, ⟨(oz_b3b25f0e49 tz16 o3), (oz_b18b803a23 nc1 tz16)⟩, ⟨o5, o6⟩, ⟨o7, o8⟩, ⟨o9, o10⟩, ⟨o11, o12⟩, o13, hn4⟩) (show (f_89 7).toInt = (f 7).toInt from k89_0) (show (f_89 10).toInt = (f 10).toInt from k89_1) (show (f_89 15).toInt = (f 15).toInt from k89_2) (show 0 ≤ z14.toInt from (oz_ae613611c0 tz14 k89_3)) (show (f 8).toInt + z14.toInt ≤ z16.toInt from (oz_efe4b1b452 k89_4 tz14 tz16)) (show Q5 (a_89 5) from hq5) (show (f_89 7).toInt+9-z16.toInt < (n_89 : Int) from (oz_c735cfbd81 hm tz16)) hw (lv_sub hl [3, 4, 5, 1, 0, 2] rfl) | exact ih89 (upd f_89 8 z16) a_89 x89_2 x89_3 z14 v20 x89_5 _ _ ls (show TokOk (f_89 7) z16 (f_89 10) (f_89 11) (f_89 12) (f_89 13) (f_89 17) (a_89 4) from ⟨⟨by first | exact o1 | omega, by first | exact o2 | omega⟩, ⟨by first | exact oz_b3b25f0e49 tz16 o3 | omega, by first | exact oz_b18b803a23 nc1 tz16 | omega⟩, ⟨by first | exact o5 | omega, by first | exact o6 | omega⟩, ⟨by first | exact o7 | omega, by first | exact o8 | omega⟩, ⟨by first | exact o9 | omega, by first | exact o10 | omega⟩, ⟨by first | exact o11 | omega, by first | exact o12 | omega⟩, by first | exact o13 | omega, hn4⟩) (show (f_89 7).toInt = (f 7).toInt from by first | exact k89_0 | omega) (show (f_89 10).toInt = (f 10).toInt from by first | exact k89_1 | omega) (show (f_89 15).toInt = (f 15).toInt from by first | exact k89_2 | omega) (show 0 ≤ z14.toInt from by first | exact oz_ae613611c0 tz14 k89_3 | omega) (show (f 8).toInt + z14.toInt ≤ z16.toInt from by first | exact oz_efe4b1b452 k89_4 tz14 tz16 | omega) (show Q5 (a_89 5) from hq5) (show (f_89 7).toInt+9-z16.toInt < (n_89 : Int) from by first | exact oz_c735cfbd81 hm tz16 | omega) hw (lv_sub hl [3, 4, 5, 1, 0, 2] rfl)
          · have nc13 : ¬ x89_3.toInt ≤ x89_4.toInt := mt (i_le (x := x89_3) (y := x89_4)).mpr c13
            refine lv_lload S.x S.b d_Tok_number_111 (lv_at hl 5 rfl) ?_
            refine lv_iload_n S.x S.b d_Tok_number_113 rfl (lv_at hl 1 rfl) ?_
            refine lv_i2l S.x S.b d_Tok_number_114 rfl ?_
            refine lv_lmul S.x S.b d_Tok_number_115 ?_
            refine lv_topl (fun z21 ez21 => ?_)
            refine lv_iload S.x S.b d_Tok_number_116 (lv_at hl 4 rfl) ?_
            refine lv_i2l S.x S.b d_Tok_number_118 rfl ?_
            refine lv_ladd S.x S.b d_Tok_number_119 ?_
            refine lv_topl (fun z22 ez22 => ?_)
            refine lv_goto (tgt := 125) S.x S.b d_Tok_number_120 (by decide) ?_
            refine lv_lstore (lv' := [(5, .long z22), (0, .ref h), (2, .int x89_2), (3, .int x89_3), (4, .int x89_4), (7, .int x89_7)]) S.x S.b d_Tok_number_125 hl (by decide) rfl (fun ls hl => ?_)
            obtain ⟨z23, ez23⟩ : ∃ y : Int32, y = x89_4 + 1 := ⟨_, rfl⟩
            have tz23 : z23.toInt = (x89_4.toInt + 1 + 2147483648) % 4294967296 - 2147483648 := by rw [ez23]; exact i_add x89_4 1
            have lz23 := Int32.le_toInt z23
            have uz23 := Int32.toInt_lt z23
            try replace tz23 : z23.toInt = x89_4.toInt + 1 := by omega
            refine lv_iinc (v := z23) (lv' := [(4, .int z23), (5, .long z22), (0, .ref h), (2, .int x89_2), (3, .int x89_3), (7, .int x89_7)]) S.x S.b d_Tok_number_127 hl (k := 4) rfl (by rw [ez23]; rfl) (by decide) rfl (fun ls hl => ?_)
            refine lv_aload_n S.x S.b d_Tok_number_130 rfl (lv_at hl 2 rfl) ?_
            refine lv_dup S.x S.b d_Tok_number_131 rfl ?_
            refine px_get S k_Tok hT hw 0 0 8 (v := .int (f_89 8)) rfl rfl rfl (by decide) m1_111 d_Tok_number_132 ?_
            refine lv_iconst (v := 1) S.x S.b d_Tok_number_135 (by decide) ?_
            refine lv_iadd S.x S.b d_Tok_number_136 ?_
            have lr24 := Int32.le_toInt (f_89 8)
            have ur24 := Int32.toInt_lt (f_89 8)
            refine lv_topi (fun z25 ez25 => ?_)
            have tz25 : z25.toInt = ((f_89 8).toInt + (1 : Int) + 2147483648) % 4294967296 - 2147483648 := by rw [ez25]; exact i_add (f_89 8) 1
            have lz25 := Int32.le_toInt z25
            have uz25 := Int32.toInt_lt z25
            try replace tz25 : z25.toInt = (f_89 8).toInt + (1 : Int) := by omega
            refine px_put S k_Tok hT hw 0 0 8 rfl rfl (by decide) m1_111 rfl rfl rfl (Nat.le_of_ble_eq_true rfl) d_Tok_number_137 (w' := wd_Tok cs h r (fun _ => some tp) (upd f_89 8 z25) a_89 g) (ps' := [wd_Tok cs h r (fun _ => some tp) (upd f_89 8 z25) a_89 g, [(tp, .inl (cs 1, 2048, .inl tb))]]) rfl rfl (fun H locs hw => ?_)
            refine lv_aload_n S.x S.b d_Tok_number_140 rfl (lv_at hl 2 rfl) ?_
            refine lv_iload_n S.x S.b d_Tok_number_141 rfl (lv_at hl 3 rfl) ?_
            first | refine px_calli (pr := []) (px_runV (As := [.int x89_2]) (rest := []) S (c_Tok_digit l D cs h r tp tb (upd f_89 8 z25) a_89 g x89_2 (show TokOk (f_89 7) z25 (f_89 10) (f_89 11) (f_89 12) (f_89 13) (f_89 17) (a_89 4) from ⟨⟨o1, o2⟩, ⟨(oz_b3b25f0e49 tz25 o3), (oz_b18b803a23 nc1 tz25)⟩, ⟨o5, o6⟩, ⟨o7, o8⟩, ⟨o9, o10⟩, ⟨o11, o12⟩, o13, hn4⟩)  _) hT (pr := []) (pcs := [wd_Tok cs h r (fun _ => some tp) (upd f_89 8 z25) a_89 g, [(tp, .inl (cs 1, 2048, .inl tb))]]) hw px_X.tt (px_recv hT hw 0 0 rfl rfl rfl) m3_224 m3_221 m3_223 ms_1_14 m1_2 q_Tok_digit ⟨Nat.le_of_ble_eq_true rfl, Nat.le_of_ble_eq_true rfl⟩ hl.1 rfl (Nat.le_of_ble_eq_true rfl) d_Tok_number_142 ⟨Nat.le_of_ble_eq_true rfl, Nat.le_of_ble_eq_true rfl⟩) hw hA (fun v29 p28 H locs hp28 hw => ?_) | refine px_calli (pr := []) (px_runV (As := [.int x89_2]) (rest := []) S (c_Tok_digit l D cs h r tp tb (upd f_89 8 z25) a_89 g x89_2 (show TokOk (f_89 7) z25 (f_89 10) (f_89 11) (f_89 12) (f_89 13) (f_89 17) (a_89 4) from ⟨⟨by first | exact o1 | omega, by first | exact o2 | omega⟩, ⟨by first | exact oz_b3b25f0e49 tz25 o3 | omega, by first | exact oz_b18b803a23 nc1 tz25 | omega⟩, ⟨by first | exact o5 | omega, by first | exact o6 | omega⟩, ⟨by first | exact o7 | omega, by first | exact o8 | omega⟩, ⟨by first | exact o9 | omega, by first | exact o10 | omega⟩, ⟨by first | exact o11 | omega, by first | exact o12 | omega⟩, by first | exact o13 | omega, hn4⟩)  _) hT (pr := []) (pcs := [wd_Tok cs h r (fun _ => some tp) (upd f_89 8 z25) a_89 g, [(tp, .inl (cs 1, 2048, .inl tb))]]) hw px_X.tt (px_recv hT hw 0 0 rfl rfl rfl) m3_224 m3_221 m3_223 ms_1_14 m1_2 q_Tok_digit ⟨Nat.le_of_ble_eq_true rfl, Nat.le_of_ble_eq_true rfl⟩ hl.1 rfl (Nat.le_of_ble_eq_true rfl) d_Tok_number_142 ⟨Nat.le_of_ble_eq_true rfl, Nat.le_of_ble_eq_true rfl⟩) hw hA (fun v29 p28 H locs hp28 hw => ?_)
            subst hp28
            have lv29 := Int32.le_toInt v29
            have uv29 := Int32.toInt_lt v29
            refine lv_istore (lv' := [(7, .int v29), (4, .int z23), (5, .long z22), (0, .ref h), (2, .int x89_2), (3, .int x89_3)]) S.x S.b d_Tok_number_145 hl (by decide) rfl (fun ls hl => ?_)
            refine lv_goto (tgt := 89) S.x S.b d_Tok_number_147 (by decide) ?_
            first | exact ih89 (upd f_89 8 z25) a_89 x89_2 x89_3 z23 v29 z22 _ _ ls (show TokOk (f_89 7) z25 (f_89 10) (f_89 11) (f_89 12) (f_89 13) (f_89 17) (a_89 4) from ⟨⟨o1, o2⟩, ⟨(oz_b3b25f0e49 tz25 o3), (oz_b18b803a23 nc1 tz25)⟩, ⟨o5, o6⟩, ⟨o7, o8⟩, ⟨o9, o10⟩, ⟨o11, o12⟩, o13, hn4⟩) (show (f_89 7).toInt = (f 7).toInt from k89_0) (show (f_89 10).toInt = (f 10).toInt from k89_1) (show (f_89 15).toInt = (f 15).toInt from k89_2) (show 0 ≤ z23.toInt from (oz_ae613611c0 tz23 k89_3)) (show (f 8).toInt + z23.toInt ≤ z25.toInt from (oz_efe4b1b452 k89_4 tz23 tz25)) (show Q5 (a_89 5) from hq5) (show (f_89 7).toInt+9-z25.toInt < (n_89 : Int) from (oz_c735cfbd81 hm tz25)) hw (lv_sub hl [3, 4, 5, 1, 0, 2] rfl) | exact ih89 (upd f_89 8 z25) a_89 x89_2 x89_3 z23 v29 z22 _ _ ls (show TokOk (f_89 7) z25 (f_89 10) (f_89 11) (f_89 12) (f_89 13) (f_89 17) (a_89 4) from ⟨⟨by first | exact o1 | omega, by first | exact o2 | omega⟩, ⟨by first | exact oz_b3b25f0e49 tz25 o3 | omega, by first | exact oz_b18b803a23 nc1 tz25 | omega⟩, ⟨by first | exact o5 | omega, by first | exact o6 | omega⟩, ⟨by first | exact o7 | omega, by first | exact o8 | omega⟩, ⟨by first | exact o9 | omega, by first | exact o10 | omega⟩, ⟨by first | exact o11 | omega, by first | exact o12 | omega⟩, by first | exact o13 | omega, hn4⟩) (show (f_89 7).toInt = (f 7).toInt from by first | exact k89_0 | omega) (show (f_89 10).toInt = (f 10).toInt from by first | exact k89_1 | omega) (show (f_89 15).toInt = (f 15).toInt from by first | exact k89_2 | omega) (show 0 ≤ z23.toInt from by first | exact oz_ae613611c0 tz23 k89_3 | omega) (show (f 8).toInt + z23.toInt ≤ z25.toInt from by first | exact oz_efe4b1b452 k89_4 tz23 tz25 | omega) (show Q5 (a_89 5) from hq5) (show (f_89 7).toInt+9-z25.toInt < (n_89 : Int) from by first | exact oz_c735cfbd81 hm tz25 | omega) hw (lv_sub hl [3, 4, 5, 1, 0, 2] rfl)
  refine lv_aload_n S.x S.b d_Tok_number_0 rfl (lv_at hl 0 rfl) ?_
  refine lv_aload_n S.x S.b d_Tok_number_1 rfl (lv_at hl 0 rfl) ?_
  refine px_get S k_Tok hT hw 0 0 8 (v := .int (f 8)) rfl rfl rfl (by decide) m1_111 d_Tok_number_2 ?_
  first | refine px_calli (pr := []) (px_runV (As := [.int (f 8)]) (rest := []) S (c_Tok_byteAt l D cs h r tp tb f a g (f 8) (show TokOk (f 7) (f 8) (f 10) (f 11) (f 12) (f 13) (f 17) (a 4) from ⟨⟨o1, o2⟩, ⟨o3, o4⟩, ⟨o5, o6⟩, ⟨o7, o8⟩, ⟨o9, o10⟩, ⟨o11, o12⟩, o13, hn4⟩)  _) hT (pr := []) (pcs := [wd_Tok cs h r (fun _ => some tp) f a g, [(tp, .inl (cs 1, 2048, .inl tb))]]) hw px_X.tt (px_recv hT hw 0 0 rfl rfl rfl) m3_186 m3_183 m3_185 ms_1_6 m1_2 q_Tok_byteAt ⟨Nat.le_of_ble_eq_true rfl, Nat.le_of_ble_eq_true rfl⟩ hl.1 rfl (Nat.le_of_ble_eq_true rfl) d_Tok_number_5 ⟨Nat.le_of_ble_eq_true rfl, Nat.le_of_ble_eq_true rfl⟩) hw hA (fun v33 p32 H locs hp32 hw => ?_) | refine px_calli (pr := []) (px_runV (As := [.int (f 8)]) (rest := []) S (c_Tok_byteAt l D cs h r tp tb f a g (f 8) (show TokOk (f 7) (f 8) (f 10) (f 11) (f 12) (f 13) (f 17) (a 4) from ⟨⟨by first | exact o1 | omega, by first | exact o2 | omega⟩, ⟨by first | exact o3 | omega, by first | exact o4 | omega⟩, ⟨by first | exact o5 | omega, by first | exact o6 | omega⟩, ⟨by first | exact o7 | omega, by first | exact o8 | omega⟩, ⟨by first | exact o9 | omega, by first | exact o10 | omega⟩, ⟨by first | exact o11 | omega, by first | exact o12 | omega⟩, by first | exact o13 | omega, hn4⟩)  _) hT (pr := []) (pcs := [wd_Tok cs h r (fun _ => some tp) f a g, [(tp, .inl (cs 1, 2048, .inl tb))]]) hw px_X.tt (px_recv hT hw 0 0 rfl rfl rfl) m3_186 m3_183 m3_185 ms_1_6 m1_2 q_Tok_byteAt ⟨Nat.le_of_ble_eq_true rfl, Nat.le_of_ble_eq_true rfl⟩ hl.1 rfl (Nat.le_of_ble_eq_true rfl) d_Tok_number_5 ⟨Nat.le_of_ble_eq_true rfl, Nat.le_of_ble_eq_true rfl⟩) hw hA (fun v33 p32 H locs hp32 hw => ?_)
  obtain ⟨rfl, e34, e35, e36⟩ := hp32
  have e34 : -1 ≤ v33.toInt := e34
  have e35 : v33.toInt ≤ 255 := e35
  have e36 : 0 ≤ v33.toInt → 0 ≤ (f 8).toInt ∧ (f 8).toInt < (f 7).toInt := e36
  have lv33 := Int32.le_toInt v33
  have uv33 := Int32.toInt_lt v33
  refine lv_bipush (v := 48) S.x S.b d_Tok_number_8 (by decide) ?_
  refine lv_icmp_ne (tgt := 32) S.x S.b d_Tok_number_10 (by decide) (fun c37 => ?_) (fun c37 => ?_)
  · have nc37 : ¬ v33.toInt = (48 : Int) := mt (i_eq (x := v33) (y := 48)).mpr c37
    refine lv_iconst (v := 0) S.x S.b d_Tok_number_32 (by decide) ?_
    refine lv_istore_n (lv' := [(1, .int 0), (0, .ref h)]) S.x S.b d_Tok_number_33 rfl hl (by decide) rfl (fun ls hl => ?_)
    refine lv_iload_n S.x S.b d_Tok_number_34 rfl (lv_at hl 0 rfl) ?_
    refine lv_if_eq (tgt := 43) S.x S.b d_Tok_number_35 (by decide) (fun c38 => ?_) (fun c38 => ?_)
    ·
      refine lv_bipush (v := 10) S.x S.b d_Tok_number_43 (by decide) ?_
      refine lv_istore_n (lv' := [(2, .int 10), (1, .int 0), (0, .ref h)]) S.x S.b d_Tok_number_45 rfl hl (by decide) rfl (fun ls hl => ?_)
      refine lv_iload_n S.x S.b d_Tok_number_46 rfl (lv_at hl 1 rfl) ?_
      refine lv_if_eq (tgt := 55) S.x S.b d_Tok_number_47 (by decide) (fun c39 => ?_) (fun c39 => ?_)
      ·
        refine lv_bipush (v := 10) S.x S.b d_Tok_number_55 (by decide) ?_
        refine lv_istore_n (lv' := [(3, .int 10), (2, .int 10), (1, .int 0), (0, .ref h)]) S.x S.b d_Tok_number_57 rfl hl (by decide) rfl (fun ls hl => ?_)
        refine lv_iconst (v := 0) S.x S.b d_Tok_number_58 (by decide) ?_
        refine lv_istore (lv' := [(4, .int 0), (3, .int 10), (2, .int 10), (1, .int 0), (0, .ref h)]) S.x S.b d_Tok_number_59 hl (by decide) rfl (fun ls hl => ?_)
        refine lv_lconst (v := 0) S.x S.b d_Tok_number_61 (by decide) ?_
        refine lv_lstore (lv' := [(5, .long 0), (4, .int 0), (3, .int 10), (2, .int 10), (1, .int 0), (0, .ref h)]) S.x S.b d_Tok_number_62 hl (by decide) rfl (fun ls hl => ?_)
        refine lv_aload_n S.x S.b d_Tok_number_64 rfl (lv_at hl 5 rfl) ?_
        refine lv_dup S.x S.b d_Tok_number_65 rfl ?_
        refine px_get S k_Tok hT hw 0 0 8 (v := .int (f 8)) rfl rfl rfl (by decide) m1_111 d_Tok_number_66 ?_
        refine lv_iload_n S.x S.b d_Tok_number_69 rfl (lv_at hl 4 rfl) ?_
        refine lv_if_eq (tgt := 77) S.x S.b d_Tok_number_70 (by decide) (fun c40 => ?_) (fun c40 => ?_)
        ·
          refine lv_iconst (v := 0) S.x S.b d_Tok_number_77 (by decide) ?_
          refine lv_iadd S.x S.b d_Tok_number_78 ?_
          have lr41 := Int32.le_toInt (f 8)
          have ur41 := Int32.toInt_lt (f 8)
          refine lv_topi (fun z42 ez42 => ?_)
          have tz42 : z42.toInt = ((f 8).toInt + (0 : Int) + 2147483648) % 4294967296 - 2147483648 := by rw [ez42]; exact i_add (f 8) 0
          have lz42 := Int32.le_toInt z42
          have uz42 := Int32.toInt_lt z42
          try replace tz42 : z42.toInt = (f 8).toInt + (0 : Int) := by omega
          refine px_put S k_Tok hT hw 0 0 8 rfl rfl (by decide) m1_111 rfl rfl rfl (Nat.le_of_ble_eq_true rfl) d_Tok_number_79 (w' := wd_Tok cs h r (fun _ => some tp) (upd f 8 z42) a g) (ps' := [wd_Tok cs h r (fun _ => some tp) (upd f 8 z42) a g, [(tp, .inl (cs 1, 2048, .inl tb))]]) rfl rfl (fun H locs hw => ?_)
          refine lv_aload_n S.x S.b d_Tok_number_82 rfl (lv_at hl 5 rfl) ?_
          refine lv_iload_n S.x S.b d_Tok_number_83 rfl (lv_at hl 3 rfl) ?_
          first | refine px_calli (pr := []) (px_runV (As := [.int 10]) (rest := []) S (c_Tok_digit l D cs h r tp tb (upd f 8 z42) a g 10 (show TokOk (f 7) z42 (f 10) (f 11) (f 12) (f 13) (f 17) (a 4) from ⟨⟨o1, o2⟩, ⟨(oz_6599b5c69d tz42 o3), (oz_336516993b o4 tz42)⟩, ⟨o5, o6⟩, ⟨o7, o8⟩, ⟨o9, o10⟩, ⟨o11, o12⟩, o13, hn4⟩)  _) hT (pr := []) (pcs := [wd_Tok cs h r (fun _ => some tp) (upd f 8 z42) a g, [(tp, .inl (cs 1, 2048, .inl tb))]]) hw px_X.tt (px_recv hT hw 0 0 rfl rfl rfl) m3_224 m3_221 m3_223 ms_1_14 m1_2 q_Tok_digit ⟨Nat.le_of_ble_eq_true rfl, Nat.le_of_ble_eq_true rfl⟩ hl.1 rfl (Nat.le_of_ble_eq_true rfl) d_Tok_number_84 ⟨Nat.le_of_ble_eq_true rfl, Nat.le_of_ble_eq_true rfl⟩) hw hA (fun v46 p45 H locs hp45 hw => ?_) | refine px_calli (pr := []) (px_runV (As := [.int 10]) (rest := []) S (c_Tok_digit l D cs h r tp tb (upd f 8 z42) a g 10 (show TokOk (f 7) z42 (f 10) (f 11) (f 12) (f 13) (f 17) (a 4) from ⟨⟨by first | exact o1 | omega, by first | exact o2 | omega⟩, ⟨by first | exact oz_6599b5c69d tz42 o3 | omega, by first | exact oz_336516993b o4 tz42 | omega⟩, ⟨by first | exact o5 | omega, by first | exact o6 | omega⟩, ⟨by first | exact o7 | omega, by first | exact o8 | omega⟩, ⟨by first | exact o9 | omega, by first | exact o10 | omega⟩, ⟨by first | exact o11 | omega, by first | exact o12 | omega⟩, by first | exact o13 | omega, hn4⟩)  _) hT (pr := []) (pcs := [wd_Tok cs h r (fun _ => some tp) (upd f 8 z42) a g, [(tp, .inl (cs 1, 2048, .inl tb))]]) hw px_X.tt (px_recv hT hw 0 0 rfl rfl rfl) m3_224 m3_221 m3_223 ms_1_14 m1_2 q_Tok_digit ⟨Nat.le_of_ble_eq_true rfl, Nat.le_of_ble_eq_true rfl⟩ hl.1 rfl (Nat.le_of_ble_eq_true rfl) d_Tok_number_84 ⟨Nat.le_of_ble_eq_true rfl, Nat.le_of_ble_eq_true rfl⟩) hw hA (fun v46 p45 H locs hp45 hw => ?_)
          subst hp45
          have lv46 := Int32.le_toInt v46
          have uv46 := Int32.toInt_lt v46
          refine lv_istore (lv' := [(7, .int v46), (5, .long 0), (4, .int 0), (3, .int 10), (2, .int 10), (1, .int 0), (0, .ref h)]) S.x S.b d_Tok_number_87 hl (by decide) rfl (fun ls hl => ?_)
          first | exact J89 (((f 7).toInt+9-z42.toInt).toNat + 1) (upd f 8 z42) a (10 : Int32) (10 : Int32) (0 : Int32) v46 0 _ _ ls (show TokOk (f 7) z42 (f 10) (f 11) (f 12) (f 13) (f 17) (a 4) from ⟨⟨o1, o2⟩, ⟨(oz_6599b5c69d tz42 o3), (oz_336516993b o4 tz42)⟩, ⟨o5, o6⟩, ⟨o7, o8⟩, ⟨o9, o10⟩, ⟨o11, o12⟩, o13, hn4⟩) (show (f 7).toInt = (f 7).toInt from rfl) (show (f 10).toInt = (f 10).toInt from rfl) (show (f 15).toInt = (f 15).toInt from rfl) (show 0 ≤ (0 : Int) from by first | decide | omega) (show (f 8).toInt + (0 : Int) ≤ z42.toInt from (oz_58f0e89f84 tz42)) (show Q5 (a 5) from hq5) (show (f 7).toInt+9-z42.toInt < (((((f 7).toInt+9-z42.toInt).toNat + 1 : Nat) : Int) : Int) from oz_natlt) hw (lv_sub hl [6, 4, 3, 2, 0, 1] rfl) | exact J89 (((f 7).toInt+9-z42.toInt).toNat + 1) (upd f 8 z42) a (10 : Int32) (10 : Int32) (0 : Int32) v46 0 _ _ ls (show TokOk (f 7) z42 (f 10) (f 11) (f 12) (f 13) (f 17) (a 4) from ⟨⟨by first | exact o1 | omega, by first | exact o2 | omega⟩, ⟨by first | exact oz_6599b5c69d tz42 o3 | omega, by first | exact oz_336516993b o4 tz42 | omega⟩, ⟨by first | exact o5 | omega, by first | exact o6 | omega⟩, ⟨by first | exact o7 | omega, by first | exact o8 | omega⟩, ⟨by first | exact o9 | omega, by first | exact o10 | omega⟩, ⟨by first | exact o11 | omega, by first | exact o12 | omega⟩, by first | exact o13 | omega, hn4⟩) (show (f 7).toInt = (f 7).toInt from rfl) (show (f 10).toInt = (f 10).toInt from rfl) (show (f 15).toInt = (f 15).toInt from rfl) (show 0 ≤ (0 : Int) from by first | decide | omega) (show (f 8).toInt + (0 : Int) ≤ z42.toInt from by first | exact oz_58f0e89f84 tz42 | omega) (show Q5 (a 5) from hq5) (show (f 7).toInt+9-z42.toInt < (((((f 7).toInt+9-z42.toInt).toNat + 1 : Nat) : Int) : Int) from by first | exact oz_natlt | omega) hw (lv_sub hl [6, 4, 3, 2, 0, 1] rfl)
        · exact absurd c40 (by decide)
      · exact absurd c39 (by decide)
    · exact absurd c38 (by decide)
  · have nc37 : v33.toInt = (48 : Int) := (i_eq (x := v33) (y := 48)).mp c37
    refine lv_aload_n S.x S.b d_Tok_number_13 rfl (lv_at hl 0 rfl) ?_
    refine lv_aload_n S.x S.b d_Tok_number_14 rfl (lv_at hl 0 rfl) ?_
    refine px_get S k_Tok hT hw 0 0 8 (v := .int (f 8)) rfl rfl rfl (by decide) m1_111 d_Tok_number_15 ?_
    refine lv_iconst (v := 1) S.x S.b d_Tok_number_18 (by decide) ?_
    refine lv_iadd S.x S.b d_Tok_number_19 ?_
    have lr47 := Int32.le_toInt (f 8)
    have ur47 := Int32.toInt_lt (f 8)
    refine lv_topi (fun z48 ez48 => ?_)
    have tz48 : z48.toInt = ((f 8).toInt + (1 : Int) + 2147483648) % 4294967296 - 2147483648 := by rw [ez48]; exact i_add (f 8) 1
    have lz48 := Int32.le_toInt z48
    have uz48 := Int32.toInt_lt z48
    try replace tz48 : z48.toInt = (f 8).toInt + (1 : Int) := by omega
    first | refine px_calli (pr := []) (px_runV (As := [.int z48]) (rest := []) S (c_Tok_byteAt l D cs h r tp tb f a g z48 (show TokOk (f 7) (f 8) (f 10) (f 11) (f 12) (f 13) (f 17) (a 4) from ⟨⟨o1, o2⟩, ⟨o3, o4⟩, ⟨o5, o6⟩, ⟨o7, o8⟩, ⟨o9, o10⟩, ⟨o11, o12⟩, o13, hn4⟩)  _) hT (pr := []) (pcs := [wd_Tok cs h r (fun _ => some tp) f a g, [(tp, .inl (cs 1, 2048, .inl tb))]]) hw px_X.tt (px_recv hT hw 0 0 rfl rfl rfl) m3_186 m3_183 m3_185 ms_1_6 m1_2 q_Tok_byteAt ⟨Nat.le_of_ble_eq_true rfl, Nat.le_of_ble_eq_true rfl⟩ hl.1 rfl (Nat.le_of_ble_eq_true rfl) d_Tok_number_20 ⟨Nat.le_of_ble_eq_true rfl, Nat.le_of_ble_eq_true rfl⟩) hw hA (fun v52 p51 H locs hp51 hw => ?_) | refine px_calli (pr := []) (px_runV (As := [.int z48]) (rest := []) S (c_Tok_byteAt l D cs h r tp tb f a g z48 (show TokOk (f 7) (f 8) (f 10) (f 11) (f 12) (f 13) (f 17) (a 4) from ⟨⟨by first | exact o1 | omega, by first | exact o2 | omega⟩, ⟨by first | exact o3 | omega, by first | exact o4 | omega⟩, ⟨by first | exact o5 | omega, by first | exact o6 | omega⟩, ⟨by first | exact o7 | omega, by first | exact o8 | omega⟩, ⟨by first | exact o9 | omega, by first | exact o10 | omega⟩, ⟨by first | exact o11 | omega, by first | exact o12 | omega⟩, by first | exact o13 | omega, hn4⟩)  _) hT (pr := []) (pcs := [wd_Tok cs h r (fun _ => some tp) f a g, [(tp, .inl (cs 1, 2048, .inl tb))]]) hw px_X.tt (px_recv hT hw 0 0 rfl rfl rfl) m3_186 m3_183 m3_185 ms_1_6 m1_2 q_Tok_byteAt ⟨Nat.le_of_ble_eq_true rfl, Nat.le_of_ble_eq_true rfl⟩ hl.1 rfl (Nat.le_of_ble_eq_true rfl) d_Tok_number_20 ⟨Nat.le_of_ble_eq_true rfl, Nat.le_of_ble_eq_true rfl⟩) hw hA (fun v52 p51 H locs hp51 hw => ?_)
    obtain ⟨rfl, e53, e54, e55⟩ := hp51
    have e53 : -1 ≤ v52.toInt := e53
    have e54 : v52.toInt ≤ 255 := e54
    have e55 : 0 ≤ v52.toInt → 0 ≤ z48.toInt ∧ z48.toInt < (f 7).toInt := e55
    have lv52 := Int32.le_toInt v52
    have uv52 := Int32.toInt_lt v52
    refine lv_bipush (v := 120) S.x S.b d_Tok_number_23 (by decide) ?_
    refine lv_icmp_ne (tgt := 32) S.x S.b d_Tok_number_25 (by decide) (fun c56 => ?_) (fun c56 => ?_)
    · have nc56 : ¬ v52.toInt = (120 : Int) := mt (i_eq (x := v52) (y := 120)).mpr c56
      refine lv_iconst (v := 0) S.x S.b d_Tok_number_32 (by decide) ?_
      refine lv_istore_n (lv' := [(1, .int 0), (0, .ref h)]) S.x S.b d_Tok_number_33 rfl hl (by decide) rfl (fun ls hl => ?_)
      refine lv_iload_n S.x S.b d_Tok_number_34 rfl (lv_at hl 0 rfl) ?_
      refine lv_if_eq (tgt := 43) S.x S.b d_Tok_number_35 (by decide) (fun c57 => ?_) (fun c57 => ?_)
      ·
        refine lv_bipush (v := 10) S.x S.b d_Tok_number_43 (by decide) ?_
        refine lv_istore_n (lv' := [(2, .int 10), (1, .int 0), (0, .ref h)]) S.x S.b d_Tok_number_45 rfl hl (by decide) rfl (fun ls hl => ?_)
        refine lv_iload_n S.x S.b d_Tok_number_46 rfl (lv_at hl 1 rfl) ?_
        refine lv_if_eq (tgt := 55) S.x S.b d_Tok_number_47 (by decide) (fun c58 => ?_) (fun c58 => ?_)
        ·
          refine lv_bipush (v := 10) S.x S.b d_Tok_number_55 (by decide) ?_
          refine lv_istore_n (lv' := [(3, .int 10), (2, .int 10), (1, .int 0), (0, .ref h)]) S.x S.b d_Tok_number_57 rfl hl (by decide) rfl (fun ls hl => ?_)
          refine lv_iconst (v := 0) S.x S.b d_Tok_number_58 (by decide) ?_
          refine lv_istore (lv' := [(4, .int 0), (3, .int 10), (2, .int 10), (1, .int 0), (0, .ref h)]) S.x S.b d_Tok_number_59 hl (by decide) rfl (fun ls hl => ?_)
          refine lv_lconst (v := 0) S.x S.b d_Tok_number_61 (by decide) ?_
          refine lv_lstore (lv' := [(5, .long 0), (4, .int 0), (3, .int 10), (2, .int 10), (1, .int 0), (0, .ref h)]) S.x S.b d_Tok_number_62 hl (by decide) rfl (fun ls hl => ?_)
          refine lv_aload_n S.x S.b d_Tok_number_64 rfl (lv_at hl 5 rfl) ?_
          refine lv_dup S.x S.b d_Tok_number_65 rfl ?_
          refine px_get S k_Tok hT hw 0 0 8 (v := .int (f 8)) rfl rfl rfl (by decide) m1_111 d_Tok_number_66 ?_
          refine lv_iload_n S.x S.b d_Tok_number_69 rfl (lv_at hl 4 rfl) ?_
          refine lv_if_eq (tgt := 77) S.x S.b d_Tok_number_70 (by decide) (fun c59 => ?_) (fun c59 => ?_)
          ·
            refine lv_iconst (v := 0) S.x S.b d_Tok_number_77 (by decide) ?_
            refine lv_iadd S.x S.b d_Tok_number_78 ?_
            have lr60 := Int32.le_toInt (f 8)
            have ur60 := Int32.toInt_lt (f 8)
            refine lv_topi (fun z61 ez61 => ?_)
            have tz61 : z61.toInt = ((f 8).toInt + (0 : Int) + 2147483648) % 4294967296 - 2147483648 := by rw [ez61]; exact i_add (f 8) 0
            have lz61 := Int32.le_toInt z61
            have uz61 := Int32.toInt_lt z61
            try replace tz61 : z61.toInt = (f 8).toInt + (0 : Int) := by omega
            refine px_put S k_Tok hT hw 0 0 8 rfl rfl (by decide) m1_111 rfl rfl rfl (Nat.le_of_ble_eq_true rfl) d_Tok_number_79 (w' := wd_Tok cs h r (fun _ => some tp) (upd f 8 z61) a g) (ps' := [wd_Tok cs h r (fun _ => some tp) (upd f 8 z61) a g, [(tp, .inl (cs 1, 2048, .inl tb))]]) rfl rfl (fun H locs hw => ?_)
            refine lv_aload_n S.x S.b d_Tok_number_82 rfl (lv_at hl 5 rfl) ?_
            refine lv_iload_n S.x S.b d_Tok_number_83 rfl (lv_at hl 3 rfl) ?_
            first | refine px_calli (pr := []) (px_runV (As := [.int 10]) (rest := []) S (c_Tok_digit l D cs h r tp tb (upd f 8 z61) a g 10 (show TokOk (f 7) z61 (f 10) (f 11) (f 12) (f 13) (f 17) (a 4) from ⟨⟨o1, o2⟩, ⟨(oz_6599b5c69d tz61 o3), (oz_336516993b o4 tz61)⟩, ⟨o5, o6⟩, ⟨o7, o8⟩, ⟨o9, o10⟩, ⟨o11, o12⟩, o13, hn4⟩)  _) hT (pr := []) (pcs := [wd_Tok cs h r (fun _ => some tp) (upd f 8 z61) a g, [(tp, .inl (cs 1, 2048, .inl tb))]]) hw px_X.tt (px_recv hT hw 0 0 rfl rfl rfl) m3_224 m3_221 m3_223 ms_1_14 m1_2 q_Tok_digit ⟨Nat.le_of_ble_eq_true rfl, Nat.le_of_ble_eq_true rfl⟩ hl.1 rfl (Nat.le_of_ble_eq_true rfl) d_Tok_number_84 ⟨Nat.le_of_ble_eq_true rfl, Nat.le_of_ble_eq_true rfl⟩) hw hA (fun v65 p64 H locs hp64 hw => ?_) | refine px_calli (pr := []) (px_runV (As := [.int 10]) (rest := []) S (c_Tok_digit l D cs h r tp tb (upd f 8 z61) a g 10 (show TokOk (f 7) z61 (f 10) (f 11) (f 12) (f 13) (f 17) (a 4) from ⟨⟨by first | exact o1 | omega, by first | exact o2 | omega⟩, ⟨by first | exact oz_6599b5c69d tz61 o3 | omega, by first | exact oz_336516993b o4 tz61 | omega⟩, ⟨by first | exact o5 | omega, by first | exact o6 | omega⟩, ⟨by first | exact o7 | omega, by first | exact o8 | omega⟩, ⟨by first | exact o9 | omega, by first | exact o10 | omega⟩, ⟨by first | exact o11 | omega, by first | exact o12 | omega⟩, by first | exact o13 | omega, hn4⟩)  _) hT (pr := []) (pcs := [wd_Tok cs h r (fun _ => some tp) (upd f 8 z61) a g, [(tp, .inl (cs 1, 2048, .inl tb))]]) hw px_X.tt (px_recv hT hw 0 0 rfl rfl rfl) m3_224 m3_221 m3_223 ms_1_14 m1_2 q_Tok_digit ⟨Nat.le_of_ble_eq_true rfl, Nat.le_of_ble_eq_true rfl⟩ hl.1 rfl (Nat.le_of_ble_eq_true rfl) d_Tok_number_84 ⟨Nat.le_of_ble_eq_true rfl, Nat.le_of_ble_eq_true rfl⟩) hw hA (fun v65 p64 H locs hp64 hw => ?_)
            subst hp64
            have lv65 := Int32.le_toInt v65
            have uv65 := Int32.toInt_lt v65
            refine lv_istore (lv' := [(7, .int v65), (5, .long 0), (4, .int 0), (3, .int 10), (2, .int 10), (1, .int 0), (0, .ref h)]) S.x S.b d_Tok_number_87 hl (by decide) rfl (fun ls hl => ?_)
            first | exact J89 (((f 7).toInt+9-z61.toInt).toNat + 1) (upd f 8 z61) a (10 : Int32) (10 : Int32) (0 : Int32) v65 0 _ _ ls (show TokOk (f 7) z61 (f 10) (f 11) (f 12) (f 13) (f 17) (a 4) from ⟨⟨o1, o2⟩, ⟨(oz_6599b5c69d tz61 o3), (oz_336516993b o4 tz61)⟩, ⟨o5, o6⟩, ⟨o7, o8⟩, ⟨o9, o10⟩, ⟨o11, o12⟩, o13, hn4⟩) (show (f 7).toInt = (f 7).toInt from rfl) (show (f 10).toInt = (f 10).toInt from rfl) (show (f 15).toInt = (f 15).toInt from rfl) (show 0 ≤ (0 : Int) from by first | decide | omega) (show (f 8).toInt + (0 : Int) ≤ z61.toInt from (oz_58f0e89f84 tz61)) (show Q5 (a 5) from hq5) (show (f 7).toInt+9-z61.toInt < (((((f 7).toInt+9-z61.toInt).toNat + 1 : Nat) : Int) : Int) from oz_natlt) hw (lv_sub hl [6, 4, 3, 2, 0, 1] rfl) | exact J89 (((f 7).toInt+9-z61.toInt).toNat + 1) (upd f 8 z61) a (10 : Int32) (10 : Int32) (0 : Int32) v65 0 _ _ ls (show TokOk (f 7) z61 (f 10) (f 11) (f 12) (f 13) (f 17) (a 4) from ⟨⟨by first | exact o1 | omega, by first | exact o2 | omega⟩, ⟨by first | exact oz_6599b5c69d tz61 o3 | omega, by first | exact oz_336516993b o4 tz61 | omega⟩, ⟨by first | exact o5 | omega, by first | exact o6 | omega⟩, ⟨by first | exact o7 | omega, by first | exact o8 | omega⟩, ⟨by first | exact o9 | omega, by first | exact o10 | omega⟩, ⟨by first | exact o11 | omega, by first | exact o12 | omega⟩, by first | exact o13 | omega, hn4⟩) (show (f 7).toInt = (f 7).toInt from rfl) (show (f 10).toInt = (f 10).toInt from rfl) (show (f 15).toInt = (f 15).toInt from rfl) (show 0 ≤ (0 : Int) from by first | decide | omega) (show (f 8).toInt + (0 : Int) ≤ z61.toInt from by first | exact oz_58f0e89f84 tz61 | omega) (show Q5 (a 5) from hq5) (show (f 7).toInt+9-z61.toInt < (((((f 7).toInt+9-z61.toInt).toNat + 1 : Nat) : Int) : Int) from by first | exact oz_natlt | omega) hw (lv_sub hl [6, 4, 3, 2, 0, 1] rfl)
          · exact absurd c59 (by decide)
        · exact absurd c58 (by decide)
      · exact absurd c57 (by decide)
    · have nc56 : v52.toInt = (120 : Int) := (i_eq (x := v52) (y := 120)).mp c56
      refine lv_iconst (v := 1) S.x S.b d_Tok_number_28 (by decide) ?_
      refine lv_goto (tgt := 33) S.x S.b d_Tok_number_29 (by decide) ?_
      refine lv_istore_n (lv' := [(1, .int 1), (0, .ref h)]) S.x S.b d_Tok_number_33 rfl hl (by decide) rfl (fun ls hl => ?_)
      refine lv_iload_n S.x S.b d_Tok_number_34 rfl (lv_at hl 0 rfl) ?_
      refine lv_if_eq (tgt := 43) S.x S.b d_Tok_number_35 (by decide) (fun c66 => ?_) (fun c66 => ?_)
      · exact absurd c66 (by decide)
      ·
        refine lv_bipush (v := 16) S.x S.b d_Tok_number_38 (by decide) ?_
        refine lv_goto (tgt := 45) S.x S.b d_Tok_number_40 (by decide) ?_
        refine lv_istore_n (lv' := [(2, .int 16), (1, .int 1), (0, .ref h)]) S.x S.b d_Tok_number_45 rfl hl (by decide) rfl (fun ls hl => ?_)
        refine lv_iload_n S.x S.b d_Tok_number_46 rfl (lv_at hl 1 rfl) ?_
        refine lv_if_eq (tgt := 55) S.x S.b d_Tok_number_47 (by decide) (fun c67 => ?_) (fun c67 => ?_)
        · exact absurd c67 (by decide)
        ·
          refine lv_bipush (v := 8) S.x S.b d_Tok_number_50 (by decide) ?_
          refine lv_goto (tgt := 57) S.x S.b d_Tok_number_52 (by decide) ?_
          refine lv_istore_n (lv' := [(3, .int 8), (2, .int 16), (1, .int 1), (0, .ref h)]) S.x S.b d_Tok_number_57 rfl hl (by decide) rfl (fun ls hl => ?_)
          refine lv_iconst (v := 0) S.x S.b d_Tok_number_58 (by decide) ?_
          refine lv_istore (lv' := [(4, .int 0), (3, .int 8), (2, .int 16), (1, .int 1), (0, .ref h)]) S.x S.b d_Tok_number_59 hl (by decide) rfl (fun ls hl => ?_)
          refine lv_lconst (v := 0) S.x S.b d_Tok_number_61 (by decide) ?_
          refine lv_lstore (lv' := [(5, .long 0), (4, .int 0), (3, .int 8), (2, .int 16), (1, .int 1), (0, .ref h)]) S.x S.b d_Tok_number_62 hl (by decide) rfl (fun ls hl => ?_)
          refine lv_aload_n S.x S.b d_Tok_number_64 rfl (lv_at hl 5 rfl) ?_
          refine lv_dup S.x S.b d_Tok_number_65 rfl ?_
          refine px_get S k_Tok hT hw 0 0 8 (v := .int (f 8)) rfl rfl rfl (by decide) m1_111 d_Tok_number_66 ?_
          refine lv_iload_n S.x S.b d_Tok_number_69 rfl (lv_at hl 4 rfl) ?_
          refine lv_if_eq (tgt := 77) S.x S.b d_Tok_number_70 (by decide) (fun c68 => ?_) (fun c68 => ?_)
          · exact absurd c68 (by decide)
          ·
            refine lv_iconst (v := 2) S.x S.b d_Tok_number_73 (by decide) ?_
            refine lv_goto (tgt := 78) S.x S.b d_Tok_number_74 (by decide) ?_
            refine lv_iadd S.x S.b d_Tok_number_78 ?_
            have lr69 := Int32.le_toInt (f 8)
            have ur69 := Int32.toInt_lt (f 8)
            refine lv_topi (fun z70 ez70 => ?_)
            have tz70 : z70.toInt = ((f 8).toInt + (2 : Int) + 2147483648) % 4294967296 - 2147483648 := by rw [ez70]; exact i_add (f 8) 2
            have lz70 := Int32.le_toInt z70
            have uz70 := Int32.toInt_lt z70
            try replace tz70 : z70.toInt = (f 8).toInt + (2 : Int) := by omega
            refine px_put S k_Tok hT hw 0 0 8 rfl rfl (by decide) m1_111 rfl rfl rfl (Nat.le_of_ble_eq_true rfl) d_Tok_number_79 (w' := wd_Tok cs h r (fun _ => some tp) (upd f 8 z70) a g) (ps' := [wd_Tok cs h r (fun _ => some tp) (upd f 8 z70) a g, [(tp, .inl (cs 1, 2048, .inl tb))]]) rfl rfl (fun H locs hw => ?_)
            refine lv_aload_n S.x S.b d_Tok_number_82 rfl (lv_at hl 5 rfl) ?_
            refine lv_iload_n S.x S.b d_Tok_number_83 rfl (lv_at hl 3 rfl) ?_
            first | refine px_calli (pr := []) (px_runV (As := [.int 16]) (rest := []) S (c_Tok_digit l D cs h r tp tb (upd f 8 z70) a g 16 (show TokOk (f 7) z70 (f 10) (f 11) (f 12) (f 13) (f 17) (a 4) from ⟨⟨o1, o2⟩, ⟨(oz_6c4a1e09c3 tz70 o3), (oz_923e74ff93 tz70 nc56 e55 tz48)⟩, ⟨o5, o6⟩, ⟨o7, o8⟩, ⟨o9, o10⟩, ⟨o11, o12⟩, o13, hn4⟩)  _) hT (pr := []) (pcs := [wd_Tok cs h r (fun _ => some tp) (upd f 8 z70) a g, [(tp, .inl (cs 1, 2048, .inl tb))]]) hw px_X.tt (px_recv hT hw 0 0 rfl rfl rfl) m3_224 m3_221 m3_223 ms_1_14 m1_2 q_Tok_digit ⟨Nat.le_of_ble_eq_true rfl, Nat.le_of_ble_eq_true rfl⟩ hl.1 rfl (Nat.le_of_ble_eq_true rfl) d_Tok_number_84 ⟨Nat.le_of_ble_eq_true rfl, Nat.le_of_ble_eq_true rfl⟩) hw hA (fun v74 p73 H locs hp73 hw => ?_) | refine px_calli (pr := []) (px_runV (As := [.int 16]) (rest := []) S (c_Tok_digit l D cs h r tp tb (upd f 8 z70) a g 16 (show TokOk (f 7) z70 (f 10) (f 11) (f 12) (f 13) (f 17) (a 4) from ⟨⟨by first | exact o1 | omega, by first | exact o2 | omega⟩, ⟨by first | exact oz_6c4a1e09c3 tz70 o3 | omega, by first | exact oz_923e74ff93 tz70 nc56 e55 tz48 | omega⟩, ⟨by first | exact o5 | omega, by first | exact o6 | omega⟩, ⟨by first | exact o7 | omega, by first | exact o8 | omega⟩, ⟨by first | exact o9 | omega, by first | exact o10 | omega⟩, ⟨by first | exact o11 | omega, by first | exact o12 | omega⟩, by first | exact o13 | omega, hn4⟩)  _) hT (pr := []) (pcs := [wd_Tok cs h r (fun _ => some tp) (upd f 8 z70) a g, [(tp, .inl (cs 1, 2048, .inl tb))]]) hw px_X.tt (px_recv hT hw 0 0 rfl rfl rfl) m3_224 m3_221 m3_223 ms_1_14 m1_2 q_Tok_digit ⟨Nat.le_of_ble_eq_true rfl, Nat.le_of_ble_eq_true rfl⟩ hl.1 rfl (Nat.le_of_ble_eq_true rfl) d_Tok_number_84 ⟨Nat.le_of_ble_eq_true rfl, Nat.le_of_ble_eq_true rfl⟩) hw hA (fun v74 p73 H locs hp73 hw => ?_)
            subst hp73
            have lv74 := Int32.le_toInt v74
            have uv74 := Int32.toInt_lt v74
            refine lv_istore (lv' := [(7, .int v74), (5, .long 0), (4, .int 0), (3, .int 8), (2, .int 16), (1, .int 1), (0, .ref h)]) S.x S.b d_Tok_number_87 hl (by decide) rfl (fun ls hl => ?_)
            first | exact J89 (((f 7).toInt+9-z70.toInt).toNat + 1) (upd f 8 z70) a (16 : Int32) (8 : Int32) (0 : Int32) v74 0 _ _ ls (show TokOk (f 7) z70 (f 10) (f 11) (f 12) (f 13) (f 17) (a 4) from ⟨⟨o1, o2⟩, ⟨(oz_6c4a1e09c3 tz70 o3), (oz_923e74ff93 tz70 nc56 e55 tz48)⟩, ⟨o5, o6⟩, ⟨o7, o8⟩, ⟨o9, o10⟩, ⟨o11, o12⟩, o13, hn4⟩) (show (f 7).toInt = (f 7).toInt from rfl) (show (f 10).toInt = (f 10).toInt from rfl) (show (f 15).toInt = (f 15).toInt from rfl) (show 0 ≤ (0 : Int) from by first | decide | omega) (show (f 8).toInt + (0 : Int) ≤ z70.toInt from (oz_44ccb7c1dc tz70)) (show Q5 (a 5) from hq5) (show (f 7).toInt+9-z70.toInt < (((((f 7).toInt+9-z70.toInt).toNat + 1 : Nat) : Int) : Int) from oz_natlt) hw (lv_sub hl [6, 4, 3, 2, 0, 1] rfl) | exact J89 (((f 7).toInt+9-z70.toInt).toNat + 1) (upd f 8 z70) a (16 : Int32) (8 : Int32) (0 : Int32) v74 0 _ _ ls (show TokOk (f 7) z70 (f 10) (f 11) (f 12) (f 13) (f 17) (a 4) from ⟨⟨by first | exact o1 | omega, by first | exact o2 | omega⟩, ⟨by first | exact oz_6c4a1e09c3 tz70 o3 | omega, by first | exact oz_923e74ff93 tz70 nc56 e55 tz48 | omega⟩, ⟨by first | exact o5 | omega, by first | exact o6 | omega⟩, ⟨by first | exact o7 | omega, by first | exact o8 | omega⟩, ⟨by first | exact o9 | omega, by first | exact o10 | omega⟩, ⟨by first | exact o11 | omega, by first | exact o12 | omega⟩, by first | exact o13 | omega, hn4⟩) (show (f 7).toInt = (f 7).toInt from rfl) (show (f 10).toInt = (f 10).toInt from rfl) (show (f 15).toInt = (f 15).toInt from rfl) (show 0 ≤ (0 : Int) from by first | decide | omega) (show (f 8).toInt + (0 : Int) ≤ z70.toInt from by first | exact oz_44ccb7c1dc tz70 | omega) (show Q5 (a 5) from hq5) (show (f 7).toInt+9-z70.toInt < (((((f 7).toInt+9-z70.toInt).toNat + 1 : Nat) : Int) : Int) from by first | exact oz_natlt | omega) hw (lv_sub hl [6, 4, 3, 2, 0, 1] rfl)
set_option maxHeartbeats 4000000 in
set_option maxRecDepth 100000 in
theorem c_t2_character (l : Launch) (D : va_G) (cs : Nat → ClassId) (h : Nat) (r : Nat → Nat) (tp : Nat) (tb : Nat → Int32) (g : Nat → Nat → Option Nat) (f : Nat → Int32) (a : Nat → Nat → Int32)  (hinv0 : TokOk (f 7) (f 8) (f 10) (f 11) (f 12) (f 13) (f 17) (a 4)) (hq5 : Q5 (a 5)) : MetI l y_Tok_character b_Tok_character 3 (.int) D cs 2 60 (0) (0) [.ref h] [wd_Tok cs h r (fun _ => some tp) f a g, [(tp, .inl (cs 1, 2048, .inl tb))]] (fun _ => True) (fun v ps => ∃ (f' : Nat → Int32) (a' : Nat → Nat → Int32), (ps = [wd_Tok cs h r (fun _ => some tp) f' a' g, [(tp, .inl (cs 1, 2048, .inl tb))]]) ∧ (TokOk (f' 7) (f' 8) (f' 10) (f' 11) (f' 12) (f' 13) (f' 17) (a' 4)) ∧ ((f' 7).toInt = (f 7).toInt) ∧ ((f' 10).toInt = (f 10).toInt) ∧ ((f' 15).toInt = (f 15).toInt) ∧ (v.toInt = 19 ∨ (f 8).toInt + 1 ≤ (f' 8).toInt) ∧ (Q5 (a' 5))) := by
  refine px_enter (by decide) (Nat.le_of_ble_eq_true rfl) ?_
  intro p e s m below meth c A ls hAe S hr hlk hnm hA hT hX hw hl
  have hl : lv_has ls 3 [(0, .ref h)] := hl
  have cst1 : (1 : Int32).toInt = 1 := rfl
  have cst17 : (17 : Int32).toInt = 17 := rfl
  have cst19 : (19 : Int32).toInt = 19 := rfl
  have cst39 : (39 : Int32).toInt = 39 := rfl
  obtain ⟨⟨o1, o2⟩, ⟨o3, o4⟩, ⟨o5, o6⟩, ⟨o7, o8⟩, ⟨o9, o10⟩, ⟨o11, o12⟩, o13, hn4⟩ := hinv0
  refine lv_aload_n S.x S.b d_Tok_character_0 rfl (lv_at hl 0 rfl) ?_
  refine lv_aload_n S.x S.b d_Tok_character_1 rfl (lv_at hl 0 rfl) ?_
  refine px_get S k_Tok hT hw 0 0 8 (v := .int (f 8)) rfl rfl rfl (by decide) m1_111 d_Tok_character_2 ?_
  refine lv_iconst (v := 1) S.x S.b d_Tok_character_5 (by decide) ?_
  refine lv_iadd S.x S.b d_Tok_character_6 ?_
  have lr1 := Int32.le_toInt (f 8)
  have ur1 := Int32.toInt_lt (f 8)
  refine lv_topi (fun z2 ez2 => ?_)
  have tz2 : z2.toInt = ((f 8).toInt + (1 : Int) + 2147483648) % 4294967296 - 2147483648 := by rw [ez2]; exact i_add (f 8) 1
  have lz2 := Int32.le_toInt z2
  have uz2 := Int32.toInt_lt z2
  try replace tz2 : z2.toInt = (f 8).toInt + (1 : Int) := by omega
  refine lv_bipush (v := 39) S.x S.b d_Tok_character_7 (by decide) ?_
  first | refine px_calli (pr := []) (px_runV (As := [.int z2, .int 39]) (rest := []) S (c_Tok_quotedAt l D cs h r tp tb f a g z2 39 (show TokOk (f 7) (f 8) (f 10) (f 11) (f 12) (f 13) (f 17) (a 4) from ⟨⟨o1, o2⟩, ⟨o3, o4⟩, ⟨o5, o6⟩, ⟨o7, o8⟩, ⟨o9, o10⟩, ⟨o11, o12⟩, o13, hn4⟩)  _) hT (pr := []) (pcs := [wd_Tok cs h r (fun _ => some tp) f a g, [(tp, .inl (cs 1, 2048, .inl tb))]]) hw px_X.tt (px_recv hT hw 0 0 rfl rfl rfl) m3_233 m3_230 m3_232 ms_2_0 m1_2 q_Tok_quotedAt ⟨Nat.le_of_ble_eq_true rfl, Nat.le_of_ble_eq_true rfl⟩ hl.1 rfl (Nat.le_of_ble_eq_true rfl) d_Tok_character_9 ⟨Nat.le_of_ble_eq_true rfl, Nat.le_of_ble_eq_true rfl⟩) hw hA (fun v6 p5 H locs hp5 hw => ?_) | refine px_calli (pr := []) (px_runV (As := [.int z2, .int 39]) (rest := []) S (c_Tok_quotedAt l D cs h r tp tb f a g z2 39 (show TokOk (f 7) (f 8) (f 10) (f 11) (f 12) (f 13) (f 17) (a 4) from ⟨⟨by first | exact o1 | omega, by first | exact o2 | omega⟩, ⟨by first | exact o3 | omega, by first | exact o4 | omega⟩, ⟨by first | exact o5 | omega, by first | exact o6 | omega⟩, ⟨by first | exact o7 | omega, by first | exact o8 | omega⟩, ⟨by first | exact o9 | omega, by first | exact o10 | omega⟩, ⟨by first | exact o11 | omega, by first | exact o12 | omega⟩, by first | exact o13 | omega, hn4⟩)  _) hT (pr := []) (pcs := [wd_Tok cs h r (fun _ => some tp) f a g, [(tp, .inl (cs 1, 2048, .inl tb))]]) hw px_X.tt (px_recv hT hw 0 0 rfl rfl rfl) m3_233 m3_230 m3_232 ms_2_0 m1_2 q_Tok_quotedAt ⟨Nat.le_of_ble_eq_true rfl, Nat.le_of_ble_eq_true rfl⟩ hl.1 rfl (Nat.le_of_ble_eq_true rfl) d_Tok_character_9 ⟨Nat.le_of_ble_eq_true rfl, Nat.le_of_ble_eq_true rfl⟩) hw hA (fun v6 p5 H locs hp5 hw => ?_)
  obtain ⟨rfl, e7, e8⟩ := hp5
  have e7 : -1 ≤ v6.toInt := e7
  have e8 : 0 ≤ v6.toInt → 0 ≤ z2.toInt ∧ z2.toInt < (f 7).toInt := e8
  have lv6 := Int32.le_toInt v6
  have uv6 := Int32.toInt_lt v6
  refine lv_istore_n (lv' := [(1, .int v6), (0, .ref h)]) S.x S.b d_Tok_character_12 rfl hl (by decide) rfl (fun ls hl => ?_)
  refine lv_aload_n S.x S.b d_Tok_character_13 rfl (lv_at hl 1 rfl) ?_
  refine px_get S k_Tok hT hw 0 0 8 (v := .int (f 8)) rfl rfl rfl (by decide) m1_111 d_Tok_character_14 ?_
  refine lv_iconst (v := 1) S.x S.b d_Tok_character_17 (by decide) ?_
  refine lv_iadd S.x S.b d_Tok_character_18 ?_
  have lr9 := Int32.le_toInt (f 8)
  have ur9 := Int32.toInt_lt (f 8)
  refine lv_topi (fun z10 ez10 => ?_)
  have tz10 : z10.toInt = ((f 8).toInt + (1 : Int) + 2147483648) % 4294967296 - 2147483648 := by rw [ez10]; exact i_add (f 8) 1
  have lz10 := Int32.le_toInt z10
  have uz10 := Int32.toInt_lt z10
  try replace tz10 : z10.toInt = (f 8).toInt + (1 : Int) := by omega
  refine lv_aload_n S.x S.b d_Tok_character_19 rfl (lv_at hl 1 rfl) ?_
  refine lv_aload_n S.x S.b d_Tok_character_20 rfl (lv_at hl 1 rfl) ?_
  refine px_get S k_Tok hT hw 0 0 8 (v := .int (f 8)) rfl rfl rfl (by decide) m1_111 d_Tok_character_21 ?_
  refine lv_iconst (v := 1) S.x S.b d_Tok_character_24 (by decide) ?_
  refine lv_iadd S.x S.b d_Tok_character_25 ?_
  have lr11 := Int32.le_toInt (f 8)
  have ur11 := Int32.toInt_lt (f 8)
  refine lv_topi (fun z12 ez12 => ?_)
  have tz12 : z12.toInt = ((f 8).toInt + (1 : Int) + 2147483648) % 4294967296 - 2147483648 := by rw [ez12]; exact i_add (f 8) 1
  have lz12 := Int32.le_toInt z12
  have uz12 := Int32.toInt_lt z12
  try replace tz12 : z12.toInt = (f 8).toInt + (1 : Int) := by omega
  first | refine px_calli (pr := []) (px_runV (As := [.int z12]) (rest := [.int z10]) S (c_Tok_quotedWidth l D cs h r tp tb f a g z12 (show TokOk (f 7) (f 8) (f 10) (f 11) (f 12) (f 13) (f 17) (a 4) from ⟨⟨o1, o2⟩, ⟨o3, o4⟩, ⟨o5, o6⟩, ⟨o7, o8⟩, ⟨o9, o10⟩, ⟨o11, o12⟩, o13, hn4⟩)  _) hT (pr := []) (pcs := [wd_Tok cs h r (fun _ => some tp) f a g, [(tp, .inl (cs 1, 2048, .inl tb))]]) hw px_X.tt (px_recv hT hw 0 0 rfl rfl rfl) m3_237 m3_234 m3_236 ms_2_1 m1_2 q_Tok_quotedWidth ⟨Nat.le_of_ble_eq_true rfl, Nat.le_of_ble_eq_true rfl⟩ hl.1 rfl (Nat.le_of_ble_eq_true rfl) d_Tok_character_26 ⟨Nat.le_of_ble_eq_true rfl, Nat.le_of_ble_eq_true rfl⟩) hw hA (fun v16 p15 H locs hp15 hw => ?_) | refine px_calli (pr := []) (px_runV (As := [.int z12]) (rest := [.int z10]) S (c_Tok_quotedWidth l D cs h r tp tb f a g z12 (show TokOk (f 7) (f 8) (f 10) (f 11) (f 12) (f 13) (f 17) (a 4) from ⟨⟨by first | exact o1 | omega, by first | exact o2 | omega⟩, ⟨by first | exact o3 | omega, by first | exact o4 | omega⟩, ⟨by first | exact o5 | omega, by first | exact o6 | omega⟩, ⟨by first | exact o7 | omega, by first | exact o8 | omega⟩, ⟨by first | exact o9 | omega, by first | exact o10 | omega⟩, ⟨by first | exact o11 | omega, by first | exact o12 | omega⟩, by first | exact o13 | omega, hn4⟩)  _) hT (pr := []) (pcs := [wd_Tok cs h r (fun _ => some tp) f a g, [(tp, .inl (cs 1, 2048, .inl tb))]]) hw px_X.tt (px_recv hT hw 0 0 rfl rfl rfl) m3_237 m3_234 m3_236 ms_2_1 m1_2 q_Tok_quotedWidth ⟨Nat.le_of_ble_eq_true rfl, Nat.le_of_ble_eq_true rfl⟩ hl.1 rfl (Nat.le_of_ble_eq_true rfl) d_Tok_character_26 ⟨Nat.le_of_ble_eq_true rfl, Nat.le_of_ble_eq_true rfl⟩) hw hA (fun v16 p15 H locs hp15 hw => ?_)
  obtain ⟨rfl, e17, e18⟩ := hp15
  have e17 : 1 ≤ v16.toInt := e17
  have e18 : v16.toInt ≤ 2 := e18
  have lv16 := Int32.le_toInt v16
  have uv16 := Int32.toInt_lt v16
  refine lv_iadd S.x S.b d_Tok_character_29 ?_
  refine lv_topi (fun z19 ez19 => ?_)
  have tz19 : z19.toInt = (z10.toInt + v16.toInt + 2147483648) % 4294967296 - 2147483648 := by rw [ez19]; exact i_add z10 v16
  have lz19 := Int32.le_toInt z19
  have uz19 := Int32.toInt_lt z19
  try replace tz19 : z19.toInt = z10.toInt + v16.toInt := by omega
  refine lv_istore_n (lv' := [(2, .int z19), (1, .int v6), (0, .ref h)]) S.x S.b d_Tok_character_30 rfl hl (by decide) rfl (fun ls hl => ?_)
  refine lv_iload_n S.x S.b d_Tok_character_31 rfl (lv_at hl 1 rfl) ?_
  refine lv_if_lt (tgt := 45) S.x S.b d_Tok_character_32 (by decide) (fun c20 => ?_) (fun c20 => ?_)
  · have nc20 : v6.toInt < (0 : Int) := (i_lt (x := v6) (y := 0)).mp c20
    refine lv_bipush (v := 19) S.x S.b d_Tok_character_45 (by decide) ?_
    first | exact px_iret (v := 19) S hr rfl hlk hAe hw (Nat.le_of_ble_eq_true rfl) (Nat.le_of_ble_eq_true rfl) (⟨f, a, rfl, (show TokOk (f 7) (f 8) (f 10) (f 11) (f 12) (f 13) (f 17) (a 4) from ⟨⟨o1, o2⟩, ⟨o3, o4⟩, ⟨o5, o6⟩, ⟨o7, o8⟩, ⟨o9, o10⟩, ⟨o11, o12⟩, o13, hn4⟩), (show (f 7).toInt = (f 7).toInt from rfl), (show (f 10).toInt = (f 10).toInt from rfl), (show (f 15).toInt = (f 15).toInt from rfl), (show (19 : Int) = 19 ∨ (f 8).toInt + 1 ≤ (f 8).toInt from by first | with_reducible rfl | with_reducible assumption | omega), (show Q5 (a 5) from hq5)⟩) d_Tok_character_47 | exact px_iret (v := 19) S hr rfl hlk hAe hw (Nat.le_of_ble_eq_true rfl) (Nat.le_of_ble_eq_true rfl) (⟨f, a, rfl, (show TokOk (f 7) (f 8) (f 10) (f 11) (f 12) (f 13) (f 17) (a 4) from ⟨⟨by first | exact o1 | omega, by first | exact o2 | omega⟩, ⟨by first | exact o3 | omega, by first | exact o4 | omega⟩, ⟨by first | exact o5 | omega, by first | exact o6 | omega⟩, ⟨by first | exact o7 | omega, by first | exact o8 | omega⟩, ⟨by first | exact o9 | omega, by first | exact o10 | omega⟩, ⟨by first | exact o11 | omega, by first | exact o12 | omega⟩, by first | exact o13 | omega, hn4⟩), (show (f 7).toInt = (f 7).toInt from rfl), (show (f 10).toInt = (f 10).toInt from rfl), (show (f 15).toInt = (f 15).toInt from rfl), (show (19 : Int) = 19 ∨ (f 8).toInt + 1 ≤ (f 8).toInt from by first | with_reducible rfl | with_reducible assumption | omega), (show Q5 (a 5) from hq5)⟩) d_Tok_character_47
  · have nc20 : ¬ v6.toInt < (0 : Int) := mt (i_lt (x := v6) (y := 0)).mpr c20
    refine lv_aload_n S.x S.b d_Tok_character_35 rfl (lv_at hl 2 rfl) ?_
    refine lv_iload_n S.x S.b d_Tok_character_36 rfl (lv_at hl 0 rfl) ?_
    first | refine px_calli (pr := []) (px_runV (As := [.int z19]) (rest := []) S (c_Tok_byteAt l D cs h r tp tb f a g z19 (show TokOk (f 7) (f 8) (f 10) (f 11) (f 12) (f 13) (f 17) (a 4) from ⟨⟨o1, o2⟩, ⟨o3, o4⟩, ⟨o5, o6⟩, ⟨o7, o8⟩, ⟨o9, o10⟩, ⟨o11, o12⟩, o13, hn4⟩)  _) hT (pr := []) (pcs := [wd_Tok cs h r (fun _ => some tp) f a g, [(tp, .inl (cs 1, 2048, .inl tb))]]) hw px_X.tt (px_recv hT hw 0 0 rfl rfl rfl) m3_186 m3_183 m3_185 ms_1_6 m1_2 q_Tok_byteAt ⟨Nat.le_of_ble_eq_true rfl, Nat.le_of_ble_eq_true rfl⟩ hl.1 rfl (Nat.le_of_ble_eq_true rfl) d_Tok_character_37 ⟨Nat.le_of_ble_eq_true rfl, Nat.le_of_ble_eq_true rfl⟩) hw hA (fun v24 p23 H locs hp23 hw => ?_) | refine px_calli (pr := []) (px_runV (As := [.int z19]) (rest := []) S (c_Tok_byteAt l D cs h r tp tb f a g z19 (show TokOk (f 7) (f 8) (f 10) (f 11) (f 12) (f 13) (f 17) (a 4) from ⟨⟨by first | exact o1 | omega, by first | exact o2 | omega⟩, ⟨by first | exact o3 | omega, by first | exact o4 | omega⟩, ⟨by first | exact o5 | omega, by first | exact o6 | omega⟩, ⟨by first | exact o7 | omega, by first | exact o8 | omega⟩, ⟨by first | exact o9 | omega, by first | exact o10 | omega⟩, ⟨by first | exact o11 | omega, by first | exact o12 | omega⟩, by first | exact o13 | omega, hn4⟩)  _) hT (pr := []) (pcs := [wd_Tok cs h r (fun _ => some tp) f a g, [(tp, .inl (cs 1, 2048, .inl tb))]]) hw px_X.tt (px_recv hT hw 0 0 rfl rfl rfl) m3_186 m3_183 m3_185 ms_1_6 m1_2 q_Tok_byteAt ⟨Nat.le_of_ble_eq_true rfl, Nat.le_of_ble_eq_true rfl⟩ hl.1 rfl (Nat.le_of_ble_eq_true rfl) d_Tok_character_37 ⟨Nat.le_of_ble_eq_true rfl, Nat.le_of_ble_eq_true rfl⟩) hw hA (fun v24 p23 H locs hp23 hw => ?_)
    obtain ⟨rfl, e25, e26, e27⟩ := hp23
    have e25 : -1 ≤ v24.toInt := e25
    have e26 : v24.toInt ≤ 255 := e26
    have e27 : 0 ≤ v24.toInt → 0 ≤ z19.toInt ∧ z19.toInt < (f 7).toInt := e27
    have lv24 := Int32.le_toInt v24
    have uv24 := Int32.toInt_lt v24
    refine lv_bipush (v := 39) S.x S.b d_Tok_character_40 (by decide) ?_
    refine lv_icmp_eq (tgt := 48) S.x S.b d_Tok_character_42 (by decide) (fun c28 => ?_) (fun c28 => ?_)
    · have nc28 : v24.toInt = (39 : Int) := (i_eq (x := v24) (y := 39)).mp c28
      refine lv_aload_n S.x S.b d_Tok_character_48 rfl (lv_at hl 2 rfl) ?_
      refine lv_iload_n S.x S.b d_Tok_character_49 rfl (lv_at hl 1 rfl) ?_
      refine px_put S k_Tok hT hw 0 0 9 rfl rfl (by decide) m1_112 rfl rfl rfl (Nat.le_of_ble_eq_true rfl) d_Tok_character_50 (w' := wd_Tok cs h r (fun _ => some tp) (upd f 9 v6) a g) (ps' := [wd_Tok cs h r (fun _ => some tp) (upd f 9 v6) a g, [(tp, .inl (cs 1, 2048, .inl tb))]]) rfl rfl (fun H locs hw => ?_)
      refine lv_aload_n S.x S.b d_Tok_character_53 rfl (lv_at hl 2 rfl) ?_
      refine lv_iload_n S.x S.b d_Tok_character_54 rfl (lv_at hl 0 rfl) ?_
      refine lv_iconst (v := 1) S.x S.b d_Tok_character_55 (by decide) ?_
      refine lv_iadd S.x S.b d_Tok_character_56 ?_
      refine lv_topi (fun z29 ez29 => ?_)
      have tz29 : z29.toInt = (z19.toInt + (1 : Int) + 2147483648) % 4294967296 - 2147483648 := by rw [ez29]; exact i_add z19 1
      have lz29 := Int32.le_toInt z29
      have uz29 := Int32.toInt_lt z29
      try replace tz29 : z29.toInt = z19.toInt + (1 : Int) := by omega
      refine px_put S k_Tok hT hw 0 0 8 rfl rfl (by decide) m1_111 rfl rfl rfl (Nat.le_of_ble_eq_true rfl) d_Tok_character_57 (w' := wd_Tok cs h r (fun _ => some tp) (upd (upd f 8 z29) 9 v6) a g) (ps' := [wd_Tok cs h r (fun _ => some tp) (upd (upd f 8 z29) 9 v6) a g, [(tp, .inl (cs 1, 2048, .inl tb))]]) rfl rfl (fun H locs hw => ?_)
      refine lv_bipush (v := 17) S.x S.b d_Tok_character_60 (by decide) ?_
      first | exact px_iret (v := 17) S hr rfl hlk hAe hw (Nat.le_of_ble_eq_true rfl) (Nat.le_of_ble_eq_true rfl) (⟨(upd (upd f 8 z29) 9 v6), a, rfl, (show TokOk (f 7) z29 (f 10) (f 11) (f 12) (f 13) (f 17) (a 4) from ⟨⟨o1, o2⟩, ⟨(oz_b9e2a46006 tz29 tz19 tz10 e17 o3), (oz_ddf50febdf tz29 nc28 e27)⟩, ⟨o5, o6⟩, ⟨o7, o8⟩, ⟨o9, o10⟩, ⟨o11, o12⟩, o13, hn4⟩), (show (f 7).toInt = (f 7).toInt from rfl), (show (f 10).toInt = (f 10).toInt from rfl), (show (f 15).toInt = (f 15).toInt from rfl), (show (17 : Int) = 19 ∨ (f 8).toInt + 1 ≤ z29.toInt from by first | with_reducible rfl | with_reducible assumption | omega), (show Q5 (a 5) from hq5)⟩) d_Tok_character_62 | exact px_iret (v := 17) S hr rfl hlk hAe hw (Nat.le_of_ble_eq_true rfl) (Nat.le_of_ble_eq_true rfl) (⟨(upd (upd f 8 z29) 9 v6), a, rfl, (show TokOk (f 7) z29 (f 10) (f 11) (f 12) (f 13) (f 17) (a 4) from ⟨⟨by first | exact o1 | omega, by first | exact o2 | omega⟩, ⟨by first | exact oz_b9e2a46006 tz29 tz19 tz10 e17 o3 | omega, by first | exact oz_ddf50febdf tz29 nc28 e27 | omega⟩, ⟨by first | exact o5 | omega, by first | exact o6 | omega⟩, ⟨by first | exact o7 | omega, by first | exact o8 | omega⟩, ⟨by first | exact o9 | omega, by first | exact o10 | omega⟩, ⟨by first | exact o11 | omega, by first | exact o12 | omega⟩, by first | exact o13 | omega, hn4⟩), (show (f 7).toInt = (f 7).toInt from rfl), (show (f 10).toInt = (f 10).toInt from rfl), (show (f 15).toInt = (f 15).toInt from rfl), (show (17 : Int) = 19 ∨ (f 8).toInt + 1 ≤ z29.toInt from by first | with_reducible rfl | with_reducible assumption | omega), (show Q5 (a 5) from hq5)⟩) d_Tok_character_62
    · have nc28 : ¬ v24.toInt = (39 : Int) := mt (i_eq (x := v24) (y := 39)).mpr c28
      refine lv_bipush (v := 19) S.x S.b d_Tok_character_45 (by decide) ?_
      first | exact px_iret (v := 19) S hr rfl hlk hAe hw (Nat.le_of_ble_eq_true rfl) (Nat.le_of_ble_eq_true rfl) (⟨f, a, rfl, (show TokOk (f 7) (f 8) (f 10) (f 11) (f 12) (f 13) (f 17) (a 4) from ⟨⟨o1, o2⟩, ⟨o3, o4⟩, ⟨o5, o6⟩, ⟨o7, o8⟩, ⟨o9, o10⟩, ⟨o11, o12⟩, o13, hn4⟩), (show (f 7).toInt = (f 7).toInt from rfl), (show (f 10).toInt = (f 10).toInt from rfl), (show (f 15).toInt = (f 15).toInt from rfl), (show (19 : Int) = 19 ∨ (f 8).toInt + 1 ≤ (f 8).toInt from by first | with_reducible rfl | with_reducible assumption | omega), (show Q5 (a 5) from hq5)⟩) d_Tok_character_47 | exact px_iret (v := 19) S hr rfl hlk hAe hw (Nat.le_of_ble_eq_true rfl) (Nat.le_of_ble_eq_true rfl) (⟨f, a, rfl, (show TokOk (f 7) (f 8) (f 10) (f 11) (f 12) (f 13) (f 17) (a 4) from ⟨⟨by first | exact o1 | omega, by first | exact o2 | omega⟩, ⟨by first | exact o3 | omega, by first | exact o4 | omega⟩, ⟨by first | exact o5 | omega, by first | exact o6 | omega⟩, ⟨by first | exact o7 | omega, by first | exact o8 | omega⟩, ⟨by first | exact o9 | omega, by first | exact o10 | omega⟩, ⟨by first | exact o11 | omega, by first | exact o12 | omega⟩, by first | exact o13 | omega, hn4⟩), (show (f 7).toInt = (f 7).toInt from rfl), (show (f 10).toInt = (f 10).toInt from rfl), (show (f 15).toInt = (f 15).toInt from rfl), (show (19 : Int) = 19 ∨ (f 8).toInt + 1 ≤ (f 8).toInt from by first | with_reducible rfl | with_reducible assumption | omega), (show Q5 (a 5) from hq5)⟩) d_Tok_character_47
set_option maxHeartbeats 4000000 in
set_option maxRecDepth 100000 in
theorem c_t2_string (l : Launch) (D : va_G) (cs : Nat → ClassId) (h : Nat) (r : Nat → Nat) (tp : Nat) (tb : Nat → Int32) (g : Nat → Nat → Option Nat) (f : Nat → Int32) (a : Nat → Nat → Int32)  (hinv0 : TokOk (f 7) (f 8) (f 10) (f 11) (f 12) (f 13) (f 17) (a 4)) (hq5 : Q5 (a 5)) : MetI l y_Tok_string b_Tok_string 4 (.int) D cs 2 60 (0) (0) [.ref h] [wd_Tok cs h r (fun _ => some tp) f a g, [(tp, .inl (cs 1, 2048, .inl tb))]] (fun _ => True) (fun v ps => ∃ (f' : Nat → Int32) (a' : Nat → Nat → Int32), (ps = [wd_Tok cs h r (fun _ => some tp) f' a' g, [(tp, .inl (cs 1, 2048, .inl tb))]]) ∧ (TokOk (f' 7) (f' 8) (f' 10) (f' 11) (f' 12) (f' 13) (f' 17) (a' 4)) ∧ ((f' 7).toInt = (f 7).toInt) ∧ ((f' 10).toInt = (f 10).toInt) ∧ ((f' 15).toInt = (f 15).toInt) ∧ (v.toInt = 19 ∨ (f 8).toInt + 1 ≤ (f' 8).toInt) ∧ (Q5 (a' 5))) := by
  refine px_enter (by decide) (Nat.le_of_ble_eq_true rfl) ?_
  intro p e s m below meth c A ls hAe S hr hlk hnm hA hT hX hw hl
  have hl : lv_has ls 4 [(0, .ref h)] := hl
  have cst0 : (0 : Int32).toInt = 0 := rfl
  have cst1 : (1 : Int32).toInt = 1 := rfl
  have cst18 : (18 : Int32).toInt = 18 := rfl
  have cst19 : (19 : Int32).toInt = 19 := rfl
  have cst34 : (34 : Int32).toInt = 34 := rfl
  have cst200 : (200 : Int32).toInt = 200 := rfl
  obtain ⟨⟨o1, o2⟩, ⟨o3, o4⟩, ⟨o5, o6⟩, ⟨o7, o8⟩, ⟨o9, o10⟩, ⟨o11, o12⟩, o13, hn4⟩ := hinv0
  have J17 : ∀ (n_17 : Nat) (f_17 : Nat → Int32) (a_17 : Nat → Nat → Int32) (x17_1 x17_2 x17_3 : Int32) (H : Heap) (locs : List Loc) (ls : Array Slot), (TokOk (f_17 7) (f_17 8) (f_17 10) (f_17 11) (f_17 12) (f_17 13) (f_17 17) (a_17 4)) → ((f_17 7).toInt = (f 7).toInt) → ((f_17 10).toInt = (f 10).toInt) → ((f_17 15).toInt = (f 15).toInt) → ((f_17 8).toInt = (f 8).toInt) → ((f 8).toInt + 1 ≤ x17_1.toInt) → (x17_1.toInt ≤ (f_17 7).toInt+16) → (0 ≤ x17_2.toInt) → (x17_2.toInt ≤ 201) → (x17_3.toInt ≤ 200) → (0 ≤ x17_3.toInt → x17_1.toInt < (f_17 7).toInt) → (Q5 (a_17 5)) → (202 : Int)-x17_2.toInt < (n_17 : Int) → pw D A s.heap H locs [wd_Tok cs h r (fun _ => some tp) f_17 a_17 g, [(tp, .inl (cs 1, 2048, .inl tb))]] → lv_has ls 4 [(0, .ref h), (1, .int x17_1), (2, .int x17_2), (3, .int x17_3)] → W p l e { frames := 2, cells := 0, slots := 0, locals := 60 } s m [.ref h].toArray below meth c H locs 0 0 (MQ below (va_Qi (fun v ps => ∃ (f' : Nat → Int32) (a' : Nat → Nat → Int32), (ps = [wd_Tok cs h r (fun _ => some tp) f' a' g, [(tp, .inl (cs 1, 2048, .inl tb))]]) ∧ (TokOk (f' 7) (f' 8) (f' 10) (f' 11) (f' 12) (f' 13) (f' 17) (a' 4)) ∧ ((f' 7).toInt = (f 7).toInt) ∧ ((f' 10).toInt = (f 10).toInt) ∧ ((f' 15).toInt = (f 15).toInt) ∧ (v.toInt = 19 ∨ (f 8).toInt + 1 ≤ (f' 8).toInt) ∧ (Q5 (a' 5))) (pc_B D (va_A ([wd_Tok cs h r (fun _ => some tp) f a g, [(tp, .inl (cs 1, 2048, .inl tb))]] : List va_W).flatten s.heap.size)) (va_A ([wd_Tok cs h r (fun _ => some tp) f a g, [(tp, .inl (cs 1, 2048, .inl tb))]] : List va_W).flatten s.heap.size)) [.ref h].toArray s 0 0 A) (F0 m 17 ls []) := by
    intro  n_17
    induction n_17 with
    | zero =>
      intro f_17 a_17 x17_1 x17_2 x17_3 H locs ls hi17_0 k17_0 k17_1 k17_2 k17_3 k17_4 k17_5 k17_6 k17_7 k17_8 k17_9 k17_10 hm hw hl
      obtain ⟨⟨o1, o2⟩, ⟨o3, o4⟩, ⟨o5, o6⟩, ⟨o7, o8⟩, ⟨o9, o10⟩, ⟨o11, o12⟩, o13, hn4⟩ := hi17_0
      have lx17_1 := Int32.le_toInt x17_1
      have ux17_1 := Int32.toInt_lt x17_1
      have lx17_2 := Int32.le_toInt x17_2
      have ux17_2 := Int32.toInt_lt x17_2
      have lx17_3 := Int32.le_toInt x17_3
      have ux17_3 := Int32.toInt_lt x17_3
      have hq5 := k17_10
      exact absurd hm (by omega)
    | succ n_17 ih17 =>
      intro f_17 a_17 x17_1 x17_2 x17_3 H locs ls hi17_0 k17_0 k17_1 k17_2 k17_3 k17_4 k17_5 k17_6 k17_7 k17_8 k17_9 k17_10 hm hw hl
      obtain ⟨⟨o1, o2⟩, ⟨o3, o4⟩, ⟨o5, o6⟩, ⟨o7, o8⟩, ⟨o9, o10⟩, ⟨o11, o12⟩, o13, hn4⟩ := hi17_0
      have lx17_1 := Int32.le_toInt x17_1
      have ux17_1 := Int32.toInt_lt x17_1
      have lx17_2 := Int32.le_toInt x17_2
      have ux17_2 := Int32.toInt_lt x17_2
      have lx17_3 := Int32.le_toInt x17_3
      have ux17_3 := Int32.toInt_lt x17_3
      have hq5 := k17_10
      refine lv_iload_n S.x S.b d_Tok_string_17 rfl (lv_at hl 3 rfl) ?_
      refine lv_if_lt (tgt := 80) S.x S.b d_Tok_string_18 (by decide) (fun c1 => ?_) (fun c1 => ?_)
      · have nc1 : x17_3.toInt < (0 : Int) := (i_lt (x := x17_3) (y := 0)).mp c1
        refine lv_iload_n S.x S.b d_Tok_string_80 rfl (lv_at hl 2 rfl) ?_
        refine lv_sipush (v := 200) S.x S.b d_Tok_string_81 (by decide) ?_
        refine lv_icmp_gt (tgt := 111) S.x S.b d_Tok_string_84 (by decide) (fun c2 => ?_) (fun c2 => ?_)
        · have nc2 : (200 : Int) < x17_2.toInt := (i_lt (x := 200) (y := x17_2)).mp c2
          refine lv_bipush (v := 19) S.x S.b d_Tok_string_111 (by decide) ?_
          first | exact px_iret (v := 19) S hr rfl hlk hAe hw (Nat.le_of_ble_eq_true rfl) (Nat.le_of_ble_eq_true rfl) (⟨f_17, a_17, rfl, (show TokOk (f_17 7) (f_17 8) (f_17 10) (f_17 11) (f_17 12) (f_17 13) (f_17 17) (a_17 4) from ⟨⟨o1, o2⟩, ⟨o3, o4⟩, ⟨o5, o6⟩, ⟨o7, o8⟩, ⟨o9, o10⟩, ⟨o11, o12⟩, o13, hn4⟩), (show (f_17 7).toInt = (f 7).toInt from k17_0), (show (f_17 10).toInt = (f 10).toInt from k17_1), (show (f_17 15).toInt = (f 15).toInt from k17_2), (show (19 : Int) = 19 ∨ (f 8).toInt + 1 ≤ (f_17 8).toInt from by first | with_reducible rfl | with_reducible assumption | omega), (show Q5 (a_17 5) from hq5)⟩) d_Tok_string_113 | exact px_iret (v := 19) S hr rfl hlk hAe hw (Nat.le_of_ble_eq_true rfl) (Nat.le_of_ble_eq_true rfl) (⟨f_17, a_17, rfl, (show TokOk (f_17 7) (f_17 8) (f_17 10) (f_17 11) (f_17 12) (f_17 13) (f_17 17) (a_17 4) from ⟨⟨by first | exact o1 | omega, by first | exact o2 | omega⟩, ⟨by first | exact o3 | omega, by first | exact o4 | omega⟩, ⟨by first | exact o5 | omega, by first | exact o6 | omega⟩, ⟨by first | exact o7 | omega, by first | exact o8 | omega⟩, ⟨by first | exact o9 | omega, by first | exact o10 | omega⟩, ⟨by first | exact o11 | omega, by first | exact o12 | omega⟩, by first | exact o13 | omega, hn4⟩), (show (f_17 7).toInt = (f 7).toInt from by first | exact k17_0 | omega), (show (f_17 10).toInt = (f 10).toInt from by first | exact k17_1 | omega), (show (f_17 15).toInt = (f 15).toInt from by first | exact k17_2 | omega), (show (19 : Int) = 19 ∨ (f 8).toInt + 1 ≤ (f_17 8).toInt from by first | with_reducible rfl | with_reducible assumption | omega), (show Q5 (a_17 5) from hq5)⟩) d_Tok_string_113
        · have nc2 : ¬ (200 : Int) < x17_2.toInt := mt (i_lt (x := 200) (y := x17_2)).mpr c2
          refine lv_aload_n S.x S.b d_Tok_string_87 rfl (lv_at hl 0 rfl) ?_
          refine lv_iload_n S.x S.b d_Tok_string_88 rfl (lv_at hl 1 rfl) ?_
          first | refine px_calli (pr := []) (px_runV (As := [.int x17_1]) (rest := []) S (c_Tok_byteAt l D cs h r tp tb f_17 a_17 g x17_1 (show TokOk (f_17 7) (f_17 8) (f_17 10) (f_17 11) (f_17 12) (f_17 13) (f_17 17) (a_17 4) from ⟨⟨o1, o2⟩, ⟨o3, o4⟩, ⟨o5, o6⟩, ⟨o7, o8⟩, ⟨o9, o10⟩, ⟨o11, o12⟩, o13, hn4⟩)  _) hT (pr := []) (pcs := [wd_Tok cs h r (fun _ => some tp) f_17 a_17 g, [(tp, .inl (cs 1, 2048, .inl tb))]]) hw px_X.tt (px_recv hT hw 0 0 rfl rfl rfl) m3_186 m3_183 m3_185 ms_1_6 m1_2 q_Tok_byteAt ⟨Nat.le_of_ble_eq_true rfl, Nat.le_of_ble_eq_true rfl⟩ hl.1 rfl (Nat.le_of_ble_eq_true rfl) d_Tok_string_89 ⟨Nat.le_of_ble_eq_true rfl, Nat.le_of_ble_eq_true rfl⟩) hw hA (fun v6 p5 H locs hp5 hw => ?_) | refine px_calli (pr := []) (px_runV (As := [.int x17_1]) (rest := []) S (c_Tok_byteAt l D cs h r tp tb f_17 a_17 g x17_1 (show TokOk (f_17 7) (f_17 8) (f_17 10) (f_17 11) (f_17 12) (f_17 13) (f_17 17) (a_17 4) from ⟨⟨by first | exact o1 | omega, by first | exact o2 | omega⟩, ⟨by first | exact o3 | omega, by first | exact o4 | omega⟩, ⟨by first | exact o5 | omega, by first | exact o6 | omega⟩, ⟨by first | exact o7 | omega, by first | exact o8 | omega⟩, ⟨by first | exact o9 | omega, by first | exact o10 | omega⟩, ⟨by first | exact o11 | omega, by first | exact o12 | omega⟩, by first | exact o13 | omega, hn4⟩)  _) hT (pr := []) (pcs := [wd_Tok cs h r (fun _ => some tp) f_17 a_17 g, [(tp, .inl (cs 1, 2048, .inl tb))]]) hw px_X.tt (px_recv hT hw 0 0 rfl rfl rfl) m3_186 m3_183 m3_185 ms_1_6 m1_2 q_Tok_byteAt ⟨Nat.le_of_ble_eq_true rfl, Nat.le_of_ble_eq_true rfl⟩ hl.1 rfl (Nat.le_of_ble_eq_true rfl) d_Tok_string_89 ⟨Nat.le_of_ble_eq_true rfl, Nat.le_of_ble_eq_true rfl⟩) hw hA (fun v6 p5 H locs hp5 hw => ?_)
          obtain ⟨rfl, e7, e8, e9⟩ := hp5
          have e7 : -1 ≤ v6.toInt := e7
          have e8 : v6.toInt ≤ 255 := e8
          have e9 : 0 ≤ v6.toInt → 0 ≤ x17_1.toInt ∧ x17_1.toInt < (f_17 7).toInt := e9
          have lv6 := Int32.le_toInt v6
          have uv6 := Int32.toInt_lt v6
          refine lv_bipush (v := 34) S.x S.b d_Tok_string_92 (by decide) ?_
          refine lv_icmp_ne (tgt := 111) S.x S.b d_Tok_string_94 (by decide) (fun c10 => ?_) (fun c10 => ?_)
          · have nc10 : ¬ v6.toInt = (34 : Int) := mt (i_eq (x := v6) (y := 34)).mpr c10
            refine lv_bipush (v := 19) S.x S.b d_Tok_string_111 (by decide) ?_
            first | exact px_iret (v := 19) S hr rfl hlk hAe hw (Nat.le_of_ble_eq_true rfl) (Nat.le_of_ble_eq_true rfl) (⟨f_17, a_17, rfl, (show TokOk (f_17 7) (f_17 8) (f_17 10) (f_17 11) (f_17 12) (f_17 13) (f_17 17) (a_17 4) from ⟨⟨o1, o2⟩, ⟨o3, o4⟩, ⟨o5, o6⟩, ⟨o7, o8⟩, ⟨o9, o10⟩, ⟨o11, o12⟩, o13, hn4⟩), (show (f_17 7).toInt = (f 7).toInt from k17_0), (show (f_17 10).toInt = (f 10).toInt from k17_1), (show (f_17 15).toInt = (f 15).toInt from k17_2), (show (19 : Int) = 19 ∨ (f 8).toInt + 1 ≤ (f_17 8).toInt from by first | with_reducible rfl | with_reducible assumption | omega), (show Q5 (a_17 5) from hq5)⟩) d_Tok_string_113 | exact px_iret (v := 19) S hr rfl hlk hAe hw (Nat.le_of_ble_eq_true rfl) (Nat.le_of_ble_eq_true rfl) (⟨f_17, a_17, rfl, (show TokOk (f_17 7) (f_17 8) (f_17 10) (f_17 11) (f_17 12) (f_17 13) (f_17 17) (a_17 4) from ⟨⟨by first | exact o1 | omega, by first | exact o2 | omega⟩, ⟨by first | exact o3 | omega, by first | exact o4 | omega⟩, ⟨by first | exact o5 | omega, by first | exact o6 | omega⟩, ⟨by first | exact o7 | omega, by first | exact o8 | omega⟩, ⟨by first | exact o9 | omega, by first | exact o10 | omega⟩, ⟨by first | exact o11 | omega, by first | exact o12 | omega⟩, by first | exact o13 | omega, hn4⟩), (show (f_17 7).toInt = (f 7).toInt from by first | exact k17_0 | omega), (show (f_17 10).toInt = (f 10).toInt from by first | exact k17_1 | omega), (show (f_17 15).toInt = (f 15).toInt from by first | exact k17_2 | omega), (show (19 : Int) = 19 ∨ (f 8).toInt + 1 ≤ (f_17 8).toInt from by first | with_reducible rfl | with_reducible assumption | omega), (show Q5 (a_17 5) from hq5)⟩) d_Tok_string_113
          · have nc10 : v6.toInt = (34 : Int) := (i_eq (x := v6) (y := 34)).mp c10
            refine lv_aload_n S.x S.b d_Tok_string_97 rfl (lv_at hl 0 rfl) ?_
            refine px_get S k_Tok hT hw 0 0 12 (v := .int (f_17 12)) rfl rfl rfl (by decide) m1_115 d_Tok_string_98 ?_
            refine lv_iload_n S.x S.b d_Tok_string_101 rfl (lv_at hl 2 rfl) ?_
            refine lv_iadd S.x S.b d_Tok_string_102 ?_
            have lr11 := Int32.le_toInt (f_17 12)
            have ur11 := Int32.toInt_lt (f_17 12)
            refine lv_topi (fun z12 ez12 => ?_)
            have tz12 : z12.toInt = ((f_17 12).toInt + x17_2.toInt + 2147483648) % 4294967296 - 2147483648 := by rw [ez12]; exact i_add (f_17 12) x17_2
            have lz12 := Int32.le_toInt z12
            have uz12 := Int32.toInt_lt z12
            try replace tz12 : z12.toInt = (f_17 12).toInt + x17_2.toInt := by omega
            refine lv_aload_n S.x S.b d_Tok_string_103 rfl (lv_at hl 0 rfl) ?_
            refine px_get S k_Tok hT hw 0 0 5 (v := .ref (r 5)) rfl rfl rfl (by decide) m1_108 d_Tok_string_104 ?_
            refine px_len S hT hw 0 6 0 rfl rfl rfl (v := 2048) rfl d_Tok_string_107 ?_
            refine lv_icmp_lt (tgt := 114) S.x S.b d_Tok_string_108 (by decide) (fun c13 => ?_) (fun c13 => ?_)
            · have nc13 : z12.toInt < (2048 : Int) := (i_lt (x := z12) (y := 2048)).mp c13
              refine lv_aload_n S.x S.b d_Tok_string_114 rfl (lv_at hl 0 rfl) ?_
              refine lv_aload_n S.x S.b d_Tok_string_115 rfl (lv_at hl 0 rfl) ?_
              refine px_get S k_Tok hT hw 0 0 12 (v := .int (f_17 12)) rfl rfl rfl (by decide) m1_115 d_Tok_string_116 ?_
              refine px_put S k_Tok hT hw 0 0 9 rfl rfl (by decide) m1_112 rfl rfl rfl (Nat.le_of_ble_eq_true rfl) d_Tok_string_119 (w' := wd_Tok cs h r (fun _ => some tp) (upd f_17 9 (f_17 12)) a_17 g) (ps' := [wd_Tok cs h r (fun _ => some tp) (upd f_17 9 (f_17 12)) a_17 g, [(tp, .inl (cs 1, 2048, .inl tb))]]) rfl rfl (fun H locs hw => ?_)
              refine lv_aload_n S.x S.b d_Tok_string_122 rfl (lv_at hl 0 rfl) ?_
              refine px_get S k_Tok hT hw 0 0 5 (v := .ref (r 5)) rfl rfl rfl (by decide) m1_108 d_Tok_string_123 ?_
              refine lv_aload_n S.x S.b d_Tok_string_126 rfl (lv_at hl 0 rfl) ?_
              refine px_get S k_Tok hT hw 0 0 12 (v := .int (f_17 12)) rfl rfl rfl (by decide) m1_115 d_Tok_string_127 ?_
              refine lv_iload_n S.x S.b d_Tok_string_130 rfl (lv_at hl 2 rfl) ?_
              refine px_iast S hT hw 0 6 (n := 2048) (f := (a_17 5)) (x := (f_17 12)) (y := x17_2) rfl (ga_Tok_5 _ _ _ _ _ _ _) (vp_in_iff.mpr (by constructor <;> omega)) d_Tok_string_131 (w' := wd_Tok cs h r (fun _ => some tp) (upd f_17 9 (f_17 12)) (va_up a_17 5 (upd (a_17 5) (f_17 12).toNatClampNeg x17_2)) g) (ps' := [wd_Tok cs h r (fun _ => some tp) (upd f_17 9 (f_17 12)) (va_up a_17 5 (upd (a_17 5) (f_17 12).toNatClampNeg x17_2)) g, [(tp, .inl (cs 1, 2048, .inl tb))]]) (sa_Tok_5 _ _ _ _ _ _ _ _) rfl (fun H locs hw => ?_)
              have hq5 := q5_up (i := (f_17 12).toNatClampNeg) (z := x17_2) hq5 (by omega)
              refine lv_aload_n S.x S.b d_Tok_string_132 rfl (lv_at hl 0 rfl) ?_
              refine lv_dup S.x S.b d_Tok_string_133 rfl ?_
              refine px_get S k_Tok hT hw 0 0 12 (v := .int (f_17 12)) rfl rfl rfl (by decide) m1_115 d_Tok_string_134 ?_
              refine lv_iload_n S.x S.b d_Tok_string_137 rfl (lv_at hl 2 rfl) ?_
              refine lv_iconst (v := 1) S.x S.b d_Tok_string_138 (by decide) ?_
              refine lv_iadd S.x S.b d_Tok_string_139 ?_
              refine lv_topi (fun z14 ez14 => ?_)
              have tz14 : z14.toInt = (x17_2.toInt + (1 : Int) + 2147483648) % 4294967296 - 2147483648 := by rw [ez14]; exact i_add x17_2 1
              have lz14 := Int32.le_toInt z14
              have uz14 := Int32.toInt_lt z14
              try replace tz14 : z14.toInt = x17_2.toInt + (1 : Int) := by omega
              refine lv_iadd S.x S.b d_Tok_string_140 ?_
              have lr15 := Int32.le_toInt (f_17 12)
              have ur15 := Int32.toInt_lt (f_17 12)
              refine lv_topi (fun z16 ez16 => ?_)
              have tz16 : z16.toInt = ((f_17 12).toInt + z14.toInt + 2147483648) % 4294967296 - 2147483648 := by rw [ez16]; exact i_add (f_17 12) z14
              have lz16 := Int32.le_toInt z16
              have uz16 := Int32.toInt_lt z16
              try replace tz16 : z16.toInt = (f_17 12).toInt + z14.toInt := by omega
              refine px_put S k_Tok hT hw 0 0 12 rfl rfl (by decide) m1_115 rfl rfl rfl (Nat.le_of_ble_eq_true rfl) d_Tok_string_141 (w' := wd_Tok cs h r (fun _ => some tp) (upd (upd f_17 9 (f_17 12)) 12 z16) (va_up a_17 5 (upd (a_17 5) (f_17 12).toNatClampNeg x17_2)) g) (ps' := [wd_Tok cs h r (fun _ => some tp) (upd (upd f_17 9 (f_17 12)) 12 z16) (va_up a_17 5 (upd (a_17 5) (f_17 12).toNatClampNeg x17_2)) g, [(tp, .inl (cs 1, 2048, .inl tb))]]) rfl rfl (fun H locs hw => ?_)
              refine lv_aload_n S.x S.b d_Tok_string_144 rfl (lv_at hl 0 rfl) ?_
              refine lv_iload_n S.x S.b d_Tok_string_145 rfl (lv_at hl 1 rfl) ?_
              refine lv_iconst (v := 1) S.x S.b d_Tok_string_146 (by decide) ?_
              refine lv_iadd S.x S.b d_Tok_string_147 ?_
              refine lv_topi (fun z17 ez17 => ?_)
              have tz17 : z17.toInt = (x17_1.toInt + (1 : Int) + 2147483648) % 4294967296 - 2147483648 := by rw [ez17]; exact i_add x17_1 1
              have lz17 := Int32.le_toInt z17
              have uz17 := Int32.toInt_lt z17
              try replace tz17 : z17.toInt = x17_1.toInt + (1 : Int) := by omega
              refine px_put S k_Tok hT hw 0 0 8 rfl rfl (by decide) m1_111 rfl rfl rfl (Nat.le_of_ble_eq_true rfl) d_Tok_string_148 (w' := wd_Tok cs h r (fun _ => some tp) (upd (upd (upd f_17 8 z17) 9 (f_17 12)) 12 z16) (va_up a_17 5 (upd (a_17 5) (f_17 12).toNatClampNeg x17_2)) g) (ps' := [wd_Tok cs h r (fun _ => some tp) (upd (upd (upd f_17 8 z17) 9 (f_17 12)) 12 z16) (va_up a_17 5 (upd (a_17 5) (f_17 12).toNatClampNeg x17_2)) g, [(tp, .inl (cs 1, 2048, .inl tb))]]) rfl rfl (fun H locs hw => ?_)
              refine lv_bipush (v := 18) S.x S.b d_Tok_string_151 (by decide) ?_
              first | exact px_iret (v := 18) S hr rfl hlk hAe hw (Nat.le_of_ble_eq_true rfl) (Nat.le_of_ble_eq_true rfl) (⟨(upd (upd (upd f_17 8 z17) 9 (f_17 12)) 12 z16), (va_up a_17 5 (upd (a_17 5) (f_17 12).toNatClampNeg x17_2)), rfl, (show TokOk (f_17 7) z17 (f_17 10) (f_17 11) z16 (f_17 13) (f_17 17) ((va_up a_17 5 (upd (a_17 5) (f_17 12).toNatClampNeg x17_2)) 4) from ⟨⟨o1, o2⟩, ⟨(oz_5a8feed08b tz17 k17_4 k17_3 o3), (oz_2110b97299 tz17 nc10 e9)⟩, ⟨o5, o6⟩, ⟨o7, o8⟩, ⟨(oz_3322af70f0 tz16 o9 tz14 k17_6), (oz_2fbb33bd74 tz16 tz12 tz14 nc13)⟩, ⟨o11, o12⟩, o13, (by rw [va_up_n (by decide)]; exact hn4)⟩), (show (f_17 7).toInt = (f 7).toInt from k17_0), (show (f_17 10).toInt = (f 10).toInt from k17_1), (show (f_17 15).toInt = (f 15).toInt from k17_2), (show (18 : Int) = 19 ∨ (f 8).toInt + 1 ≤ z17.toInt from by first | with_reducible rfl | with_reducible assumption | omega), (show Q5 ((va_up a_17 5 (upd (a_17 5) (f_17 12).toNatClampNeg x17_2)) 5) from (by rw [va_up_s]; exact hq5))⟩) d_Tok_string_153 | exact px_iret (v := 18) S hr rfl hlk hAe hw (Nat.le_of_ble_eq_true rfl) (Nat.le_of_ble_eq_true rfl) (⟨(upd (upd (upd f_17 8 z17) 9 (f_17 12)) 12 z16), (va_up a_17 5 (upd (a_17 5) (f_17 12).toNatClampNeg x17_2)), rfl, (show TokOk (f_17 7) z17 (f_17 10) (f_17 11) z16 (f_17 13) (f_17 17) ((va_up a_17 5 (upd (a_17 5) (f_17 12).toNatClampNeg x17_2)) 4) from ⟨⟨by first | exact o1 | omega, by first | exact o2 | omega⟩, ⟨by first | exact oz_5a8feed08b tz17 k17_4 k17_3 o3 | omega, by first | exact oz_2110b97299 tz17 nc10 e9 | omega⟩, ⟨by first | exact o5 | omega, by first | exact o6 | omega⟩, ⟨by first | exact o7 | omega, by first | exact o8 | omega⟩, ⟨by first | exact oz_3322af70f0 tz16 o9 tz14 k17_6 | omega, by first | exact oz_2fbb33bd74 tz16 tz12 tz14 nc13 | omega⟩, ⟨by first | exact o11 | omega, by first | exact o12 | omega⟩, by first | exact o13 | omega, (by rw [va_up_n (by decide)]; exact hn4)⟩), (show (f_17 7).toInt = (f 7).toInt from by first | exact k17_0 | omega), (show (f_17 10).toInt = (f 10).toInt from by first | exact k17_1 | omega), (show (f_17 15).toInt = (f 15).toInt from by first | exact k17_2 | omega), (show (18 : Int) = 19 ∨ (f 8).toInt + 1 ≤ z17.toInt from by first | with_reducible rfl | with_reducible assumption | omega), (show Q5 ((va_up a_17 5 (upd (a_17 5) (f_17 12).toNatClampNeg x17_2)) 5) from (by rw [va_up_s]; exact hq5))⟩) d_Tok_string_153
            · have nc13 : ¬ z12.toInt < (2048 : Int) := mt (i_lt (x := z12) (y := 2048)).mpr c13
              refine lv_bipush (v := 19) S.x S.b d_Tok_string_111 (by decide) ?_
              first | exact px_iret (v := 19) S hr rfl hlk hAe hw (Nat.le_of_ble_eq_true rfl) (Nat.le_of_ble_eq_true rfl) (⟨f_17, a_17, rfl, (show TokOk (f_17 7) (f_17 8) (f_17 10) (f_17 11) (f_17 12) (f_17 13) (f_17 17) (a_17 4) from ⟨⟨o1, o2⟩, ⟨o3, o4⟩, ⟨o5, o6⟩, ⟨o7, o8⟩, ⟨o9, o10⟩, ⟨o11, o12⟩, o13, hn4⟩), (show (f_17 7).toInt = (f 7).toInt from k17_0), (show (f_17 10).toInt = (f 10).toInt from k17_1), (show (f_17 15).toInt = (f 15).toInt from k17_2), (show (19 : Int) = 19 ∨ (f 8).toInt + 1 ≤ (f_17 8).toInt from by first | with_reducible rfl | with_reducible assumption | omega), (show Q5 (a_17 5) from hq5)⟩) d_Tok_string_113 | exact px_iret (v := 19) S hr rfl hlk hAe hw (Nat.le_of_ble_eq_true rfl) (Nat.le_of_ble_eq_true rfl) (⟨f_17, a_17, rfl, (show TokOk (f_17 7) (f_17 8) (f_17 10) (f_17 11) (f_17 12) (f_17 13) (f_17 17) (a_17 4) from ⟨⟨by first | exact o1 | omega, by first | exact o2 | omega⟩, ⟨by first | exact o3 | omega, by first | exact o4 | omega⟩, ⟨by first | exact o5 | omega, by first | exact o6 | omega⟩, ⟨by first | exact o7 | omega, by first | exact o8 | omega⟩, ⟨by first | exact o9 | omega, by first | exact o10 | omega⟩, ⟨by first | exact o11 | omega, by first | exact o12 | omega⟩, by first | exact o13 | omega, hn4⟩), (show (f_17 7).toInt = (f 7).toInt from by first | exact k17_0 | omega), (show (f_17 10).toInt = (f 10).toInt from by first | exact k17_1 | omega), (show (f_17 15).toInt = (f 15).toInt from by first | exact k17_2 | omega), (show (19 : Int) = 19 ∨ (f 8).toInt + 1 ≤ (f_17 8).toInt from by first | with_reducible rfl | with_reducible assumption | omega), (show Q5 (a_17 5) from hq5)⟩) d_Tok_string_113
      · have nc1 : ¬ x17_3.toInt < (0 : Int) := mt (i_lt (x := x17_3) (y := 0)).mpr c1
        refine lv_iload_n S.x S.b d_Tok_string_21 rfl (lv_at hl 2 rfl) ?_
        refine lv_sipush (v := 200) S.x S.b d_Tok_string_22 (by decide) ?_
        refine lv_icmp_gt (tgt := 80) S.x S.b d_Tok_string_25 (by decide) (fun c18 => ?_) (fun c18 => ?_)
        · have nc18 : (200 : Int) < x17_2.toInt := (i_lt (x := 200) (y := x17_2)).mp c18
          refine lv_iload_n S.x S.b d_Tok_string_80 rfl (lv_at hl 2 rfl) ?_
          refine lv_sipush (v := 200) S.x S.b d_Tok_string_81 (by decide) ?_
          refine lv_icmp_gt (tgt := 111) S.x S.b d_Tok_string_84 (by decide) (fun c19 => ?_) (fun c19 => ?_)
          · have nc19 : (200 : Int) < x17_2.toInt := (i_lt (x := 200) (y := x17_2)).mp c19
            refine lv_bipush (v := 19) S.x S.b d_Tok_string_111 (by decide) ?_
            first | exact px_iret (v := 19) S hr rfl hlk hAe hw (Nat.le_of_ble_eq_true rfl) (Nat.le_of_ble_eq_true rfl) (⟨f_17, a_17, rfl, (show TokOk (f_17 7) (f_17 8) (f_17 10) (f_17 11) (f_17 12) (f_17 13) (f_17 17) (a_17 4) from ⟨⟨o1, o2⟩, ⟨o3, o4⟩, ⟨o5, o6⟩, ⟨o7, o8⟩, ⟨o9, o10⟩, ⟨o11, o12⟩, o13, hn4⟩), (show (f_17 7).toInt = (f 7).toInt from k17_0), (show (f_17 10).toInt = (f 10).toInt from k17_1), (show (f_17 15).toInt = (f 15).toInt from k17_2), (show (19 : Int) = 19 ∨ (f 8).toInt + 1 ≤ (f_17 8).toInt from by first | with_reducible rfl | with_reducible assumption | omega), (show Q5 (a_17 5) from hq5)⟩) d_Tok_string_113 | exact px_iret (v := 19) S hr rfl hlk hAe hw (Nat.le_of_ble_eq_true rfl) (Nat.le_of_ble_eq_true rfl) (⟨f_17, a_17, rfl, (show TokOk (f_17 7) (f_17 8) (f_17 10) (f_17 11) (f_17 12) (f_17 13) (f_17 17) (a_17 4) from ⟨⟨by first | exact o1 | omega, by first | exact o2 | omega⟩, ⟨by first | exact o3 | omega, by first | exact o4 | omega⟩, ⟨by first | exact o5 | omega, by first | exact o6 | omega⟩, ⟨by first | exact o7 | omega, by first | exact o8 | omega⟩, ⟨by first | exact o9 | omega, by first | exact o10 | omega⟩, ⟨by first | exact o11 | omega, by first | exact o12 | omega⟩, by first | exact o13 | omega, hn4⟩), (show (f_17 7).toInt = (f 7).toInt from by first | exact k17_0 | omega), (show (f_17 10).toInt = (f 10).toInt from by first | exact k17_1 | omega), (show (f_17 15).toInt = (f 15).toInt from by first | exact k17_2 | omega), (show (19 : Int) = 19 ∨ (f 8).toInt + 1 ≤ (f_17 8).toInt from by first | with_reducible rfl | with_reducible assumption | omega), (show Q5 (a_17 5) from hq5)⟩) d_Tok_string_113
          · have nc19 : ¬ (200 : Int) < x17_2.toInt := mt (i_lt (x := 200) (y := x17_2)).mpr c19
            refine lv_aload_n S.x S.b d_Tok_string_87 rfl (lv_at hl 0 rfl) ?_
            refine lv_iload_n S.x S.b d_Tok_string_88 rfl (lv_at hl 1 rfl) ?_
            first | refine px_calli (pr := []) (px_runV (As := [.int x17_1]) (rest := []) S (c_Tok_byteAt l D cs h r tp tb f_17 a_17 g x17_1 (show TokOk (f_17 7) (f_17 8) (f_17 10) (f_17 11) (f_17 12) (f_17 13) (f_17 17) (a_17 4) from ⟨⟨o1, o2⟩, ⟨o3, o4⟩, ⟨o5, o6⟩, ⟨o7, o8⟩, ⟨o9, o10⟩, ⟨o11, o12⟩, o13, hn4⟩)  _) hT (pr := []) (pcs := [wd_Tok cs h r (fun _ => some tp) f_17 a_17 g, [(tp, .inl (cs 1, 2048, .inl tb))]]) hw px_X.tt (px_recv hT hw 0 0 rfl rfl rfl) m3_186 m3_183 m3_185 ms_1_6 m1_2 q_Tok_byteAt ⟨Nat.le_of_ble_eq_true rfl, Nat.le_of_ble_eq_true rfl⟩ hl.1 rfl (Nat.le_of_ble_eq_true rfl) d_Tok_string_89 ⟨Nat.le_of_ble_eq_true rfl, Nat.le_of_ble_eq_true rfl⟩) hw hA (fun v23 p22 H locs hp22 hw => ?_) | refine px_calli (pr := []) (px_runV (As := [.int x17_1]) (rest := []) S (c_Tok_byteAt l D cs h r tp tb f_17 a_17 g x17_1 (show TokOk (f_17 7) (f_17 8) (f_17 10) (f_17 11) (f_17 12) (f_17 13) (f_17 17) (a_17 4) from ⟨⟨by first | exact o1 | omega, by first | exact o2 | omega⟩, ⟨by first | exact o3 | omega, by first | exact o4 | omega⟩, ⟨by first | exact o5 | omega, by first | exact o6 | omega⟩, ⟨by first | exact o7 | omega, by first | exact o8 | omega⟩, ⟨by first | exact o9 | omega, by first | exact o10 | omega⟩, ⟨by first | exact o11 | omega, by first | exact o12 | omega⟩, by first | exact o13 | omega, hn4⟩)  _) hT (pr := []) (pcs := [wd_Tok cs h r (fun _ => some tp) f_17 a_17 g, [(tp, .inl (cs 1, 2048, .inl tb))]]) hw px_X.tt (px_recv hT hw 0 0 rfl rfl rfl) m3_186 m3_183 m3_185 ms_1_6 m1_2 q_Tok_byteAt ⟨Nat.le_of_ble_eq_true rfl, Nat.le_of_ble_eq_true rfl⟩ hl.1 rfl (Nat.le_of_ble_eq_true rfl) d_Tok_string_89 ⟨Nat.le_of_ble_eq_true rfl, Nat.le_of_ble_eq_true rfl⟩) hw hA (fun v23 p22 H locs hp22 hw => ?_)
            obtain ⟨rfl, e24, e25, e26⟩ := hp22
            have e24 : -1 ≤ v23.toInt := e24
            have e25 : v23.toInt ≤ 255 := e25
            have e26 : 0 ≤ v23.toInt → 0 ≤ x17_1.toInt ∧ x17_1.toInt < (f_17 7).toInt := e26
            have lv23 := Int32.le_toInt v23
            have uv23 := Int32.toInt_lt v23
            refine lv_bipush (v := 34) S.x S.b d_Tok_string_92 (by decide) ?_
            refine lv_icmp_ne (tgt := 111) S.x S.b d_Tok_string_94 (by decide) (fun c27 => ?_) (fun c27 => ?_)
            · have nc27 : ¬ v23.toInt = (34 : Int) := mt (i_eq (x := v23) (y := 34)).mpr c27
              refine lv_bipush (v := 19) S.x S.b d_Tok_string_111 (by decide) ?_
              first | exact px_iret (v := 19) S hr rfl hlk hAe hw (Nat.le_of_ble_eq_true rfl) (Nat.le_of_ble_eq_true rfl) (⟨f_17, a_17, rfl, (show TokOk (f_17 7) (f_17 8) (f_17 10) (f_17 11) (f_17 12) (f_17 13) (f_17 17) (a_17 4) from ⟨⟨o1, o2⟩, ⟨o3, o4⟩, ⟨o5, o6⟩, ⟨o7, o8⟩, ⟨o9, o10⟩, ⟨o11, o12⟩, o13, hn4⟩), (show (f_17 7).toInt = (f 7).toInt from k17_0), (show (f_17 10).toInt = (f 10).toInt from k17_1), (show (f_17 15).toInt = (f 15).toInt from k17_2), (show (19 : Int) = 19 ∨ (f 8).toInt + 1 ≤ (f_17 8).toInt from by first | with_reducible rfl | with_reducible assumption | omega), (show Q5 (a_17 5) from hq5)⟩) d_Tok_string_113 | exact px_iret (v := 19) S hr rfl hlk hAe hw (Nat.le_of_ble_eq_true rfl) (Nat.le_of_ble_eq_true rfl) (⟨f_17, a_17, rfl, (show TokOk (f_17 7) (f_17 8) (f_17 10) (f_17 11) (f_17 12) (f_17 13) (f_17 17) (a_17 4) from ⟨⟨by first | exact o1 | omega, by first | exact o2 | omega⟩, ⟨by first | exact o3 | omega, by first | exact o4 | omega⟩, ⟨by first | exact o5 | omega, by first | exact o6 | omega⟩, ⟨by first | exact o7 | omega, by first | exact o8 | omega⟩, ⟨by first | exact o9 | omega, by first | exact o10 | omega⟩, ⟨by first | exact o11 | omega, by first | exact o12 | omega⟩, by first | exact o13 | omega, hn4⟩), (show (f_17 7).toInt = (f 7).toInt from by first | exact k17_0 | omega), (show (f_17 10).toInt = (f 10).toInt from by first | exact k17_1 | omega), (show (f_17 15).toInt = (f 15).toInt from by first | exact k17_2 | omega), (show (19 : Int) = 19 ∨ (f 8).toInt + 1 ≤ (f_17 8).toInt from by first | with_reducible rfl | with_reducible assumption | omega), (show Q5 (a_17 5) from hq5)⟩) d_Tok_string_113
            · have nc27 : v23.toInt = (34 : Int) := (i_eq (x := v23) (y := 34)).mp c27
              refine lv_aload_n S.x S.b d_Tok_string_97 rfl (lv_at hl 0 rfl) ?_
              refine px_get S k_Tok hT hw 0 0 12 (v := .int (f_17 12)) rfl rfl rfl (by decide) m1_115 d_Tok_string_98 ?_
              refine lv_iload_n S.x S.b d_Tok_string_101 rfl (lv_at hl 2 rfl) ?_
              refine lv_iadd S.x S.b d_Tok_string_102 ?_
              have lr28 := Int32.le_toInt (f_17 12)
              have ur28 := Int32.toInt_lt (f_17 12)
              refine lv_topi (fun z29 ez29 => ?_)
              have tz29 : z29.toInt = ((f_17 12).toInt + x17_2.toInt + 2147483648) % 4294967296 - 2147483648 := by rw [ez29]; exact i_add (f_17 12) x17_2
              have lz29 := Int32.le_toInt z29
              have uz29 := Int32.toInt_lt z29
              first | replace tz29 : z29.toInt = (f_17 12).toInt + x17_2.toInt := (oz_094660a5a5 nc18 nc19) | try replace tz29 : z29.toInt = (f_17 12).toInt + x17_2.toInt := by first | exact oz_094660a5a5 nc18 nc19 | omega
              refine lv_aload_n S.x S.b d_Tok_string_103 rfl (lv_at hl 0 rfl) ?_
              refine px_get S k_Tok hT hw 0 0 5 (v := .ref (r 5)) rfl rfl rfl (by decide) m1_108 d_Tok_string_104 ?_
              refine px_len S hT hw 0 6 0 rfl rfl rfl (v := 2048) rfl d_Tok_string_107 ?_
              refine lv_icmp_lt (tgt := 114) S.x S.b d_Tok_string_108 (by decide) (fun c30 => ?_) (fun c30 => ?_)
              · have nc30 : z29.toInt < (2048 : Int) := (i_lt (x := z29) (y := 2048)).mp c30
                refine lv_aload_n S.x S.b d_Tok_string_114 rfl (lv_at hl 0 rfl) ?_
                refine lv_aload_n S.x S.b d_Tok_string_115 rfl (lv_at hl 0 rfl) ?_
                refine px_get S k_Tok hT hw 0 0 12 (v := .int (f_17 12)) rfl rfl rfl (by decide) m1_115 d_Tok_string_116 ?_
                refine px_put S k_Tok hT hw 0 0 9 rfl rfl (by decide) m1_112 rfl rfl rfl (Nat.le_of_ble_eq_true rfl) d_Tok_string_119 (w' := wd_Tok cs h r (fun _ => some tp) (upd f_17 9 (f_17 12)) a_17 g) (ps' := [wd_Tok cs h r (fun _ => some tp) (upd f_17 9 (f_17 12)) a_17 g, [(tp, .inl (cs 1, 2048, .inl tb))]]) rfl rfl (fun H locs hw => ?_)
                refine lv_aload_n S.x S.b d_Tok_string_122 rfl (lv_at hl 0 rfl) ?_
                refine px_get S k_Tok hT hw 0 0 5 (v := .ref (r 5)) rfl rfl rfl (by decide) m1_108 d_Tok_string_123 ?_
                refine lv_aload_n S.x S.b d_Tok_string_126 rfl (lv_at hl 0 rfl) ?_
                refine px_get S k_Tok hT hw 0 0 12 (v := .int (f_17 12)) rfl rfl rfl (by decide) m1_115 d_Tok_string_127 ?_
                refine lv_iload_n S.x S.b d_Tok_string_130 rfl (lv_at hl 2 rfl) ?_
                refine px_iast S hT hw 0 6 (n := 2048) (f := (a_17 5)) (x := (f_17 12)) (y := x17_2) rfl (ga_Tok_5 _ _ _ _ _ _ _) (vp_in_iff.mpr (by constructor <;> omega)) d_Tok_string_131 (w' := wd_Tok cs h r (fun _ => some tp) (upd f_17 9 (f_17 12)) (va_up a_17 5 (upd (a_17 5) (f_17 12).toNatClampNeg x17_2)) g) (ps' := [wd_Tok cs h r (fun _ => some tp) (upd f_17 9 (f_17 12)) (va_up a_17 5 (upd (a_17 5) (f_17 12).toNatClampNeg x17_2)) g, [(tp, .inl (cs 1, 2048, .inl tb))]]) (sa_Tok_5 _ _ _ _ _ _ _ _) rfl (fun H locs hw => ?_)
                have hq5 := q5_up (i := (f_17 12).toNatClampNeg) (z := x17_2) hq5 (by omega)
                refine lv_aload_n S.x S.b d_Tok_string_132 rfl (lv_at hl 0 rfl) ?_
                refine lv_dup S.x S.b d_Tok_string_133 rfl ?_
                refine px_get S k_Tok hT hw 0 0 12 (v := .int (f_17 12)) rfl rfl rfl (by decide) m1_115 d_Tok_string_134 ?_
                refine lv_iload_n S.x S.b d_Tok_string_137 rfl (lv_at hl 2 rfl) ?_
                refine lv_iconst (v := 1) S.x S.b d_Tok_string_138 (by decide) ?_
                refine lv_iadd S.x S.b d_Tok_string_139 ?_
                refine lv_topi (fun z31 ez31 => ?_)
                have tz31 : z31.toInt = (x17_2.toInt + (1 : Int) + 2147483648) % 4294967296 - 2147483648 := by rw [ez31]; exact i_add x17_2 1
                have lz31 := Int32.le_toInt z31
                have uz31 := Int32.toInt_lt z31
                first | replace tz31 : z31.toInt = x17_2.toInt + (1 : Int) := (oz_8c84e6b7b9 nc18 nc19) | try replace tz31 : z31.toInt = x17_2.toInt + (1 : Int) := by first | exact oz_8c84e6b7b9 nc18 nc19 | omega
                refine lv_iadd S.x S.b d_Tok_string_140 ?_
                have lr32 := Int32.le_toInt (f_17 12)
                have ur32 := Int32.toInt_lt (f_17 12)
                refine lv_topi (fun z33 ez33 => ?_)
                have tz33 : z33.toInt = ((f_17 12).toInt + z31.toInt + 2147483648) % 4294967296 - 2147483648 := by rw [ez33]; exact i_add (f_17 12) z31
                have lz33 := Int32.le_toInt z33
                have uz33 := Int32.toInt_lt z33
                first | replace tz33 : z33.toInt = (f_17 12).toInt + z31.toInt := (oz_d8abe3bfd1 nc18 nc19) | try replace tz33 : z33.toInt = (f_17 12).toInt + z31.toInt := by first | exact oz_d8abe3bfd1 nc18 nc19 | omega
                refine px_put S k_Tok hT hw 0 0 12 rfl rfl (by decide) m1_115 rfl rfl rfl (Nat.le_of_ble_eq_true rfl) d_Tok_string_141 (w' := wd_Tok cs h r (fun _ => some tp) (upd (upd f_17 9 (f_17 12)) 12 z33) (va_up a_17 5 (upd (a_17 5) (f_17 12).toNatClampNeg x17_2)) g) (ps' := [wd_Tok cs h r (fun _ => some tp) (upd (upd f_17 9 (f_17 12)) 12 z33) (va_up a_17 5 (upd (a_17 5) (f_17 12).toNatClampNeg x17_2)) g, [(tp, .inl (cs 1, 2048, .inl tb))]]) rfl rfl (fun H locs hw => ?_)
                refine lv_aload_n S.x S.b d_Tok_string_144 rfl (lv_at hl 0 rfl) ?_
                refine lv_iload_n S.x S.b d_Tok_string_145 rfl (lv_at hl 1 rfl) ?_
                refine lv_iconst (v := 1) S.x S.b d_Tok_string_146 (by decide) ?_
                refine lv_iadd S.x S.b d_Tok_string_147 ?_
                refine lv_topi (fun z34 ez34 => ?_)
                have tz34 : z34.toInt = (x17_1.toInt + (1 : Int) + 2147483648) % 4294967296 - 2147483648 := by rw [ez34]; exact i_add x17_1 1
                have lz34 := Int32.le_toInt z34
                have uz34 := Int32.toInt_lt z34
                try replace tz34 : z34.toInt = x17_1.toInt + (1 : Int) := by omega
                refine px_put S k_Tok hT hw 0 0 8 rfl rfl (by decide) m1_111 rfl rfl rfl (Nat.le_of_ble_eq_true rfl) d_Tok_string_148 (w' := wd_Tok cs h r (fun _ => some tp) (upd (upd (upd f_17 8 z34) 9 (f_17 12)) 12 z33) (va_up a_17 5 (upd (a_17 5) (f_17 12).toNatClampNeg x17_2)) g) (ps' := [wd_Tok cs h r (fun _ => some tp) (upd (upd (upd f_17 8 z34) 9 (f_17 12)) 12 z33) (va_up a_17 5 (upd (a_17 5) (f_17 12).toNatClampNeg x17_2)) g, [(tp, .inl (cs 1, 2048, .inl tb))]]) rfl rfl (fun H locs hw => ?_)
                refine lv_bipush (v := 18) S.x S.b d_Tok_string_151 (by decide) ?_
                first | exact px_iret (v := 18) S hr rfl hlk hAe hw (Nat.le_of_ble_eq_true rfl) (Nat.le_of_ble_eq_true rfl) (⟨(upd (upd (upd f_17 8 z34) 9 (f_17 12)) 12 z33), (va_up a_17 5 (upd (a_17 5) (f_17 12).toNatClampNeg x17_2)), rfl, (show TokOk (f_17 7) z34 (f_17 10) (f_17 11) z33 (f_17 13) (f_17 17) ((va_up a_17 5 (upd (a_17 5) (f_17 12).toNatClampNeg x17_2)) 4) from ⟨⟨o1, o2⟩, ⟨(oz_5a8feed08b tz34 k17_4 k17_3 o3), (oz_c5703319b8 tz34 nc1 k17_9)⟩, ⟨o5, o6⟩, ⟨o7, o8⟩, ⟨(oz_62caf3659d tz33 o9 tz31 nc18), (oz_b348d3637e nc18 nc19)⟩, ⟨o11, o12⟩, o13, (by rw [va_up_n (by decide)]; exact hn4)⟩), (show (f_17 7).toInt = (f 7).toInt from k17_0), (show (f_17 10).toInt = (f 10).toInt from k17_1), (show (f_17 15).toInt = (f 15).toInt from k17_2), (show (18 : Int) = 19 ∨ (f 8).toInt + 1 ≤ z34.toInt from by first | with_reducible rfl | with_reducible assumption | omega), (show Q5 ((va_up a_17 5 (upd (a_17 5) (f_17 12).toNatClampNeg x17_2)) 5) from (by rw [va_up_s]; exact hq5))⟩) d_Tok_string_153 | exact px_iret (v := 18) S hr rfl hlk hAe hw (Nat.le_of_ble_eq_true rfl) (Nat.le_of_ble_eq_true rfl) (⟨(upd (upd (upd f_17 8 z34) 9 (f_17 12)) 12 z33), (va_up a_17 5 (upd (a_17 5) (f_17 12).toNatClampNeg x17_2)), rfl, (show TokOk (f_17 7) z34 (f_17 10) (f_17 11) z33 (f_17 13) (f_17 17) ((va_up a_17 5 (upd (a_17 5) (f_17 12).toNatClampNeg x17_2)) 4) from ⟨⟨by first | exact o1 | omega, by first | exact o2 | omega⟩, ⟨by first | exact oz_5a8feed08b tz34 k17_4 k17_3 o3 | omega, by first | exact oz_c5703319b8 tz34 nc1 k17_9 | omega⟩, ⟨by first | exact o5 | omega, by first | exact o6 | omega⟩, ⟨by first | exact o7 | omega, by first | exact o8 | omega⟩, ⟨by first | exact oz_62caf3659d tz33 o9 tz31 nc18 | omega, by first | exact oz_b348d3637e nc18 nc19 | omega⟩, ⟨by first | exact o11 | omega, by first | exact o12 | omega⟩, by first | exact o13 | omega, (by rw [va_up_n (by decide)]; exact hn4)⟩), (show (f_17 7).toInt = (f 7).toInt from by first | exact k17_0 | omega), (show (f_17 10).toInt = (f 10).toInt from by first | exact k17_1 | omega), (show (f_17 15).toInt = (f 15).toInt from by first | exact k17_2 | omega), (show (18 : Int) = 19 ∨ (f 8).toInt + 1 ≤ z34.toInt from by first | with_reducible rfl | with_reducible assumption | omega), (show Q5 ((va_up a_17 5 (upd (a_17 5) (f_17 12).toNatClampNeg x17_2)) 5) from (by rw [va_up_s]; exact hq5))⟩) d_Tok_string_153
              · have nc30 : ¬ z29.toInt < (2048 : Int) := mt (i_lt (x := z29) (y := 2048)).mpr c30
                refine lv_bipush (v := 19) S.x S.b d_Tok_string_111 (by decide) ?_
                first | exact px_iret (v := 19) S hr rfl hlk hAe hw (Nat.le_of_ble_eq_true rfl) (Nat.le_of_ble_eq_true rfl) (⟨f_17, a_17, rfl, (show TokOk (f_17 7) (f_17 8) (f_17 10) (f_17 11) (f_17 12) (f_17 13) (f_17 17) (a_17 4) from ⟨⟨o1, o2⟩, ⟨o3, o4⟩, ⟨o5, o6⟩, ⟨o7, o8⟩, ⟨o9, o10⟩, ⟨o11, o12⟩, o13, hn4⟩), (show (f_17 7).toInt = (f 7).toInt from k17_0), (show (f_17 10).toInt = (f 10).toInt from k17_1), (show (f_17 15).toInt = (f 15).toInt from k17_2), (show (19 : Int) = 19 ∨ (f 8).toInt + 1 ≤ (f_17 8).toInt from by first | with_reducible rfl | with_reducible assumption | omega), (show Q5 (a_17 5) from hq5)⟩) d_Tok_string_113 | exact px_iret (v := 19) S hr rfl hlk hAe hw (Nat.le_of_ble_eq_true rfl) (Nat.le_of_ble_eq_true rfl) (⟨f_17, a_17, rfl, (show TokOk (f_17 7) (f_17 8) (f_17 10) (f_17 11) (f_17 12) (f_17 13) (f_17 17) (a_17 4) from ⟨⟨by first | exact o1 | omega, by first | exact o2 | omega⟩, ⟨by first | exact o3 | omega, by first | exact o4 | omega⟩, ⟨by first | exact o5 | omega, by first | exact o6 | omega⟩, ⟨by first | exact o7 | omega, by first | exact o8 | omega⟩, ⟨by first | exact o9 | omega, by first | exact o10 | omega⟩, ⟨by first | exact o11 | omega, by first | exact o12 | omega⟩, by first | exact o13 | omega, hn4⟩), (show (f_17 7).toInt = (f 7).toInt from by first | exact k17_0 | omega), (show (f_17 10).toInt = (f 10).toInt from by first | exact k17_1 | omega), (show (f_17 15).toInt = (f 15).toInt from by first | exact k17_2 | omega), (show (19 : Int) = 19 ∨ (f 8).toInt + 1 ≤ (f_17 8).toInt from by first | with_reducible rfl | with_reducible assumption | omega), (show Q5 (a_17 5) from hq5)⟩) d_Tok_string_113
        · have nc18 : ¬ (200 : Int) < x17_2.toInt := mt (i_lt (x := 200) (y := x17_2)).mpr c18
          refine lv_aload_n S.x S.b d_Tok_string_28 rfl (lv_at hl 0 rfl) ?_
          refine px_get S k_Tok hT hw 0 0 12 (v := .int (f_17 12)) rfl rfl rfl (by decide) m1_115 d_Tok_string_29 ?_
          refine lv_iconst (v := 1) S.x S.b d_Tok_string_32 (by decide) ?_
          refine lv_iadd S.x S.b d_Tok_string_33 ?_
          have lr35 := Int32.le_toInt (f_17 12)
          have ur35 := Int32.toInt_lt (f_17 12)
          refine lv_topi (fun z36 ez36 => ?_)
          have tz36 : z36.toInt = ((f_17 12).toInt + (1 : Int) + 2147483648) % 4294967296 - 2147483648 := by rw [ez36]; exact i_add (f_17 12) 1
          have lz36 := Int32.le_toInt z36
          have uz36 := Int32.toInt_lt z36
          try replace tz36 : z36.toInt = (f_17 12).toInt + (1 : Int) := by omega
          refine lv_iload_n S.x S.b d_Tok_string_34 rfl (lv_at hl 2 rfl) ?_
          refine lv_iadd S.x S.b d_Tok_string_35 ?_
          refine lv_topi (fun z37 ez37 => ?_)
          have tz37 : z37.toInt = (z36.toInt + x17_2.toInt + 2147483648) % 4294967296 - 2147483648 := by rw [ez37]; exact i_add z36 x17_2
          have lz37 := Int32.le_toInt z37
          have uz37 := Int32.toInt_lt z37
          try replace tz37 : z37.toInt = z36.toInt + x17_2.toInt := by omega
          refine lv_aload_n S.x S.b d_Tok_string_36 rfl (lv_at hl 0 rfl) ?_
          refine px_get S k_Tok hT hw 0 0 5 (v := .ref (r 5)) rfl rfl rfl (by decide) m1_108 d_Tok_string_37 ?_
          refine px_len S hT hw 0 6 0 rfl rfl rfl (v := 2048) rfl d_Tok_string_40 ?_
          refine lv_icmp_ge (tgt := 58) S.x S.b d_Tok_string_41 (by decide) (fun c38 => ?_) (fun c38 => ?_)
          · have nc38 : (2048 : Int) ≤ z37.toInt := (i_le (x := 2048) (y := z37)).mp c38
            obtain ⟨z39, ez39⟩ : ∃ y : Int32, y = x17_2 + 1 := ⟨_, rfl⟩
            have tz39 : z39.toInt = (x17_2.toInt + 1 + 2147483648) % 4294967296 - 2147483648 := by rw [ez39]; exact i_add x17_2 1
            have lz39 := Int32.le_toInt z39
            have uz39 := Int32.toInt_lt z39
            try replace tz39 : z39.toInt = x17_2.toInt + 1 := by omega
            refine lv_iinc (v := z39) (lv' := [(2, .int z39), (0, .ref h), (1, .int x17_1), (3, .int x17_3)]) S.x S.b d_Tok_string_58 hl (k := 2) rfl (by rw [ez39]; rfl) (by decide) rfl (fun ls hl => ?_)
            refine lv_iload_n S.x S.b d_Tok_string_61 rfl (lv_at hl 2 rfl) ?_
            refine lv_aload_n S.x S.b d_Tok_string_62 rfl (lv_at hl 1 rfl) ?_
            refine lv_iload_n S.x S.b d_Tok_string_63 rfl (lv_at hl 2 rfl) ?_
            first | refine px_calli (pr := []) (px_runV (As := [.int x17_1]) (rest := [.int x17_1]) S (c_Tok_quotedWidth l D cs h r tp tb f_17 a_17 g x17_1 (show TokOk (f_17 7) (f_17 8) (f_17 10) (f_17 11) (f_17 12) (f_17 13) (f_17 17) (a_17 4) from ⟨⟨o1, o2⟩, ⟨o3, o4⟩, ⟨o5, o6⟩, ⟨o7, o8⟩, ⟨o9, o10⟩, ⟨o11, o12⟩, o13, hn4⟩)  _) hT (pr := []) (pcs := [wd_Tok cs h r (fun _ => some tp) f_17 a_17 g, [(tp, .inl (cs 1, 2048, .inl tb))]]) hw px_X.tt (px_recv hT hw 0 0 rfl rfl rfl) m3_237 m3_234 m3_236 ms_2_1 m1_2 q_Tok_quotedWidth ⟨Nat.le_of_ble_eq_true rfl, Nat.le_of_ble_eq_true rfl⟩ hl.1 rfl (Nat.le_of_ble_eq_true rfl) d_Tok_string_64 ⟨Nat.le_of_ble_eq_true rfl, Nat.le_of_ble_eq_true rfl⟩) hw hA (fun v43 p42 H locs hp42 hw => ?_) | refine px_calli (pr := []) (px_runV (As := [.int x17_1]) (rest := [.int x17_1]) S (c_Tok_quotedWidth l D cs h r tp tb f_17 a_17 g x17_1 (show TokOk (f_17 7) (f_17 8) (f_17 10) (f_17 11) (f_17 12) (f_17 13) (f_17 17) (a_17 4) from ⟨⟨by first | exact o1 | omega, by first | exact o2 | omega⟩, ⟨by first | exact o3 | omega, by first | exact o4 | omega⟩, ⟨by first | exact o5 | omega, by first | exact o6 | omega⟩, ⟨by first | exact o7 | omega, by first | exact o8 | omega⟩, ⟨by first | exact o9 | omega, by first | exact o10 | omega⟩, ⟨by first | exact o11 | omega, by first | exact o12 | omega⟩, by first | exact o13 | omega, hn4⟩)  _) hT (pr := []) (pcs := [wd_Tok cs h r (fun _ => some tp) f_17 a_17 g, [(tp, .inl (cs 1, 2048, .inl tb))]]) hw px_X.tt (px_recv hT hw 0 0 rfl rfl rfl) m3_237 m3_234 m3_236 ms_2_1 m1_2 q_Tok_quotedWidth ⟨Nat.le_of_ble_eq_true rfl, Nat.le_of_ble_eq_true rfl⟩ hl.1 rfl (Nat.le_of_ble_eq_true rfl) d_Tok_string_64 ⟨Nat.le_of_ble_eq_true rfl, Nat.le_of_ble_eq_true rfl⟩) hw hA (fun v43 p42 H locs hp42 hw => ?_)
            obtain ⟨rfl, e44, e45⟩ := hp42
            have e44 : 1 ≤ v43.toInt := e44
            have e45 : v43.toInt ≤ 2 := e45
            have lv43 := Int32.le_toInt v43
            have uv43 := Int32.toInt_lt v43
            refine lv_iadd S.x S.b d_Tok_string_67 ?_
            refine lv_topi (fun z46 ez46 => ?_)
            have tz46 : z46.toInt = (x17_1.toInt + v43.toInt + 2147483648) % 4294967296 - 2147483648 := by rw [ez46]; exact i_add x17_1 v43
            have lz46 := Int32.le_toInt z46
            have uz46 := Int32.toInt_lt z46
            try replace tz46 : z46.toInt = x17_1.toInt + v43.toInt := by omega
            refine lv_istore_n (lv' := [(1, .int z46), (2, .int z39), (0, .ref h), (3, .int x17_3)]) S.x S.b d_Tok_string_68 rfl hl (by decide) rfl (fun ls hl => ?_)
            refine lv_aload_n S.x S.b d_Tok_string_69 rfl (lv_at hl 2 rfl) ?_
            refine lv_iload_n S.x S.b d_Tok_string_70 rfl (lv_at hl 0 rfl) ?_
            refine lv_bipush (v := 34) S.x S.b d_Tok_string_71 (by decide) ?_
            first | refine px_calli (pr := []) (px_runV (As := [.int z46, .int 34]) (rest := []) S (c_t2_quotedAt l D cs h r tp tb g f_17 a_17 z46 34  (show TokOk (f_17 7) (f_17 8) (f_17 10) (f_17 11) (f_17 12) (f_17 13) (f_17 17) (a_17 4) from ⟨⟨o1, o2⟩, ⟨o3, o4⟩, ⟨o5, o6⟩, ⟨o7, o8⟩, ⟨o9, o10⟩, ⟨o11, o12⟩, o13, hn4⟩) (show (34 : Int) ≤ 100 from by first | decide | omega) _) hT (pr := []) (pcs := [wd_Tok cs h r (fun _ => some tp) f_17 a_17 g, [(tp, .inl (cs 1, 2048, .inl tb))]]) hw px_X.tt (px_recv hT hw 0 0 rfl rfl rfl) m3_233 m3_230 m3_232 ms_2_0 m1_2 q_Tok_quotedAt ⟨Nat.le_of_ble_eq_true rfl, Nat.le_of_ble_eq_true rfl⟩ hl.1 rfl (Nat.le_of_ble_eq_true rfl) d_Tok_string_73 ⟨Nat.le_of_ble_eq_true rfl, Nat.le_of_ble_eq_true rfl⟩) hw hA (fun v48 p47 H locs hp47 hw => ?_) | refine px_calli (pr := []) (px_runV (As := [.int z46, .int 34]) (rest := []) S (c_t2_quotedAt l D cs h r tp tb g f_17 a_17 z46 34  (show TokOk (f_17 7) (f_17 8) (f_17 10) (f_17 11) (f_17 12) (f_17 13) (f_17 17) (a_17 4) from ⟨⟨by first | exact o1 | omega, by first | exact o2 | omega⟩, ⟨by first | exact o3 | omega, by first | exact o4 | omega⟩, ⟨by first | exact o5 | omega, by first | exact o6 | omega⟩, ⟨by first | exact o7 | omega, by first | exact o8 | omega⟩, ⟨by first | exact o9 | omega, by first | exact o10 | omega⟩, ⟨by first | exact o11 | omega, by first | exact o12 | omega⟩, by first | exact o13 | omega, hn4⟩) (show (34 : Int) ≤ 100 from by first | decide | omega) _) hT (pr := []) (pcs := [wd_Tok cs h r (fun _ => some tp) f_17 a_17 g, [(tp, .inl (cs 1, 2048, .inl tb))]]) hw px_X.tt (px_recv hT hw 0 0 rfl rfl rfl) m3_233 m3_230 m3_232 ms_2_0 m1_2 q_Tok_quotedAt ⟨Nat.le_of_ble_eq_true rfl, Nat.le_of_ble_eq_true rfl⟩ hl.1 rfl (Nat.le_of_ble_eq_true rfl) d_Tok_string_73 ⟨Nat.le_of_ble_eq_true rfl, Nat.le_of_ble_eq_true rfl⟩) hw hA (fun v48 p47 H locs hp47 hw => ?_)
            obtain ⟨rfl, e49, e50, e51⟩ := hp47
            have e49 : -1 ≤ v48.toInt := e49
            have e50 : v48.toInt ≤ 200 := e50
            have e51 : 0 ≤ v48.toInt → 0 ≤ z46.toInt ∧ z46.toInt < (f_17 7).toInt := e51
            have lv48 := Int32.le_toInt v48
            have uv48 := Int32.toInt_lt v48
            refine lv_istore_n (lv' := [(3, .int v48), (1, .int z46), (2, .int z39), (0, .ref h)]) S.x S.b d_Tok_string_76 rfl hl (by decide) rfl (fun ls hl => ?_)
            refine lv_goto (tgt := 17) S.x S.b d_Tok_string_77 (by decide) ?_
            first | exact ih17 f_17 a_17 z46 z39 v48 _ _ ls (show TokOk (f_17 7) (f_17 8) (f_17 10) (f_17 11) (f_17 12) (f_17 13) (f_17 17) (a_17 4) from ⟨⟨o1, o2⟩, ⟨o3, o4⟩, ⟨o5, o6⟩, ⟨o7, o8⟩, ⟨o9, o10⟩, ⟨o11, o12⟩, o13, hn4⟩) (show (f_17 7).toInt = (f 7).toInt from k17_0) (show (f_17 10).toInt = (f 10).toInt from k17_1) (show (f_17 15).toInt = (f 15).toInt from k17_2) (show (f_17 8).toInt = (f 8).toInt from k17_3) (show (f 8).toInt + 1 ≤ z46.toInt from (oz_f4fc9d49f4 k17_4 tz46 e44)) (show z46.toInt ≤ (f_17 7).toInt+16 from (oz_72973cefa7 tz46 nc1 k17_9 e45)) (show 0 ≤ z39.toInt from (oz_ae613611c0 tz39 k17_6)) (show z39.toInt ≤ 201 from (oz_efe439d2c9 tz39 nc18)) (show v48.toInt ≤ 200 from e50) (show 0 ≤ v48.toInt → z46.toInt < (f_17 7).toInt from by first | with_reducible rfl | with_reducible assumption | omega) (show Q5 (a_17 5) from hq5) (show (202 : Int)-z39.toInt < (n_17 : Int) from (oz_48b3304134 hm tz39)) hw (lv_sub hl [3, 1, 2, 0] rfl) | exact ih17 f_17 a_17 z46 z39 v48 _ _ ls (show TokOk (f_17 7) (f_17 8) (f_17 10) (f_17 11) (f_17 12) (f_17 13) (f_17 17) (a_17 4) from ⟨⟨by first | exact o1 | omega, by first | exact o2 | omega⟩, ⟨by first | exact o3 | omega, by first | exact o4 | omega⟩, ⟨by first | exact o5 | omega, by first | exact o6 | omega⟩, ⟨by first | exact o7 | omega, by first | exact o8 | omega⟩, ⟨by first | exact o9 | omega, by first | exact o10 | omega⟩, ⟨by first | exact o11 | omega, by first | exact o12 | omega⟩, by first | exact o13 | omega, hn4⟩) (show (f_17 7).toInt = (f 7).toInt from by first | exact k17_0 | omega) (show (f_17 10).toInt = (f 10).toInt from by first | exact k17_1 | omega) (show (f_17 15).toInt = (f 15).toInt from by first | exact k17_2 | omega) (show (f_17 8).toInt = (f 8).toInt from by first | exact k17_3 | omega) (show (f 8).toInt + 1 ≤ z46.toInt from by first | exact oz_f4fc9d49f4 k17_4 tz46 e44 | omega) (show z46.toInt ≤ (f_17 7).toInt+16 from by first | exact oz_72973cefa7 tz46 nc1 k17_9 e45 | omega) (show 0 ≤ z39.toInt from by first | exact oz_ae613611c0 tz39 k17_6 | omega) (show z39.toInt ≤ 201 from by first | exact oz_efe439d2c9 tz39 nc18 | omega) (show v48.toInt ≤ 200 from by first | exact e50 | omega) (show 0 ≤ v48.toInt → z46.toInt < (f_17 7).toInt from by first | with_reducible rfl | with_reducible assumption | omega) (show Q5 (a_17 5) from hq5) (show (202 : Int)-z39.toInt < (n_17 : Int) from by first | exact oz_48b3304134 hm tz39 | omega) hw (lv_sub hl [3, 1, 2, 0] rfl)
          · have nc38 : ¬ (2048 : Int) ≤ z37.toInt := mt (i_le (x := 2048) (y := z37)).mpr c38
            refine lv_aload_n S.x S.b d_Tok_string_44 rfl (lv_at hl 0 rfl) ?_
            refine px_get S k_Tok hT hw 0 0 5 (v := .ref (r 5)) rfl rfl rfl (by decide) m1_108 d_Tok_string_45 ?_
            refine lv_aload_n S.x S.b d_Tok_string_48 rfl (lv_at hl 0 rfl) ?_
            refine px_get S k_Tok hT hw 0 0 12 (v := .int (f_17 12)) rfl rfl rfl (by decide) m1_115 d_Tok_string_49 ?_
            refine lv_iconst (v := 1) S.x S.b d_Tok_string_52 (by decide) ?_
            refine lv_iadd S.x S.b d_Tok_string_53 ?_
            have lr52 := Int32.le_toInt (f_17 12)
            have ur52 := Int32.toInt_lt (f_17 12)
            refine lv_topi (fun z53 ez53 => ?_)
            have tz53 : z53.toInt = ((f_17 12).toInt + (1 : Int) + 2147483648) % 4294967296 - 2147483648 := by rw [ez53]; exact i_add (f_17 12) 1
            have lz53 := Int32.le_toInt z53
            have uz53 := Int32.toInt_lt z53
            try replace tz53 : z53.toInt = (f_17 12).toInt + (1 : Int) := by omega
            refine lv_iload_n S.x S.b d_Tok_string_54 rfl (lv_at hl 2 rfl) ?_
            refine lv_iadd S.x S.b d_Tok_string_55 ?_
            refine lv_topi (fun z54 ez54 => ?_)
            have tz54 : z54.toInt = (z53.toInt + x17_2.toInt + 2147483648) % 4294967296 - 2147483648 := by rw [ez54]; exact i_add z53 x17_2
            have lz54 := Int32.le_toInt z54
            have uz54 := Int32.toInt_lt z54
            try replace tz54 : z54.toInt = z53.toInt + x17_2.toInt := by omega
            refine lv_iload_n S.x S.b d_Tok_string_56 rfl (lv_at hl 3 rfl) ?_
            refine px_iast S hT hw 0 6 (n := 2048) (f := (a_17 5)) (x := z54) (y := x17_3) rfl (ga_Tok_5 _ _ _ _ _ _ _) (vp_in_iff.mpr (by constructor <;> omega)) d_Tok_string_57 (w' := wd_Tok cs h r (fun _ => some tp) f_17 (va_up a_17 5 (upd (a_17 5) z54.toNatClampNeg x17_3)) g) (ps' := [wd_Tok cs h r (fun _ => some tp) f_17 (va_up a_17 5 (upd (a_17 5) z54.toNatClampNeg x17_3)) g, [(tp, .inl (cs 1, 2048, .inl tb))]]) (sa_Tok_5 _ _ _ _ _ _ _ _) rfl (fun H locs hw => ?_)
            have hq5 := q5_up (i := z54.toNatClampNeg) (z := x17_3) hq5 (by omega)
            obtain ⟨z55, ez55⟩ : ∃ y : Int32, y = x17_2 + 1 := ⟨_, rfl⟩
            have tz55 : z55.toInt = (x17_2.toInt + 1 + 2147483648) % 4294967296 - 2147483648 := by rw [ez55]; exact i_add x17_2 1
            have lz55 := Int32.le_toInt z55
            have uz55 := Int32.toInt_lt z55
            try replace tz55 : z55.toInt = x17_2.toInt + 1 := by omega
            refine lv_iinc (v := z55) (lv' := [(2, .int z55), (0, .ref h), (1, .int x17_1), (3, .int x17_3)]) S.x S.b d_Tok_string_58 hl (k := 2) rfl (by rw [ez55]; rfl) (by decide) rfl (fun ls hl => ?_)
            refine lv_iload_n S.x S.b d_Tok_string_61 rfl (lv_at hl 2 rfl) ?_
            refine lv_aload_n S.x S.b d_Tok_string_62 rfl (lv_at hl 1 rfl) ?_
            refine lv_iload_n S.x S.b d_Tok_string_63 rfl (lv_at hl 2 rfl) ?_
            first | refine px_calli (pr := []) (px_runV (As := [.int x17_1]) (rest := [.int x17_1]) S (c_Tok_quotedWidth l D cs h r tp tb f_17 (va_up a_17 5 (upd (a_17 5) z54.toNatClampNeg x17_3)) g x17_1 (show TokOk (f_17 7) (f_17 8) (f_17 10) (f_17 11) (f_17 12) (f_17 13) (f_17 17) ((va_up a_17 5 (upd (a_17 5) z54.toNatClampNeg x17_3)) 4) from ⟨⟨o1, o2⟩, ⟨o3, o4⟩, ⟨o5, o6⟩, ⟨o7, o8⟩, ⟨o9, o10⟩, ⟨o11, o12⟩, o13, (by rw [va_up_n (by decide)]; exact hn4)⟩)  _) hT (pr := []) (pcs := [wd_Tok cs h r (fun _ => some tp) f_17 (va_up a_17 5 (upd (a_17 5) z54.toNatClampNeg x17_3)) g, [(tp, .inl (cs 1, 2048, .inl tb))]]) hw px_X.tt (px_recv hT hw 0 0 rfl rfl rfl) m3_237 m3_234 m3_236 ms_2_1 m1_2 q_Tok_quotedWidth ⟨Nat.le_of_ble_eq_true rfl, Nat.le_of_ble_eq_true rfl⟩ hl.1 rfl (Nat.le_of_ble_eq_true rfl) d_Tok_string_64 ⟨Nat.le_of_ble_eq_true rfl, Nat.le_of_ble_eq_true rfl⟩) hw hA (fun v59 p58 H locs hp58 hw => ?_) | refine px_calli (pr := []) (px_runV (As := [.int x17_1]) (rest := [.int x17_1]) S (c_Tok_quotedWidth l D cs h r tp tb f_17 (va_up a_17 5 (upd (a_17 5) z54.toNatClampNeg x17_3)) g x17_1 (show TokOk (f_17 7) (f_17 8) (f_17 10) (f_17 11) (f_17 12) (f_17 13) (f_17 17) ((va_up a_17 5 (upd (a_17 5) z54.toNatClampNeg x17_3)) 4) from ⟨⟨by first | exact o1 | omega, by first | exact o2 | omega⟩, ⟨by first | exact o3 | omega, by first | exact o4 | omega⟩, ⟨by first | exact o5 | omega, by first | exact o6 | omega⟩, ⟨by first | exact o7 | omega, by first | exact o8 | omega⟩, ⟨by first | exact o9 | omega, by first | exact o10 | omega⟩, ⟨by first | exact o11 | omega, by first | exact o12 | omega⟩, by first | exact o13 | omega, (by rw [va_up_n (by decide)]; exact hn4)⟩)  _) hT (pr := []) (pcs := [wd_Tok cs h r (fun _ => some tp) f_17 (va_up a_17 5 (upd (a_17 5) z54.toNatClampNeg x17_3)) g, [(tp, .inl (cs 1, 2048, .inl tb))]]) hw px_X.tt (px_recv hT hw 0 0 rfl rfl rfl) m3_237 m3_234 m3_236 ms_2_1 m1_2 q_Tok_quotedWidth ⟨Nat.le_of_ble_eq_true rfl, Nat.le_of_ble_eq_true rfl⟩ hl.1 rfl (Nat.le_of_ble_eq_true rfl) d_Tok_string_64 ⟨Nat.le_of_ble_eq_true rfl, Nat.le_of_ble_eq_true rfl⟩) hw hA (fun v59 p58 H locs hp58 hw => ?_)
            obtain ⟨rfl, e60, e61⟩ := hp58
            have e60 : 1 ≤ v59.toInt := e60
            have e61 : v59.toInt ≤ 2 := e61
            have lv59 := Int32.le_toInt v59
            have uv59 := Int32.toInt_lt v59
            refine lv_iadd S.x S.b d_Tok_string_67 ?_
            refine lv_topi (fun z62 ez62 => ?_)
            have tz62 : z62.toInt = (x17_1.toInt + v59.toInt + 2147483648) % 4294967296 - 2147483648 := by rw [ez62]; exact i_add x17_1 v59
            have lz62 := Int32.le_toInt z62
            have uz62 := Int32.toInt_lt z62
            try replace tz62 : z62.toInt = x17_1.toInt + v59.toInt := by omega
            refine lv_istore_n (lv' := [(1, .int z62), (2, .int z55), (0, .ref h), (3, .int x17_3)]) S.x S.b d_Tok_string_68 rfl hl (by decide) rfl (fun ls hl => ?_)
            refine lv_aload_n S.x S.b d_Tok_string_69 rfl (lv_at hl 2 rfl) ?_
            refine lv_iload_n S.x S.b d_Tok_string_70 rfl (lv_at hl 0 rfl) ?_
            refine lv_bipush (v := 34) S.x S.b d_Tok_string_71 (by decide) ?_
            first | refine px_calli (pr := []) (px_runV (As := [.int z62, .int 34]) (rest := []) S (c_t2_quotedAt l D cs h r tp tb g f_17 (va_up a_17 5 (upd (a_17 5) z54.toNatClampNeg x17_3)) z62 34  (show TokOk (f_17 7) (f_17 8) (f_17 10) (f_17 11) (f_17 12) (f_17 13) (f_17 17) ((va_up a_17 5 (upd (a_17 5) z54.toNatClampNeg x17_3)) 4) from ⟨⟨o1, o2⟩, ⟨o3, o4⟩, ⟨o5, o6⟩, ⟨o7, o8⟩, ⟨o9, o10⟩, ⟨o11, o12⟩, o13, (by rw [va_up_n (by decide)]; exact hn4)⟩) (show (34 : Int) ≤ 100 from by first | decide | omega) _) hT (pr := []) (pcs := [wd_Tok cs h r (fun _ => some tp) f_17 (va_up a_17 5 (upd (a_17 5) z54.toNatClampNeg x17_3)) g, [(tp, .inl (cs 1, 2048, .inl tb))]]) hw px_X.tt (px_recv hT hw 0 0 rfl rfl rfl) m3_233 m3_230 m3_232 ms_2_0 m1_2 q_Tok_quotedAt ⟨Nat.le_of_ble_eq_true rfl, Nat.le_of_ble_eq_true rfl⟩ hl.1 rfl (Nat.le_of_ble_eq_true rfl) d_Tok_string_73 ⟨Nat.le_of_ble_eq_true rfl, Nat.le_of_ble_eq_true rfl⟩) hw hA (fun v64 p63 H locs hp63 hw => ?_) | refine px_calli (pr := []) (px_runV (As := [.int z62, .int 34]) (rest := []) S (c_t2_quotedAt l D cs h r tp tb g f_17 (va_up a_17 5 (upd (a_17 5) z54.toNatClampNeg x17_3)) z62 34  (show TokOk (f_17 7) (f_17 8) (f_17 10) (f_17 11) (f_17 12) (f_17 13) (f_17 17) ((va_up a_17 5 (upd (a_17 5) z54.toNatClampNeg x17_3)) 4) from ⟨⟨by first | exact o1 | omega, by first | exact o2 | omega⟩, ⟨by first | exact o3 | omega, by first | exact o4 | omega⟩, ⟨by first | exact o5 | omega, by first | exact o6 | omega⟩, ⟨by first | exact o7 | omega, by first | exact o8 | omega⟩, ⟨by first | exact o9 | omega, by first | exact o10 | omega⟩, ⟨by first | exact o11 | omega, by first | exact o12 | omega⟩, by first | exact o13 | omega, (by rw [va_up_n (by decide)]; exact hn4)⟩) (show (34 : Int) ≤ 100 from by first | decide | omega) _) hT (pr := []) (pcs := [wd_Tok cs h r (fun _ => some tp) f_17 (va_up a_17 5 (upd (a_17 5) z54.toNatClampNeg x17_3)) g, [(tp, .inl (cs 1, 2048, .inl tb))]]) hw px_X.tt (px_recv hT hw 0 0 rfl rfl rfl) m3_233 m3_230 m3_232 ms_2_0 m1_2 q_Tok_quotedAt ⟨Nat.le_of_ble_eq_true rfl, Nat.le_of_ble_eq_true rfl⟩ hl.1 rfl (Nat.le_of_ble_eq_true rfl) d_Tok_string_73 ⟨Nat.le_of_ble_eq_true rfl, Nat.le_of_ble_eq_true rfl⟩) hw hA (fun v64 p63 H locs hp63 hw => ?_)
            obtain ⟨rfl, e65, e66, e67⟩ := hp63
            have e65 : -1 ≤ v64.toInt := e65
            have e66 : v64.toInt ≤ 200 := e66
            have e67 : 0 ≤ v64.toInt → 0 ≤ z62.toInt ∧ z62.toInt < (f_17 7).toInt := e67
            have lv64 := Int32.le_toInt v64
            have uv64 := Int32.toInt_lt v64
            refine lv_istore_n (lv' := [(3, .int v64), (1, .int z62), (2, .int z55), (0, .ref h)]) S.x S.b d_Tok_string_76 rfl hl (by decide) rfl (fun ls hl => ?_)
            refine lv_goto (tgt := 17) S.x S.b d_Tok_string_77 (by decide) ?_
            first | exact ih17 f_17 (va_up a_17 5 (upd (a_17 5) z54.toNatClampNeg x17_3)) z62 z55 v64 _ _ ls (show TokOk (f_17 7) (f_17 8) (f_17 10) (f_17 11) (f_17 12) (f_17 13) (f_17 17) ((va_up a_17 5 (upd (a_17 5) z54.toNatClampNeg x17_3)) 4) from ⟨⟨o1, o2⟩, ⟨o3, o4⟩, ⟨o5, o6⟩, ⟨o7, o8⟩, ⟨o9, o10⟩, ⟨o11, o12⟩, o13, (by rw [va_up_n (by decide)]; exact hn4)⟩) (show (f_17 7).toInt = (f 7).toInt from k17_0) (show (f_17 10).toInt = (f 10).toInt from k17_1) (show (f_17 15).toInt = (f 15).toInt from k17_2) (show (f_17 8).toInt = (f 8).toInt from k17_3) (show (f 8).toInt + 1 ≤ z62.toInt from (oz_f4fc9d49f4 k17_4 tz62 e60)) (show z62.toInt ≤ (f_17 7).toInt+16 from (oz_72973cefa7 tz62 nc1 k17_9 e61)) (show 0 ≤ z55.toInt from (oz_ae613611c0 tz55 k17_6)) (show z55.toInt ≤ 201 from (oz_efe439d2c9 tz55 nc18)) (show v64.toInt ≤ 200 from e66) (show 0 ≤ v64.toInt → z62.toInt < (f_17 7).toInt from by first | with_reducible rfl | with_reducible assumption | omega) (show Q5 ((va_up a_17 5 (upd (a_17 5) z54.toNatClampNeg x17_3)) 5) from (by rw [va_up_s]; exact hq5)) (show (202 : Int)-z55.toInt < (n_17 : Int) from (oz_48b3304134 hm tz55)) hw (lv_sub hl [3, 1, 2, 0] rfl) | exact ih17 f_17 (va_up a_17 5 (upd (a_17 5) z54.toNatClampNeg x17_3)) z62 z55 v64 _ _ ls (show TokOk (f_17 7) (f_17 8) (f_17 10) (f_17 11) (f_17 12) (f_17 13) (f_17 17) ((va_up a_17 5 (upd (a_17 5) z54.toNatClampNeg x17_3)) 4) from ⟨⟨by first | exact o1 | omega, by first | exact o2 | omega⟩, ⟨by first | exact o3 | omega, by first | exact o4 | omega⟩, ⟨by first | exact o5 | omega, by first | exact o6 | omega⟩, ⟨by first | exact o7 | omega, by first | exact o8 | omega⟩, ⟨by first | exact o9 | omega, by first | exact o10 | omega⟩, ⟨by first | exact o11 | omega, by first | exact o12 | omega⟩, by first | exact o13 | omega, (by rw [va_up_n (by decide)]; exact hn4)⟩) (show (f_17 7).toInt = (f 7).toInt from by first | exact k17_0 | omega) (show (f_17 10).toInt = (f 10).toInt from by first | exact k17_1 | omega) (show (f_17 15).toInt = (f 15).toInt from by first | exact k17_2 | omega) (show (f_17 8).toInt = (f 8).toInt from by first | exact k17_3 | omega) (show (f 8).toInt + 1 ≤ z62.toInt from by first | exact oz_f4fc9d49f4 k17_4 tz62 e60 | omega) (show z62.toInt ≤ (f_17 7).toInt+16 from by first | exact oz_72973cefa7 tz62 nc1 k17_9 e61 | omega) (show 0 ≤ z55.toInt from by first | exact oz_ae613611c0 tz55 k17_6 | omega) (show z55.toInt ≤ 201 from by first | exact oz_efe439d2c9 tz55 nc18 | omega) (show v64.toInt ≤ 200 from by first | exact e66 | omega) (show 0 ≤ v64.toInt → z62.toInt < (f_17 7).toInt from by first | with_reducible rfl | with_reducible assumption | omega) (show Q5 ((va_up a_17 5 (upd (a_17 5) z54.toNatClampNeg x17_3)) 5) from (by rw [va_up_s]; exact hq5)) (show (202 : Int)-z55.toInt < (n_17 : Int) from by first | exact oz_48b3304134 hm tz55 | omega) hw (lv_sub hl [3, 1, 2, 0] rfl)
  refine lv_aload_n S.x S.b d_Tok_string_0 rfl (lv_at hl 0 rfl) ?_
  refine px_get S k_Tok hT hw 0 0 8 (v := .int (f 8)) rfl rfl rfl (by decide) m1_111 d_Tok_string_1 ?_
  refine lv_iconst (v := 1) S.x S.b d_Tok_string_4 (by decide) ?_
  refine lv_iadd S.x S.b d_Tok_string_5 ?_
  have lr68 := Int32.le_toInt (f 8)
  have ur68 := Int32.toInt_lt (f 8)
  refine lv_topi (fun z69 ez69 => ?_)
  have tz69 : z69.toInt = ((f 8).toInt + (1 : Int) + 2147483648) % 4294967296 - 2147483648 := by rw [ez69]; exact i_add (f 8) 1
  have lz69 := Int32.le_toInt z69
  have uz69 := Int32.toInt_lt z69
  try replace tz69 : z69.toInt = (f 8).toInt + (1 : Int) := by omega
  refine lv_istore_n (lv' := [(1, .int z69), (0, .ref h)]) S.x S.b d_Tok_string_6 rfl hl (by decide) rfl (fun ls hl => ?_)
  refine lv_iconst (v := 0) S.x S.b d_Tok_string_7 (by decide) ?_
  refine lv_istore_n (lv' := [(2, .int 0), (1, .int z69), (0, .ref h)]) S.x S.b d_Tok_string_8 rfl hl (by decide) rfl (fun ls hl => ?_)
  refine lv_aload_n S.x S.b d_Tok_string_9 rfl (lv_at hl 2 rfl) ?_
  refine lv_iload_n S.x S.b d_Tok_string_10 rfl (lv_at hl 1 rfl) ?_
  refine lv_bipush (v := 34) S.x S.b d_Tok_string_11 (by decide) ?_
  first | refine px_calli (pr := []) (px_runV (As := [.int z69, .int 34]) (rest := []) S (c_t2_quotedAt l D cs h r tp tb g f a z69 34  (show TokOk (f 7) (f 8) (f 10) (f 11) (f 12) (f 13) (f 17) (a 4) from ⟨⟨o1, o2⟩, ⟨o3, o4⟩, ⟨o5, o6⟩, ⟨o7, o8⟩, ⟨o9, o10⟩, ⟨o11, o12⟩, o13, hn4⟩) (show (34 : Int) ≤ 100 from by first | decide | omega) _) hT (pr := []) (pcs := [wd_Tok cs h r (fun _ => some tp) f a g, [(tp, .inl (cs 1, 2048, .inl tb))]]) hw px_X.tt (px_recv hT hw 0 0 rfl rfl rfl) m3_233 m3_230 m3_232 ms_2_0 m1_2 q_Tok_quotedAt ⟨Nat.le_of_ble_eq_true rfl, Nat.le_of_ble_eq_true rfl⟩ hl.1 rfl (Nat.le_of_ble_eq_true rfl) d_Tok_string_13 ⟨Nat.le_of_ble_eq_true rfl, Nat.le_of_ble_eq_true rfl⟩) hw hA (fun v71 p70 H locs hp70 hw => ?_) | refine px_calli (pr := []) (px_runV (As := [.int z69, .int 34]) (rest := []) S (c_t2_quotedAt l D cs h r tp tb g f a z69 34  (show TokOk (f 7) (f 8) (f 10) (f 11) (f 12) (f 13) (f 17) (a 4) from ⟨⟨by first | exact o1 | omega, by first | exact o2 | omega⟩, ⟨by first | exact o3 | omega, by first | exact o4 | omega⟩, ⟨by first | exact o5 | omega, by first | exact o6 | omega⟩, ⟨by first | exact o7 | omega, by first | exact o8 | omega⟩, ⟨by first | exact o9 | omega, by first | exact o10 | omega⟩, ⟨by first | exact o11 | omega, by first | exact o12 | omega⟩, by first | exact o13 | omega, hn4⟩) (show (34 : Int) ≤ 100 from by first | decide | omega) _) hT (pr := []) (pcs := [wd_Tok cs h r (fun _ => some tp) f a g, [(tp, .inl (cs 1, 2048, .inl tb))]]) hw px_X.tt (px_recv hT hw 0 0 rfl rfl rfl) m3_233 m3_230 m3_232 ms_2_0 m1_2 q_Tok_quotedAt ⟨Nat.le_of_ble_eq_true rfl, Nat.le_of_ble_eq_true rfl⟩ hl.1 rfl (Nat.le_of_ble_eq_true rfl) d_Tok_string_13 ⟨Nat.le_of_ble_eq_true rfl, Nat.le_of_ble_eq_true rfl⟩) hw hA (fun v71 p70 H locs hp70 hw => ?_)
  obtain ⟨rfl, e72, e73, e74⟩ := hp70
  have e72 : -1 ≤ v71.toInt := e72
  have e73 : v71.toInt ≤ 200 := e73
  have e74 : 0 ≤ v71.toInt → 0 ≤ z69.toInt ∧ z69.toInt < (f 7).toInt := e74
  have lv71 := Int32.le_toInt v71
  have uv71 := Int32.toInt_lt v71
  refine lv_istore_n (lv' := [(3, .int v71), (2, .int 0), (1, .int z69), (0, .ref h)]) S.x S.b d_Tok_string_16 rfl hl (by decide) rfl (fun ls hl => ?_)
  first | exact J17 (((202 : Int)-(0 : Int)).toNat + 1) f a z69 (0 : Int32) v71 _ _ ls (show TokOk (f 7) (f 8) (f 10) (f 11) (f 12) (f 13) (f 17) (a 4) from ⟨⟨o1, o2⟩, ⟨o3, o4⟩, ⟨o5, o6⟩, ⟨o7, o8⟩, ⟨o9, o10⟩, ⟨o11, o12⟩, o13, hn4⟩) (show (f 7).toInt = (f 7).toInt from rfl) (show (f 10).toInt = (f 10).toInt from rfl) (show (f 15).toInt = (f 15).toInt from rfl) (show (f 8).toInt = (f 8).toInt from rfl) (show (f 8).toInt + 1 ≤ z69.toInt from (oz_38236be559 tz69)) (show z69.toInt ≤ (f 7).toInt+16 from (oz_3be05f8734 o4 tz69)) (show 0 ≤ (0 : Int) from by first | decide | omega) (show (0 : Int) ≤ 201 from by first | decide | omega) (show v71.toInt ≤ 200 from e73) (show 0 ≤ v71.toInt → z69.toInt < (f 7).toInt from by first | with_reducible rfl | with_reducible assumption | omega) (show Q5 (a 5) from hq5) (show (202 : Int)-(0 : Int) < (((((202 : Int)-(0 : Int)).toNat + 1 : Nat) : Int) : Int) from oz_natlt) hw (lv_sub hl [3, 2, 1, 0] rfl) | exact J17 (((202 : Int)-(0 : Int)).toNat + 1) f a z69 (0 : Int32) v71 _ _ ls (show TokOk (f 7) (f 8) (f 10) (f 11) (f 12) (f 13) (f 17) (a 4) from ⟨⟨by first | exact o1 | omega, by first | exact o2 | omega⟩, ⟨by first | exact o3 | omega, by first | exact o4 | omega⟩, ⟨by first | exact o5 | omega, by first | exact o6 | omega⟩, ⟨by first | exact o7 | omega, by first | exact o8 | omega⟩, ⟨by first | exact o9 | omega, by first | exact o10 | omega⟩, ⟨by first | exact o11 | omega, by first | exact o12 | omega⟩, by first | exact o13 | omega, hn4⟩) (show (f 7).toInt = (f 7).toInt from rfl) (show (f 10).toInt = (f 10).toInt from rfl) (show (f 15).toInt = (f 15).toInt from rfl) (show (f 8).toInt = (f 8).toInt from rfl) (show (f 8).toInt + 1 ≤ z69.toInt from by first | exact oz_38236be559 tz69 | omega) (show z69.toInt ≤ (f 7).toInt+16 from by first | exact oz_3be05f8734 o4 tz69 | omega) (show 0 ≤ (0 : Int) from by first | decide | omega) (show (0 : Int) ≤ 201 from by first | decide | omega) (show v71.toInt ≤ 200 from by first | exact e73 | omega) (show 0 ≤ v71.toInt → z69.toInt < (f 7).toInt from by first | with_reducible rfl | with_reducible assumption | omega) (show Q5 (a 5) from hq5) (show (202 : Int)-(0 : Int) < (((((202 : Int)-(0 : Int)).toNat + 1 : Nat) : Int) : Int) from by first | exact oz_natlt | omega) hw (lv_sub hl [3, 2, 1, 0] rfl)
set_option maxHeartbeats 4000000 in
set_option maxRecDepth 100000 in
theorem c_t2_mark (l : Launch) (D : va_G) (cs : Nat → ClassId) (sk : Nat) (st : Nat) (sn : Nat) (sb : Nat → Int32) (h : Nat) (r : Nat → Nat) (tp : Nat) (tb : Nat → Int32) (g : Nat → Nat → Option Nat) (f : Nat → Int32) (a : Nat → Nat → Int32) (p0 : Int32)  (hinv0 : TokOk (f 7) (f 8) (f 10) (f 11) (f 12) (f 13) (f 17) (a 4)) (g0 : sn ≤ 1000000) (g1 : 0 ≤ (f 8).toInt) (g2 : (f 8).toInt < (f 7).toInt) (hq5 : Q5 (a 5)) : MetI l y_Tok_mark b_Tok_mark 6 (.int) D cs 4 160 (0) (0) [.ref h, .int p0] [wd_Tok cs h r (fun _ => some tp) f a g, [(tp, .inl (cs 1, 2048, .inl tb))]] (oX (fun A U H => (vk_R "HomeSystem$Tokens" 127 "(){}[],;:?=|^&<>+-*/%!~" sk U) ∧ (oZ A U H) ∧ (oS A sk st sn sb U H)) [wd_Tok cs h r (fun _ => some tp) f a g, [(tp, .inl (cs 1, 2048, .inl tb))]]) (fun v ps => ∃ (f' : Nat → Int32) (a' : Nat → Nat → Int32), (ps = [wd_Tok cs h r (fun _ => some tp) f' a' g, [(tp, .inl (cs 1, 2048, .inl tb))]]) ∧ (TokOk (f' 7) (f' 8) (f' 10) (f' 11) (f' 12) (f' 13) (f' 17) (a' 4)) ∧ ((f' 7).toInt = (f 7).toInt) ∧ ((f' 10).toInt = (f 10).toInt) ∧ ((f' 15).toInt = (f 15).toInt) ∧ (v.toInt = 19 ∨ (f 8).toInt + 1 ≤ (f' 8).toInt) ∧ (Q5 (a' 5))) := by
  refine px_enter (by decide) (Nat.le_of_ble_eq_true rfl) ?_
  intro p e s m below meth c A ls hAe S hr hlk hnm hA hT hX hw hl
  have hl : lv_has ls 6 [(0, .ref h), (1, .int p0)] := hl
  have lp0 := Int32.le_toInt p0
  have up0 := Int32.toInt_lt p0
  have cst0 : (0 : Int32).toInt = 0 := rfl
  have cst1 : (1 : Int32).toInt = 1 := rfl
  have cst2 : (2 : Int32).toInt = 2 := rfl
  have cst19 : (19 : Int32).toInt = 19 := rfl
  have cst42 : (42 : Int32).toInt = 42 := rfl
  have cst47 : (47 : Int32).toInt = 47 := rfl
  have cst61 : (61 : Int32).toInt = 61 := rfl
  have cst256 : (256 : Int32).toInt = 256 := rfl
  have hX : (fun A U H => (vk_R "HomeSystem$Tokens" 127 "(){}[],;:?=|^&<>+-*/%!~" sk U) ∧ (oZ A U H) ∧ (oS A sk st sn sb U H)) A s s.heap := by rw [hAe]; exact hX
  obtain ⟨hL, hZ, hS⟩ := hX
  have hsn : (nI sn).toInt = (sn : Int) := nI_toInt (by omega)
  obtain ⟨⟨o1, o2⟩, ⟨o3, o4⟩, ⟨o5, o6⟩, ⟨o7, o8⟩, ⟨o9, o10⟩, ⟨o11, o12⟩, o13, hn4⟩ := hinv0
  refine lv_iload_n S.x S.b d_Tok_mark_0 rfl (lv_at hl 1 rfl) ?_
  refine lv_bipush (v := 61) S.x S.b d_Tok_mark_1 (by decide) ?_
  refine lv_icmp_ne (tgt := 12) S.x S.b d_Tok_mark_3 (by decide) (fun c1 => ?_) (fun c1 => ?_)
  · have nc1 : ¬ p0.toInt = (61 : Int) := mt (i_eq (x := p0) (y := 61)).mpr c1
    refine lv_iload_n S.x S.b d_Tok_mark_12 rfl (lv_at hl 1 rfl) ?_
    refine lv_istore_n (lv' := [(2, .int p0), (0, .ref h), (1, .int p0)]) S.x S.b d_Tok_mark_13 rfl hl (by decide) rfl (fun ls hl => ?_)
    refine lv_iconst (v := 1) S.x S.b d_Tok_mark_14 (by decide) ?_
    refine lv_istore_n (lv' := [(3, .int 1), (2, .int p0), (0, .ref h), (1, .int p0)]) S.x S.b d_Tok_mark_15 rfl hl (by decide) rfl (fun ls hl => ?_)
    refine va_ldcS S.x S.b S.own hL d_Tok_mark_16 ?_
    refine lv_iload_n S.x S.b d_Tok_mark_18 rfl (lv_at hl 3 rfl) ?_
    refine lv_i2c S.x S.b d_Tok_mark_19 rfl ?_
    refine lv_topi (fun z2 ez2 => ?_)
    have lz2 := Int32.le_toInt z2
    have uz2 := Int32.toInt_lt z2
    first | refine px_calli (pr := [wd_Tok cs h r (fun _ => some tp) f a g, [(tp, .inl (cs 1, 2048, .inl tb))]]) (px_runV (As := [.int z2]) (rest := []) S (c_String_indexOf1 l D cs sk st sn sb z2  (show sn ≤ 1000000 from g0) _) hT (pr := [wd_Tok cs h r (fun _ => some tp) f a g, [(tp, .inl (cs 1, 2048, .inl tb))]]) (pcs := []) hw (oX_call (P := (fun A U H => (oZ A U H) ∧ (oS A sk st sn sb U H))) (pr := [wd_Tok cs h r (fun _ => some tp) f a g, [(tp, .inl (cs 1, 2048, .inl tb))]]) (oG_and oG_Z oG_S) hw hA ⟨hZ, hS⟩) (oS_recv hw hS) m4_10 m4_7 m4_8 m4_9 m1_3 q_String_indexOf2 ⟨Nat.le_of_ble_eq_true rfl, Nat.le_of_ble_eq_true rfl⟩ hl.1 rfl (Nat.le_of_ble_eq_true rfl) d_Tok_mark_20 ⟨Nat.le_of_ble_eq_true rfl, Nat.le_of_ble_eq_true rfl⟩) hw hA (fun v4 p3 H locs hp3 hw => ?_) | refine px_calli (pr := [wd_Tok cs h r (fun _ => some tp) f a g, [(tp, .inl (cs 1, 2048, .inl tb))]]) (px_runV (As := [.int z2]) (rest := []) S (c_String_indexOf1 l D cs sk st sn sb z2  (show sn ≤ 1000000 from by first | exact g0 | omega) _) hT (pr := [wd_Tok cs h r (fun _ => some tp) f a g, [(tp, .inl (cs 1, 2048, .inl tb))]]) (pcs := []) hw (oX_call (P := (fun A U H => (oZ A U H) ∧ (oS A sk st sn sb U H))) (pr := [wd_Tok cs h r (fun _ => some tp) f a g, [(tp, .inl (cs 1, 2048, .inl tb))]]) (oG_and oG_Z oG_S) hw hA ⟨hZ, hS⟩) (oS_recv hw hS) m4_10 m4_7 m4_8 m4_9 m1_3 q_String_indexOf2 ⟨Nat.le_of_ble_eq_true rfl, Nat.le_of_ble_eq_true rfl⟩ hl.1 rfl (Nat.le_of_ble_eq_true rfl) d_Tok_mark_20 ⟨Nat.le_of_ble_eq_true rfl, Nat.le_of_ble_eq_true rfl⟩) hw hA (fun v4 p3 H locs hp3 hw => ?_)
    subst hp3
    have lv4 := Int32.le_toInt v4
    have uv4 := Int32.toInt_lt v4
    refine lv_if_lt (tgt := 47) S.x S.b d_Tok_mark_23 (by decide) (fun c5 => ?_) (fun c5 => ?_)
    · have nc5 : v4.toInt < (0 : Int) := (i_lt (x := v4) (y := 0)).mp c5
      refine lv_bipush (v := 19) S.x S.b d_Tok_mark_47 (by decide) ?_
      first | exact px_iret (v := 19) S hr rfl hlk hAe hw (Nat.le_of_ble_eq_true rfl) (Nat.le_of_ble_eq_true rfl) (⟨f, a, rfl, (show TokOk (f 7) (f 8) (f 10) (f 11) (f 12) (f 13) (f 17) (a 4) from ⟨⟨o1, o2⟩, ⟨g1, o4⟩, ⟨o5, o6⟩, ⟨o7, o8⟩, ⟨o9, o10⟩, ⟨o11, o12⟩, o13, hn4⟩), (show (f 7).toInt = (f 7).toInt from rfl), (show (f 10).toInt = (f 10).toInt from rfl), (show (f 15).toInt = (f 15).toInt from rfl), (show (19 : Int) = 19 ∨ (f 8).toInt + 1 ≤ (f 8).toInt from by first | with_reducible rfl | with_reducible assumption | omega), (show Q5 (a 5) from hq5)⟩) d_Tok_mark_49 | exact px_iret (v := 19) S hr rfl hlk hAe hw (Nat.le_of_ble_eq_true rfl) (Nat.le_of_ble_eq_true rfl) (⟨f, a, rfl, (show TokOk (f 7) (f 8) (f 10) (f 11) (f 12) (f 13) (f 17) (a 4) from ⟨⟨by first | exact o1 | omega, by first | exact o2 | omega⟩, ⟨by first | exact g1 | omega, by first | exact o4 | omega⟩, ⟨by first | exact o5 | omega, by first | exact o6 | omega⟩, ⟨by first | exact o7 | omega, by first | exact o8 | omega⟩, ⟨by first | exact o9 | omega, by first | exact o10 | omega⟩, ⟨by first | exact o11 | omega, by first | exact o12 | omega⟩, by first | exact o13 | omega, hn4⟩), (show (f 7).toInt = (f 7).toInt from rfl), (show (f 10).toInt = (f 10).toInt from rfl), (show (f 15).toInt = (f 15).toInt from rfl), (show (19 : Int) = 19 ∨ (f 8).toInt + 1 ≤ (f 8).toInt from by first | with_reducible rfl | with_reducible assumption | omega), (show Q5 (a 5) from hq5)⟩) d_Tok_mark_49
    · have nc5 : ¬ v4.toInt < (0 : Int) := mt (i_lt (x := v4) (y := 0)).mpr c5
      refine lv_iload_n S.x S.b d_Tok_mark_26 rfl (lv_at hl 3 rfl) ?_
      refine lv_bipush (v := 47) S.x S.b d_Tok_mark_27 (by decide) ?_
      refine lv_icmp_ne (tgt := 50) S.x S.b d_Tok_mark_29 (by decide) (fun c6 => ?_) (fun c6 => ?_)
      · have nc6 : ¬ p0.toInt = (47 : Int) := mt (i_eq (x := p0) (y := 47)).mpr c6
        refine lv_aload_n S.x S.b d_Tok_mark_50 rfl (lv_at hl 2 rfl) ?_
        refine lv_aload_n S.x S.b d_Tok_mark_51 rfl (lv_at hl 2 rfl) ?_
        refine px_get S k_Tok hT hw 0 0 8 (v := .int (f 8)) rfl rfl rfl (by decide) m1_111 d_Tok_mark_52 ?_
        refine lv_iconst (v := 1) S.x S.b d_Tok_mark_55 (by decide) ?_
        refine lv_iadd S.x S.b d_Tok_mark_56 ?_
        have lr7 := Int32.le_toInt (f 8)
        have ur7 := Int32.toInt_lt (f 8)
        refine lv_topi (fun z8 ez8 => ?_)
        have tz8 : z8.toInt = ((f 8).toInt + (1 : Int) + 2147483648) % 4294967296 - 2147483648 := by rw [ez8]; exact i_add (f 8) 1
        have lz8 := Int32.le_toInt z8
        have uz8 := Int32.toInt_lt z8
        try replace tz8 : z8.toInt = (f 8).toInt + (1 : Int) := by omega
        first | refine px_calli (pr := []) (px_runV (As := [.int z8]) (rest := []) S (c_Tok_byteAt l D cs h r tp tb f a g z8 (show TokOk (f 7) (f 8) (f 10) (f 11) (f 12) (f 13) (f 17) (a 4) from ⟨⟨o1, o2⟩, ⟨g1, o4⟩, ⟨o5, o6⟩, ⟨o7, o8⟩, ⟨o9, o10⟩, ⟨o11, o12⟩, o13, hn4⟩)  _) hT (pr := []) (pcs := [wd_Tok cs h r (fun _ => some tp) f a g, [(tp, .inl (cs 1, 2048, .inl tb))]]) hw px_X.tt (px_recv hT hw 0 0 rfl rfl rfl) m3_186 m3_183 m3_185 ms_1_6 m1_2 q_Tok_byteAt ⟨Nat.le_of_ble_eq_true rfl, Nat.le_of_ble_eq_true rfl⟩ hl.1 rfl (Nat.le_of_ble_eq_true rfl) d_Tok_mark_57 ⟨Nat.le_of_ble_eq_true rfl, Nat.le_of_ble_eq_true rfl⟩) hw hA (fun v12 p11 H locs hp11 hw => ?_) | refine px_calli (pr := []) (px_runV (As := [.int z8]) (rest := []) S (c_Tok_byteAt l D cs h r tp tb f a g z8 (show TokOk (f 7) (f 8) (f 10) (f 11) (f 12) (f 13) (f 17) (a 4) from ⟨⟨by first | exact o1 | omega, by first | exact o2 | omega⟩, ⟨by first | exact g1 | omega, by first | exact o4 | omega⟩, ⟨by first | exact o5 | omega, by first | exact o6 | omega⟩, ⟨by first | exact o7 | omega, by first | exact o8 | omega⟩, ⟨by first | exact o9 | omega, by first | exact o10 | omega⟩, ⟨by first | exact o11 | omega, by first | exact o12 | omega⟩, by first | exact o13 | omega, hn4⟩)  _) hT (pr := []) (pcs := [wd_Tok cs h r (fun _ => some tp) f a g, [(tp, .inl (cs 1, 2048, .inl tb))]]) hw px_X.tt (px_recv hT hw 0 0 rfl rfl rfl) m3_186 m3_183 m3_185 ms_1_6 m1_2 q_Tok_byteAt ⟨Nat.le_of_ble_eq_true rfl, Nat.le_of_ble_eq_true rfl⟩ hl.1 rfl (Nat.le_of_ble_eq_true rfl) d_Tok_mark_57 ⟨Nat.le_of_ble_eq_true rfl, Nat.le_of_ble_eq_true rfl⟩) hw hA (fun v12 p11 H locs hp11 hw => ?_)
        obtain ⟨rfl, e13, e14, e15⟩ := hp11
        have e13 : -1 ≤ v12.toInt := e13
        have e14 : v12.toInt ≤ 255 := e14
        have e15 : 0 ≤ v12.toInt → 0 ≤ z8.toInt ∧ z8.toInt < (f 7).toInt := e15
        have lv12 := Int32.le_toInt v12
        have uv12 := Int32.toInt_lt v12
        refine lv_iload_n S.x S.b d_Tok_mark_60 rfl (lv_at hl 3 rfl) ?_
        refine lv_icmp_ne (tgt := 71) S.x S.b d_Tok_mark_61 (by decide) (fun c16 => ?_) (fun c16 => ?_)
        · have nc16 : ¬ v12.toInt = p0.toInt := mt (i_eq (x := v12) (y := p0)).mpr c16
          refine lv_iconst (v := 0) S.x S.b d_Tok_mark_71 (by decide) ?_
          refine lv_istore (lv' := [(4, .int 0), (3, .int 1), (2, .int p0), (0, .ref h), (1, .int p0)]) S.x S.b d_Tok_mark_72 hl (by decide) rfl (fun ls hl => ?_)
          refine lv_iload S.x S.b d_Tok_mark_74 (lv_at hl 0 rfl) ?_
          refine lv_if_le (tgt := 84) S.x S.b d_Tok_mark_76 (by decide) (fun c17 => ?_) (fun c17 => ?_)
          ·
            refine lv_aload_n S.x S.b d_Tok_mark_84 rfl (lv_at hl 3 rfl) ?_
            refine lv_aload_n S.x S.b d_Tok_mark_85 rfl (lv_at hl 3 rfl) ?_
            refine px_get S k_Tok hT hw 0 0 8 (v := .int (f 8)) rfl rfl rfl (by decide) m1_111 d_Tok_mark_86 ?_
            refine lv_iload_n S.x S.b d_Tok_mark_89 rfl (lv_at hl 1 rfl) ?_
            refine lv_iadd S.x S.b d_Tok_mark_90 ?_
            have lr18 := Int32.le_toInt (f 8)
            have ur18 := Int32.toInt_lt (f 8)
            refine lv_topi (fun z19 ez19 => ?_)
            have tz19 : z19.toInt = ((f 8).toInt + (1 : Int) + 2147483648) % 4294967296 - 2147483648 := by rw [ez19]; exact i_add (f 8) 1
            have lz19 := Int32.le_toInt z19
            have uz19 := Int32.toInt_lt z19
            try replace tz19 : z19.toInt = (f 8).toInt + (1 : Int) := by omega
            first | refine px_calli (pr := []) (px_runV (As := [.int z19]) (rest := []) S (c_Tok_byteAt l D cs h r tp tb f a g z19 (show TokOk (f 7) (f 8) (f 10) (f 11) (f 12) (f 13) (f 17) (a 4) from ⟨⟨o1, o2⟩, ⟨g1, o4⟩, ⟨o5, o6⟩, ⟨o7, o8⟩, ⟨o9, o10⟩, ⟨o11, o12⟩, o13, hn4⟩)  _) hT (pr := []) (pcs := [wd_Tok cs h r (fun _ => some tp) f a g, [(tp, .inl (cs 1, 2048, .inl tb))]]) hw px_X.tt (px_recv hT hw 0 0 rfl rfl rfl) m3_186 m3_183 m3_185 ms_1_6 m1_2 q_Tok_byteAt ⟨Nat.le_of_ble_eq_true rfl, Nat.le_of_ble_eq_true rfl⟩ hl.1 rfl (Nat.le_of_ble_eq_true rfl) d_Tok_mark_91 ⟨Nat.le_of_ble_eq_true rfl, Nat.le_of_ble_eq_true rfl⟩) hw hA (fun v23 p22 H locs hp22 hw => ?_) | refine px_calli (pr := []) (px_runV (As := [.int z19]) (rest := []) S (c_Tok_byteAt l D cs h r tp tb f a g z19 (show TokOk (f 7) (f 8) (f 10) (f 11) (f 12) (f 13) (f 17) (a 4) from ⟨⟨by first | exact o1 | omega, by first | exact o2 | omega⟩, ⟨by first | exact g1 | omega, by first | exact o4 | omega⟩, ⟨by first | exact o5 | omega, by first | exact o6 | omega⟩, ⟨by first | exact o7 | omega, by first | exact o8 | omega⟩, ⟨by first | exact o9 | omega, by first | exact o10 | omega⟩, ⟨by first | exact o11 | omega, by first | exact o12 | omega⟩, by first | exact o13 | omega, hn4⟩)  _) hT (pr := []) (pcs := [wd_Tok cs h r (fun _ => some tp) f a g, [(tp, .inl (cs 1, 2048, .inl tb))]]) hw px_X.tt (px_recv hT hw 0 0 rfl rfl rfl) m3_186 m3_183 m3_185 ms_1_6 m1_2 q_Tok_byteAt ⟨Nat.le_of_ble_eq_true rfl, Nat.le_of_ble_eq_true rfl⟩ hl.1 rfl (Nat.le_of_ble_eq_true rfl) d_Tok_mark_91 ⟨Nat.le_of_ble_eq_true rfl, Nat.le_of_ble_eq_true rfl⟩) hw hA (fun v23 p22 H locs hp22 hw => ?_)
            obtain ⟨rfl, e24, e25, e26⟩ := hp22
            have e24 : -1 ≤ v23.toInt := e24
            have e25 : v23.toInt ≤ 255 := e25
            have e26 : 0 ≤ v23.toInt → 0 ≤ z19.toInt ∧ z19.toInt < (f 7).toInt := e26
            have lv23 := Int32.le_toInt v23
            have uv23 := Int32.toInt_lt v23
            refine lv_bipush (v := 61) S.x S.b d_Tok_mark_94 (by decide) ?_
            refine lv_icmp_ne (tgt := 106) S.x S.b d_Tok_mark_96 (by decide) (fun c27 => ?_) (fun c27 => ?_)
            · have nc27 : ¬ v23.toInt = (61 : Int) := mt (i_eq (x := v23) (y := 61)).mpr c27
              refine lv_iconst (v := 0) S.x S.b d_Tok_mark_106 (by decide) ?_
              refine lv_istore (lv' := [(5, .int 0), (4, .int 0), (3, .int 1), (2, .int p0), (0, .ref h), (1, .int p0)]) S.x S.b d_Tok_mark_107 hl (by decide) rfl (fun ls hl => ?_)
              refine lv_iload S.x S.b d_Tok_mark_109 (lv_at hl 0 rfl) ?_
              refine lv_if_le (tgt := 120) S.x S.b d_Tok_mark_111 (by decide) (fun c28 => ?_) (fun c28 => ?_)
              ·
                refine lv_aload_n S.x S.b d_Tok_mark_120 rfl (lv_at hl 4 rfl) ?_
                refine lv_dup S.x S.b d_Tok_mark_121 rfl ?_
                refine px_get S k_Tok hT hw 0 0 8 (v := .int (f 8)) rfl rfl rfl (by decide) m1_111 d_Tok_mark_122 ?_
                refine lv_iload_n S.x S.b d_Tok_mark_125 rfl (lv_at hl 2 rfl) ?_
                refine lv_iadd S.x S.b d_Tok_mark_126 ?_
                have lr29 := Int32.le_toInt (f 8)
                have ur29 := Int32.toInt_lt (f 8)
                refine lv_topi (fun z30 ez30 => ?_)
                have tz30 : z30.toInt = ((f 8).toInt + (1 : Int) + 2147483648) % 4294967296 - 2147483648 := by rw [ez30]; exact i_add (f 8) 1
                have lz30 := Int32.le_toInt z30
                have uz30 := Int32.toInt_lt z30
                try replace tz30 : z30.toInt = (f 8).toInt + (1 : Int) := by omega
                refine px_put S k_Tok hT hw 0 0 8 rfl rfl (by decide) m1_111 rfl rfl rfl (Nat.le_of_ble_eq_true rfl) d_Tok_mark_127 (w' := wd_Tok cs h r (fun _ => some tp) (upd f 8 z30) a g) (ps' := [wd_Tok cs h r (fun _ => some tp) (upd f 8 z30) a g, [(tp, .inl (cs 1, 2048, .inl tb))]]) rfl rfl (fun H locs hw => ?_)
                refine lv_iload_n S.x S.b d_Tok_mark_130 rfl (lv_at hl 3 rfl) ?_
                first | exact px_iret (v := p0) S hr rfl hlk hAe hw (Nat.le_of_ble_eq_true rfl) (Nat.le_of_ble_eq_true rfl) (⟨(upd f 8 z30), a, rfl, (show TokOk (f 7) z30 (f 10) (f 11) (f 12) (f 13) (f 17) (a 4) from ⟨⟨o1, o2⟩, ⟨(oz_b3b25f0e49 tz30 g1), (oz_8964937ede g2 tz30)⟩, ⟨o5, o6⟩, ⟨o7, o8⟩, ⟨o9, o10⟩, ⟨o11, o12⟩, o13, hn4⟩), (show (f 7).toInt = (f 7).toInt from rfl), (show (f 10).toInt = (f 10).toInt from rfl), (show (f 15).toInt = (f 15).toInt from rfl), (show p0.toInt = 19 ∨ (f 8).toInt + 1 ≤ z30.toInt from by first | with_reducible rfl | with_reducible assumption | omega), (show Q5 (a 5) from hq5)⟩) d_Tok_mark_131 | exact px_iret (v := p0) S hr rfl hlk hAe hw (Nat.le_of_ble_eq_true rfl) (Nat.le_of_ble_eq_true rfl) (⟨(upd f 8 z30), a, rfl, (show TokOk (f 7) z30 (f 10) (f 11) (f 12) (f 13) (f 17) (a 4) from ⟨⟨by first | exact o1 | omega, by first | exact o2 | omega⟩, ⟨by first | exact oz_b3b25f0e49 tz30 g1 | omega, by first | exact oz_8964937ede g2 tz30 | omega⟩, ⟨by first | exact o5 | omega, by first | exact o6 | omega⟩, ⟨by first | exact o7 | omega, by first | exact o8 | omega⟩, ⟨by first | exact o9 | omega, by first | exact o10 | omega⟩, ⟨by first | exact o11 | omega, by first | exact o12 | omega⟩, by first | exact o13 | omega, hn4⟩), (show (f 7).toInt = (f 7).toInt from rfl), (show (f 10).toInt = (f 10).toInt from rfl), (show (f 15).toInt = (f 15).toInt from rfl), (show p0.toInt = 19 ∨ (f 8).toInt + 1 ≤ z30.toInt from by first | with_reducible rfl | with_reducible assumption | omega), (show Q5 (a 5) from hq5)⟩) d_Tok_mark_131
              · exact absurd c28 (by decide)
            · have nc27 : v23.toInt = (61 : Int) := (i_eq (x := v23) (y := 61)).mp c27
              refine lv_iload_n S.x S.b d_Tok_mark_99 rfl (lv_at hl 2 rfl) ?_
              refine px_calli (pr := [wd_Tok cs h r (fun _ => some tp) f a g, [(tp, .inl (cs 1, 2048, .inl tb))]]) (px_runS (As := [.int p0]) (rest := []) S (c_Tok_withEquals l D cs p0 _) hT (pr := [wd_Tok cs h r (fun _ => some tp) f a g, [(tp, .inl (cs 1, 2048, .inl tb))]]) (pcs := []) hw px_X.tt m4_67 m4_65 m4_66 m1_2 q_Tok_withEquals ⟨Nat.le_of_ble_eq_true rfl, Nat.le_of_ble_eq_true rfl⟩ hl.1 rfl (Nat.le_of_ble_eq_true rfl) d_Tok_mark_100 ⟨Nat.le_of_ble_eq_true rfl, Nat.le_of_ble_eq_true rfl⟩) hw hA (fun v34 p33 H locs hp33 hw => ?_)
              subst hp33
              have lv34 := Int32.le_toInt v34
              have uv34 := Int32.toInt_lt v34
              refine lv_goto (tgt := 107) S.x S.b d_Tok_mark_103 (by decide) ?_
              refine lv_istore (lv' := [(5, .int v34), (4, .int 0), (3, .int 1), (2, .int p0), (0, .ref h), (1, .int p0)]) S.x S.b d_Tok_mark_107 hl (by decide) rfl (fun ls hl => ?_)
              refine lv_iload S.x S.b d_Tok_mark_109 (lv_at hl 0 rfl) ?_
              refine lv_if_le (tgt := 120) S.x S.b d_Tok_mark_111 (by decide) (fun c35 => ?_) (fun c35 => ?_)
              · have nc35 : v34.toInt ≤ (0 : Int) := (i_le (x := v34) (y := 0)).mp c35
                refine lv_aload_n S.x S.b d_Tok_mark_120 rfl (lv_at hl 4 rfl) ?_
                refine lv_dup S.x S.b d_Tok_mark_121 rfl ?_
                refine px_get S k_Tok hT hw 0 0 8 (v := .int (f 8)) rfl rfl rfl (by decide) m1_111 d_Tok_mark_122 ?_
                refine lv_iload_n S.x S.b d_Tok_mark_125 rfl (lv_at hl 2 rfl) ?_
                refine lv_iadd S.x S.b d_Tok_mark_126 ?_
                have lr36 := Int32.le_toInt (f 8)
                have ur36 := Int32.toInt_lt (f 8)
                refine lv_topi (fun z37 ez37 => ?_)
                have tz37 : z37.toInt = ((f 8).toInt + (1 : Int) + 2147483648) % 4294967296 - 2147483648 := by rw [ez37]; exact i_add (f 8) 1
                have lz37 := Int32.le_toInt z37
                have uz37 := Int32.toInt_lt z37
                try replace tz37 : z37.toInt = (f 8).toInt + (1 : Int) := by omega
                refine px_put S k_Tok hT hw 0 0 8 rfl rfl (by decide) m1_111 rfl rfl rfl (Nat.le_of_ble_eq_true rfl) d_Tok_mark_127 (w' := wd_Tok cs h r (fun _ => some tp) (upd f 8 z37) a g) (ps' := [wd_Tok cs h r (fun _ => some tp) (upd f 8 z37) a g, [(tp, .inl (cs 1, 2048, .inl tb))]]) rfl rfl (fun H locs hw => ?_)
                refine lv_iload_n S.x S.b d_Tok_mark_130 rfl (lv_at hl 3 rfl) ?_
                first | exact px_iret (v := p0) S hr rfl hlk hAe hw (Nat.le_of_ble_eq_true rfl) (Nat.le_of_ble_eq_true rfl) (⟨(upd f 8 z37), a, rfl, (show TokOk (f 7) z37 (f 10) (f 11) (f 12) (f 13) (f 17) (a 4) from ⟨⟨o1, o2⟩, ⟨(oz_b3b25f0e49 tz37 g1), (oz_8964937ede g2 tz37)⟩, ⟨o5, o6⟩, ⟨o7, o8⟩, ⟨o9, o10⟩, ⟨o11, o12⟩, o13, hn4⟩), (show (f 7).toInt = (f 7).toInt from rfl), (show (f 10).toInt = (f 10).toInt from rfl), (show (f 15).toInt = (f 15).toInt from rfl), (show p0.toInt = 19 ∨ (f 8).toInt + 1 ≤ z37.toInt from by first | with_reducible rfl | with_reducible assumption | omega), (show Q5 (a 5) from hq5)⟩) d_Tok_mark_131 | exact px_iret (v := p0) S hr rfl hlk hAe hw (Nat.le_of_ble_eq_true rfl) (Nat.le_of_ble_eq_true rfl) (⟨(upd f 8 z37), a, rfl, (show TokOk (f 7) z37 (f 10) (f 11) (f 12) (f 13) (f 17) (a 4) from ⟨⟨by first | exact o1 | omega, by first | exact o2 | omega⟩, ⟨by first | exact oz_b3b25f0e49 tz37 g1 | omega, by first | exact oz_8964937ede g2 tz37 | omega⟩, ⟨by first | exact o5 | omega, by first | exact o6 | omega⟩, ⟨by first | exact o7 | omega, by first | exact o8 | omega⟩, ⟨by first | exact o9 | omega, by first | exact o10 | omega⟩, ⟨by first | exact o11 | omega, by first | exact o12 | omega⟩, by first | exact o13 | omega, hn4⟩), (show (f 7).toInt = (f 7).toInt from rfl), (show (f 10).toInt = (f 10).toInt from rfl), (show (f 15).toInt = (f 15).toInt from rfl), (show p0.toInt = 19 ∨ (f 8).toInt + 1 ≤ z37.toInt from by first | with_reducible rfl | with_reducible assumption | omega), (show Q5 (a 5) from hq5)⟩) d_Tok_mark_131
              · have nc35 : ¬ v34.toInt ≤ (0 : Int) := mt (i_le (x := v34) (y := 0)).mpr c35
                refine lv_iload S.x S.b d_Tok_mark_114 (lv_at hl 0 rfl) ?_
                refine lv_istore_n (lv' := [(2, .int v34), (5, .int v34), (4, .int 0), (3, .int 1), (0, .ref h), (1, .int p0)]) S.x S.b d_Tok_mark_116 rfl hl (by decide) rfl (fun ls hl => ?_)
                obtain ⟨z38, ez38⟩ : ∃ y : Int32, y = 1 + 1 := ⟨_, rfl⟩
                have tz38 : z38.toInt = ((1 : Int) + 1 + 2147483648) % 4294967296 - 2147483648 := by rw [ez38]; exact i_add 1 1
                have lz38 := Int32.le_toInt z38
                have uz38 := Int32.toInt_lt z38
                try replace tz38 : z38.toInt = (1 : Int) + 1 := by omega
                refine lv_iinc (v := z38) (lv' := [(3, .int z38), (2, .int v34), (5, .int v34), (4, .int 0), (0, .ref h), (1, .int p0)]) S.x S.b d_Tok_mark_117 hl (k := 3) rfl (by rw [ez38]; rfl) (by decide) rfl (fun ls hl => ?_)
                refine lv_aload_n S.x S.b d_Tok_mark_120 rfl (lv_at hl 4 rfl) ?_
                refine lv_dup S.x S.b d_Tok_mark_121 rfl ?_
                refine px_get S k_Tok hT hw 0 0 8 (v := .int (f 8)) rfl rfl rfl (by decide) m1_111 d_Tok_mark_122 ?_
                refine lv_iload_n S.x S.b d_Tok_mark_125 rfl (lv_at hl 0 rfl) ?_
                refine lv_iadd S.x S.b d_Tok_mark_126 ?_
                have lr39 := Int32.le_toInt (f 8)
                have ur39 := Int32.toInt_lt (f 8)
                refine lv_topi (fun z40 ez40 => ?_)
                have tz40 : z40.toInt = ((f 8).toInt + z38.toInt + 2147483648) % 4294967296 - 2147483648 := by rw [ez40]; exact i_add (f 8) z38
                have lz40 := Int32.le_toInt z40
                have uz40 := Int32.toInt_lt z40
                try replace tz40 : z40.toInt = (f 8).toInt + z38.toInt := by omega
                refine px_put S k_Tok hT hw 0 0 8 rfl rfl (by decide) m1_111 rfl rfl rfl (Nat.le_of_ble_eq_true rfl) d_Tok_mark_127 (w' := wd_Tok cs h r (fun _ => some tp) (upd f 8 z40) a g) (ps' := [wd_Tok cs h r (fun _ => some tp) (upd f 8 z40) a g, [(tp, .inl (cs 1, 2048, .inl tb))]]) rfl rfl (fun H locs hw => ?_)
                refine lv_iload_n S.x S.b d_Tok_mark_130 rfl (lv_at hl 1 rfl) ?_
                first | exact px_iret (v := v34) S hr rfl hlk hAe hw (Nat.le_of_ble_eq_true rfl) (Nat.le_of_ble_eq_true rfl) (⟨(upd f 8 z40), a, rfl, (show TokOk (f 7) z40 (f 10) (f 11) (f 12) (f 13) (f 17) (a 4) from ⟨⟨o1, o2⟩, ⟨(oz_0aba5895db tz40 g1 tz38), (oz_034949d2cd g2 tz40 tz38)⟩, ⟨o5, o6⟩, ⟨o7, o8⟩, ⟨o9, o10⟩, ⟨o11, o12⟩, o13, hn4⟩), (show (f 7).toInt = (f 7).toInt from rfl), (show (f 10).toInt = (f 10).toInt from rfl), (show (f 15).toInt = (f 15).toInt from rfl), (show v34.toInt = 19 ∨ (f 8).toInt + 1 ≤ z40.toInt from by first | with_reducible rfl | with_reducible assumption | omega), (show Q5 (a 5) from hq5)⟩) d_Tok_mark_131 | exact px_iret (v := v34) S hr rfl hlk hAe hw (Nat.le_of_ble_eq_true rfl) (Nat.le_of_ble_eq_true rfl) (⟨(upd f 8 z40), a, rfl, (show TokOk (f 7) z40 (f 10) (f 11) (f 12) (f 13) (f 17) (a 4) from ⟨⟨by first | exact o1 | omega, by first | exact o2 | omega⟩, ⟨by first | exact oz_0aba5895db tz40 g1 tz38 | omega, by first | exact oz_034949d2cd g2 tz40 tz38 | omega⟩, ⟨by first | exact o5 | omega, by first | exact o6 | omega⟩, ⟨by first | exact o7 | omega, by first | exact o8 | omega⟩, ⟨by first | exact o9 | omega, by first | exact o10 | omega⟩, ⟨by first | exact o11 | omega, by first | exact o12 | omega⟩, by first | exact o13 | omega, hn4⟩), (show (f 7).toInt = (f 7).toInt from rfl), (show (f 10).toInt = (f 10).toInt from rfl), (show (f 15).toInt = (f 15).toInt from rfl), (show v34.toInt = 19 ∨ (f 8).toInt + 1 ≤ z40.toInt from by first | with_reducible rfl | with_reducible assumption | omega), (show Q5 (a 5) from hq5)⟩) d_Tok_mark_131
          · exact absurd c17 (by decide)
        · have nc16 : v12.toInt = p0.toInt := (i_eq (x := v12) (y := p0)).mp c16
          refine lv_iload_n S.x S.b d_Tok_mark_64 rfl (lv_at hl 3 rfl) ?_
          refine px_calli (pr := [wd_Tok cs h r (fun _ => some tp) f a g, [(tp, .inl (cs 1, 2048, .inl tb))]]) (px_runS (As := [.int p0]) (rest := []) S (c_Tok_doubled l D cs p0 _) hT (pr := [wd_Tok cs h r (fun _ => some tp) f a g, [(tp, .inl (cs 1, 2048, .inl tb))]]) (pcs := []) hw px_X.tt m4_64 m4_62 m4_63 m1_2 q_Tok_doubled ⟨Nat.le_of_ble_eq_true rfl, Nat.le_of_ble_eq_true rfl⟩ hl.1 rfl (Nat.le_of_ble_eq_true rfl) d_Tok_mark_65 ⟨Nat.le_of_ble_eq_true rfl, Nat.le_of_ble_eq_true rfl⟩) hw hA (fun v44 p43 H locs hp43 hw => ?_)
          subst hp43
          have lv44 := Int32.le_toInt v44
          have uv44 := Int32.toInt_lt v44
          refine lv_goto (tgt := 72) S.x S.b d_Tok_mark_68 (by decide) ?_
          refine lv_istore (lv' := [(4, .int v44), (3, .int 1), (2, .int p0), (0, .ref h), (1, .int p0)]) S.x S.b d_Tok_mark_72 hl (by decide) rfl (fun ls hl => ?_)
          refine lv_iload S.x S.b d_Tok_mark_74 (lv_at hl 0 rfl) ?_
          refine lv_if_le (tgt := 84) S.x S.b d_Tok_mark_76 (by decide) (fun c45 => ?_) (fun c45 => ?_)
          · have nc45 : v44.toInt ≤ (0 : Int) := (i_le (x := v44) (y := 0)).mp c45
            refine lv_aload_n S.x S.b d_Tok_mark_84 rfl (lv_at hl 3 rfl) ?_
            refine lv_aload_n S.x S.b d_Tok_mark_85 rfl (lv_at hl 3 rfl) ?_
            refine px_get S k_Tok hT hw 0 0 8 (v := .int (f 8)) rfl rfl rfl (by decide) m1_111 d_Tok_mark_86 ?_
            refine lv_iload_n S.x S.b d_Tok_mark_89 rfl (lv_at hl 1 rfl) ?_
            refine lv_iadd S.x S.b d_Tok_mark_90 ?_
            have lr46 := Int32.le_toInt (f 8)
            have ur46 := Int32.toInt_lt (f 8)
            refine lv_topi (fun z47 ez47 => ?_)
            have tz47 : z47.toInt = ((f 8).toInt + (1 : Int) + 2147483648) % 4294967296 - 2147483648 := by rw [ez47]; exact i_add (f 8) 1
            have lz47 := Int32.le_toInt z47
            have uz47 := Int32.toInt_lt z47
            try replace tz47 : z47.toInt = (f 8).toInt + (1 : Int) := by omega
            first | refine px_calli (pr := []) (px_runV (As := [.int z47]) (rest := []) S (c_Tok_byteAt l D cs h r tp tb f a g z47 (show TokOk (f 7) (f 8) (f 10) (f 11) (f 12) (f 13) (f 17) (a 4) from ⟨⟨o1, o2⟩, ⟨g1, o4⟩, ⟨o5, o6⟩, ⟨o7, o8⟩, ⟨o9, o10⟩, ⟨o11, o12⟩, o13, hn4⟩)  _) hT (pr := []) (pcs := [wd_Tok cs h r (fun _ => some tp) f a g, [(tp, .inl (cs 1, 2048, .inl tb))]]) hw px_X.tt (px_recv hT hw 0 0 rfl rfl rfl) m3_186 m3_183 m3_185 ms_1_6 m1_2 q_Tok_byteAt ⟨Nat.le_of_ble_eq_true rfl, Nat.le_of_ble_eq_true rfl⟩ hl.1 rfl (Nat.le_of_ble_eq_true rfl) d_Tok_mark_91 ⟨Nat.le_of_ble_eq_true rfl, Nat.le_of_ble_eq_true rfl⟩) hw hA (fun v51 p50 H locs hp50 hw => ?_) | refine px_calli (pr := []) (px_runV (As := [.int z47]) (rest := []) S (c_Tok_byteAt l D cs h r tp tb f a g z47 (show TokOk (f 7) (f 8) (f 10) (f 11) (f 12) (f 13) (f 17) (a 4) from ⟨⟨by first | exact o1 | omega, by first | exact o2 | omega⟩, ⟨by first | exact g1 | omega, by first | exact o4 | omega⟩, ⟨by first | exact o5 | omega, by first | exact o6 | omega⟩, ⟨by first | exact o7 | omega, by first | exact o8 | omega⟩, ⟨by first | exact o9 | omega, by first | exact o10 | omega⟩, ⟨by first | exact o11 | omega, by first | exact o12 | omega⟩, by first | exact o13 | omega, hn4⟩)  _) hT (pr := []) (pcs := [wd_Tok cs h r (fun _ => some tp) f a g, [(tp, .inl (cs 1, 2048, .inl tb))]]) hw px_X.tt (px_recv hT hw 0 0 rfl rfl rfl) m3_186 m3_183 m3_185 ms_1_6 m1_2 q_Tok_byteAt ⟨Nat.le_of_ble_eq_true rfl, Nat.le_of_ble_eq_true rfl⟩ hl.1 rfl (Nat.le_of_ble_eq_true rfl) d_Tok_mark_91 ⟨Nat.le_of_ble_eq_true rfl, Nat.le_of_ble_eq_true rfl⟩) hw hA (fun v51 p50 H locs hp50 hw => ?_)
            obtain ⟨rfl, e52, e53, e54⟩ := hp50
            have e52 : -1 ≤ v51.toInt := e52
            have e53 : v51.toInt ≤ 255 := e53
            have e54 : 0 ≤ v51.toInt → 0 ≤ z47.toInt ∧ z47.toInt < (f 7).toInt := e54
            have lv51 := Int32.le_toInt v51
            have uv51 := Int32.toInt_lt v51
            refine lv_bipush (v := 61) S.x S.b d_Tok_mark_94 (by decide) ?_
            refine lv_icmp_ne (tgt := 106) S.x S.b d_Tok_mark_96 (by decide) (fun c55 => ?_) (fun c55 => ?_)
            · have nc55 : ¬ v51.toInt = (61 : Int) := mt (i_eq (x := v51) (y := 61)).mpr c55
              refine lv_iconst (v := 0) S.x S.b d_Tok_mark_106 (by decide) ?_
              refine lv_istore (lv' := [(5, .int 0), (4, .int v44), (3, .int 1), (2, .int p0), (0, .ref h), (1, .int p0)]) S.x S.b d_Tok_mark_107 hl (by decide) rfl (fun ls hl => ?_)
              refine lv_iload S.x S.b d_Tok_mark_109 (lv_at hl 0 rfl) ?_
              refine lv_if_le (tgt := 120) S.x S.b d_Tok_mark_111 (by decide) (fun c56 => ?_) (fun c56 => ?_)
              ·
                refine lv_aload_n S.x S.b d_Tok_mark_120 rfl (lv_at hl 4 rfl) ?_
                refine lv_dup S.x S.b d_Tok_mark_121 rfl ?_
                refine px_get S k_Tok hT hw 0 0 8 (v := .int (f 8)) rfl rfl rfl (by decide) m1_111 d_Tok_mark_122 ?_
                refine lv_iload_n S.x S.b d_Tok_mark_125 rfl (lv_at hl 2 rfl) ?_
                refine lv_iadd S.x S.b d_Tok_mark_126 ?_
                have lr57 := Int32.le_toInt (f 8)
                have ur57 := Int32.toInt_lt (f 8)
                refine lv_topi (fun z58 ez58 => ?_)
                have tz58 : z58.toInt = ((f 8).toInt + (1 : Int) + 2147483648) % 4294967296 - 2147483648 := by rw [ez58]; exact i_add (f 8) 1
                have lz58 := Int32.le_toInt z58
                have uz58 := Int32.toInt_lt z58
                try replace tz58 : z58.toInt = (f 8).toInt + (1 : Int) := by omega
                refine px_put S k_Tok hT hw 0 0 8 rfl rfl (by decide) m1_111 rfl rfl rfl (Nat.le_of_ble_eq_true rfl) d_Tok_mark_127 (w' := wd_Tok cs h r (fun _ => some tp) (upd f 8 z58) a g) (ps' := [wd_Tok cs h r (fun _ => some tp) (upd f 8 z58) a g, [(tp, .inl (cs 1, 2048, .inl tb))]]) rfl rfl (fun H locs hw => ?_)
                refine lv_iload_n S.x S.b d_Tok_mark_130 rfl (lv_at hl 3 rfl) ?_
                first | exact px_iret (v := p0) S hr rfl hlk hAe hw (Nat.le_of_ble_eq_true rfl) (Nat.le_of_ble_eq_true rfl) (⟨(upd f 8 z58), a, rfl, (show TokOk (f 7) z58 (f 10) (f 11) (f 12) (f 13) (f 17) (a 4) from ⟨⟨o1, o2⟩, ⟨(oz_b3b25f0e49 tz58 g1), (oz_8964937ede g2 tz58)⟩, ⟨o5, o6⟩, ⟨o7, o8⟩, ⟨o9, o10⟩, ⟨o11, o12⟩, o13, hn4⟩), (show (f 7).toInt = (f 7).toInt from rfl), (show (f 10).toInt = (f 10).toInt from rfl), (show (f 15).toInt = (f 15).toInt from rfl), (show p0.toInt = 19 ∨ (f 8).toInt + 1 ≤ z58.toInt from by first | with_reducible rfl | with_reducible assumption | omega), (show Q5 (a 5) from hq5)⟩) d_Tok_mark_131 | exact px_iret (v := p0) S hr rfl hlk hAe hw (Nat.le_of_ble_eq_true rfl) (Nat.le_of_ble_eq_true rfl) (⟨(upd f 8 z58), a, rfl, (show TokOk (f 7) z58 (f 10) (f 11) (f 12) (f 13) (f 17) (a 4) from ⟨⟨by first | exact o1 | omega, by first | exact o2 | omega⟩, ⟨by first | exact oz_b3b25f0e49 tz58 g1 | omega, by first | exact oz_8964937ede g2 tz58 | omega⟩, ⟨by first | exact o5 | omega, by first | exact o6 | omega⟩, ⟨by first | exact o7 | omega, by first | exact o8 | omega⟩, ⟨by first | exact o9 | omega, by first | exact o10 | omega⟩, ⟨by first | exact o11 | omega, by first | exact o12 | omega⟩, by first | exact o13 | omega, hn4⟩), (show (f 7).toInt = (f 7).toInt from rfl), (show (f 10).toInt = (f 10).toInt from rfl), (show (f 15).toInt = (f 15).toInt from rfl), (show p0.toInt = 19 ∨ (f 8).toInt + 1 ≤ z58.toInt from by first | with_reducible rfl | with_reducible assumption | omega), (show Q5 (a 5) from hq5)⟩) d_Tok_mark_131
              · exact absurd c56 (by decide)
            · have nc55 : v51.toInt = (61 : Int) := (i_eq (x := v51) (y := 61)).mp c55
              refine lv_iload_n S.x S.b d_Tok_mark_99 rfl (lv_at hl 2 rfl) ?_
              refine px_calli (pr := [wd_Tok cs h r (fun _ => some tp) f a g, [(tp, .inl (cs 1, 2048, .inl tb))]]) (px_runS (As := [.int p0]) (rest := []) S (c_Tok_withEquals l D cs p0 _) hT (pr := [wd_Tok cs h r (fun _ => some tp) f a g, [(tp, .inl (cs 1, 2048, .inl tb))]]) (pcs := []) hw px_X.tt m4_67 m4_65 m4_66 m1_2 q_Tok_withEquals ⟨Nat.le_of_ble_eq_true rfl, Nat.le_of_ble_eq_true rfl⟩ hl.1 rfl (Nat.le_of_ble_eq_true rfl) d_Tok_mark_100 ⟨Nat.le_of_ble_eq_true rfl, Nat.le_of_ble_eq_true rfl⟩) hw hA (fun v62 p61 H locs hp61 hw => ?_)
              subst hp61
              have lv62 := Int32.le_toInt v62
              have uv62 := Int32.toInt_lt v62
              refine lv_goto (tgt := 107) S.x S.b d_Tok_mark_103 (by decide) ?_
              refine lv_istore (lv' := [(5, .int v62), (4, .int v44), (3, .int 1), (2, .int p0), (0, .ref h), (1, .int p0)]) S.x S.b d_Tok_mark_107 hl (by decide) rfl (fun ls hl => ?_)
              refine lv_iload S.x S.b d_Tok_mark_109 (lv_at hl 0 rfl) ?_
              refine lv_if_le (tgt := 120) S.x S.b d_Tok_mark_111 (by decide) (fun c63 => ?_) (fun c63 => ?_)
              · have nc63 : v62.toInt ≤ (0 : Int) := (i_le (x := v62) (y := 0)).mp c63
                refine lv_aload_n S.x S.b d_Tok_mark_120 rfl (lv_at hl 4 rfl) ?_
                refine lv_dup S.x S.b d_Tok_mark_121 rfl ?_
                refine px_get S k_Tok hT hw 0 0 8 (v := .int (f 8)) rfl rfl rfl (by decide) m1_111 d_Tok_mark_122 ?_
                refine lv_iload_n S.x S.b d_Tok_mark_125 rfl (lv_at hl 2 rfl) ?_
                refine lv_iadd S.x S.b d_Tok_mark_126 ?_
                have lr64 := Int32.le_toInt (f 8)
                have ur64 := Int32.toInt_lt (f 8)
                refine lv_topi (fun z65 ez65 => ?_)
                have tz65 : z65.toInt = ((f 8).toInt + (1 : Int) + 2147483648) % 4294967296 - 2147483648 := by rw [ez65]; exact i_add (f 8) 1
                have lz65 := Int32.le_toInt z65
                have uz65 := Int32.toInt_lt z65
                try replace tz65 : z65.toInt = (f 8).toInt + (1 : Int) := by omega
                refine px_put S k_Tok hT hw 0 0 8 rfl rfl (by decide) m1_111 rfl rfl rfl (Nat.le_of_ble_eq_true rfl) d_Tok_mark_127 (w' := wd_Tok cs h r (fun _ => some tp) (upd f 8 z65) a g) (ps' := [wd_Tok cs h r (fun _ => some tp) (upd f 8 z65) a g, [(tp, .inl (cs 1, 2048, .inl tb))]]) rfl rfl (fun H locs hw => ?_)
                refine lv_iload_n S.x S.b d_Tok_mark_130 rfl (lv_at hl 3 rfl) ?_
                first | exact px_iret (v := p0) S hr rfl hlk hAe hw (Nat.le_of_ble_eq_true rfl) (Nat.le_of_ble_eq_true rfl) (⟨(upd f 8 z65), a, rfl, (show TokOk (f 7) z65 (f 10) (f 11) (f 12) (f 13) (f 17) (a 4) from ⟨⟨o1, o2⟩, ⟨(oz_b3b25f0e49 tz65 g1), (oz_8964937ede g2 tz65)⟩, ⟨o5, o6⟩, ⟨o7, o8⟩, ⟨o9, o10⟩, ⟨o11, o12⟩, o13, hn4⟩), (show (f 7).toInt = (f 7).toInt from rfl), (show (f 10).toInt = (f 10).toInt from rfl), (show (f 15).toInt = (f 15).toInt from rfl), (show p0.toInt = 19 ∨ (f 8).toInt + 1 ≤ z65.toInt from by first | with_reducible rfl | with_reducible assumption | omega), (show Q5 (a 5) from hq5)⟩) d_Tok_mark_131 | exact px_iret (v := p0) S hr rfl hlk hAe hw (Nat.le_of_ble_eq_true rfl) (Nat.le_of_ble_eq_true rfl) (⟨(upd f 8 z65), a, rfl, (show TokOk (f 7) z65 (f 10) (f 11) (f 12) (f 13) (f 17) (a 4) from ⟨⟨by first | exact o1 | omega, by first | exact o2 | omega⟩, ⟨by first | exact oz_b3b25f0e49 tz65 g1 | omega, by first | exact oz_8964937ede g2 tz65 | omega⟩, ⟨by first | exact o5 | omega, by first | exact o6 | omega⟩, ⟨by first | exact o7 | omega, by first | exact o8 | omega⟩, ⟨by first | exact o9 | omega, by first | exact o10 | omega⟩, ⟨by first | exact o11 | omega, by first | exact o12 | omega⟩, by first | exact o13 | omega, hn4⟩), (show (f 7).toInt = (f 7).toInt from rfl), (show (f 10).toInt = (f 10).toInt from rfl), (show (f 15).toInt = (f 15).toInt from rfl), (show p0.toInt = 19 ∨ (f 8).toInt + 1 ≤ z65.toInt from by first | with_reducible rfl | with_reducible assumption | omega), (show Q5 (a 5) from hq5)⟩) d_Tok_mark_131
              · have nc63 : ¬ v62.toInt ≤ (0 : Int) := mt (i_le (x := v62) (y := 0)).mpr c63
                refine lv_iload S.x S.b d_Tok_mark_114 (lv_at hl 0 rfl) ?_
                refine lv_istore_n (lv' := [(2, .int v62), (5, .int v62), (4, .int v44), (3, .int 1), (0, .ref h), (1, .int p0)]) S.x S.b d_Tok_mark_116 rfl hl (by decide) rfl (fun ls hl => ?_)
                obtain ⟨z66, ez66⟩ : ∃ y : Int32, y = 1 + 1 := ⟨_, rfl⟩
                have tz66 : z66.toInt = ((1 : Int) + 1 + 2147483648) % 4294967296 - 2147483648 := by rw [ez66]; exact i_add 1 1
                have lz66 := Int32.le_toInt z66
                have uz66 := Int32.toInt_lt z66
                try replace tz66 : z66.toInt = (1 : Int) + 1 := by omega
                refine lv_iinc (v := z66) (lv' := [(3, .int z66), (2, .int v62), (5, .int v62), (4, .int v44), (0, .ref h), (1, .int p0)]) S.x S.b d_Tok_mark_117 hl (k := 3) rfl (by rw [ez66]; rfl) (by decide) rfl (fun ls hl => ?_)
                refine lv_aload_n S.x S.b d_Tok_mark_120 rfl (lv_at hl 4 rfl) ?_
                refine lv_dup S.x S.b d_Tok_mark_121 rfl ?_
                refine px_get S k_Tok hT hw 0 0 8 (v := .int (f 8)) rfl rfl rfl (by decide) m1_111 d_Tok_mark_122 ?_
                refine lv_iload_n S.x S.b d_Tok_mark_125 rfl (lv_at hl 0 rfl) ?_
                refine lv_iadd S.x S.b d_Tok_mark_126 ?_
                have lr67 := Int32.le_toInt (f 8)
                have ur67 := Int32.toInt_lt (f 8)
                refine lv_topi (fun z68 ez68 => ?_)
                have tz68 : z68.toInt = ((f 8).toInt + z66.toInt + 2147483648) % 4294967296 - 2147483648 := by rw [ez68]; exact i_add (f 8) z66
                have lz68 := Int32.le_toInt z68
                have uz68 := Int32.toInt_lt z68
                try replace tz68 : z68.toInt = (f 8).toInt + z66.toInt := by omega
                refine px_put S k_Tok hT hw 0 0 8 rfl rfl (by decide) m1_111 rfl rfl rfl (Nat.le_of_ble_eq_true rfl) d_Tok_mark_127 (w' := wd_Tok cs h r (fun _ => some tp) (upd f 8 z68) a g) (ps' := [wd_Tok cs h r (fun _ => some tp) (upd f 8 z68) a g, [(tp, .inl (cs 1, 2048, .inl tb))]]) rfl rfl (fun H locs hw => ?_)
                refine lv_iload_n S.x S.b d_Tok_mark_130 rfl (lv_at hl 1 rfl) ?_
                first | exact px_iret (v := v62) S hr rfl hlk hAe hw (Nat.le_of_ble_eq_true rfl) (Nat.le_of_ble_eq_true rfl) (⟨(upd f 8 z68), a, rfl, (show TokOk (f 7) z68 (f 10) (f 11) (f 12) (f 13) (f 17) (a 4) from ⟨⟨o1, o2⟩, ⟨(oz_0aba5895db tz68 g1 tz66), (oz_034949d2cd g2 tz68 tz66)⟩, ⟨o5, o6⟩, ⟨o7, o8⟩, ⟨o9, o10⟩, ⟨o11, o12⟩, o13, hn4⟩), (show (f 7).toInt = (f 7).toInt from rfl), (show (f 10).toInt = (f 10).toInt from rfl), (show (f 15).toInt = (f 15).toInt from rfl), (show v62.toInt = 19 ∨ (f 8).toInt + 1 ≤ z68.toInt from by first | with_reducible rfl | with_reducible assumption | omega), (show Q5 (a 5) from hq5)⟩) d_Tok_mark_131 | exact px_iret (v := v62) S hr rfl hlk hAe hw (Nat.le_of_ble_eq_true rfl) (Nat.le_of_ble_eq_true rfl) (⟨(upd f 8 z68), a, rfl, (show TokOk (f 7) z68 (f 10) (f 11) (f 12) (f 13) (f 17) (a 4) from ⟨⟨by first | exact o1 | omega, by first | exact o2 | omega⟩, ⟨by first | exact oz_0aba5895db tz68 g1 tz66 | omega, by first | exact oz_034949d2cd g2 tz68 tz66 | omega⟩, ⟨by first | exact o5 | omega, by first | exact o6 | omega⟩, ⟨by first | exact o7 | omega, by first | exact o8 | omega⟩, ⟨by first | exact o9 | omega, by first | exact o10 | omega⟩, ⟨by first | exact o11 | omega, by first | exact o12 | omega⟩, by first | exact o13 | omega, hn4⟩), (show (f 7).toInt = (f 7).toInt from rfl), (show (f 10).toInt = (f 10).toInt from rfl), (show (f 15).toInt = (f 15).toInt from rfl), (show v62.toInt = 19 ∨ (f 8).toInt + 1 ≤ z68.toInt from by first | with_reducible rfl | with_reducible assumption | omega), (show Q5 (a 5) from hq5)⟩) d_Tok_mark_131
          · have nc45 : ¬ v44.toInt ≤ (0 : Int) := mt (i_le (x := v44) (y := 0)).mpr c45
            refine lv_iload S.x S.b d_Tok_mark_79 (lv_at hl 0 rfl) ?_
            refine lv_istore_n (lv' := [(2, .int v44), (4, .int v44), (3, .int 1), (0, .ref h), (1, .int p0)]) S.x S.b d_Tok_mark_81 rfl hl (by decide) rfl (fun ls hl => ?_)
            refine lv_iconst (v := 2) S.x S.b d_Tok_mark_82 (by decide) ?_
            refine lv_istore_n (lv' := [(3, .int 2), (2, .int v44), (4, .int v44), (0, .ref h), (1, .int p0)]) S.x S.b d_Tok_mark_83 rfl hl (by decide) rfl (fun ls hl => ?_)
            refine lv_aload_n S.x S.b d_Tok_mark_84 rfl (lv_at hl 3 rfl) ?_
            refine lv_aload_n S.x S.b d_Tok_mark_85 rfl (lv_at hl 3 rfl) ?_
            refine px_get S k_Tok hT hw 0 0 8 (v := .int (f 8)) rfl rfl rfl (by decide) m1_111 d_Tok_mark_86 ?_
            refine lv_iload_n S.x S.b d_Tok_mark_89 rfl (lv_at hl 0 rfl) ?_
            refine lv_iadd S.x S.b d_Tok_mark_90 ?_
            have lr69 := Int32.le_toInt (f 8)
            have ur69 := Int32.toInt_lt (f 8)
            refine lv_topi (fun z70 ez70 => ?_)
            have tz70 : z70.toInt = ((f 8).toInt + (2 : Int) + 2147483648) % 4294967296 - 2147483648 := by rw [ez70]; exact i_add (f 8) 2
            have lz70 := Int32.le_toInt z70
            have uz70 := Int32.toInt_lt z70
            try replace tz70 : z70.toInt = (f 8).toInt + (2 : Int) := by omega
            first | refine px_calli (pr := []) (px_runV (As := [.int z70]) (rest := []) S (c_Tok_byteAt l D cs h r tp tb f a g z70 (show TokOk (f 7) (f 8) (f 10) (f 11) (f 12) (f 13) (f 17) (a 4) from ⟨⟨o1, o2⟩, ⟨g1, o4⟩, ⟨o5, o6⟩, ⟨o7, o8⟩, ⟨o9, o10⟩, ⟨o11, o12⟩, o13, hn4⟩)  _) hT (pr := []) (pcs := [wd_Tok cs h r (fun _ => some tp) f a g, [(tp, .inl (cs 1, 2048, .inl tb))]]) hw px_X.tt (px_recv hT hw 0 0 rfl rfl rfl) m3_186 m3_183 m3_185 ms_1_6 m1_2 q_Tok_byteAt ⟨Nat.le_of_ble_eq_true rfl, Nat.le_of_ble_eq_true rfl⟩ hl.1 rfl (Nat.le_of_ble_eq_true rfl) d_Tok_mark_91 ⟨Nat.le_of_ble_eq_true rfl, Nat.le_of_ble_eq_true rfl⟩) hw hA (fun v74 p73 H locs hp73 hw => ?_) | refine px_calli (pr := []) (px_runV (As := [.int z70]) (rest := []) S (c_Tok_byteAt l D cs h r tp tb f a g z70 (show TokOk (f 7) (f 8) (f 10) (f 11) (f 12) (f 13) (f 17) (a 4) from ⟨⟨by first | exact o1 | omega, by first | exact o2 | omega⟩, ⟨by first | exact g1 | omega, by first | exact o4 | omega⟩, ⟨by first | exact o5 | omega, by first | exact o6 | omega⟩, ⟨by first | exact o7 | omega, by first | exact o8 | omega⟩, ⟨by first | exact o9 | omega, by first | exact o10 | omega⟩, ⟨by first | exact o11 | omega, by first | exact o12 | omega⟩, by first | exact o13 | omega, hn4⟩)  _) hT (pr := []) (pcs := [wd_Tok cs h r (fun _ => some tp) f a g, [(tp, .inl (cs 1, 2048, .inl tb))]]) hw px_X.tt (px_recv hT hw 0 0 rfl rfl rfl) m3_186 m3_183 m3_185 ms_1_6 m1_2 q_Tok_byteAt ⟨Nat.le_of_ble_eq_true rfl, Nat.le_of_ble_eq_true rfl⟩ hl.1 rfl (Nat.le_of_ble_eq_true rfl) d_Tok_mark_91 ⟨Nat.le_of_ble_eq_true rfl, Nat.le_of_ble_eq_true rfl⟩) hw hA (fun v74 p73 H locs hp73 hw => ?_)
            obtain ⟨rfl, e75, e76, e77⟩ := hp73
            have e75 : -1 ≤ v74.toInt := e75
            have e76 : v74.toInt ≤ 255 := e76
            have e77 : 0 ≤ v74.toInt → 0 ≤ z70.toInt ∧ z70.toInt < (f 7).toInt := e77
            have lv74 := Int32.le_toInt v74
            have uv74 := Int32.toInt_lt v74
            refine lv_bipush (v := 61) S.x S.b d_Tok_mark_94 (by decide) ?_
            refine lv_icmp_ne (tgt := 106) S.x S.b d_Tok_mark_96 (by decide) (fun c78 => ?_) (fun c78 => ?_)
            · have nc78 : ¬ v74.toInt = (61 : Int) := mt (i_eq (x := v74) (y := 61)).mpr c78
              refine lv_iconst (v := 0) S.x S.b d_Tok_mark_106 (by decide) ?_
              refine lv_istore (lv' := [(5, .int 0), (3, .int 2), (2, .int v44), (4, .int v44), (0, .ref h), (1, .int p0)]) S.x S.b d_Tok_mark_107 hl (by decide) rfl (fun ls hl => ?_)
              refine lv_iload S.x S.b d_Tok_mark_109 (lv_at hl 0 rfl) ?_
              refine lv_if_le (tgt := 120) S.x S.b d_Tok_mark_111 (by decide) (fun c79 => ?_) (fun c79 => ?_)
              ·
                refine lv_aload_n S.x S.b d_Tok_mark_120 rfl (lv_at hl 4 rfl) ?_
                refine lv_dup S.x S.b d_Tok_mark_121 rfl ?_
                refine px_get S k_Tok hT hw 0 0 8 (v := .int (f 8)) rfl rfl rfl (by decide) m1_111 d_Tok_mark_122 ?_
                refine lv_iload_n S.x S.b d_Tok_mark_125 rfl (lv_at hl 1 rfl) ?_
                refine lv_iadd S.x S.b d_Tok_mark_126 ?_
                have lr80 := Int32.le_toInt (f 8)
                have ur80 := Int32.toInt_lt (f 8)
                refine lv_topi (fun z81 ez81 => ?_)
                have tz81 : z81.toInt = ((f 8).toInt + (2 : Int) + 2147483648) % 4294967296 - 2147483648 := by rw [ez81]; exact i_add (f 8) 2
                have lz81 := Int32.le_toInt z81
                have uz81 := Int32.toInt_lt z81
                try replace tz81 : z81.toInt = (f 8).toInt + (2 : Int) := by omega
                refine px_put S k_Tok hT hw 0 0 8 rfl rfl (by decide) m1_111 rfl rfl rfl (Nat.le_of_ble_eq_true rfl) d_Tok_mark_127 (w' := wd_Tok cs h r (fun _ => some tp) (upd f 8 z81) a g) (ps' := [wd_Tok cs h r (fun _ => some tp) (upd f 8 z81) a g, [(tp, .inl (cs 1, 2048, .inl tb))]]) rfl rfl (fun H locs hw => ?_)
                refine lv_iload_n S.x S.b d_Tok_mark_130 rfl (lv_at hl 2 rfl) ?_
                first | exact px_iret (v := v44) S hr rfl hlk hAe hw (Nat.le_of_ble_eq_true rfl) (Nat.le_of_ble_eq_true rfl) (⟨(upd f 8 z81), a, rfl, (show TokOk (f 7) z81 (f 10) (f 11) (f 12) (f 13) (f 17) (a 4) from ⟨⟨o1, o2⟩, ⟨(oz_6c4a1e09c3 tz81 g1), (oz_26c995f1f8 g2 tz81)⟩, ⟨o5, o6⟩, ⟨o7, o8⟩, ⟨o9, o10⟩, ⟨o11, o12⟩, o13, hn4⟩), (show (f 7).toInt = (f 7).toInt from rfl), (show (f 10).toInt = (f 10).toInt from rfl), (show (f 15).toInt = (f 15).toInt from rfl), (show v44.toInt = 19 ∨ (f 8).toInt + 1 ≤ z81.toInt from by first | with_reducible rfl | with_reducible assumption | omega), (show Q5 (a 5) from hq5)⟩) d_Tok_mark_131 | exact px_iret (v := v44) S hr rfl hlk hAe hw (Nat.le_of_ble_eq_true rfl) (Nat.le_of_ble_eq_true rfl) (⟨(upd f 8 z81), a, rfl, (show TokOk (f 7) z81 (f 10) (f 11) (f 12) (f 13) (f 17) (a 4) from ⟨⟨by first | exact o1 | omega, by first | exact o2 | omega⟩, ⟨by first | exact oz_6c4a1e09c3 tz81 g1 | omega, by first | exact oz_26c995f1f8 g2 tz81 | omega⟩, ⟨by first | exact o5 | omega, by first | exact o6 | omega⟩, ⟨by first | exact o7 | omega, by first | exact o8 | omega⟩, ⟨by first | exact o9 | omega, by first | exact o10 | omega⟩, ⟨by first | exact o11 | omega, by first | exact o12 | omega⟩, by first | exact o13 | omega, hn4⟩), (show (f 7).toInt = (f 7).toInt from rfl), (show (f 10).toInt = (f 10).toInt from rfl), (show (f 15).toInt = (f 15).toInt from rfl), (show v44.toInt = 19 ∨ (f 8).toInt + 1 ≤ z81.toInt from by first | with_reducible rfl | with_reducible assumption | omega), (show Q5 (a 5) from hq5)⟩) d_Tok_mark_131
              · exact absurd c79 (by decide)
            · have nc78 : v74.toInt = (61 : Int) := (i_eq (x := v74) (y := 61)).mp c78
              refine lv_iload_n S.x S.b d_Tok_mark_99 rfl (lv_at hl 1 rfl) ?_
              refine px_calli (pr := [wd_Tok cs h r (fun _ => some tp) f a g, [(tp, .inl (cs 1, 2048, .inl tb))]]) (px_runS (As := [.int v44]) (rest := []) S (c_Tok_withEquals l D cs v44 _) hT (pr := [wd_Tok cs h r (fun _ => some tp) f a g, [(tp, .inl (cs 1, 2048, .inl tb))]]) (pcs := []) hw px_X.tt m4_67 m4_65 m4_66 m1_2 q_Tok_withEquals ⟨Nat.le_of_ble_eq_true rfl, Nat.le_of_ble_eq_true rfl⟩ hl.1 rfl (Nat.le_of_ble_eq_true rfl) d_Tok_mark_100 ⟨Nat.le_of_ble_eq_true rfl, Nat.le_of_ble_eq_true rfl⟩) hw hA (fun v85 p84 H locs hp84 hw => ?_)
              subst hp84
              have lv85 := Int32.le_toInt v85
              have uv85 := Int32.toInt_lt v85
              refine lv_goto (tgt := 107) S.x S.b d_Tok_mark_103 (by decide) ?_
              refine lv_istore (lv' := [(5, .int v85), (3, .int 2), (2, .int v44), (4, .int v44), (0, .ref h), (1, .int p0)]) S.x S.b d_Tok_mark_107 hl (by decide) rfl (fun ls hl => ?_)
              refine lv_iload S.x S.b d_Tok_mark_109 (lv_at hl 0 rfl) ?_
              refine lv_if_le (tgt := 120) S.x S.b d_Tok_mark_111 (by decide) (fun c86 => ?_) (fun c86 => ?_)
              · have nc86 : v85.toInt ≤ (0 : Int) := (i_le (x := v85) (y := 0)).mp c86
                refine lv_aload_n S.x S.b d_Tok_mark_120 rfl (lv_at hl 4 rfl) ?_
                refine lv_dup S.x S.b d_Tok_mark_121 rfl ?_
                refine px_get S k_Tok hT hw 0 0 8 (v := .int (f 8)) rfl rfl rfl (by decide) m1_111 d_Tok_mark_122 ?_
                refine lv_iload_n S.x S.b d_Tok_mark_125 rfl (lv_at hl 1 rfl) ?_
                refine lv_iadd S.x S.b d_Tok_mark_126 ?_
                have lr87 := Int32.le_toInt (f 8)
                have ur87 := Int32.toInt_lt (f 8)
                refine lv_topi (fun z88 ez88 => ?_)
                have tz88 : z88.toInt = ((f 8).toInt + (2 : Int) + 2147483648) % 4294967296 - 2147483648 := by rw [ez88]; exact i_add (f 8) 2
                have lz88 := Int32.le_toInt z88
                have uz88 := Int32.toInt_lt z88
                try replace tz88 : z88.toInt = (f 8).toInt + (2 : Int) := by omega
                refine px_put S k_Tok hT hw 0 0 8 rfl rfl (by decide) m1_111 rfl rfl rfl (Nat.le_of_ble_eq_true rfl) d_Tok_mark_127 (w' := wd_Tok cs h r (fun _ => some tp) (upd f 8 z88) a g) (ps' := [wd_Tok cs h r (fun _ => some tp) (upd f 8 z88) a g, [(tp, .inl (cs 1, 2048, .inl tb))]]) rfl rfl (fun H locs hw => ?_)
                refine lv_iload_n S.x S.b d_Tok_mark_130 rfl (lv_at hl 2 rfl) ?_
                first | exact px_iret (v := v44) S hr rfl hlk hAe hw (Nat.le_of_ble_eq_true rfl) (Nat.le_of_ble_eq_true rfl) (⟨(upd f 8 z88), a, rfl, (show TokOk (f 7) z88 (f 10) (f 11) (f 12) (f 13) (f 17) (a 4) from ⟨⟨o1, o2⟩, ⟨(oz_6c4a1e09c3 tz88 g1), (oz_26c995f1f8 g2 tz88)⟩, ⟨o5, o6⟩, ⟨o7, o8⟩, ⟨o9, o10⟩, ⟨o11, o12⟩, o13, hn4⟩), (show (f 7).toInt = (f 7).toInt from rfl), (show (f 10).toInt = (f 10).toInt from rfl), (show (f 15).toInt = (f 15).toInt from rfl), (show v44.toInt = 19 ∨ (f 8).toInt + 1 ≤ z88.toInt from by first | with_reducible rfl | with_reducible assumption | omega), (show Q5 (a 5) from hq5)⟩) d_Tok_mark_131 | exact px_iret (v := v44) S hr rfl hlk hAe hw (Nat.le_of_ble_eq_true rfl) (Nat.le_of_ble_eq_true rfl) (⟨(upd f 8 z88), a, rfl, (show TokOk (f 7) z88 (f 10) (f 11) (f 12) (f 13) (f 17) (a 4) from ⟨⟨by first | exact o1 | omega, by first | exact o2 | omega⟩, ⟨by first | exact oz_6c4a1e09c3 tz88 g1 | omega, by first | exact oz_26c995f1f8 g2 tz88 | omega⟩, ⟨by first | exact o5 | omega, by first | exact o6 | omega⟩, ⟨by first | exact o7 | omega, by first | exact o8 | omega⟩, ⟨by first | exact o9 | omega, by first | exact o10 | omega⟩, ⟨by first | exact o11 | omega, by first | exact o12 | omega⟩, by first | exact o13 | omega, hn4⟩), (show (f 7).toInt = (f 7).toInt from rfl), (show (f 10).toInt = (f 10).toInt from rfl), (show (f 15).toInt = (f 15).toInt from rfl), (show v44.toInt = 19 ∨ (f 8).toInt + 1 ≤ z88.toInt from by first | with_reducible rfl | with_reducible assumption | omega), (show Q5 (a 5) from hq5)⟩) d_Tok_mark_131
              · have nc86 : ¬ v85.toInt ≤ (0 : Int) := mt (i_le (x := v85) (y := 0)).mpr c86
                refine lv_iload S.x S.b d_Tok_mark_114 (lv_at hl 0 rfl) ?_
                refine lv_istore_n (lv' := [(2, .int v85), (5, .int v85), (3, .int 2), (4, .int v44), (0, .ref h), (1, .int p0)]) S.x S.b d_Tok_mark_116 rfl hl (by decide) rfl (fun ls hl => ?_)
                obtain ⟨z89, ez89⟩ : ∃ y : Int32, y = 2 + 1 := ⟨_, rfl⟩
                have tz89 : z89.toInt = ((2 : Int) + 1 + 2147483648) % 4294967296 - 2147483648 := by rw [ez89]; exact i_add 2 1
                have lz89 := Int32.le_toInt z89
                have uz89 := Int32.toInt_lt z89
                try replace tz89 : z89.toInt = (2 : Int) + 1 := by omega
                refine lv_iinc (v := z89) (lv' := [(3, .int z89), (2, .int v85), (5, .int v85), (4, .int v44), (0, .ref h), (1, .int p0)]) S.x S.b d_Tok_mark_117 hl (k := 2) rfl (by rw [ez89]; rfl) (by decide) rfl (fun ls hl => ?_)
                refine lv_aload_n S.x S.b d_Tok_mark_120 rfl (lv_at hl 4 rfl) ?_
                refine lv_dup S.x S.b d_Tok_mark_121 rfl ?_
                refine px_get S k_Tok hT hw 0 0 8 (v := .int (f 8)) rfl rfl rfl (by decide) m1_111 d_Tok_mark_122 ?_
                refine lv_iload_n S.x S.b d_Tok_mark_125 rfl (lv_at hl 0 rfl) ?_
                refine lv_iadd S.x S.b d_Tok_mark_126 ?_
                have lr90 := Int32.le_toInt (f 8)
                have ur90 := Int32.toInt_lt (f 8)
                refine lv_topi (fun z91 ez91 => ?_)
                have tz91 : z91.toInt = ((f 8).toInt + z89.toInt + 2147483648) % 4294967296 - 2147483648 := by rw [ez91]; exact i_add (f 8) z89
                have lz91 := Int32.le_toInt z91
                have uz91 := Int32.toInt_lt z91
                try replace tz91 : z91.toInt = (f 8).toInt + z89.toInt := by omega
                refine px_put S k_Tok hT hw 0 0 8 rfl rfl (by decide) m1_111 rfl rfl rfl (Nat.le_of_ble_eq_true rfl) d_Tok_mark_127 (w' := wd_Tok cs h r (fun _ => some tp) (upd f 8 z91) a g) (ps' := [wd_Tok cs h r (fun _ => some tp) (upd f 8 z91) a g, [(tp, .inl (cs 1, 2048, .inl tb))]]) rfl rfl (fun H locs hw => ?_)
                refine lv_iload_n S.x S.b d_Tok_mark_130 rfl (lv_at hl 1 rfl) ?_
                first | exact px_iret (v := v85) S hr rfl hlk hAe hw (Nat.le_of_ble_eq_true rfl) (Nat.le_of_ble_eq_true rfl) (⟨(upd f 8 z91), a, rfl, (show TokOk (f 7) z91 (f 10) (f 11) (f 12) (f 13) (f 17) (a 4) from ⟨⟨o1, o2⟩, ⟨(oz_5872ca9df2 tz91 g1 tz89), (oz_0136642c8e g2 tz91 tz89)⟩, ⟨o5, o6⟩, ⟨o7, o8⟩, ⟨o9, o10⟩, ⟨o11, o12⟩, o13, hn4⟩), (show (f 7).toInt = (f 7).toInt from rfl), (show (f 10).toInt = (f 10).toInt from rfl), (show (f 15).toInt = (f 15).toInt from rfl), (show v85.toInt = 19 ∨ (f 8).toInt + 1 ≤ z91.toInt from by first | with_reducible rfl | with_reducible assumption | omega), (show Q5 (a 5) from hq5)⟩) d_Tok_mark_131 | exact px_iret (v := v85) S hr rfl hlk hAe hw (Nat.le_of_ble_eq_true rfl) (Nat.le_of_ble_eq_true rfl) (⟨(upd f 8 z91), a, rfl, (show TokOk (f 7) z91 (f 10) (f 11) (f 12) (f 13) (f 17) (a 4) from ⟨⟨by first | exact o1 | omega, by first | exact o2 | omega⟩, ⟨by first | exact oz_5872ca9df2 tz91 g1 tz89 | omega, by first | exact oz_0136642c8e g2 tz91 tz89 | omega⟩, ⟨by first | exact o5 | omega, by first | exact o6 | omega⟩, ⟨by first | exact o7 | omega, by first | exact o8 | omega⟩, ⟨by first | exact o9 | omega, by first | exact o10 | omega⟩, ⟨by first | exact o11 | omega, by first | exact o12 | omega⟩, by first | exact o13 | omega, hn4⟩), (show (f 7).toInt = (f 7).toInt from rfl), (show (f 10).toInt = (f 10).toInt from rfl), (show (f 15).toInt = (f 15).toInt from rfl), (show v85.toInt = 19 ∨ (f 8).toInt + 1 ≤ z91.toInt from by first | with_reducible rfl | with_reducible assumption | omega), (show Q5 (a 5) from hq5)⟩) d_Tok_mark_131
      · have nc6 : p0.toInt = (47 : Int) := (i_eq (x := p0) (y := 47)).mp c6
        refine lv_aload_n S.x S.b d_Tok_mark_32 rfl (lv_at hl 2 rfl) ?_
        refine lv_aload_n S.x S.b d_Tok_mark_33 rfl (lv_at hl 2 rfl) ?_
        refine px_get S k_Tok hT hw 0 0 8 (v := .int (f 8)) rfl rfl rfl (by decide) m1_111 d_Tok_mark_34 ?_
        refine lv_iconst (v := 1) S.x S.b d_Tok_mark_37 (by decide) ?_
        refine lv_iadd S.x S.b d_Tok_mark_38 ?_
        have lr92 := Int32.le_toInt (f 8)
        have ur92 := Int32.toInt_lt (f 8)
        refine lv_topi (fun z93 ez93 => ?_)
        have tz93 : z93.toInt = ((f 8).toInt + (1 : Int) + 2147483648) % 4294967296 - 2147483648 := by rw [ez93]; exact i_add (f 8) 1
        have lz93 := Int32.le_toInt z93
        have uz93 := Int32.toInt_lt z93
        try replace tz93 : z93.toInt = (f 8).toInt + (1 : Int) := by omega
        first | refine px_calli (pr := []) (px_runV (As := [.int z93]) (rest := []) S (c_Tok_byteAt l D cs h r tp tb f a g z93 (show TokOk (f 7) (f 8) (f 10) (f 11) (f 12) (f 13) (f 17) (a 4) from ⟨⟨o1, o2⟩, ⟨g1, o4⟩, ⟨o5, o6⟩, ⟨o7, o8⟩, ⟨o9, o10⟩, ⟨o11, o12⟩, o13, hn4⟩)  _) hT (pr := []) (pcs := [wd_Tok cs h r (fun _ => some tp) f a g, [(tp, .inl (cs 1, 2048, .inl tb))]]) hw px_X.tt (px_recv hT hw 0 0 rfl rfl rfl) m3_186 m3_183 m3_185 ms_1_6 m1_2 q_Tok_byteAt ⟨Nat.le_of_ble_eq_true rfl, Nat.le_of_ble_eq_true rfl⟩ hl.1 rfl (Nat.le_of_ble_eq_true rfl) d_Tok_mark_39 ⟨Nat.le_of_ble_eq_true rfl, Nat.le_of_ble_eq_true rfl⟩) hw hA (fun v97 p96 H locs hp96 hw => ?_) | refine px_calli (pr := []) (px_runV (As := [.int z93]) (rest := []) S (c_Tok_byteAt l D cs h r tp tb f a g z93 (show TokOk (f 7) (f 8) (f 10) (f 11) (f 12) (f 13) (f 17) (a 4) from ⟨⟨by first | exact o1 | omega, by first | exact o2 | omega⟩, ⟨by first | exact g1 | omega, by first | exact o4 | omega⟩, ⟨by first | exact o5 | omega, by first | exact o6 | omega⟩, ⟨by first | exact o7 | omega, by first | exact o8 | omega⟩, ⟨by first | exact o9 | omega, by first | exact o10 | omega⟩, ⟨by first | exact o11 | omega, by first | exact o12 | omega⟩, by first | exact o13 | omega, hn4⟩)  _) hT (pr := []) (pcs := [wd_Tok cs h r (fun _ => some tp) f a g, [(tp, .inl (cs 1, 2048, .inl tb))]]) hw px_X.tt (px_recv hT hw 0 0 rfl rfl rfl) m3_186 m3_183 m3_185 ms_1_6 m1_2 q_Tok_byteAt ⟨Nat.le_of_ble_eq_true rfl, Nat.le_of_ble_eq_true rfl⟩ hl.1 rfl (Nat.le_of_ble_eq_true rfl) d_Tok_mark_39 ⟨Nat.le_of_ble_eq_true rfl, Nat.le_of_ble_eq_true rfl⟩) hw hA (fun v97 p96 H locs hp96 hw => ?_)
        obtain ⟨rfl, e98, e99, e100⟩ := hp96
        have e98 : -1 ≤ v97.toInt := e98
        have e99 : v97.toInt ≤ 255 := e99
        have e100 : 0 ≤ v97.toInt → 0 ≤ z93.toInt ∧ z93.toInt < (f 7).toInt := e100
        have lv97 := Int32.le_toInt v97
        have uv97 := Int32.toInt_lt v97
        refine lv_bipush (v := 42) S.x S.b d_Tok_mark_42 (by decide) ?_
        refine lv_icmp_ne (tgt := 50) S.x S.b d_Tok_mark_44 (by decide) (fun c101 => ?_) (fun c101 => ?_)
        · have nc101 : ¬ v97.toInt = (42 : Int) := mt (i_eq (x := v97) (y := 42)).mpr c101
          refine lv_aload_n S.x S.b d_Tok_mark_50 rfl (lv_at hl 2 rfl) ?_
          refine lv_aload_n S.x S.b d_Tok_mark_51 rfl (lv_at hl 2 rfl) ?_
          refine px_get S k_Tok hT hw 0 0 8 (v := .int (f 8)) rfl rfl rfl (by decide) m1_111 d_Tok_mark_52 ?_
          refine lv_iconst (v := 1) S.x S.b d_Tok_mark_55 (by decide) ?_
          refine lv_iadd S.x S.b d_Tok_mark_56 ?_
          have lr102 := Int32.le_toInt (f 8)
          have ur102 := Int32.toInt_lt (f 8)
          refine lv_topi (fun z103 ez103 => ?_)
          have tz103 : z103.toInt = ((f 8).toInt + (1 : Int) + 2147483648) % 4294967296 - 2147483648 := by rw [ez103]; exact i_add (f 8) 1
          have lz103 := Int32.le_toInt z103
          have uz103 := Int32.toInt_lt z103
          try replace tz103 : z103.toInt = (f 8).toInt + (1 : Int) := by omega
          first | refine px_calli (pr := []) (px_runV (As := [.int z103]) (rest := []) S (c_Tok_byteAt l D cs h r tp tb f a g z103 (show TokOk (f 7) (f 8) (f 10) (f 11) (f 12) (f 13) (f 17) (a 4) from ⟨⟨o1, o2⟩, ⟨g1, o4⟩, ⟨o5, o6⟩, ⟨o7, o8⟩, ⟨o9, o10⟩, ⟨o11, o12⟩, o13, hn4⟩)  _) hT (pr := []) (pcs := [wd_Tok cs h r (fun _ => some tp) f a g, [(tp, .inl (cs 1, 2048, .inl tb))]]) hw px_X.tt (px_recv hT hw 0 0 rfl rfl rfl) m3_186 m3_183 m3_185 ms_1_6 m1_2 q_Tok_byteAt ⟨Nat.le_of_ble_eq_true rfl, Nat.le_of_ble_eq_true rfl⟩ hl.1 rfl (Nat.le_of_ble_eq_true rfl) d_Tok_mark_57 ⟨Nat.le_of_ble_eq_true rfl, Nat.le_of_ble_eq_true rfl⟩) hw hA (fun v107 p106 H locs hp106 hw => ?_) | refine px_calli (pr := []) (px_runV (As := [.int z103]) (rest := []) S (c_Tok_byteAt l D cs h r tp tb f a g z103 (show TokOk (f 7) (f 8) (f 10) (f 11) (f 12) (f 13) (f 17) (a 4) from ⟨⟨by first | exact o1 | omega, by first | exact o2 | omega⟩, ⟨by first | exact g1 | omega, by first | exact o4 | omega⟩, ⟨by first | exact o5 | omega, by first | exact o6 | omega⟩, ⟨by first | exact o7 | omega, by first | exact o8 | omega⟩, ⟨by first | exact o9 | omega, by first | exact o10 | omega⟩, ⟨by first | exact o11 | omega, by first | exact o12 | omega⟩, by first | exact o13 | omega, hn4⟩)  _) hT (pr := []) (pcs := [wd_Tok cs h r (fun _ => some tp) f a g, [(tp, .inl (cs 1, 2048, .inl tb))]]) hw px_X.tt (px_recv hT hw 0 0 rfl rfl rfl) m3_186 m3_183 m3_185 ms_1_6 m1_2 q_Tok_byteAt ⟨Nat.le_of_ble_eq_true rfl, Nat.le_of_ble_eq_true rfl⟩ hl.1 rfl (Nat.le_of_ble_eq_true rfl) d_Tok_mark_57 ⟨Nat.le_of_ble_eq_true rfl, Nat.le_of_ble_eq_true rfl⟩) hw hA (fun v107 p106 H locs hp106 hw => ?_)
          obtain ⟨rfl, e108, e109, e110⟩ := hp106
          have e108 : -1 ≤ v107.toInt := e108
          have e109 : v107.toInt ≤ 255 := e109
          have e110 : 0 ≤ v107.toInt → 0 ≤ z103.toInt ∧ z103.toInt < (f 7).toInt := e110
          have lv107 := Int32.le_toInt v107
          have uv107 := Int32.toInt_lt v107
          refine lv_iload_n S.x S.b d_Tok_mark_60 rfl (lv_at hl 3 rfl) ?_
          refine lv_icmp_ne (tgt := 71) S.x S.b d_Tok_mark_61 (by decide) (fun c111 => ?_) (fun c111 => ?_)
          · have nc111 : ¬ v107.toInt = p0.toInt := mt (i_eq (x := v107) (y := p0)).mpr c111
            refine lv_iconst (v := 0) S.x S.b d_Tok_mark_71 (by decide) ?_
            refine lv_istore (lv' := [(4, .int 0), (3, .int 1), (2, .int p0), (0, .ref h), (1, .int p0)]) S.x S.b d_Tok_mark_72 hl (by decide) rfl (fun ls hl => ?_)
            refine lv_iload S.x S.b d_Tok_mark_74 (lv_at hl 0 rfl) ?_
            refine lv_if_le (tgt := 84) S.x S.b d_Tok_mark_76 (by decide) (fun c112 => ?_) (fun c112 => ?_)
            ·
              refine lv_aload_n S.x S.b d_Tok_mark_84 rfl (lv_at hl 3 rfl) ?_
              refine lv_aload_n S.x S.b d_Tok_mark_85 rfl (lv_at hl 3 rfl) ?_
              refine px_get S k_Tok hT hw 0 0 8 (v := .int (f 8)) rfl rfl rfl (by decide) m1_111 d_Tok_mark_86 ?_
              refine lv_iload_n S.x S.b d_Tok_mark_89 rfl (lv_at hl 1 rfl) ?_
              refine lv_iadd S.x S.b d_Tok_mark_90 ?_
              have lr113 := Int32.le_toInt (f 8)
              have ur113 := Int32.toInt_lt (f 8)
              refine lv_topi (fun z114 ez114 => ?_)
              have tz114 : z114.toInt = ((f 8).toInt + (1 : Int) + 2147483648) % 4294967296 - 2147483648 := by rw [ez114]; exact i_add (f 8) 1
              have lz114 := Int32.le_toInt z114
              have uz114 := Int32.toInt_lt z114
              try replace tz114 : z114.toInt = (f 8).toInt + (1 : Int) := by omega
              first | refine px_calli (pr := []) (px_runV (As := [.int z114]) (rest := []) S (c_Tok_byteAt l D cs h r tp tb f a g z114 (show TokOk (f 7) (f 8) (f 10) (f 11) (f 12) (f 13) (f 17) (a 4) from ⟨⟨o1, o2⟩, ⟨g1, o4⟩, ⟨o5, o6⟩, ⟨o7, o8⟩, ⟨o9, o10⟩, ⟨o11, o12⟩, o13, hn4⟩)  _) hT (pr := []) (pcs := [wd_Tok cs h r (fun _ => some tp) f a g, [(tp, .inl (cs 1, 2048, .inl tb))]]) hw px_X.tt (px_recv hT hw 0 0 rfl rfl rfl) m3_186 m3_183 m3_185 ms_1_6 m1_2 q_Tok_byteAt ⟨Nat.le_of_ble_eq_true rfl, Nat.le_of_ble_eq_true rfl⟩ hl.1 rfl (Nat.le_of_ble_eq_true rfl) d_Tok_mark_91 ⟨Nat.le_of_ble_eq_true rfl, Nat.le_of_ble_eq_true rfl⟩) hw hA (fun v118 p117 H locs hp117 hw => ?_) | refine px_calli (pr := []) (px_runV (As := [.int z114]) (rest := []) S (c_Tok_byteAt l D cs h r tp tb f a g z114 (show TokOk (f 7) (f 8) (f 10) (f 11) (f 12) (f 13) (f 17) (a 4) from ⟨⟨by first | exact o1 | omega, by first | exact o2 | omega⟩, ⟨by first | exact g1 | omega, by first | exact o4 | omega⟩, ⟨by first | exact o5 | omega, by first | exact o6 | omega⟩, ⟨by first | exact o7 | omega, by first | exact o8 | omega⟩, ⟨by first | exact o9 | omega, by first | exact o10 | omega⟩, ⟨by first | exact o11 | omega, by first | exact o12 | omega⟩, by first | exact o13 | omega, hn4⟩)  _) hT (pr := []) (pcs := [wd_Tok cs h r (fun _ => some tp) f a g, [(tp, .inl (cs 1, 2048, .inl tb))]]) hw px_X.tt (px_recv hT hw 0 0 rfl rfl rfl) m3_186 m3_183 m3_185 ms_1_6 m1_2 q_Tok_byteAt ⟨Nat.le_of_ble_eq_true rfl, Nat.le_of_ble_eq_true rfl⟩ hl.1 rfl (Nat.le_of_ble_eq_true rfl) d_Tok_mark_91 ⟨Nat.le_of_ble_eq_true rfl, Nat.le_of_ble_eq_true rfl⟩) hw hA (fun v118 p117 H locs hp117 hw => ?_)
              obtain ⟨rfl, e119, e120, e121⟩ := hp117
              have e119 : -1 ≤ v118.toInt := e119
              have e120 : v118.toInt ≤ 255 := e120
              have e121 : 0 ≤ v118.toInt → 0 ≤ z114.toInt ∧ z114.toInt < (f 7).toInt := e121
              have lv118 := Int32.le_toInt v118
              have uv118 := Int32.toInt_lt v118
              refine lv_bipush (v := 61) S.x S.b d_Tok_mark_94 (by decide) ?_
              refine lv_icmp_ne (tgt := 106) S.x S.b d_Tok_mark_96 (by decide) (fun c122 => ?_) (fun c122 => ?_)
              · have nc122 : ¬ v118.toInt = (61 : Int) := mt (i_eq (x := v118) (y := 61)).mpr c122
                refine lv_iconst (v := 0) S.x S.b d_Tok_mark_106 (by decide) ?_
                refine lv_istore (lv' := [(5, .int 0), (4, .int 0), (3, .int 1), (2, .int p0), (0, .ref h), (1, .int p0)]) S.x S.b d_Tok_mark_107 hl (by decide) rfl (fun ls hl => ?_)
                refine lv_iload S.x S.b d_Tok_mark_109 (lv_at hl 0 rfl) ?_
                refine lv_if_le (tgt := 120) S.x S.b d_Tok_mark_111 (by decide) (fun c123 => ?_) (fun c123 => ?_)
                ·
                  refine lv_aload_n S.x S.b d_Tok_mark_120 rfl (lv_at hl 4 rfl) ?_
                  refine lv_dup S.x S.b d_Tok_mark_121 rfl ?_
                  refine px_get S k_Tok hT hw 0 0 8 (v := .int (f 8)) rfl rfl rfl (by decide) m1_111 d_Tok_mark_122 ?_
                  refine lv_iload_n S.x S.b d_Tok_mark_125 rfl (lv_at hl 2 rfl) ?_
                  refine lv_iadd S.x S.b d_Tok_mark_126 ?_
                  have lr124 := Int32.le_toInt (f 8)
                  have ur124 := Int32.toInt_lt (f 8)
                  refine lv_topi (fun z125 ez125 => ?_)
                  have tz125 : z125.toInt = ((f 8).toInt + (1 : Int) + 2147483648) % 4294967296 - 2147483648 := by rw [ez125]; exact i_add (f 8) 1
                  have lz125 := Int32.le_toInt z125
                  have uz125 := Int32.toInt_lt z125
                  try replace tz125 : z125.toInt = (f 8).toInt + (1 : Int) := by omega
                  refine px_put S k_Tok hT hw 0 0 8 rfl rfl (by decide) m1_111 rfl rfl rfl (Nat.le_of_ble_eq_true rfl) d_Tok_mark_127 (w' := wd_Tok cs h r (fun _ => some tp) (upd f 8 z125) a g) (ps' := [wd_Tok cs h r (fun _ => some tp) (upd f 8 z125) a g, [(tp, .inl (cs 1, 2048, .inl tb))]]) rfl rfl (fun H locs hw => ?_)
                  refine lv_iload_n S.x S.b d_Tok_mark_130 rfl (lv_at hl 3 rfl) ?_
                  first | exact px_iret (v := p0) S hr rfl hlk hAe hw (Nat.le_of_ble_eq_true rfl) (Nat.le_of_ble_eq_true rfl) (⟨(upd f 8 z125), a, rfl, (show TokOk (f 7) z125 (f 10) (f 11) (f 12) (f 13) (f 17) (a 4) from ⟨⟨o1, o2⟩, ⟨(oz_b3b25f0e49 tz125 g1), (oz_8964937ede g2 tz125)⟩, ⟨o5, o6⟩, ⟨o7, o8⟩, ⟨o9, o10⟩, ⟨o11, o12⟩, o13, hn4⟩), (show (f 7).toInt = (f 7).toInt from rfl), (show (f 10).toInt = (f 10).toInt from rfl), (show (f 15).toInt = (f 15).toInt from rfl), (show p0.toInt = 19 ∨ (f 8).toInt + 1 ≤ z125.toInt from by first | with_reducible rfl | with_reducible assumption | omega), (show Q5 (a 5) from hq5)⟩) d_Tok_mark_131 | exact px_iret (v := p0) S hr rfl hlk hAe hw (Nat.le_of_ble_eq_true rfl) (Nat.le_of_ble_eq_true rfl) (⟨(upd f 8 z125), a, rfl, (show TokOk (f 7) z125 (f 10) (f 11) (f 12) (f 13) (f 17) (a 4) from ⟨⟨by first | exact o1 | omega, by first | exact o2 | omega⟩, ⟨by first | exact oz_b3b25f0e49 tz125 g1 | omega, by first | exact oz_8964937ede g2 tz125 | omega⟩, ⟨by first | exact o5 | omega, by first | exact o6 | omega⟩, ⟨by first | exact o7 | omega, by first | exact o8 | omega⟩, ⟨by first | exact o9 | omega, by first | exact o10 | omega⟩, ⟨by first | exact o11 | omega, by first | exact o12 | omega⟩, by first | exact o13 | omega, hn4⟩), (show (f 7).toInt = (f 7).toInt from rfl), (show (f 10).toInt = (f 10).toInt from rfl), (show (f 15).toInt = (f 15).toInt from rfl), (show p0.toInt = 19 ∨ (f 8).toInt + 1 ≤ z125.toInt from by first | with_reducible rfl | with_reducible assumption | omega), (show Q5 (a 5) from hq5)⟩) d_Tok_mark_131
                · exact absurd c123 (by decide)
              · have nc122 : v118.toInt = (61 : Int) := (i_eq (x := v118) (y := 61)).mp c122
                refine lv_iload_n S.x S.b d_Tok_mark_99 rfl (lv_at hl 2 rfl) ?_
                refine px_calli (pr := [wd_Tok cs h r (fun _ => some tp) f a g, [(tp, .inl (cs 1, 2048, .inl tb))]]) (px_runS (As := [.int p0]) (rest := []) S (c_Tok_withEquals l D cs p0 _) hT (pr := [wd_Tok cs h r (fun _ => some tp) f a g, [(tp, .inl (cs 1, 2048, .inl tb))]]) (pcs := []) hw px_X.tt m4_67 m4_65 m4_66 m1_2 q_Tok_withEquals ⟨Nat.le_of_ble_eq_true rfl, Nat.le_of_ble_eq_true rfl⟩ hl.1 rfl (Nat.le_of_ble_eq_true rfl) d_Tok_mark_100 ⟨Nat.le_of_ble_eq_true rfl, Nat.le_of_ble_eq_true rfl⟩) hw hA (fun v129 p128 H locs hp128 hw => ?_)
                subst hp128
                have lv129 := Int32.le_toInt v129
                have uv129 := Int32.toInt_lt v129
                refine lv_goto (tgt := 107) S.x S.b d_Tok_mark_103 (by decide) ?_
                refine lv_istore (lv' := [(5, .int v129), (4, .int 0), (3, .int 1), (2, .int p0), (0, .ref h), (1, .int p0)]) S.x S.b d_Tok_mark_107 hl (by decide) rfl (fun ls hl => ?_)
                refine lv_iload S.x S.b d_Tok_mark_109 (lv_at hl 0 rfl) ?_
                refine lv_if_le (tgt := 120) S.x S.b d_Tok_mark_111 (by decide) (fun c130 => ?_) (fun c130 => ?_)
                · have nc130 : v129.toInt ≤ (0 : Int) := (i_le (x := v129) (y := 0)).mp c130
                  refine lv_aload_n S.x S.b d_Tok_mark_120 rfl (lv_at hl 4 rfl) ?_
                  refine lv_dup S.x S.b d_Tok_mark_121 rfl ?_
                  refine px_get S k_Tok hT hw 0 0 8 (v := .int (f 8)) rfl rfl rfl (by decide) m1_111 d_Tok_mark_122 ?_
                  refine lv_iload_n S.x S.b d_Tok_mark_125 rfl (lv_at hl 2 rfl) ?_
                  refine lv_iadd S.x S.b d_Tok_mark_126 ?_
                  have lr131 := Int32.le_toInt (f 8)
                  have ur131 := Int32.toInt_lt (f 8)
                  refine lv_topi (fun z132 ez132 => ?_)
                  have tz132 : z132.toInt = ((f 8).toInt + (1 : Int) + 2147483648) % 4294967296 - 2147483648 := by rw [ez132]; exact i_add (f 8) 1
                  have lz132 := Int32.le_toInt z132
                  have uz132 := Int32.toInt_lt z132
                  try replace tz132 : z132.toInt = (f 8).toInt + (1 : Int) := by omega
                  refine px_put S k_Tok hT hw 0 0 8 rfl rfl (by decide) m1_111 rfl rfl rfl (Nat.le_of_ble_eq_true rfl) d_Tok_mark_127 (w' := wd_Tok cs h r (fun _ => some tp) (upd f 8 z132) a g) (ps' := [wd_Tok cs h r (fun _ => some tp) (upd f 8 z132) a g, [(tp, .inl (cs 1, 2048, .inl tb))]]) rfl rfl (fun H locs hw => ?_)
                  refine lv_iload_n S.x S.b d_Tok_mark_130 rfl (lv_at hl 3 rfl) ?_
                  first | exact px_iret (v := p0) S hr rfl hlk hAe hw (Nat.le_of_ble_eq_true rfl) (Nat.le_of_ble_eq_true rfl) (⟨(upd f 8 z132), a, rfl, (show TokOk (f 7) z132 (f 10) (f 11) (f 12) (f 13) (f 17) (a 4) from ⟨⟨o1, o2⟩, ⟨(oz_b3b25f0e49 tz132 g1), (oz_8964937ede g2 tz132)⟩, ⟨o5, o6⟩, ⟨o7, o8⟩, ⟨o9, o10⟩, ⟨o11, o12⟩, o13, hn4⟩), (show (f 7).toInt = (f 7).toInt from rfl), (show (f 10).toInt = (f 10).toInt from rfl), (show (f 15).toInt = (f 15).toInt from rfl), (show p0.toInt = 19 ∨ (f 8).toInt + 1 ≤ z132.toInt from by first | with_reducible rfl | with_reducible assumption | omega), (show Q5 (a 5) from hq5)⟩) d_Tok_mark_131 | exact px_iret (v := p0) S hr rfl hlk hAe hw (Nat.le_of_ble_eq_true rfl) (Nat.le_of_ble_eq_true rfl) (⟨(upd f 8 z132), a, rfl, (show TokOk (f 7) z132 (f 10) (f 11) (f 12) (f 13) (f 17) (a 4) from ⟨⟨by first | exact o1 | omega, by first | exact o2 | omega⟩, ⟨by first | exact oz_b3b25f0e49 tz132 g1 | omega, by first | exact oz_8964937ede g2 tz132 | omega⟩, ⟨by first | exact o5 | omega, by first | exact o6 | omega⟩, ⟨by first | exact o7 | omega, by first | exact o8 | omega⟩, ⟨by first | exact o9 | omega, by first | exact o10 | omega⟩, ⟨by first | exact o11 | omega, by first | exact o12 | omega⟩, by first | exact o13 | omega, hn4⟩), (show (f 7).toInt = (f 7).toInt from rfl), (show (f 10).toInt = (f 10).toInt from rfl), (show (f 15).toInt = (f 15).toInt from rfl), (show p0.toInt = 19 ∨ (f 8).toInt + 1 ≤ z132.toInt from by first | with_reducible rfl | with_reducible assumption | omega), (show Q5 (a 5) from hq5)⟩) d_Tok_mark_131
                · have nc130 : ¬ v129.toInt ≤ (0 : Int) := mt (i_le (x := v129) (y := 0)).mpr c130
                  refine lv_iload S.x S.b d_Tok_mark_114 (lv_at hl 0 rfl) ?_
                  refine lv_istore_n (lv' := [(2, .int v129), (5, .int v129), (4, .int 0), (3, .int 1), (0, .ref h), (1, .int p0)]) S.x S.b d_Tok_mark_116 rfl hl (by decide) rfl (fun ls hl => ?_)
                  obtain ⟨z133, ez133⟩ : ∃ y : Int32, y = 1 + 1 := ⟨_, rfl⟩
                  have tz133 : z133.toInt = ((1 : Int) + 1 + 2147483648) % 4294967296 - 2147483648 := by rw [ez133]; exact i_add 1 1
                  have lz133 := Int32.le_toInt z133
                  have uz133 := Int32.toInt_lt z133
                  try replace tz133 : z133.toInt = (1 : Int) + 1 := by omega
                  refine lv_iinc (v := z133) (lv' := [(3, .int z133), (2, .int v129), (5, .int v129), (4, .int 0), (0, .ref h), (1, .int p0)]) S.x S.b d_Tok_mark_117 hl (k := 3) rfl (by rw [ez133]; rfl) (by decide) rfl (fun ls hl => ?_)
                  refine lv_aload_n S.x S.b d_Tok_mark_120 rfl (lv_at hl 4 rfl) ?_
                  refine lv_dup S.x S.b d_Tok_mark_121 rfl ?_
                  refine px_get S k_Tok hT hw 0 0 8 (v := .int (f 8)) rfl rfl rfl (by decide) m1_111 d_Tok_mark_122 ?_
                  refine lv_iload_n S.x S.b d_Tok_mark_125 rfl (lv_at hl 0 rfl) ?_
                  refine lv_iadd S.x S.b d_Tok_mark_126 ?_
                  have lr134 := Int32.le_toInt (f 8)
                  have ur134 := Int32.toInt_lt (f 8)
                  refine lv_topi (fun z135 ez135 => ?_)
                  have tz135 : z135.toInt = ((f 8).toInt + z133.toInt + 2147483648) % 4294967296 - 2147483648 := by rw [ez135]; exact i_add (f 8) z133
                  have lz135 := Int32.le_toInt z135
                  have uz135 := Int32.toInt_lt z135
                  try replace tz135 : z135.toInt = (f 8).toInt + z133.toInt := by omega
                  refine px_put S k_Tok hT hw 0 0 8 rfl rfl (by decide) m1_111 rfl rfl rfl (Nat.le_of_ble_eq_true rfl) d_Tok_mark_127 (w' := wd_Tok cs h r (fun _ => some tp) (upd f 8 z135) a g) (ps' := [wd_Tok cs h r (fun _ => some tp) (upd f 8 z135) a g, [(tp, .inl (cs 1, 2048, .inl tb))]]) rfl rfl (fun H locs hw => ?_)
                  refine lv_iload_n S.x S.b d_Tok_mark_130 rfl (lv_at hl 1 rfl) ?_
                  first | exact px_iret (v := v129) S hr rfl hlk hAe hw (Nat.le_of_ble_eq_true rfl) (Nat.le_of_ble_eq_true rfl) (⟨(upd f 8 z135), a, rfl, (show TokOk (f 7) z135 (f 10) (f 11) (f 12) (f 13) (f 17) (a 4) from ⟨⟨o1, o2⟩, ⟨(oz_0aba5895db tz135 g1 tz133), (oz_034949d2cd g2 tz135 tz133)⟩, ⟨o5, o6⟩, ⟨o7, o8⟩, ⟨o9, o10⟩, ⟨o11, o12⟩, o13, hn4⟩), (show (f 7).toInt = (f 7).toInt from rfl), (show (f 10).toInt = (f 10).toInt from rfl), (show (f 15).toInt = (f 15).toInt from rfl), (show v129.toInt = 19 ∨ (f 8).toInt + 1 ≤ z135.toInt from by first | with_reducible rfl | with_reducible assumption | omega), (show Q5 (a 5) from hq5)⟩) d_Tok_mark_131 | exact px_iret (v := v129) S hr rfl hlk hAe hw (Nat.le_of_ble_eq_true rfl) (Nat.le_of_ble_eq_true rfl) (⟨(upd f 8 z135), a, rfl, (show TokOk (f 7) z135 (f 10) (f 11) (f 12) (f 13) (f 17) (a 4) from ⟨⟨by first | exact o1 | omega, by first | exact o2 | omega⟩, ⟨by first | exact oz_0aba5895db tz135 g1 tz133 | omega, by first | exact oz_034949d2cd g2 tz135 tz133 | omega⟩, ⟨by first | exact o5 | omega, by first | exact o6 | omega⟩, ⟨by first | exact o7 | omega, by first | exact o8 | omega⟩, ⟨by first | exact o9 | omega, by first | exact o10 | omega⟩, ⟨by first | exact o11 | omega, by first | exact o12 | omega⟩, by first | exact o13 | omega, hn4⟩), (show (f 7).toInt = (f 7).toInt from rfl), (show (f 10).toInt = (f 10).toInt from rfl), (show (f 15).toInt = (f 15).toInt from rfl), (show v129.toInt = 19 ∨ (f 8).toInt + 1 ≤ z135.toInt from by first | with_reducible rfl | with_reducible assumption | omega), (show Q5 (a 5) from hq5)⟩) d_Tok_mark_131
            · exact absurd c112 (by decide)
          · have nc111 : v107.toInt = p0.toInt := (i_eq (x := v107) (y := p0)).mp c111
            refine lv_iload_n S.x S.b d_Tok_mark_64 rfl (lv_at hl 3 rfl) ?_
            refine px_calli (pr := [wd_Tok cs h r (fun _ => some tp) f a g, [(tp, .inl (cs 1, 2048, .inl tb))]]) (px_runS (As := [.int p0]) (rest := []) S (c_Tok_doubled l D cs p0 _) hT (pr := [wd_Tok cs h r (fun _ => some tp) f a g, [(tp, .inl (cs 1, 2048, .inl tb))]]) (pcs := []) hw px_X.tt m4_64 m4_62 m4_63 m1_2 q_Tok_doubled ⟨Nat.le_of_ble_eq_true rfl, Nat.le_of_ble_eq_true rfl⟩ hl.1 rfl (Nat.le_of_ble_eq_true rfl) d_Tok_mark_65 ⟨Nat.le_of_ble_eq_true rfl, Nat.le_of_ble_eq_true rfl⟩) hw hA (fun v139 p138 H locs hp138 hw => ?_)
            subst hp138
            have lv139 := Int32.le_toInt v139
            have uv139 := Int32.toInt_lt v139
            refine lv_goto (tgt := 72) S.x S.b d_Tok_mark_68 (by decide) ?_
            refine lv_istore (lv' := [(4, .int v139), (3, .int 1), (2, .int p0), (0, .ref h), (1, .int p0)]) S.x S.b d_Tok_mark_72 hl (by decide) rfl (fun ls hl => ?_)
            refine lv_iload S.x S.b d_Tok_mark_74 (lv_at hl 0 rfl) ?_
            refine lv_if_le (tgt := 84) S.x S.b d_Tok_mark_76 (by decide) (fun c140 => ?_) (fun c140 => ?_)
            · have nc140 : v139.toInt ≤ (0 : Int) := (i_le (x := v139) (y := 0)).mp c140
              refine lv_aload_n S.x S.b d_Tok_mark_84 rfl (lv_at hl 3 rfl) ?_
              refine lv_aload_n S.x S.b d_Tok_mark_85 rfl (lv_at hl 3 rfl) ?_
              refine px_get S k_Tok hT hw 0 0 8 (v := .int (f 8)) rfl rfl rfl (by decide) m1_111 d_Tok_mark_86 ?_
              refine lv_iload_n S.x S.b d_Tok_mark_89 rfl (lv_at hl 1 rfl) ?_
              refine lv_iadd S.x S.b d_Tok_mark_90 ?_
              have lr141 := Int32.le_toInt (f 8)
              have ur141 := Int32.toInt_lt (f 8)
              refine lv_topi (fun z142 ez142 => ?_)
              have tz142 : z142.toInt = ((f 8).toInt + (1 : Int) + 2147483648) % 4294967296 - 2147483648 := by rw [ez142]; exact i_add (f 8) 1
              have lz142 := Int32.le_toInt z142
              have uz142 := Int32.toInt_lt z142
              try replace tz142 : z142.toInt = (f 8).toInt + (1 : Int) := by omega
              first | refine px_calli (pr := []) (px_runV (As := [.int z142]) (rest := []) S (c_Tok_byteAt l D cs h r tp tb f a g z142 (show TokOk (f 7) (f 8) (f 10) (f 11) (f 12) (f 13) (f 17) (a 4) from ⟨⟨o1, o2⟩, ⟨g1, o4⟩, ⟨o5, o6⟩, ⟨o7, o8⟩, ⟨o9, o10⟩, ⟨o11, o12⟩, o13, hn4⟩)  _) hT (pr := []) (pcs := [wd_Tok cs h r (fun _ => some tp) f a g, [(tp, .inl (cs 1, 2048, .inl tb))]]) hw px_X.tt (px_recv hT hw 0 0 rfl rfl rfl) m3_186 m3_183 m3_185 ms_1_6 m1_2 q_Tok_byteAt ⟨Nat.le_of_ble_eq_true rfl, Nat.le_of_ble_eq_true rfl⟩ hl.1 rfl (Nat.le_of_ble_eq_true rfl) d_Tok_mark_91 ⟨Nat.le_of_ble_eq_true rfl, Nat.le_of_ble_eq_true rfl⟩) hw hA (fun v146 p145 H locs hp145 hw => ?_) | refine px_calli (pr := []) (px_runV (As := [.int z142]) (rest := []) S (c_Tok_byteAt l D cs h r tp tb f a g z142 (show TokOk (f 7) (f 8) (f 10) (f 11) (f 12) (f 13) (f 17) (a 4) from ⟨⟨by first | exact o1 | omega, by first | exact o2 | omega⟩, ⟨by first | exact g1 | omega, by first | exact o4 | omega⟩, ⟨by first | exact o5 | omega, by first | exact o6 | omega⟩, ⟨by first | exact o7 | omega, by first | exact o8 | omega⟩, ⟨by first | exact o9 | omega, by first | exact o10 | omega⟩, ⟨by first | exact o11 | omega, by first | exact o12 | omega⟩, by first | exact o13 | omega, hn4⟩)  _) hT (pr := []) (pcs := [wd_Tok cs h r (fun _ => some tp) f a g, [(tp, .inl (cs 1, 2048, .inl tb))]]) hw px_X.tt (px_recv hT hw 0 0 rfl rfl rfl) m3_186 m3_183 m3_185 ms_1_6 m1_2 q_Tok_byteAt ⟨Nat.le_of_ble_eq_true rfl, Nat.le_of_ble_eq_true rfl⟩ hl.1 rfl (Nat.le_of_ble_eq_true rfl) d_Tok_mark_91 ⟨Nat.le_of_ble_eq_true rfl, Nat.le_of_ble_eq_true rfl⟩) hw hA (fun v146 p145 H locs hp145 hw => ?_)
              obtain ⟨rfl, e147, e148, e149⟩ := hp145
              have e147 : -1 ≤ v146.toInt := e147
              have e148 : v146.toInt ≤ 255 := e148
              have e149 : 0 ≤ v146.toInt → 0 ≤ z142.toInt ∧ z142.toInt < (f 7).toInt := e149
              have lv146 := Int32.le_toInt v146
              have uv146 := Int32.toInt_lt v146
              refine lv_bipush (v := 61) S.x S.b d_Tok_mark_94 (by decide) ?_
              refine lv_icmp_ne (tgt := 106) S.x S.b d_Tok_mark_96 (by decide) (fun c150 => ?_) (fun c150 => ?_)
              · have nc150 : ¬ v146.toInt = (61 : Int) := mt (i_eq (x := v146) (y := 61)).mpr c150
                refine lv_iconst (v := 0) S.x S.b d_Tok_mark_106 (by decide) ?_
                refine lv_istore (lv' := [(5, .int 0), (4, .int v139), (3, .int 1), (2, .int p0), (0, .ref h), (1, .int p0)]) S.x S.b d_Tok_mark_107 hl (by decide) rfl (fun ls hl => ?_)
                refine lv_iload S.x S.b d_Tok_mark_109 (lv_at hl 0 rfl) ?_
                refine lv_if_le (tgt := 120) S.x S.b d_Tok_mark_111 (by decide) (fun c151 => ?_) (fun c151 => ?_)
                ·
                  refine lv_aload_n S.x S.b d_Tok_mark_120 rfl (lv_at hl 4 rfl) ?_
                  refine lv_dup S.x S.b d_Tok_mark_121 rfl ?_
                  refine px_get S k_Tok hT hw 0 0 8 (v := .int (f 8)) rfl rfl rfl (by decide) m1_111 d_Tok_mark_122 ?_
                  refine lv_iload_n S.x S.b d_Tok_mark_125 rfl (lv_at hl 2 rfl) ?_
                  refine lv_iadd S.x S.b d_Tok_mark_126 ?_
                  have lr152 := Int32.le_toInt (f 8)
                  have ur152 := Int32.toInt_lt (f 8)
                  refine lv_topi (fun z153 ez153 => ?_)
                  have tz153 : z153.toInt = ((f 8).toInt + (1 : Int) + 2147483648) % 4294967296 - 2147483648 := by rw [ez153]; exact i_add (f 8) 1
                  have lz153 := Int32.le_toInt z153
                  have uz153 := Int32.toInt_lt z153
                  try replace tz153 : z153.toInt = (f 8).toInt + (1 : Int) := by omega
                  refine px_put S k_Tok hT hw 0 0 8 rfl rfl (by decide) m1_111 rfl rfl rfl (Nat.le_of_ble_eq_true rfl) d_Tok_mark_127 (w' := wd_Tok cs h r (fun _ => some tp) (upd f 8 z153) a g) (ps' := [wd_Tok cs h r (fun _ => some tp) (upd f 8 z153) a g, [(tp, .inl (cs 1, 2048, .inl tb))]]) rfl rfl (fun H locs hw => ?_)
                  refine lv_iload_n S.x S.b d_Tok_mark_130 rfl (lv_at hl 3 rfl) ?_
                  first | exact px_iret (v := p0) S hr rfl hlk hAe hw (Nat.le_of_ble_eq_true rfl) (Nat.le_of_ble_eq_true rfl) (⟨(upd f 8 z153), a, rfl, (show TokOk (f 7) z153 (f 10) (f 11) (f 12) (f 13) (f 17) (a 4) from ⟨⟨o1, o2⟩, ⟨(oz_b3b25f0e49 tz153 g1), (oz_8964937ede g2 tz153)⟩, ⟨o5, o6⟩, ⟨o7, o8⟩, ⟨o9, o10⟩, ⟨o11, o12⟩, o13, hn4⟩), (show (f 7).toInt = (f 7).toInt from rfl), (show (f 10).toInt = (f 10).toInt from rfl), (show (f 15).toInt = (f 15).toInt from rfl), (show p0.toInt = 19 ∨ (f 8).toInt + 1 ≤ z153.toInt from by first | with_reducible rfl | with_reducible assumption | omega), (show Q5 (a 5) from hq5)⟩) d_Tok_mark_131 | exact px_iret (v := p0) S hr rfl hlk hAe hw (Nat.le_of_ble_eq_true rfl) (Nat.le_of_ble_eq_true rfl) (⟨(upd f 8 z153), a, rfl, (show TokOk (f 7) z153 (f 10) (f 11) (f 12) (f 13) (f 17) (a 4) from ⟨⟨by first | exact o1 | omega, by first | exact o2 | omega⟩, ⟨by first | exact oz_b3b25f0e49 tz153 g1 | omega, by first | exact oz_8964937ede g2 tz153 | omega⟩, ⟨by first | exact o5 | omega, by first | exact o6 | omega⟩, ⟨by first | exact o7 | omega, by first | exact o8 | omega⟩, ⟨by first | exact o9 | omega, by first | exact o10 | omega⟩, ⟨by first | exact o11 | omega, by first | exact o12 | omega⟩, by first | exact o13 | omega, hn4⟩), (show (f 7).toInt = (f 7).toInt from rfl), (show (f 10).toInt = (f 10).toInt from rfl), (show (f 15).toInt = (f 15).toInt from rfl), (show p0.toInt = 19 ∨ (f 8).toInt + 1 ≤ z153.toInt from by first | with_reducible rfl | with_reducible assumption | omega), (show Q5 (a 5) from hq5)⟩) d_Tok_mark_131
                · exact absurd c151 (by decide)
              · have nc150 : v146.toInt = (61 : Int) := (i_eq (x := v146) (y := 61)).mp c150
                refine lv_iload_n S.x S.b d_Tok_mark_99 rfl (lv_at hl 2 rfl) ?_
                refine px_calli (pr := [wd_Tok cs h r (fun _ => some tp) f a g, [(tp, .inl (cs 1, 2048, .inl tb))]]) (px_runS (As := [.int p0]) (rest := []) S (c_Tok_withEquals l D cs p0 _) hT (pr := [wd_Tok cs h r (fun _ => some tp) f a g, [(tp, .inl (cs 1, 2048, .inl tb))]]) (pcs := []) hw px_X.tt m4_67 m4_65 m4_66 m1_2 q_Tok_withEquals ⟨Nat.le_of_ble_eq_true rfl, Nat.le_of_ble_eq_true rfl⟩ hl.1 rfl (Nat.le_of_ble_eq_true rfl) d_Tok_mark_100 ⟨Nat.le_of_ble_eq_true rfl, Nat.le_of_ble_eq_true rfl⟩) hw hA (fun v157 p156 H locs hp156 hw => ?_)
                subst hp156
                have lv157 := Int32.le_toInt v157
                have uv157 := Int32.toInt_lt v157
                refine lv_goto (tgt := 107) S.x S.b d_Tok_mark_103 (by decide) ?_
                refine lv_istore (lv' := [(5, .int v157), (4, .int v139), (3, .int 1), (2, .int p0), (0, .ref h), (1, .int p0)]) S.x S.b d_Tok_mark_107 hl (by decide) rfl (fun ls hl => ?_)
                refine lv_iload S.x S.b d_Tok_mark_109 (lv_at hl 0 rfl) ?_
                refine lv_if_le (tgt := 120) S.x S.b d_Tok_mark_111 (by decide) (fun c158 => ?_) (fun c158 => ?_)
                · have nc158 : v157.toInt ≤ (0 : Int) := (i_le (x := v157) (y := 0)).mp c158
                  refine lv_aload_n S.x S.b d_Tok_mark_120 rfl (lv_at hl 4 rfl) ?_
                  refine lv_dup S.x S.b d_Tok_mark_121 rfl ?_
                  refine px_get S k_Tok hT hw 0 0 8 (v := .int (f 8)) rfl rfl rfl (by decide) m1_111 d_Tok_mark_122 ?_
                  refine lv_iload_n S.x S.b d_Tok_mark_125 rfl (lv_at hl 2 rfl) ?_
                  refine lv_iadd S.x S.b d_Tok_mark_126 ?_
                  have lr159 := Int32.le_toInt (f 8)
                  have ur159 := Int32.toInt_lt (f 8)
                  refine lv_topi (fun z160 ez160 => ?_)
                  have tz160 : z160.toInt = ((f 8).toInt + (1 : Int) + 2147483648) % 4294967296 - 2147483648 := by rw [ez160]; exact i_add (f 8) 1
                  have lz160 := Int32.le_toInt z160
                  have uz160 := Int32.toInt_lt z160
                  try replace tz160 : z160.toInt = (f 8).toInt + (1 : Int) := by omega
                  refine px_put S k_Tok hT hw 0 0 8 rfl rfl (by decide) m1_111 rfl rfl rfl (Nat.le_of_ble_eq_true rfl) d_Tok_mark_127 (w' := wd_Tok cs h r (fun _ => some tp) (upd f 8 z160) a g) (ps' := [wd_Tok cs h r (fun _ => some tp) (upd f 8 z160) a g, [(tp, .inl (cs 1, 2048, .inl tb))]]) rfl rfl (fun H locs hw => ?_)
                  refine lv_iload_n S.x S.b d_Tok_mark_130 rfl (lv_at hl 3 rfl) ?_
                  first | exact px_iret (v := p0) S hr rfl hlk hAe hw (Nat.le_of_ble_eq_true rfl) (Nat.le_of_ble_eq_true rfl) (⟨(upd f 8 z160), a, rfl, (show TokOk (f 7) z160 (f 10) (f 11) (f 12) (f 13) (f 17) (a 4) from ⟨⟨o1, o2⟩, ⟨(oz_b3b25f0e49 tz160 g1), (oz_8964937ede g2 tz160)⟩, ⟨o5, o6⟩, ⟨o7, o8⟩, ⟨o9, o10⟩, ⟨o11, o12⟩, o13, hn4⟩), (show (f 7).toInt = (f 7).toInt from rfl), (show (f 10).toInt = (f 10).toInt from rfl), (show (f 15).toInt = (f 15).toInt from rfl), (show p0.toInt = 19 ∨ (f 8).toInt + 1 ≤ z160.toInt from by first | with_reducible rfl | with_reducible assumption | omega), (show Q5 (a 5) from hq5)⟩) d_Tok_mark_131 | exact px_iret (v := p0) S hr rfl hlk hAe hw (Nat.le_of_ble_eq_true rfl) (Nat.le_of_ble_eq_true rfl) (⟨(upd f 8 z160), a, rfl, (show TokOk (f 7) z160 (f 10) (f 11) (f 12) (f 13) (f 17) (a 4) from ⟨⟨by first | exact o1 | omega, by first | exact o2 | omega⟩, ⟨by first | exact oz_b3b25f0e49 tz160 g1 | omega, by first | exact oz_8964937ede g2 tz160 | omega⟩, ⟨by first | exact o5 | omega, by first | exact o6 | omega⟩, ⟨by first | exact o7 | omega, by first | exact o8 | omega⟩, ⟨by first | exact o9 | omega, by first | exact o10 | omega⟩, ⟨by first | exact o11 | omega, by first | exact o12 | omega⟩, by first | exact o13 | omega, hn4⟩), (show (f 7).toInt = (f 7).toInt from rfl), (show (f 10).toInt = (f 10).toInt from rfl), (show (f 15).toInt = (f 15).toInt from rfl), (show p0.toInt = 19 ∨ (f 8).toInt + 1 ≤ z160.toInt from by first | with_reducible rfl | with_reducible assumption | omega), (show Q5 (a 5) from hq5)⟩) d_Tok_mark_131
                · have nc158 : ¬ v157.toInt ≤ (0 : Int) := mt (i_le (x := v157) (y := 0)).mpr c158
                  refine lv_iload S.x S.b d_Tok_mark_114 (lv_at hl 0 rfl) ?_
                  refine lv_istore_n (lv' := [(2, .int v157), (5, .int v157), (4, .int v139), (3, .int 1), (0, .ref h), (1, .int p0)]) S.x S.b d_Tok_mark_116 rfl hl (by decide) rfl (fun ls hl => ?_)
                  obtain ⟨z161, ez161⟩ : ∃ y : Int32, y = 1 + 1 := ⟨_, rfl⟩
                  have tz161 : z161.toInt = ((1 : Int) + 1 + 2147483648) % 4294967296 - 2147483648 := by rw [ez161]; exact i_add 1 1
                  have lz161 := Int32.le_toInt z161
                  have uz161 := Int32.toInt_lt z161
                  try replace tz161 : z161.toInt = (1 : Int) + 1 := by omega
                  refine lv_iinc (v := z161) (lv' := [(3, .int z161), (2, .int v157), (5, .int v157), (4, .int v139), (0, .ref h), (1, .int p0)]) S.x S.b d_Tok_mark_117 hl (k := 3) rfl (by rw [ez161]; rfl) (by decide) rfl (fun ls hl => ?_)
                  refine lv_aload_n S.x S.b d_Tok_mark_120 rfl (lv_at hl 4 rfl) ?_
                  refine lv_dup S.x S.b d_Tok_mark_121 rfl ?_
                  refine px_get S k_Tok hT hw 0 0 8 (v := .int (f 8)) rfl rfl rfl (by decide) m1_111 d_Tok_mark_122 ?_
                  refine lv_iload_n S.x S.b d_Tok_mark_125 rfl (lv_at hl 0 rfl) ?_
                  refine lv_iadd S.x S.b d_Tok_mark_126 ?_
                  have lr162 := Int32.le_toInt (f 8)
                  have ur162 := Int32.toInt_lt (f 8)
                  refine lv_topi (fun z163 ez163 => ?_)
                  have tz163 : z163.toInt = ((f 8).toInt + z161.toInt + 2147483648) % 4294967296 - 2147483648 := by rw [ez163]; exact i_add (f 8) z161
                  have lz163 := Int32.le_toInt z163
                  have uz163 := Int32.toInt_lt z163
                  try replace tz163 : z163.toInt = (f 8).toInt + z161.toInt := by omega
                  refine px_put S k_Tok hT hw 0 0 8 rfl rfl (by decide) m1_111 rfl rfl rfl (Nat.le_of_ble_eq_true rfl) d_Tok_mark_127 (w' := wd_Tok cs h r (fun _ => some tp) (upd f 8 z163) a g) (ps' := [wd_Tok cs h r (fun _ => some tp) (upd f 8 z163) a g, [(tp, .inl (cs 1, 2048, .inl tb))]]) rfl rfl (fun H locs hw => ?_)
                  refine lv_iload_n S.x S.b d_Tok_mark_130 rfl (lv_at hl 1 rfl) ?_
                  first | exact px_iret (v := v157) S hr rfl hlk hAe hw (Nat.le_of_ble_eq_true rfl) (Nat.le_of_ble_eq_true rfl) (⟨(upd f 8 z163), a, rfl, (show TokOk (f 7) z163 (f 10) (f 11) (f 12) (f 13) (f 17) (a 4) from ⟨⟨o1, o2⟩, ⟨(oz_0aba5895db tz163 g1 tz161), (oz_034949d2cd g2 tz163 tz161)⟩, ⟨o5, o6⟩, ⟨o7, o8⟩, ⟨o9, o10⟩, ⟨o11, o12⟩, o13, hn4⟩), (show (f 7).toInt = (f 7).toInt from rfl), (show (f 10).toInt = (f 10).toInt from rfl), (show (f 15).toInt = (f 15).toInt from rfl), (show v157.toInt = 19 ∨ (f 8).toInt + 1 ≤ z163.toInt from by first | with_reducible rfl | with_reducible assumption | omega), (show Q5 (a 5) from hq5)⟩) d_Tok_mark_131 | exact px_iret (v := v157) S hr rfl hlk hAe hw (Nat.le_of_ble_eq_true rfl) (Nat.le_of_ble_eq_true rfl) (⟨(upd f 8 z163), a, rfl, (show TokOk (f 7) z163 (f 10) (f 11) (f 12) (f 13) (f 17) (a 4) from ⟨⟨by first | exact o1 | omega, by first | exact o2 | omega⟩, ⟨by first | exact oz_0aba5895db tz163 g1 tz161 | omega, by first | exact oz_034949d2cd g2 tz163 tz161 | omega⟩, ⟨by first | exact o5 | omega, by first | exact o6 | omega⟩, ⟨by first | exact o7 | omega, by first | exact o8 | omega⟩, ⟨by first | exact o9 | omega, by first | exact o10 | omega⟩, ⟨by first | exact o11 | omega, by first | exact o12 | omega⟩, by first | exact o13 | omega, hn4⟩), (show (f 7).toInt = (f 7).toInt from rfl), (show (f 10).toInt = (f 10).toInt from rfl), (show (f 15).toInt = (f 15).toInt from rfl), (show v157.toInt = 19 ∨ (f 8).toInt + 1 ≤ z163.toInt from by first | with_reducible rfl | with_reducible assumption | omega), (show Q5 (a 5) from hq5)⟩) d_Tok_mark_131
            · have nc140 : ¬ v139.toInt ≤ (0 : Int) := mt (i_le (x := v139) (y := 0)).mpr c140
              refine lv_iload S.x S.b d_Tok_mark_79 (lv_at hl 0 rfl) ?_
              refine lv_istore_n (lv' := [(2, .int v139), (4, .int v139), (3, .int 1), (0, .ref h), (1, .int p0)]) S.x S.b d_Tok_mark_81 rfl hl (by decide) rfl (fun ls hl => ?_)
              refine lv_iconst (v := 2) S.x S.b d_Tok_mark_82 (by decide) ?_
              refine lv_istore_n (lv' := [(3, .int 2), (2, .int v139), (4, .int v139), (0, .ref h), (1, .int p0)]) S.x S.b d_Tok_mark_83 rfl hl (by decide) rfl (fun ls hl => ?_)
              refine lv_aload_n S.x S.b d_Tok_mark_84 rfl (lv_at hl 3 rfl) ?_
              refine lv_aload_n S.x S.b d_Tok_mark_85 rfl (lv_at hl 3 rfl) ?_
              refine px_get S k_Tok hT hw 0 0 8 (v := .int (f 8)) rfl rfl rfl (by decide) m1_111 d_Tok_mark_86 ?_
              refine lv_iload_n S.x S.b d_Tok_mark_89 rfl (lv_at hl 0 rfl) ?_
              refine lv_iadd S.x S.b d_Tok_mark_90 ?_
              have lr164 := Int32.le_toInt (f 8)
              have ur164 := Int32.toInt_lt (f 8)
              refine lv_topi (fun z165 ez165 => ?_)
              have tz165 : z165.toInt = ((f 8).toInt + (2 : Int) + 2147483648) % 4294967296 - 2147483648 := by rw [ez165]; exact i_add (f 8) 2
              have lz165 := Int32.le_toInt z165
              have uz165 := Int32.toInt_lt z165
              try replace tz165 : z165.toInt = (f 8).toInt + (2 : Int) := by omega
              first | refine px_calli (pr := []) (px_runV (As := [.int z165]) (rest := []) S (c_Tok_byteAt l D cs h r tp tb f a g z165 (show TokOk (f 7) (f 8) (f 10) (f 11) (f 12) (f 13) (f 17) (a 4) from ⟨⟨o1, o2⟩, ⟨g1, o4⟩, ⟨o5, o6⟩, ⟨o7, o8⟩, ⟨o9, o10⟩, ⟨o11, o12⟩, o13, hn4⟩)  _) hT (pr := []) (pcs := [wd_Tok cs h r (fun _ => some tp) f a g, [(tp, .inl (cs 1, 2048, .inl tb))]]) hw px_X.tt (px_recv hT hw 0 0 rfl rfl rfl) m3_186 m3_183 m3_185 ms_1_6 m1_2 q_Tok_byteAt ⟨Nat.le_of_ble_eq_true rfl, Nat.le_of_ble_eq_true rfl⟩ hl.1 rfl (Nat.le_of_ble_eq_true rfl) d_Tok_mark_91 ⟨Nat.le_of_ble_eq_true rfl, Nat.le_of_ble_eq_true rfl⟩) hw hA (fun v169 p168 H locs hp168 hw => ?_) | refine px_calli (pr := []) (px_runV (As := [.int z165]) (rest := []) S (c_Tok_byteAt l D cs h r tp tb f a g z165 (show TokOk (f 7) (f 8) (f 10) (f 11) (f 12) (f 13) (f 17) (a 4) from ⟨⟨by first | exact o1 | omega, by first | exact o2 | omega⟩, ⟨by first | exact g1 | omega, by first | exact o4 | omega⟩, ⟨by first | exact o5 | omega, by first | exact o6 | omega⟩, ⟨by first | exact o7 | omega, by first | exact o8 | omega⟩, ⟨by first | exact o9 | omega, by first | exact o10 | omega⟩, ⟨by first | exact o11 | omega, by first | exact o12 | omega⟩, by first | exact o13 | omega, hn4⟩)  _) hT (pr := []) (pcs := [wd_Tok cs h r (fun _ => some tp) f a g, [(tp, .inl (cs 1, 2048, .inl tb))]]) hw px_X.tt (px_recv hT hw 0 0 rfl rfl rfl) m3_186 m3_183 m3_185 ms_1_6 m1_2 q_Tok_byteAt ⟨Nat.le_of_ble_eq_true rfl, Nat.le_of_ble_eq_true rfl⟩ hl.1 rfl (Nat.le_of_ble_eq_true rfl) d_Tok_mark_91 ⟨Nat.le_of_ble_eq_true rfl, Nat.le_of_ble_eq_true rfl⟩) hw hA (fun v169 p168 H locs hp168 hw => ?_)
              obtain ⟨rfl, e170, e171, e172⟩ := hp168
              have e170 : -1 ≤ v169.toInt := e170
              have e171 : v169.toInt ≤ 255 := e171
              have e172 : 0 ≤ v169.toInt → 0 ≤ z165.toInt ∧ z165.toInt < (f 7).toInt := e172
              have lv169 := Int32.le_toInt v169
              have uv169 := Int32.toInt_lt v169
              refine lv_bipush (v := 61) S.x S.b d_Tok_mark_94 (by decide) ?_
              refine lv_icmp_ne (tgt := 106) S.x S.b d_Tok_mark_96 (by decide) (fun c173 => ?_) (fun c173 => ?_)
              · have nc173 : ¬ v169.toInt = (61 : Int) := mt (i_eq (x := v169) (y := 61)).mpr c173
                refine lv_iconst (v := 0) S.x S.b d_Tok_mark_106 (by decide) ?_
                refine lv_istore (lv' := [(5, .int 0), (3, .int 2), (2, .int v139), (4, .int v139), (0, .ref h), (1, .int p0)]) S.x S.b d_Tok_mark_107 hl (by decide) rfl (fun ls hl => ?_)
                refine lv_iload S.x S.b d_Tok_mark_109 (lv_at hl 0 rfl) ?_
                refine lv_if_le (tgt := 120) S.x S.b d_Tok_mark_111 (by decide) (fun c174 => ?_) (fun c174 => ?_)
                ·
                  refine lv_aload_n S.x S.b d_Tok_mark_120 rfl (lv_at hl 4 rfl) ?_
                  refine lv_dup S.x S.b d_Tok_mark_121 rfl ?_
                  refine px_get S k_Tok hT hw 0 0 8 (v := .int (f 8)) rfl rfl rfl (by decide) m1_111 d_Tok_mark_122 ?_
                  refine lv_iload_n S.x S.b d_Tok_mark_125 rfl (lv_at hl 1 rfl) ?_
                  refine lv_iadd S.x S.b d_Tok_mark_126 ?_
                  have lr175 := Int32.le_toInt (f 8)
                  have ur175 := Int32.toInt_lt (f 8)
                  refine lv_topi (fun z176 ez176 => ?_)
                  have tz176 : z176.toInt = ((f 8).toInt + (2 : Int) + 2147483648) % 4294967296 - 2147483648 := by rw [ez176]; exact i_add (f 8) 2
                  have lz176 := Int32.le_toInt z176
                  have uz176 := Int32.toInt_lt z176
                  try replace tz176 : z176.toInt = (f 8).toInt + (2 : Int) := by omega
                  refine px_put S k_Tok hT hw 0 0 8 rfl rfl (by decide) m1_111 rfl rfl rfl (Nat.le_of_ble_eq_true rfl) d_Tok_mark_127 (w' := wd_Tok cs h r (fun _ => some tp) (upd f 8 z176) a g) (ps' := [wd_Tok cs h r (fun _ => some tp) (upd f 8 z176) a g, [(tp, .inl (cs 1, 2048, .inl tb))]]) rfl rfl (fun H locs hw => ?_)
                  refine lv_iload_n S.x S.b d_Tok_mark_130 rfl (lv_at hl 2 rfl) ?_
                  first | exact px_iret (v := v139) S hr rfl hlk hAe hw (Nat.le_of_ble_eq_true rfl) (Nat.le_of_ble_eq_true rfl) (⟨(upd f 8 z176), a, rfl, (show TokOk (f 7) z176 (f 10) (f 11) (f 12) (f 13) (f 17) (a 4) from ⟨⟨o1, o2⟩, ⟨(oz_6c4a1e09c3 tz176 g1), (oz_26c995f1f8 g2 tz176)⟩, ⟨o5, o6⟩, ⟨o7, o8⟩, ⟨o9, o10⟩, ⟨o11, o12⟩, o13, hn4⟩), (show (f 7).toInt = (f 7).toInt from rfl), (show (f 10).toInt = (f 10).toInt from rfl), (show (f 15).toInt = (f 15).toInt from rfl), (show v139.toInt = 19 ∨ (f 8).toInt + 1 ≤ z176.toInt from by first | with_reducible rfl | with_reducible assumption | omega), (show Q5 (a 5) from hq5)⟩) d_Tok_mark_131 | exact px_iret (v := v139) S hr rfl hlk hAe hw (Nat.le_of_ble_eq_true rfl) (Nat.le_of_ble_eq_true rfl) (⟨(upd f 8 z176), a, rfl, (show TokOk (f 7) z176 (f 10) (f 11) (f 12) (f 13) (f 17) (a 4) from ⟨⟨by first | exact o1 | omega, by first | exact o2 | omega⟩, ⟨by first | exact oz_6c4a1e09c3 tz176 g1 | omega, by first | exact oz_26c995f1f8 g2 tz176 | omega⟩, ⟨by first | exact o5 | omega, by first | exact o6 | omega⟩, ⟨by first | exact o7 | omega, by first | exact o8 | omega⟩, ⟨by first | exact o9 | omega, by first | exact o10 | omega⟩, ⟨by first | exact o11 | omega, by first | exact o12 | omega⟩, by first | exact o13 | omega, hn4⟩), (show (f 7).toInt = (f 7).toInt from rfl), (show (f 10).toInt = (f 10).toInt from rfl), (show (f 15).toInt = (f 15).toInt from rfl), (show v139.toInt = 19 ∨ (f 8).toInt + 1 ≤ z176.toInt from by first | with_reducible rfl | with_reducible assumption | omega), (show Q5 (a 5) from hq5)⟩) d_Tok_mark_131
                · exact absurd c174 (by decide)
              · have nc173 : v169.toInt = (61 : Int) := (i_eq (x := v169) (y := 61)).mp c173
                refine lv_iload_n S.x S.b d_Tok_mark_99 rfl (lv_at hl 1 rfl) ?_
                refine px_calli (pr := [wd_Tok cs h r (fun _ => some tp) f a g, [(tp, .inl (cs 1, 2048, .inl tb))]]) (px_runS (As := [.int v139]) (rest := []) S (c_Tok_withEquals l D cs v139 _) hT (pr := [wd_Tok cs h r (fun _ => some tp) f a g, [(tp, .inl (cs 1, 2048, .inl tb))]]) (pcs := []) hw px_X.tt m4_67 m4_65 m4_66 m1_2 q_Tok_withEquals ⟨Nat.le_of_ble_eq_true rfl, Nat.le_of_ble_eq_true rfl⟩ hl.1 rfl (Nat.le_of_ble_eq_true rfl) d_Tok_mark_100 ⟨Nat.le_of_ble_eq_true rfl, Nat.le_of_ble_eq_true rfl⟩) hw hA (fun v180 p179 H locs hp179 hw => ?_)
                subst hp179
                have lv180 := Int32.le_toInt v180
                have uv180 := Int32.toInt_lt v180
                refine lv_goto (tgt := 107) S.x S.b d_Tok_mark_103 (by decide) ?_
                refine lv_istore (lv' := [(5, .int v180), (3, .int 2), (2, .int v139), (4, .int v139), (0, .ref h), (1, .int p0)]) S.x S.b d_Tok_mark_107 hl (by decide) rfl (fun ls hl => ?_)
                refine lv_iload S.x S.b d_Tok_mark_109 (lv_at hl 0 rfl) ?_
                refine lv_if_le (tgt := 120) S.x S.b d_Tok_mark_111 (by decide) (fun c181 => ?_) (fun c181 => ?_)
                · have nc181 : v180.toInt ≤ (0 : Int) := (i_le (x := v180) (y := 0)).mp c181
                  refine lv_aload_n S.x S.b d_Tok_mark_120 rfl (lv_at hl 4 rfl) ?_
                  refine lv_dup S.x S.b d_Tok_mark_121 rfl ?_
                  refine px_get S k_Tok hT hw 0 0 8 (v := .int (f 8)) rfl rfl rfl (by decide) m1_111 d_Tok_mark_122 ?_
                  refine lv_iload_n S.x S.b d_Tok_mark_125 rfl (lv_at hl 1 rfl) ?_
                  refine lv_iadd S.x S.b d_Tok_mark_126 ?_
                  have lr182 := Int32.le_toInt (f 8)
                  have ur182 := Int32.toInt_lt (f 8)
                  refine lv_topi (fun z183 ez183 => ?_)
                  have tz183 : z183.toInt = ((f 8).toInt + (2 : Int) + 2147483648) % 4294967296 - 2147483648 := by rw [ez183]; exact i_add (f 8) 2
                  have lz183 := Int32.le_toInt z183
                  have uz183 := Int32.toInt_lt z183
                  try replace tz183 : z183.toInt = (f 8).toInt + (2 : Int) := by omega
                  refine px_put S k_Tok hT hw 0 0 8 rfl rfl (by decide) m1_111 rfl rfl rfl (Nat.le_of_ble_eq_true rfl) d_Tok_mark_127 (w' := wd_Tok cs h r (fun _ => some tp) (upd f 8 z183) a g) (ps' := [wd_Tok cs h r (fun _ => some tp) (upd f 8 z183) a g, [(tp, .inl (cs 1, 2048, .inl tb))]]) rfl rfl (fun H locs hw => ?_)
                  refine lv_iload_n S.x S.b d_Tok_mark_130 rfl (lv_at hl 2 rfl) ?_
                  first | exact px_iret (v := v139) S hr rfl hlk hAe hw (Nat.le_of_ble_eq_true rfl) (Nat.le_of_ble_eq_true rfl) (⟨(upd f 8 z183), a, rfl, (show TokOk (f 7) z183 (f 10) (f 11) (f 12) (f 13) (f 17) (a 4) from ⟨⟨o1, o2⟩, ⟨(oz_6c4a1e09c3 tz183 g1), (oz_26c995f1f8 g2 tz183)⟩, ⟨o5, o6⟩, ⟨o7, o8⟩, ⟨o9, o10⟩, ⟨o11, o12⟩, o13, hn4⟩), (show (f 7).toInt = (f 7).toInt from rfl), (show (f 10).toInt = (f 10).toInt from rfl), (show (f 15).toInt = (f 15).toInt from rfl), (show v139.toInt = 19 ∨ (f 8).toInt + 1 ≤ z183.toInt from by first | with_reducible rfl | with_reducible assumption | omega), (show Q5 (a 5) from hq5)⟩) d_Tok_mark_131 | exact px_iret (v := v139) S hr rfl hlk hAe hw (Nat.le_of_ble_eq_true rfl) (Nat.le_of_ble_eq_true rfl) (⟨(upd f 8 z183), a, rfl, (show TokOk (f 7) z183 (f 10) (f 11) (f 12) (f 13) (f 17) (a 4) from ⟨⟨by first | exact o1 | omega, by first | exact o2 | omega⟩, ⟨by first | exact oz_6c4a1e09c3 tz183 g1 | omega, by first | exact oz_26c995f1f8 g2 tz183 | omega⟩, ⟨by first | exact o5 | omega, by first | exact o6 | omega⟩, ⟨by first | exact o7 | omega, by first | exact o8 | omega⟩, ⟨by first | exact o9 | omega, by first | exact o10 | omega⟩, ⟨by first | exact o11 | omega, by first | exact o12 | omega⟩, by first | exact o13 | omega, hn4⟩), (show (f 7).toInt = (f 7).toInt from rfl), (show (f 10).toInt = (f 10).toInt from rfl), (show (f 15).toInt = (f 15).toInt from rfl), (show v139.toInt = 19 ∨ (f 8).toInt + 1 ≤ z183.toInt from by first | with_reducible rfl | with_reducible assumption | omega), (show Q5 (a 5) from hq5)⟩) d_Tok_mark_131
                · have nc181 : ¬ v180.toInt ≤ (0 : Int) := mt (i_le (x := v180) (y := 0)).mpr c181
                  refine lv_iload S.x S.b d_Tok_mark_114 (lv_at hl 0 rfl) ?_
                  refine lv_istore_n (lv' := [(2, .int v180), (5, .int v180), (3, .int 2), (4, .int v139), (0, .ref h), (1, .int p0)]) S.x S.b d_Tok_mark_116 rfl hl (by decide) rfl (fun ls hl => ?_)
                  obtain ⟨z184, ez184⟩ : ∃ y : Int32, y = 2 + 1 := ⟨_, rfl⟩
                  have tz184 : z184.toInt = ((2 : Int) + 1 + 2147483648) % 4294967296 - 2147483648 := by rw [ez184]; exact i_add 2 1
                  have lz184 := Int32.le_toInt z184
                  have uz184 := Int32.toInt_lt z184
                  try replace tz184 : z184.toInt = (2 : Int) + 1 := by omega
                  refine lv_iinc (v := z184) (lv' := [(3, .int z184), (2, .int v180), (5, .int v180), (4, .int v139), (0, .ref h), (1, .int p0)]) S.x S.b d_Tok_mark_117 hl (k := 2) rfl (by rw [ez184]; rfl) (by decide) rfl (fun ls hl => ?_)
                  refine lv_aload_n S.x S.b d_Tok_mark_120 rfl (lv_at hl 4 rfl) ?_
                  refine lv_dup S.x S.b d_Tok_mark_121 rfl ?_
                  refine px_get S k_Tok hT hw 0 0 8 (v := .int (f 8)) rfl rfl rfl (by decide) m1_111 d_Tok_mark_122 ?_
                  refine lv_iload_n S.x S.b d_Tok_mark_125 rfl (lv_at hl 0 rfl) ?_
                  refine lv_iadd S.x S.b d_Tok_mark_126 ?_
                  have lr185 := Int32.le_toInt (f 8)
                  have ur185 := Int32.toInt_lt (f 8)
                  refine lv_topi (fun z186 ez186 => ?_)
                  have tz186 : z186.toInt = ((f 8).toInt + z184.toInt + 2147483648) % 4294967296 - 2147483648 := by rw [ez186]; exact i_add (f 8) z184
                  have lz186 := Int32.le_toInt z186
                  have uz186 := Int32.toInt_lt z186
                  try replace tz186 : z186.toInt = (f 8).toInt + z184.toInt := by omega
                  refine px_put S k_Tok hT hw 0 0 8 rfl rfl (by decide) m1_111 rfl rfl rfl (Nat.le_of_ble_eq_true rfl) d_Tok_mark_127 (w' := wd_Tok cs h r (fun _ => some tp) (upd f 8 z186) a g) (ps' := [wd_Tok cs h r (fun _ => some tp) (upd f 8 z186) a g, [(tp, .inl (cs 1, 2048, .inl tb))]]) rfl rfl (fun H locs hw => ?_)
                  refine lv_iload_n S.x S.b d_Tok_mark_130 rfl (lv_at hl 1 rfl) ?_
                  first | exact px_iret (v := v180) S hr rfl hlk hAe hw (Nat.le_of_ble_eq_true rfl) (Nat.le_of_ble_eq_true rfl) (⟨(upd f 8 z186), a, rfl, (show TokOk (f 7) z186 (f 10) (f 11) (f 12) (f 13) (f 17) (a 4) from ⟨⟨o1, o2⟩, ⟨(oz_5872ca9df2 tz186 g1 tz184), (oz_0136642c8e g2 tz186 tz184)⟩, ⟨o5, o6⟩, ⟨o7, o8⟩, ⟨o9, o10⟩, ⟨o11, o12⟩, o13, hn4⟩), (show (f 7).toInt = (f 7).toInt from rfl), (show (f 10).toInt = (f 10).toInt from rfl), (show (f 15).toInt = (f 15).toInt from rfl), (show v180.toInt = 19 ∨ (f 8).toInt + 1 ≤ z186.toInt from by first | with_reducible rfl | with_reducible assumption | omega), (show Q5 (a 5) from hq5)⟩) d_Tok_mark_131 | exact px_iret (v := v180) S hr rfl hlk hAe hw (Nat.le_of_ble_eq_true rfl) (Nat.le_of_ble_eq_true rfl) (⟨(upd f 8 z186), a, rfl, (show TokOk (f 7) z186 (f 10) (f 11) (f 12) (f 13) (f 17) (a 4) from ⟨⟨by first | exact o1 | omega, by first | exact o2 | omega⟩, ⟨by first | exact oz_5872ca9df2 tz186 g1 tz184 | omega, by first | exact oz_0136642c8e g2 tz186 tz184 | omega⟩, ⟨by first | exact o5 | omega, by first | exact o6 | omega⟩, ⟨by first | exact o7 | omega, by first | exact o8 | omega⟩, ⟨by first | exact o9 | omega, by first | exact o10 | omega⟩, ⟨by first | exact o11 | omega, by first | exact o12 | omega⟩, by first | exact o13 | omega, hn4⟩), (show (f 7).toInt = (f 7).toInt from rfl), (show (f 10).toInt = (f 10).toInt from rfl), (show (f 15).toInt = (f 15).toInt from rfl), (show v180.toInt = 19 ∨ (f 8).toInt + 1 ≤ z186.toInt from by first | with_reducible rfl | with_reducible assumption | omega), (show Q5 (a 5) from hq5)⟩) d_Tok_mark_131
        · have nc101 : v97.toInt = (42 : Int) := (i_eq (x := v97) (y := 42)).mp c101
          refine lv_bipush (v := 19) S.x S.b d_Tok_mark_47 (by decide) ?_
          first | exact px_iret (v := 19) S hr rfl hlk hAe hw (Nat.le_of_ble_eq_true rfl) (Nat.le_of_ble_eq_true rfl) (⟨f, a, rfl, (show TokOk (f 7) (f 8) (f 10) (f 11) (f 12) (f 13) (f 17) (a 4) from ⟨⟨o1, o2⟩, ⟨g1, o4⟩, ⟨o5, o6⟩, ⟨o7, o8⟩, ⟨o9, o10⟩, ⟨o11, o12⟩, o13, hn4⟩), (show (f 7).toInt = (f 7).toInt from rfl), (show (f 10).toInt = (f 10).toInt from rfl), (show (f 15).toInt = (f 15).toInt from rfl), (show (19 : Int) = 19 ∨ (f 8).toInt + 1 ≤ (f 8).toInt from by first | with_reducible rfl | with_reducible assumption | omega), (show Q5 (a 5) from hq5)⟩) d_Tok_mark_49 | exact px_iret (v := 19) S hr rfl hlk hAe hw (Nat.le_of_ble_eq_true rfl) (Nat.le_of_ble_eq_true rfl) (⟨f, a, rfl, (show TokOk (f 7) (f 8) (f 10) (f 11) (f 12) (f 13) (f 17) (a 4) from ⟨⟨by first | exact o1 | omega, by first | exact o2 | omega⟩, ⟨by first | exact g1 | omega, by first | exact o4 | omega⟩, ⟨by first | exact o5 | omega, by first | exact o6 | omega⟩, ⟨by first | exact o7 | omega, by first | exact o8 | omega⟩, ⟨by first | exact o9 | omega, by first | exact o10 | omega⟩, ⟨by first | exact o11 | omega, by first | exact o12 | omega⟩, by first | exact o13 | omega, hn4⟩), (show (f 7).toInt = (f 7).toInt from rfl), (show (f 10).toInt = (f 10).toInt from rfl), (show (f 15).toInt = (f 15).toInt from rfl), (show (19 : Int) = 19 ∨ (f 8).toInt + 1 ≤ (f 8).toInt from by first | with_reducible rfl | with_reducible assumption | omega), (show Q5 (a 5) from hq5)⟩) d_Tok_mark_49
  · have nc1 : p0.toInt = (61 : Int) := (i_eq (x := p0) (y := 61)).mp c1
    refine lv_sipush (v := 256) S.x S.b d_Tok_mark_6 (by decide) ?_
    refine lv_goto (tgt := 13) S.x S.b d_Tok_mark_9 (by decide) ?_
    refine lv_istore_n (lv' := [(2, .int 256), (0, .ref h), (1, .int p0)]) S.x S.b d_Tok_mark_13 rfl hl (by decide) rfl (fun ls hl => ?_)
    refine lv_iconst (v := 1) S.x S.b d_Tok_mark_14 (by decide) ?_
    refine lv_istore_n (lv' := [(3, .int 1), (2, .int 256), (0, .ref h), (1, .int p0)]) S.x S.b d_Tok_mark_15 rfl hl (by decide) rfl (fun ls hl => ?_)
    refine va_ldcS S.x S.b S.own hL d_Tok_mark_16 ?_
    refine lv_iload_n S.x S.b d_Tok_mark_18 rfl (lv_at hl 3 rfl) ?_
    refine lv_i2c S.x S.b d_Tok_mark_19 rfl ?_
    refine lv_topi (fun z187 ez187 => ?_)
    have lz187 := Int32.le_toInt z187
    have uz187 := Int32.toInt_lt z187
    first | refine px_calli (pr := [wd_Tok cs h r (fun _ => some tp) f a g, [(tp, .inl (cs 1, 2048, .inl tb))]]) (px_runV (As := [.int z187]) (rest := []) S (c_String_indexOf1 l D cs sk st sn sb z187  (show sn ≤ 1000000 from g0) _) hT (pr := [wd_Tok cs h r (fun _ => some tp) f a g, [(tp, .inl (cs 1, 2048, .inl tb))]]) (pcs := []) hw (oX_call (P := (fun A U H => (oZ A U H) ∧ (oS A sk st sn sb U H))) (pr := [wd_Tok cs h r (fun _ => some tp) f a g, [(tp, .inl (cs 1, 2048, .inl tb))]]) (oG_and oG_Z oG_S) hw hA ⟨hZ, hS⟩) (oS_recv hw hS) m4_10 m4_7 m4_8 m4_9 m1_3 q_String_indexOf2 ⟨Nat.le_of_ble_eq_true rfl, Nat.le_of_ble_eq_true rfl⟩ hl.1 rfl (Nat.le_of_ble_eq_true rfl) d_Tok_mark_20 ⟨Nat.le_of_ble_eq_true rfl, Nat.le_of_ble_eq_true rfl⟩) hw hA (fun v189 p188 H locs hp188 hw => ?_) | refine px_calli (pr := [wd_Tok cs h r (fun _ => some tp) f a g, [(tp, .inl (cs 1, 2048, .inl tb))]]) (px_runV (As := [.int z187]) (rest := []) S (c_String_indexOf1 l D cs sk st sn sb z187  (show sn ≤ 1000000 from by first | exact g0 | omega) _) hT (pr := [wd_Tok cs h r (fun _ => some tp) f a g, [(tp, .inl (cs 1, 2048, .inl tb))]]) (pcs := []) hw (oX_call (P := (fun A U H => (oZ A U H) ∧ (oS A sk st sn sb U H))) (pr := [wd_Tok cs h r (fun _ => some tp) f a g, [(tp, .inl (cs 1, 2048, .inl tb))]]) (oG_and oG_Z oG_S) hw hA ⟨hZ, hS⟩) (oS_recv hw hS) m4_10 m4_7 m4_8 m4_9 m1_3 q_String_indexOf2 ⟨Nat.le_of_ble_eq_true rfl, Nat.le_of_ble_eq_true rfl⟩ hl.1 rfl (Nat.le_of_ble_eq_true rfl) d_Tok_mark_20 ⟨Nat.le_of_ble_eq_true rfl, Nat.le_of_ble_eq_true rfl⟩) hw hA (fun v189 p188 H locs hp188 hw => ?_)
    subst hp188
    have lv189 := Int32.le_toInt v189
    have uv189 := Int32.toInt_lt v189
    refine lv_if_lt (tgt := 47) S.x S.b d_Tok_mark_23 (by decide) (fun c190 => ?_) (fun c190 => ?_)
    · have nc190 : v189.toInt < (0 : Int) := (i_lt (x := v189) (y := 0)).mp c190
      refine lv_bipush (v := 19) S.x S.b d_Tok_mark_47 (by decide) ?_
      first | exact px_iret (v := 19) S hr rfl hlk hAe hw (Nat.le_of_ble_eq_true rfl) (Nat.le_of_ble_eq_true rfl) (⟨f, a, rfl, (show TokOk (f 7) (f 8) (f 10) (f 11) (f 12) (f 13) (f 17) (a 4) from ⟨⟨o1, o2⟩, ⟨g1, o4⟩, ⟨o5, o6⟩, ⟨o7, o8⟩, ⟨o9, o10⟩, ⟨o11, o12⟩, o13, hn4⟩), (show (f 7).toInt = (f 7).toInt from rfl), (show (f 10).toInt = (f 10).toInt from rfl), (show (f 15).toInt = (f 15).toInt from rfl), (show (19 : Int) = 19 ∨ (f 8).toInt + 1 ≤ (f 8).toInt from by first | with_reducible rfl | with_reducible assumption | omega), (show Q5 (a 5) from hq5)⟩) d_Tok_mark_49 | exact px_iret (v := 19) S hr rfl hlk hAe hw (Nat.le_of_ble_eq_true rfl) (Nat.le_of_ble_eq_true rfl) (⟨f, a, rfl, (show TokOk (f 7) (f 8) (f 10) (f 11) (f 12) (f 13) (f 17) (a 4) from ⟨⟨by first | exact o1 | omega, by first | exact o2 | omega⟩, ⟨by first | exact g1 | omega, by first | exact o4 | omega⟩, ⟨by first | exact o5 | omega, by first | exact o6 | omega⟩, ⟨by first | exact o7 | omega, by first | exact o8 | omega⟩, ⟨by first | exact o9 | omega, by first | exact o10 | omega⟩, ⟨by first | exact o11 | omega, by first | exact o12 | omega⟩, by first | exact o13 | omega, hn4⟩), (show (f 7).toInt = (f 7).toInt from rfl), (show (f 10).toInt = (f 10).toInt from rfl), (show (f 15).toInt = (f 15).toInt from rfl), (show (19 : Int) = 19 ∨ (f 8).toInt + 1 ≤ (f 8).toInt from by first | with_reducible rfl | with_reducible assumption | omega), (show Q5 (a 5) from hq5)⟩) d_Tok_mark_49
    · have nc190 : ¬ v189.toInt < (0 : Int) := mt (i_lt (x := v189) (y := 0)).mpr c190
      refine lv_iload_n S.x S.b d_Tok_mark_26 rfl (lv_at hl 3 rfl) ?_
      refine lv_bipush (v := 47) S.x S.b d_Tok_mark_27 (by decide) ?_
      refine lv_icmp_ne (tgt := 50) S.x S.b d_Tok_mark_29 (by decide) (fun c191 => ?_) (fun c191 => ?_)
      · have nc191 : ¬ p0.toInt = (47 : Int) := mt (i_eq (x := p0) (y := 47)).mpr c191
        refine lv_aload_n S.x S.b d_Tok_mark_50 rfl (lv_at hl 2 rfl) ?_
        refine lv_aload_n S.x S.b d_Tok_mark_51 rfl (lv_at hl 2 rfl) ?_
        refine px_get S k_Tok hT hw 0 0 8 (v := .int (f 8)) rfl rfl rfl (by decide) m1_111 d_Tok_mark_52 ?_
        refine lv_iconst (v := 1) S.x S.b d_Tok_mark_55 (by decide) ?_
        refine lv_iadd S.x S.b d_Tok_mark_56 ?_
        have lr192 := Int32.le_toInt (f 8)
        have ur192 := Int32.toInt_lt (f 8)
        refine lv_topi (fun z193 ez193 => ?_)
        have tz193 : z193.toInt = ((f 8).toInt + (1 : Int) + 2147483648) % 4294967296 - 2147483648 := by rw [ez193]; exact i_add (f 8) 1
        have lz193 := Int32.le_toInt z193
        have uz193 := Int32.toInt_lt z193
        try replace tz193 : z193.toInt = (f 8).toInt + (1 : Int) := by omega
        first | refine px_calli (pr := []) (px_runV (As := [.int z193]) (rest := []) S (c_Tok_byteAt l D cs h r tp tb f a g z193 (show TokOk (f 7) (f 8) (f 10) (f 11) (f 12) (f 13) (f 17) (a 4) from ⟨⟨o1, o2⟩, ⟨g1, o4⟩, ⟨o5, o6⟩, ⟨o7, o8⟩, ⟨o9, o10⟩, ⟨o11, o12⟩, o13, hn4⟩)  _) hT (pr := []) (pcs := [wd_Tok cs h r (fun _ => some tp) f a g, [(tp, .inl (cs 1, 2048, .inl tb))]]) hw px_X.tt (px_recv hT hw 0 0 rfl rfl rfl) m3_186 m3_183 m3_185 ms_1_6 m1_2 q_Tok_byteAt ⟨Nat.le_of_ble_eq_true rfl, Nat.le_of_ble_eq_true rfl⟩ hl.1 rfl (Nat.le_of_ble_eq_true rfl) d_Tok_mark_57 ⟨Nat.le_of_ble_eq_true rfl, Nat.le_of_ble_eq_true rfl⟩) hw hA (fun v197 p196 H locs hp196 hw => ?_) | refine px_calli (pr := []) (px_runV (As := [.int z193]) (rest := []) S (c_Tok_byteAt l D cs h r tp tb f a g z193 (show TokOk (f 7) (f 8) (f 10) (f 11) (f 12) (f 13) (f 17) (a 4) from ⟨⟨by first | exact o1 | omega, by first | exact o2 | omega⟩, ⟨by first | exact g1 | omega, by first | exact o4 | omega⟩, ⟨by first | exact o5 | omega, by first | exact o6 | omega⟩, ⟨by first | exact o7 | omega, by first | exact o8 | omega⟩, ⟨by first | exact o9 | omega, by first | exact o10 | omega⟩, ⟨by first | exact o11 | omega, by first | exact o12 | omega⟩, by first | exact o13 | omega, hn4⟩)  _) hT (pr := []) (pcs := [wd_Tok cs h r (fun _ => some tp) f a g, [(tp, .inl (cs 1, 2048, .inl tb))]]) hw px_X.tt (px_recv hT hw 0 0 rfl rfl rfl) m3_186 m3_183 m3_185 ms_1_6 m1_2 q_Tok_byteAt ⟨Nat.le_of_ble_eq_true rfl, Nat.le_of_ble_eq_true rfl⟩ hl.1 rfl (Nat.le_of_ble_eq_true rfl) d_Tok_mark_57 ⟨Nat.le_of_ble_eq_true rfl, Nat.le_of_ble_eq_true rfl⟩) hw hA (fun v197 p196 H locs hp196 hw => ?_)
        obtain ⟨rfl, e198, e199, e200⟩ := hp196
        have e198 : -1 ≤ v197.toInt := e198
        have e199 : v197.toInt ≤ 255 := e199
        have e200 : 0 ≤ v197.toInt → 0 ≤ z193.toInt ∧ z193.toInt < (f 7).toInt := e200
        have lv197 := Int32.le_toInt v197
        have uv197 := Int32.toInt_lt v197
        refine lv_iload_n S.x S.b d_Tok_mark_60 rfl (lv_at hl 3 rfl) ?_
        refine lv_icmp_ne (tgt := 71) S.x S.b d_Tok_mark_61 (by decide) (fun c201 => ?_) (fun c201 => ?_)
        · have nc201 : ¬ v197.toInt = p0.toInt := mt (i_eq (x := v197) (y := p0)).mpr c201
          refine lv_iconst (v := 0) S.x S.b d_Tok_mark_71 (by decide) ?_
          refine lv_istore (lv' := [(4, .int 0), (3, .int 1), (2, .int 256), (0, .ref h), (1, .int p0)]) S.x S.b d_Tok_mark_72 hl (by decide) rfl (fun ls hl => ?_)
          refine lv_iload S.x S.b d_Tok_mark_74 (lv_at hl 0 rfl) ?_
          refine lv_if_le (tgt := 84) S.x S.b d_Tok_mark_76 (by decide) (fun c202 => ?_) (fun c202 => ?_)
          ·
            refine lv_aload_n S.x S.b d_Tok_mark_84 rfl (lv_at hl 3 rfl) ?_
            refine lv_aload_n S.x S.b d_Tok_mark_85 rfl (lv_at hl 3 rfl) ?_
            refine px_get S k_Tok hT hw 0 0 8 (v := .int (f 8)) rfl rfl rfl (by decide) m1_111 d_Tok_mark_86 ?_
            refine lv_iload_n S.x S.b d_Tok_mark_89 rfl (lv_at hl 1 rfl) ?_
            refine lv_iadd S.x S.b d_Tok_mark_90 ?_
            have lr203 := Int32.le_toInt (f 8)
            have ur203 := Int32.toInt_lt (f 8)
            refine lv_topi (fun z204 ez204 => ?_)
            have tz204 : z204.toInt = ((f 8).toInt + (1 : Int) + 2147483648) % 4294967296 - 2147483648 := by rw [ez204]; exact i_add (f 8) 1
            have lz204 := Int32.le_toInt z204
            have uz204 := Int32.toInt_lt z204
            try replace tz204 : z204.toInt = (f 8).toInt + (1 : Int) := by omega
            first | refine px_calli (pr := []) (px_runV (As := [.int z204]) (rest := []) S (c_Tok_byteAt l D cs h r tp tb f a g z204 (show TokOk (f 7) (f 8) (f 10) (f 11) (f 12) (f 13) (f 17) (a 4) from ⟨⟨o1, o2⟩, ⟨g1, o4⟩, ⟨o5, o6⟩, ⟨o7, o8⟩, ⟨o9, o10⟩, ⟨o11, o12⟩, o13, hn4⟩)  _) hT (pr := []) (pcs := [wd_Tok cs h r (fun _ => some tp) f a g, [(tp, .inl (cs 1, 2048, .inl tb))]]) hw px_X.tt (px_recv hT hw 0 0 rfl rfl rfl) m3_186 m3_183 m3_185 ms_1_6 m1_2 q_Tok_byteAt ⟨Nat.le_of_ble_eq_true rfl, Nat.le_of_ble_eq_true rfl⟩ hl.1 rfl (Nat.le_of_ble_eq_true rfl) d_Tok_mark_91 ⟨Nat.le_of_ble_eq_true rfl, Nat.le_of_ble_eq_true rfl⟩) hw hA (fun v208 p207 H locs hp207 hw => ?_) | refine px_calli (pr := []) (px_runV (As := [.int z204]) (rest := []) S (c_Tok_byteAt l D cs h r tp tb f a g z204 (show TokOk (f 7) (f 8) (f 10) (f 11) (f 12) (f 13) (f 17) (a 4) from ⟨⟨by first | exact o1 | omega, by first | exact o2 | omega⟩, ⟨by first | exact g1 | omega, by first | exact o4 | omega⟩, ⟨by first | exact o5 | omega, by first | exact o6 | omega⟩, ⟨by first | exact o7 | omega, by first | exact o8 | omega⟩, ⟨by first | exact o9 | omega, by first | exact o10 | omega⟩, ⟨by first | exact o11 | omega, by first | exact o12 | omega⟩, by first | exact o13 | omega, hn4⟩)  _) hT (pr := []) (pcs := [wd_Tok cs h r (fun _ => some tp) f a g, [(tp, .inl (cs 1, 2048, .inl tb))]]) hw px_X.tt (px_recv hT hw 0 0 rfl rfl rfl) m3_186 m3_183 m3_185 ms_1_6 m1_2 q_Tok_byteAt ⟨Nat.le_of_ble_eq_true rfl, Nat.le_of_ble_eq_true rfl⟩ hl.1 rfl (Nat.le_of_ble_eq_true rfl) d_Tok_mark_91 ⟨Nat.le_of_ble_eq_true rfl, Nat.le_of_ble_eq_true rfl⟩) hw hA (fun v208 p207 H locs hp207 hw => ?_)
            obtain ⟨rfl, e209, e210, e211⟩ := hp207
            have e209 : -1 ≤ v208.toInt := e209
            have e210 : v208.toInt ≤ 255 := e210
            have e211 : 0 ≤ v208.toInt → 0 ≤ z204.toInt ∧ z204.toInt < (f 7).toInt := e211
            have lv208 := Int32.le_toInt v208
            have uv208 := Int32.toInt_lt v208
            refine lv_bipush (v := 61) S.x S.b d_Tok_mark_94 (by decide) ?_
            refine lv_icmp_ne (tgt := 106) S.x S.b d_Tok_mark_96 (by decide) (fun c212 => ?_) (fun c212 => ?_)
            · have nc212 : ¬ v208.toInt = (61 : Int) := mt (i_eq (x := v208) (y := 61)).mpr c212
              refine lv_iconst (v := 0) S.x S.b d_Tok_mark_106 (by decide) ?_
              refine lv_istore (lv' := [(5, .int 0), (4, .int 0), (3, .int 1), (2, .int 256), (0, .ref h), (1, .int p0)]) S.x S.b d_Tok_mark_107 hl (by decide) rfl (fun ls hl => ?_)
              refine lv_iload S.x S.b d_Tok_mark_109 (lv_at hl 0 rfl) ?_
              refine lv_if_le (tgt := 120) S.x S.b d_Tok_mark_111 (by decide) (fun c213 => ?_) (fun c213 => ?_)
              ·
                refine lv_aload_n S.x S.b d_Tok_mark_120 rfl (lv_at hl 4 rfl) ?_
                refine lv_dup S.x S.b d_Tok_mark_121 rfl ?_
                refine px_get S k_Tok hT hw 0 0 8 (v := .int (f 8)) rfl rfl rfl (by decide) m1_111 d_Tok_mark_122 ?_
                refine lv_iload_n S.x S.b d_Tok_mark_125 rfl (lv_at hl 2 rfl) ?_
                refine lv_iadd S.x S.b d_Tok_mark_126 ?_
                have lr214 := Int32.le_toInt (f 8)
                have ur214 := Int32.toInt_lt (f 8)
                refine lv_topi (fun z215 ez215 => ?_)
                have tz215 : z215.toInt = ((f 8).toInt + (1 : Int) + 2147483648) % 4294967296 - 2147483648 := by rw [ez215]; exact i_add (f 8) 1
                have lz215 := Int32.le_toInt z215
                have uz215 := Int32.toInt_lt z215
                try replace tz215 : z215.toInt = (f 8).toInt + (1 : Int) := by omega
                refine px_put S k_Tok hT hw 0 0 8 rfl rfl (by decide) m1_111 rfl rfl rfl (Nat.le_of_ble_eq_true rfl) d_Tok_mark_127 (w' := wd_Tok cs h r (fun _ => some tp) (upd f 8 z215) a g) (ps' := [wd_Tok cs h r (fun _ => some tp) (upd f 8 z215) a g, [(tp, .inl (cs 1, 2048, .inl tb))]]) rfl rfl (fun H locs hw => ?_)
                refine lv_iload_n S.x S.b d_Tok_mark_130 rfl (lv_at hl 3 rfl) ?_
                first | exact px_iret (v := 256) S hr rfl hlk hAe hw (Nat.le_of_ble_eq_true rfl) (Nat.le_of_ble_eq_true rfl) (⟨(upd f 8 z215), a, rfl, (show TokOk (f 7) z215 (f 10) (f 11) (f 12) (f 13) (f 17) (a 4) from ⟨⟨o1, o2⟩, ⟨(oz_b3b25f0e49 tz215 g1), (oz_8964937ede g2 tz215)⟩, ⟨o5, o6⟩, ⟨o7, o8⟩, ⟨o9, o10⟩, ⟨o11, o12⟩, o13, hn4⟩), (show (f 7).toInt = (f 7).toInt from rfl), (show (f 10).toInt = (f 10).toInt from rfl), (show (f 15).toInt = (f 15).toInt from rfl), (show (256 : Int) = 19 ∨ (f 8).toInt + 1 ≤ z215.toInt from by first | with_reducible rfl | with_reducible assumption | omega), (show Q5 (a 5) from hq5)⟩) d_Tok_mark_131 | exact px_iret (v := 256) S hr rfl hlk hAe hw (Nat.le_of_ble_eq_true rfl) (Nat.le_of_ble_eq_true rfl) (⟨(upd f 8 z215), a, rfl, (show TokOk (f 7) z215 (f 10) (f 11) (f 12) (f 13) (f 17) (a 4) from ⟨⟨by first | exact o1 | omega, by first | exact o2 | omega⟩, ⟨by first | exact oz_b3b25f0e49 tz215 g1 | omega, by first | exact oz_8964937ede g2 tz215 | omega⟩, ⟨by first | exact o5 | omega, by first | exact o6 | omega⟩, ⟨by first | exact o7 | omega, by first | exact o8 | omega⟩, ⟨by first | exact o9 | omega, by first | exact o10 | omega⟩, ⟨by first | exact o11 | omega, by first | exact o12 | omega⟩, by first | exact o13 | omega, hn4⟩), (show (f 7).toInt = (f 7).toInt from rfl), (show (f 10).toInt = (f 10).toInt from rfl), (show (f 15).toInt = (f 15).toInt from rfl), (show (256 : Int) = 19 ∨ (f 8).toInt + 1 ≤ z215.toInt from by first | with_reducible rfl | with_reducible assumption | omega), (show Q5 (a 5) from hq5)⟩) d_Tok_mark_131
              · exact absurd c213 (by decide)
            · have nc212 : v208.toInt = (61 : Int) := (i_eq (x := v208) (y := 61)).mp c212
              refine lv_iload_n S.x S.b d_Tok_mark_99 rfl (lv_at hl 2 rfl) ?_
              refine px_calli (pr := [wd_Tok cs h r (fun _ => some tp) f a g, [(tp, .inl (cs 1, 2048, .inl tb))]]) (px_runS (As := [.int 256]) (rest := []) S (c_Tok_withEquals l D cs 256 _) hT (pr := [wd_Tok cs h r (fun _ => some tp) f a g, [(tp, .inl (cs 1, 2048, .inl tb))]]) (pcs := []) hw px_X.tt m4_67 m4_65 m4_66 m1_2 q_Tok_withEquals ⟨Nat.le_of_ble_eq_true rfl, Nat.le_of_ble_eq_true rfl⟩ hl.1 rfl (Nat.le_of_ble_eq_true rfl) d_Tok_mark_100 ⟨Nat.le_of_ble_eq_true rfl, Nat.le_of_ble_eq_true rfl⟩) hw hA (fun v219 p218 H locs hp218 hw => ?_)
              subst hp218
              have lv219 := Int32.le_toInt v219
              have uv219 := Int32.toInt_lt v219
              refine lv_goto (tgt := 107) S.x S.b d_Tok_mark_103 (by decide) ?_
              refine lv_istore (lv' := [(5, .int v219), (4, .int 0), (3, .int 1), (2, .int 256), (0, .ref h), (1, .int p0)]) S.x S.b d_Tok_mark_107 hl (by decide) rfl (fun ls hl => ?_)
              refine lv_iload S.x S.b d_Tok_mark_109 (lv_at hl 0 rfl) ?_
              refine lv_if_le (tgt := 120) S.x S.b d_Tok_mark_111 (by decide) (fun c220 => ?_) (fun c220 => ?_)
              · have nc220 : v219.toInt ≤ (0 : Int) := (i_le (x := v219) (y := 0)).mp c220
                refine lv_aload_n S.x S.b d_Tok_mark_120 rfl (lv_at hl 4 rfl) ?_
                refine lv_dup S.x S.b d_Tok_mark_121 rfl ?_
                refine px_get S k_Tok hT hw 0 0 8 (v := .int (f 8)) rfl rfl rfl (by decide) m1_111 d_Tok_mark_122 ?_
                refine lv_iload_n S.x S.b d_Tok_mark_125 rfl (lv_at hl 2 rfl) ?_
                refine lv_iadd S.x S.b d_Tok_mark_126 ?_
                have lr221 := Int32.le_toInt (f 8)
                have ur221 := Int32.toInt_lt (f 8)
                refine lv_topi (fun z222 ez222 => ?_)
                have tz222 : z222.toInt = ((f 8).toInt + (1 : Int) + 2147483648) % 4294967296 - 2147483648 := by rw [ez222]; exact i_add (f 8) 1
                have lz222 := Int32.le_toInt z222
                have uz222 := Int32.toInt_lt z222
                try replace tz222 : z222.toInt = (f 8).toInt + (1 : Int) := by omega
                refine px_put S k_Tok hT hw 0 0 8 rfl rfl (by decide) m1_111 rfl rfl rfl (Nat.le_of_ble_eq_true rfl) d_Tok_mark_127 (w' := wd_Tok cs h r (fun _ => some tp) (upd f 8 z222) a g) (ps' := [wd_Tok cs h r (fun _ => some tp) (upd f 8 z222) a g, [(tp, .inl (cs 1, 2048, .inl tb))]]) rfl rfl (fun H locs hw => ?_)
                refine lv_iload_n S.x S.b d_Tok_mark_130 rfl (lv_at hl 3 rfl) ?_
                first | exact px_iret (v := 256) S hr rfl hlk hAe hw (Nat.le_of_ble_eq_true rfl) (Nat.le_of_ble_eq_true rfl) (⟨(upd f 8 z222), a, rfl, (show TokOk (f 7) z222 (f 10) (f 11) (f 12) (f 13) (f 17) (a 4) from ⟨⟨o1, o2⟩, ⟨(oz_b3b25f0e49 tz222 g1), (oz_8964937ede g2 tz222)⟩, ⟨o5, o6⟩, ⟨o7, o8⟩, ⟨o9, o10⟩, ⟨o11, o12⟩, o13, hn4⟩), (show (f 7).toInt = (f 7).toInt from rfl), (show (f 10).toInt = (f 10).toInt from rfl), (show (f 15).toInt = (f 15).toInt from rfl), (show (256 : Int) = 19 ∨ (f 8).toInt + 1 ≤ z222.toInt from by first | with_reducible rfl | with_reducible assumption | omega), (show Q5 (a 5) from hq5)⟩) d_Tok_mark_131 | exact px_iret (v := 256) S hr rfl hlk hAe hw (Nat.le_of_ble_eq_true rfl) (Nat.le_of_ble_eq_true rfl) (⟨(upd f 8 z222), a, rfl, (show TokOk (f 7) z222 (f 10) (f 11) (f 12) (f 13) (f 17) (a 4) from ⟨⟨by first | exact o1 | omega, by first | exact o2 | omega⟩, ⟨by first | exact oz_b3b25f0e49 tz222 g1 | omega, by first | exact oz_8964937ede g2 tz222 | omega⟩, ⟨by first | exact o5 | omega, by first | exact o6 | omega⟩, ⟨by first | exact o7 | omega, by first | exact o8 | omega⟩, ⟨by first | exact o9 | omega, by first | exact o10 | omega⟩, ⟨by first | exact o11 | omega, by first | exact o12 | omega⟩, by first | exact o13 | omega, hn4⟩), (show (f 7).toInt = (f 7).toInt from rfl), (show (f 10).toInt = (f 10).toInt from rfl), (show (f 15).toInt = (f 15).toInt from rfl), (show (256 : Int) = 19 ∨ (f 8).toInt + 1 ≤ z222.toInt from by first | with_reducible rfl | with_reducible assumption | omega), (show Q5 (a 5) from hq5)⟩) d_Tok_mark_131
              · have nc220 : ¬ v219.toInt ≤ (0 : Int) := mt (i_le (x := v219) (y := 0)).mpr c220
                refine lv_iload S.x S.b d_Tok_mark_114 (lv_at hl 0 rfl) ?_
                refine lv_istore_n (lv' := [(2, .int v219), (5, .int v219), (4, .int 0), (3, .int 1), (0, .ref h), (1, .int p0)]) S.x S.b d_Tok_mark_116 rfl hl (by decide) rfl (fun ls hl => ?_)
                obtain ⟨z223, ez223⟩ : ∃ y : Int32, y = 1 + 1 := ⟨_, rfl⟩
                have tz223 : z223.toInt = ((1 : Int) + 1 + 2147483648) % 4294967296 - 2147483648 := by rw [ez223]; exact i_add 1 1
                have lz223 := Int32.le_toInt z223
                have uz223 := Int32.toInt_lt z223
                try replace tz223 : z223.toInt = (1 : Int) + 1 := by omega
                refine lv_iinc (v := z223) (lv' := [(3, .int z223), (2, .int v219), (5, .int v219), (4, .int 0), (0, .ref h), (1, .int p0)]) S.x S.b d_Tok_mark_117 hl (k := 3) rfl (by rw [ez223]; rfl) (by decide) rfl (fun ls hl => ?_)
                refine lv_aload_n S.x S.b d_Tok_mark_120 rfl (lv_at hl 4 rfl) ?_
                refine lv_dup S.x S.b d_Tok_mark_121 rfl ?_
                refine px_get S k_Tok hT hw 0 0 8 (v := .int (f 8)) rfl rfl rfl (by decide) m1_111 d_Tok_mark_122 ?_
                refine lv_iload_n S.x S.b d_Tok_mark_125 rfl (lv_at hl 0 rfl) ?_
                refine lv_iadd S.x S.b d_Tok_mark_126 ?_
                have lr224 := Int32.le_toInt (f 8)
                have ur224 := Int32.toInt_lt (f 8)
                refine lv_topi (fun z225 ez225 => ?_)
                have tz225 : z225.toInt = ((f 8).toInt + z223.toInt + 2147483648) % 4294967296 - 2147483648 := by rw [ez225]; exact i_add (f 8) z223
                have lz225 := Int32.le_toInt z225
                have uz225 := Int32.toInt_lt z225
                try replace tz225 : z225.toInt = (f 8).toInt + z223.toInt := by omega
                refine px_put S k_Tok hT hw 0 0 8 rfl rfl (by decide) m1_111 rfl rfl rfl (Nat.le_of_ble_eq_true rfl) d_Tok_mark_127 (w' := wd_Tok cs h r (fun _ => some tp) (upd f 8 z225) a g) (ps' := [wd_Tok cs h r (fun _ => some tp) (upd f 8 z225) a g, [(tp, .inl (cs 1, 2048, .inl tb))]]) rfl rfl (fun H locs hw => ?_)
                refine lv_iload_n S.x S.b d_Tok_mark_130 rfl (lv_at hl 1 rfl) ?_
                first | exact px_iret (v := v219) S hr rfl hlk hAe hw (Nat.le_of_ble_eq_true rfl) (Nat.le_of_ble_eq_true rfl) (⟨(upd f 8 z225), a, rfl, (show TokOk (f 7) z225 (f 10) (f 11) (f 12) (f 13) (f 17) (a 4) from ⟨⟨o1, o2⟩, ⟨(oz_0aba5895db tz225 g1 tz223), (oz_034949d2cd g2 tz225 tz223)⟩, ⟨o5, o6⟩, ⟨o7, o8⟩, ⟨o9, o10⟩, ⟨o11, o12⟩, o13, hn4⟩), (show (f 7).toInt = (f 7).toInt from rfl), (show (f 10).toInt = (f 10).toInt from rfl), (show (f 15).toInt = (f 15).toInt from rfl), (show v219.toInt = 19 ∨ (f 8).toInt + 1 ≤ z225.toInt from by first | with_reducible rfl | with_reducible assumption | omega), (show Q5 (a 5) from hq5)⟩) d_Tok_mark_131 | exact px_iret (v := v219) S hr rfl hlk hAe hw (Nat.le_of_ble_eq_true rfl) (Nat.le_of_ble_eq_true rfl) (⟨(upd f 8 z225), a, rfl, (show TokOk (f 7) z225 (f 10) (f 11) (f 12) (f 13) (f 17) (a 4) from ⟨⟨by first | exact o1 | omega, by first | exact o2 | omega⟩, ⟨by first | exact oz_0aba5895db tz225 g1 tz223 | omega, by first | exact oz_034949d2cd g2 tz225 tz223 | omega⟩, ⟨by first | exact o5 | omega, by first | exact o6 | omega⟩, ⟨by first | exact o7 | omega, by first | exact o8 | omega⟩, ⟨by first | exact o9 | omega, by first | exact o10 | omega⟩, ⟨by first | exact o11 | omega, by first | exact o12 | omega⟩, by first | exact o13 | omega, hn4⟩), (show (f 7).toInt = (f 7).toInt from rfl), (show (f 10).toInt = (f 10).toInt from rfl), (show (f 15).toInt = (f 15).toInt from rfl), (show v219.toInt = 19 ∨ (f 8).toInt + 1 ≤ z225.toInt from by first | with_reducible rfl | with_reducible assumption | omega), (show Q5 (a 5) from hq5)⟩) d_Tok_mark_131
          · exact absurd c202 (by decide)
        · have nc201 : v197.toInt = p0.toInt := (i_eq (x := v197) (y := p0)).mp c201
          refine lv_iload_n S.x S.b d_Tok_mark_64 rfl (lv_at hl 3 rfl) ?_
          refine px_calli (pr := [wd_Tok cs h r (fun _ => some tp) f a g, [(tp, .inl (cs 1, 2048, .inl tb))]]) (px_runS (As := [.int p0]) (rest := []) S (c_Tok_doubled l D cs p0 _) hT (pr := [wd_Tok cs h r (fun _ => some tp) f a g, [(tp, .inl (cs 1, 2048, .inl tb))]]) (pcs := []) hw px_X.tt m4_64 m4_62 m4_63 m1_2 q_Tok_doubled ⟨Nat.le_of_ble_eq_true rfl, Nat.le_of_ble_eq_true rfl⟩ hl.1 rfl (Nat.le_of_ble_eq_true rfl) d_Tok_mark_65 ⟨Nat.le_of_ble_eq_true rfl, Nat.le_of_ble_eq_true rfl⟩) hw hA (fun v229 p228 H locs hp228 hw => ?_)
          subst hp228
          have lv229 := Int32.le_toInt v229
          have uv229 := Int32.toInt_lt v229
          refine lv_goto (tgt := 72) S.x S.b d_Tok_mark_68 (by decide) ?_
          refine lv_istore (lv' := [(4, .int v229), (3, .int 1), (2, .int 256), (0, .ref h), (1, .int p0)]) S.x S.b d_Tok_mark_72 hl (by decide) rfl (fun ls hl => ?_)
          refine lv_iload S.x S.b d_Tok_mark_74 (lv_at hl 0 rfl) ?_
          refine lv_if_le (tgt := 84) S.x S.b d_Tok_mark_76 (by decide) (fun c230 => ?_) (fun c230 => ?_)
          · have nc230 : v229.toInt ≤ (0 : Int) := (i_le (x := v229) (y := 0)).mp c230
            refine lv_aload_n S.x S.b d_Tok_mark_84 rfl (lv_at hl 3 rfl) ?_
            refine lv_aload_n S.x S.b d_Tok_mark_85 rfl (lv_at hl 3 rfl) ?_
            refine px_get S k_Tok hT hw 0 0 8 (v := .int (f 8)) rfl rfl rfl (by decide) m1_111 d_Tok_mark_86 ?_
            refine lv_iload_n S.x S.b d_Tok_mark_89 rfl (lv_at hl 1 rfl) ?_
            refine lv_iadd S.x S.b d_Tok_mark_90 ?_
            have lr231 := Int32.le_toInt (f 8)
            have ur231 := Int32.toInt_lt (f 8)
            refine lv_topi (fun z232 ez232 => ?_)
            have tz232 : z232.toInt = ((f 8).toInt + (1 : Int) + 2147483648) % 4294967296 - 2147483648 := by rw [ez232]; exact i_add (f 8) 1
            have lz232 := Int32.le_toInt z232
            have uz232 := Int32.toInt_lt z232
            try replace tz232 : z232.toInt = (f 8).toInt + (1 : Int) := by omega
            first | refine px_calli (pr := []) (px_runV (As := [.int z232]) (rest := []) S (c_Tok_byteAt l D cs h r tp tb f a g z232 (show TokOk (f 7) (f 8) (f 10) (f 11) (f 12) (f 13) (f 17) (a 4) from ⟨⟨o1, o2⟩, ⟨g1, o4⟩, ⟨o5, o6⟩, ⟨o7, o8⟩, ⟨o9, o10⟩, ⟨o11, o12⟩, o13, hn4⟩)  _) hT (pr := []) (pcs := [wd_Tok cs h r (fun _ => some tp) f a g, [(tp, .inl (cs 1, 2048, .inl tb))]]) hw px_X.tt (px_recv hT hw 0 0 rfl rfl rfl) m3_186 m3_183 m3_185 ms_1_6 m1_2 q_Tok_byteAt ⟨Nat.le_of_ble_eq_true rfl, Nat.le_of_ble_eq_true rfl⟩ hl.1 rfl (Nat.le_of_ble_eq_true rfl) d_Tok_mark_91 ⟨Nat.le_of_ble_eq_true rfl, Nat.le_of_ble_eq_true rfl⟩) hw hA (fun v236 p235 H locs hp235 hw => ?_) | refine px_calli (pr := []) (px_runV (As := [.int z232]) (rest := []) S (c_Tok_byteAt l D cs h r tp tb f a g z232 (show TokOk (f 7) (f 8) (f 10) (f 11) (f 12) (f 13) (f 17) (a 4) from ⟨⟨by first | exact o1 | omega, by first | exact o2 | omega⟩, ⟨by first | exact g1 | omega, by first | exact o4 | omega⟩, ⟨by first | exact o5 | omega, by first | exact o6 | omega⟩, ⟨by first | exact o7 | omega, by first | exact o8 | omega⟩, ⟨by first | exact o9 | omega, by first | exact o10 | omega⟩, ⟨by first | exact o11 | omega, by first | exact o12 | omega⟩, by first | exact o13 | omega, hn4⟩)  _) hT (pr := []) (pcs := [wd_Tok cs h r (fun _ => some tp) f a g, [(tp, .inl (cs 1, 2048, .inl tb))]]) hw px_X.tt (px_recv hT hw 0 0 rfl rfl rfl) m3_186 m3_183 m3_185 ms_1_6 m1_2 q_Tok_byteAt ⟨Nat.le_of_ble_eq_true rfl, Nat.le_of_ble_eq_true rfl⟩ hl.1 rfl (Nat.le_of_ble_eq_true rfl) d_Tok_mark_91 ⟨Nat.le_of_ble_eq_true rfl, Nat.le_of_ble_eq_true rfl⟩) hw hA (fun v236 p235 H locs hp235 hw => ?_)
            obtain ⟨rfl, e237, e238, e239⟩ := hp235
            have e237 : -1 ≤ v236.toInt := e237
            have e238 : v236.toInt ≤ 255 := e238
            have e239 : 0 ≤ v236.toInt → 0 ≤ z232.toInt ∧ z232.toInt < (f 7).toInt := e239
            have lv236 := Int32.le_toInt v236
            have uv236 := Int32.toInt_lt v236
            refine lv_bipush (v := 61) S.x S.b d_Tok_mark_94 (by decide) ?_
            refine lv_icmp_ne (tgt := 106) S.x S.b d_Tok_mark_96 (by decide) (fun c240 => ?_) (fun c240 => ?_)
            · have nc240 : ¬ v236.toInt = (61 : Int) := mt (i_eq (x := v236) (y := 61)).mpr c240
              refine lv_iconst (v := 0) S.x S.b d_Tok_mark_106 (by decide) ?_
              refine lv_istore (lv' := [(5, .int 0), (4, .int v229), (3, .int 1), (2, .int 256), (0, .ref h), (1, .int p0)]) S.x S.b d_Tok_mark_107 hl (by decide) rfl (fun ls hl => ?_)
              refine lv_iload S.x S.b d_Tok_mark_109 (lv_at hl 0 rfl) ?_
              refine lv_if_le (tgt := 120) S.x S.b d_Tok_mark_111 (by decide) (fun c241 => ?_) (fun c241 => ?_)
              ·
                refine lv_aload_n S.x S.b d_Tok_mark_120 rfl (lv_at hl 4 rfl) ?_
                refine lv_dup S.x S.b d_Tok_mark_121 rfl ?_
                refine px_get S k_Tok hT hw 0 0 8 (v := .int (f 8)) rfl rfl rfl (by decide) m1_111 d_Tok_mark_122 ?_
                refine lv_iload_n S.x S.b d_Tok_mark_125 rfl (lv_at hl 2 rfl) ?_
                refine lv_iadd S.x S.b d_Tok_mark_126 ?_
                have lr242 := Int32.le_toInt (f 8)
                have ur242 := Int32.toInt_lt (f 8)
                refine lv_topi (fun z243 ez243 => ?_)
                have tz243 : z243.toInt = ((f 8).toInt + (1 : Int) + 2147483648) % 4294967296 - 2147483648 := by rw [ez243]; exact i_add (f 8) 1
                have lz243 := Int32.le_toInt z243
                have uz243 := Int32.toInt_lt z243
                try replace tz243 : z243.toInt = (f 8).toInt + (1 : Int) := by omega
                refine px_put S k_Tok hT hw 0 0 8 rfl rfl (by decide) m1_111 rfl rfl rfl (Nat.le_of_ble_eq_true rfl) d_Tok_mark_127 (w' := wd_Tok cs h r (fun _ => some tp) (upd f 8 z243) a g) (ps' := [wd_Tok cs h r (fun _ => some tp) (upd f 8 z243) a g, [(tp, .inl (cs 1, 2048, .inl tb))]]) rfl rfl (fun H locs hw => ?_)
                refine lv_iload_n S.x S.b d_Tok_mark_130 rfl (lv_at hl 3 rfl) ?_
                first | exact px_iret (v := 256) S hr rfl hlk hAe hw (Nat.le_of_ble_eq_true rfl) (Nat.le_of_ble_eq_true rfl) (⟨(upd f 8 z243), a, rfl, (show TokOk (f 7) z243 (f 10) (f 11) (f 12) (f 13) (f 17) (a 4) from ⟨⟨o1, o2⟩, ⟨(oz_b3b25f0e49 tz243 g1), (oz_8964937ede g2 tz243)⟩, ⟨o5, o6⟩, ⟨o7, o8⟩, ⟨o9, o10⟩, ⟨o11, o12⟩, o13, hn4⟩), (show (f 7).toInt = (f 7).toInt from rfl), (show (f 10).toInt = (f 10).toInt from rfl), (show (f 15).toInt = (f 15).toInt from rfl), (show (256 : Int) = 19 ∨ (f 8).toInt + 1 ≤ z243.toInt from by first | with_reducible rfl | with_reducible assumption | omega), (show Q5 (a 5) from hq5)⟩) d_Tok_mark_131 | exact px_iret (v := 256) S hr rfl hlk hAe hw (Nat.le_of_ble_eq_true rfl) (Nat.le_of_ble_eq_true rfl) (⟨(upd f 8 z243), a, rfl, (show TokOk (f 7) z243 (f 10) (f 11) (f 12) (f 13) (f 17) (a 4) from ⟨⟨by first | exact o1 | omega, by first | exact o2 | omega⟩, ⟨by first | exact oz_b3b25f0e49 tz243 g1 | omega, by first | exact oz_8964937ede g2 tz243 | omega⟩, ⟨by first | exact o5 | omega, by first | exact o6 | omega⟩, ⟨by first | exact o7 | omega, by first | exact o8 | omega⟩, ⟨by first | exact o9 | omega, by first | exact o10 | omega⟩, ⟨by first | exact o11 | omega, by first | exact o12 | omega⟩, by first | exact o13 | omega, hn4⟩), (show (f 7).toInt = (f 7).toInt from rfl), (show (f 10).toInt = (f 10).toInt from rfl), (show (f 15).toInt = (f 15).toInt from rfl), (show (256 : Int) = 19 ∨ (f 8).toInt + 1 ≤ z243.toInt from by first | with_reducible rfl | with_reducible assumption | omega), (show Q5 (a 5) from hq5)⟩) d_Tok_mark_131
              · exact absurd c241 (by decide)
            · have nc240 : v236.toInt = (61 : Int) := (i_eq (x := v236) (y := 61)).mp c240
              refine lv_iload_n S.x S.b d_Tok_mark_99 rfl (lv_at hl 2 rfl) ?_
              refine px_calli (pr := [wd_Tok cs h r (fun _ => some tp) f a g, [(tp, .inl (cs 1, 2048, .inl tb))]]) (px_runS (As := [.int 256]) (rest := []) S (c_Tok_withEquals l D cs 256 _) hT (pr := [wd_Tok cs h r (fun _ => some tp) f a g, [(tp, .inl (cs 1, 2048, .inl tb))]]) (pcs := []) hw px_X.tt m4_67 m4_65 m4_66 m1_2 q_Tok_withEquals ⟨Nat.le_of_ble_eq_true rfl, Nat.le_of_ble_eq_true rfl⟩ hl.1 rfl (Nat.le_of_ble_eq_true rfl) d_Tok_mark_100 ⟨Nat.le_of_ble_eq_true rfl, Nat.le_of_ble_eq_true rfl⟩) hw hA (fun v247 p246 H locs hp246 hw => ?_)
              subst hp246
              have lv247 := Int32.le_toInt v247
              have uv247 := Int32.toInt_lt v247
              refine lv_goto (tgt := 107) S.x S.b d_Tok_mark_103 (by decide) ?_
              refine lv_istore (lv' := [(5, .int v247), (4, .int v229), (3, .int 1), (2, .int 256), (0, .ref h), (1, .int p0)]) S.x S.b d_Tok_mark_107 hl (by decide) rfl (fun ls hl => ?_)
              refine lv_iload S.x S.b d_Tok_mark_109 (lv_at hl 0 rfl) ?_
              refine lv_if_le (tgt := 120) S.x S.b d_Tok_mark_111 (by decide) (fun c248 => ?_) (fun c248 => ?_)
              · have nc248 : v247.toInt ≤ (0 : Int) := (i_le (x := v247) (y := 0)).mp c248
                refine lv_aload_n S.x S.b d_Tok_mark_120 rfl (lv_at hl 4 rfl) ?_
                refine lv_dup S.x S.b d_Tok_mark_121 rfl ?_
                refine px_get S k_Tok hT hw 0 0 8 (v := .int (f 8)) rfl rfl rfl (by decide) m1_111 d_Tok_mark_122 ?_
                refine lv_iload_n S.x S.b d_Tok_mark_125 rfl (lv_at hl 2 rfl) ?_
                refine lv_iadd S.x S.b d_Tok_mark_126 ?_
                have lr249 := Int32.le_toInt (f 8)
                have ur249 := Int32.toInt_lt (f 8)
                refine lv_topi (fun z250 ez250 => ?_)
                have tz250 : z250.toInt = ((f 8).toInt + (1 : Int) + 2147483648) % 4294967296 - 2147483648 := by rw [ez250]; exact i_add (f 8) 1
                have lz250 := Int32.le_toInt z250
                have uz250 := Int32.toInt_lt z250
                try replace tz250 : z250.toInt = (f 8).toInt + (1 : Int) := by omega
                refine px_put S k_Tok hT hw 0 0 8 rfl rfl (by decide) m1_111 rfl rfl rfl (Nat.le_of_ble_eq_true rfl) d_Tok_mark_127 (w' := wd_Tok cs h r (fun _ => some tp) (upd f 8 z250) a g) (ps' := [wd_Tok cs h r (fun _ => some tp) (upd f 8 z250) a g, [(tp, .inl (cs 1, 2048, .inl tb))]]) rfl rfl (fun H locs hw => ?_)
                refine lv_iload_n S.x S.b d_Tok_mark_130 rfl (lv_at hl 3 rfl) ?_
                first | exact px_iret (v := 256) S hr rfl hlk hAe hw (Nat.le_of_ble_eq_true rfl) (Nat.le_of_ble_eq_true rfl) (⟨(upd f 8 z250), a, rfl, (show TokOk (f 7) z250 (f 10) (f 11) (f 12) (f 13) (f 17) (a 4) from ⟨⟨o1, o2⟩, ⟨(oz_b3b25f0e49 tz250 g1), (oz_8964937ede g2 tz250)⟩, ⟨o5, o6⟩, ⟨o7, o8⟩, ⟨o9, o10⟩, ⟨o11, o12⟩, o13, hn4⟩), (show (f 7).toInt = (f 7).toInt from rfl), (show (f 10).toInt = (f 10).toInt from rfl), (show (f 15).toInt = (f 15).toInt from rfl), (show (256 : Int) = 19 ∨ (f 8).toInt + 1 ≤ z250.toInt from by first | with_reducible rfl | with_reducible assumption | omega), (show Q5 (a 5) from hq5)⟩) d_Tok_mark_131 | exact px_iret (v := 256) S hr rfl hlk hAe hw (Nat.le_of_ble_eq_true rfl) (Nat.le_of_ble_eq_true rfl) (⟨(upd f 8 z250), a, rfl, (show TokOk (f 7) z250 (f 10) (f 11) (f 12) (f 13) (f 17) (a 4) from ⟨⟨by first | exact o1 | omega, by first | exact o2 | omega⟩, ⟨by first | exact oz_b3b25f0e49 tz250 g1 | omega, by first | exact oz_8964937ede g2 tz250 | omega⟩, ⟨by first | exact o5 | omega, by first | exact o6 | omega⟩, ⟨by first | exact o7 | omega, by first | exact o8 | omega⟩, ⟨by first | exact o9 | omega, by first | exact o10 | omega⟩, ⟨by first | exact o11 | omega, by first | exact o12 | omega⟩, by first | exact o13 | omega, hn4⟩), (show (f 7).toInt = (f 7).toInt from rfl), (show (f 10).toInt = (f 10).toInt from rfl), (show (f 15).toInt = (f 15).toInt from rfl), (show (256 : Int) = 19 ∨ (f 8).toInt + 1 ≤ z250.toInt from by first | with_reducible rfl | with_reducible assumption | omega), (show Q5 (a 5) from hq5)⟩) d_Tok_mark_131
              · have nc248 : ¬ v247.toInt ≤ (0 : Int) := mt (i_le (x := v247) (y := 0)).mpr c248
                refine lv_iload S.x S.b d_Tok_mark_114 (lv_at hl 0 rfl) ?_
                refine lv_istore_n (lv' := [(2, .int v247), (5, .int v247), (4, .int v229), (3, .int 1), (0, .ref h), (1, .int p0)]) S.x S.b d_Tok_mark_116 rfl hl (by decide) rfl (fun ls hl => ?_)
                obtain ⟨z251, ez251⟩ : ∃ y : Int32, y = 1 + 1 := ⟨_, rfl⟩
                have tz251 : z251.toInt = ((1 : Int) + 1 + 2147483648) % 4294967296 - 2147483648 := by rw [ez251]; exact i_add 1 1
                have lz251 := Int32.le_toInt z251
                have uz251 := Int32.toInt_lt z251
                try replace tz251 : z251.toInt = (1 : Int) + 1 := by omega
                refine lv_iinc (v := z251) (lv' := [(3, .int z251), (2, .int v247), (5, .int v247), (4, .int v229), (0, .ref h), (1, .int p0)]) S.x S.b d_Tok_mark_117 hl (k := 3) rfl (by rw [ez251]; rfl) (by decide) rfl (fun ls hl => ?_)
                refine lv_aload_n S.x S.b d_Tok_mark_120 rfl (lv_at hl 4 rfl) ?_
                refine lv_dup S.x S.b d_Tok_mark_121 rfl ?_
                refine px_get S k_Tok hT hw 0 0 8 (v := .int (f 8)) rfl rfl rfl (by decide) m1_111 d_Tok_mark_122 ?_
                refine lv_iload_n S.x S.b d_Tok_mark_125 rfl (lv_at hl 0 rfl) ?_
                refine lv_iadd S.x S.b d_Tok_mark_126 ?_
                have lr252 := Int32.le_toInt (f 8)
                have ur252 := Int32.toInt_lt (f 8)
                refine lv_topi (fun z253 ez253 => ?_)
                have tz253 : z253.toInt = ((f 8).toInt + z251.toInt + 2147483648) % 4294967296 - 2147483648 := by rw [ez253]; exact i_add (f 8) z251
                have lz253 := Int32.le_toInt z253
                have uz253 := Int32.toInt_lt z253
                try replace tz253 : z253.toInt = (f 8).toInt + z251.toInt := by omega
                refine px_put S k_Tok hT hw 0 0 8 rfl rfl (by decide) m1_111 rfl rfl rfl (Nat.le_of_ble_eq_true rfl) d_Tok_mark_127 (w' := wd_Tok cs h r (fun _ => some tp) (upd f 8 z253) a g) (ps' := [wd_Tok cs h r (fun _ => some tp) (upd f 8 z253) a g, [(tp, .inl (cs 1, 2048, .inl tb))]]) rfl rfl (fun H locs hw => ?_)
                refine lv_iload_n S.x S.b d_Tok_mark_130 rfl (lv_at hl 1 rfl) ?_
                first | exact px_iret (v := v247) S hr rfl hlk hAe hw (Nat.le_of_ble_eq_true rfl) (Nat.le_of_ble_eq_true rfl) (⟨(upd f 8 z253), a, rfl, (show TokOk (f 7) z253 (f 10) (f 11) (f 12) (f 13) (f 17) (a 4) from ⟨⟨o1, o2⟩, ⟨(oz_0aba5895db tz253 g1 tz251), (oz_034949d2cd g2 tz253 tz251)⟩, ⟨o5, o6⟩, ⟨o7, o8⟩, ⟨o9, o10⟩, ⟨o11, o12⟩, o13, hn4⟩), (show (f 7).toInt = (f 7).toInt from rfl), (show (f 10).toInt = (f 10).toInt from rfl), (show (f 15).toInt = (f 15).toInt from rfl), (show v247.toInt = 19 ∨ (f 8).toInt + 1 ≤ z253.toInt from by first | with_reducible rfl | with_reducible assumption | omega), (show Q5 (a 5) from hq5)⟩) d_Tok_mark_131 | exact px_iret (v := v247) S hr rfl hlk hAe hw (Nat.le_of_ble_eq_true rfl) (Nat.le_of_ble_eq_true rfl) (⟨(upd f 8 z253), a, rfl, (show TokOk (f 7) z253 (f 10) (f 11) (f 12) (f 13) (f 17) (a 4) from ⟨⟨by first | exact o1 | omega, by first | exact o2 | omega⟩, ⟨by first | exact oz_0aba5895db tz253 g1 tz251 | omega, by first | exact oz_034949d2cd g2 tz253 tz251 | omega⟩, ⟨by first | exact o5 | omega, by first | exact o6 | omega⟩, ⟨by first | exact o7 | omega, by first | exact o8 | omega⟩, ⟨by first | exact o9 | omega, by first | exact o10 | omega⟩, ⟨by first | exact o11 | omega, by first | exact o12 | omega⟩, by first | exact o13 | omega, hn4⟩), (show (f 7).toInt = (f 7).toInt from rfl), (show (f 10).toInt = (f 10).toInt from rfl), (show (f 15).toInt = (f 15).toInt from rfl), (show v247.toInt = 19 ∨ (f 8).toInt + 1 ≤ z253.toInt from by first | with_reducible rfl | with_reducible assumption | omega), (show Q5 (a 5) from hq5)⟩) d_Tok_mark_131
          · have nc230 : ¬ v229.toInt ≤ (0 : Int) := mt (i_le (x := v229) (y := 0)).mpr c230
            refine lv_iload S.x S.b d_Tok_mark_79 (lv_at hl 0 rfl) ?_
            refine lv_istore_n (lv' := [(2, .int v229), (4, .int v229), (3, .int 1), (0, .ref h), (1, .int p0)]) S.x S.b d_Tok_mark_81 rfl hl (by decide) rfl (fun ls hl => ?_)
            refine lv_iconst (v := 2) S.x S.b d_Tok_mark_82 (by decide) ?_
            refine lv_istore_n (lv' := [(3, .int 2), (2, .int v229), (4, .int v229), (0, .ref h), (1, .int p0)]) S.x S.b d_Tok_mark_83 rfl hl (by decide) rfl (fun ls hl => ?_)
            refine lv_aload_n S.x S.b d_Tok_mark_84 rfl (lv_at hl 3 rfl) ?_
            refine lv_aload_n S.x S.b d_Tok_mark_85 rfl (lv_at hl 3 rfl) ?_
            refine px_get S k_Tok hT hw 0 0 8 (v := .int (f 8)) rfl rfl rfl (by decide) m1_111 d_Tok_mark_86 ?_
            refine lv_iload_n S.x S.b d_Tok_mark_89 rfl (lv_at hl 0 rfl) ?_
            refine lv_iadd S.x S.b d_Tok_mark_90 ?_
            have lr254 := Int32.le_toInt (f 8)
            have ur254 := Int32.toInt_lt (f 8)
            refine lv_topi (fun z255 ez255 => ?_)
            have tz255 : z255.toInt = ((f 8).toInt + (2 : Int) + 2147483648) % 4294967296 - 2147483648 := by rw [ez255]; exact i_add (f 8) 2
            have lz255 := Int32.le_toInt z255
            have uz255 := Int32.toInt_lt z255
            try replace tz255 : z255.toInt = (f 8).toInt + (2 : Int) := by omega
            first | refine px_calli (pr := []) (px_runV (As := [.int z255]) (rest := []) S (c_Tok_byteAt l D cs h r tp tb f a g z255 (show TokOk (f 7) (f 8) (f 10) (f 11) (f 12) (f 13) (f 17) (a 4) from ⟨⟨o1, o2⟩, ⟨g1, o4⟩, ⟨o5, o6⟩, ⟨o7, o8⟩, ⟨o9, o10⟩, ⟨o11, o12⟩, o13, hn4⟩)  _) hT (pr := []) (pcs := [wd_Tok cs h r (fun _ => some tp) f a g, [(tp, .inl (cs 1, 2048, .inl tb))]]) hw px_X.tt (px_recv hT hw 0 0 rfl rfl rfl) m3_186 m3_183 m3_185 ms_1_6 m1_2 q_Tok_byteAt ⟨Nat.le_of_ble_eq_true rfl, Nat.le_of_ble_eq_true rfl⟩ hl.1 rfl (Nat.le_of_ble_eq_true rfl) d_Tok_mark_91 ⟨Nat.le_of_ble_eq_true rfl, Nat.le_of_ble_eq_true rfl⟩) hw hA (fun v259 p258 H locs hp258 hw => ?_) | refine px_calli (pr := []) (px_runV (As := [.int z255]) (rest := []) S (c_Tok_byteAt l D cs h r tp tb f a g z255 (show TokOk (f 7) (f 8) (f 10) (f 11) (f 12) (f 13) (f 17) (a 4) from ⟨⟨by first | exact o1 | omega, by first | exact o2 | omega⟩, ⟨by first | exact g1 | omega, by first | exact o4 | omega⟩, ⟨by first | exact o5 | omega, by first | exact o6 | omega⟩, ⟨by first | exact o7 | omega, by first | exact o8 | omega⟩, ⟨by first | exact o9 | omega, by first | exact o10 | omega⟩, ⟨by first | exact o11 | omega, by first | exact o12 | omega⟩, by first | exact o13 | omega, hn4⟩)  _) hT (pr := []) (pcs := [wd_Tok cs h r (fun _ => some tp) f a g, [(tp, .inl (cs 1, 2048, .inl tb))]]) hw px_X.tt (px_recv hT hw 0 0 rfl rfl rfl) m3_186 m3_183 m3_185 ms_1_6 m1_2 q_Tok_byteAt ⟨Nat.le_of_ble_eq_true rfl, Nat.le_of_ble_eq_true rfl⟩ hl.1 rfl (Nat.le_of_ble_eq_true rfl) d_Tok_mark_91 ⟨Nat.le_of_ble_eq_true rfl, Nat.le_of_ble_eq_true rfl⟩) hw hA (fun v259 p258 H locs hp258 hw => ?_)
            obtain ⟨rfl, e260, e261, e262⟩ := hp258
            have e260 : -1 ≤ v259.toInt := e260
            have e261 : v259.toInt ≤ 255 := e261
            have e262 : 0 ≤ v259.toInt → 0 ≤ z255.toInt ∧ z255.toInt < (f 7).toInt := e262
            have lv259 := Int32.le_toInt v259
            have uv259 := Int32.toInt_lt v259
            refine lv_bipush (v := 61) S.x S.b d_Tok_mark_94 (by decide) ?_
            refine lv_icmp_ne (tgt := 106) S.x S.b d_Tok_mark_96 (by decide) (fun c263 => ?_) (fun c263 => ?_)
            · have nc263 : ¬ v259.toInt = (61 : Int) := mt (i_eq (x := v259) (y := 61)).mpr c263
              refine lv_iconst (v := 0) S.x S.b d_Tok_mark_106 (by decide) ?_
              refine lv_istore (lv' := [(5, .int 0), (3, .int 2), (2, .int v229), (4, .int v229), (0, .ref h), (1, .int p0)]) S.x S.b d_Tok_mark_107 hl (by decide) rfl (fun ls hl => ?_)
              refine lv_iload S.x S.b d_Tok_mark_109 (lv_at hl 0 rfl) ?_
              refine lv_if_le (tgt := 120) S.x S.b d_Tok_mark_111 (by decide) (fun c264 => ?_) (fun c264 => ?_)
              ·
                refine lv_aload_n S.x S.b d_Tok_mark_120 rfl (lv_at hl 4 rfl) ?_
                refine lv_dup S.x S.b d_Tok_mark_121 rfl ?_
                refine px_get S k_Tok hT hw 0 0 8 (v := .int (f 8)) rfl rfl rfl (by decide) m1_111 d_Tok_mark_122 ?_
                refine lv_iload_n S.x S.b d_Tok_mark_125 rfl (lv_at hl 1 rfl) ?_
                refine lv_iadd S.x S.b d_Tok_mark_126 ?_
                have lr265 := Int32.le_toInt (f 8)
                have ur265 := Int32.toInt_lt (f 8)
                refine lv_topi (fun z266 ez266 => ?_)
                have tz266 : z266.toInt = ((f 8).toInt + (2 : Int) + 2147483648) % 4294967296 - 2147483648 := by rw [ez266]; exact i_add (f 8) 2
                have lz266 := Int32.le_toInt z266
                have uz266 := Int32.toInt_lt z266
                try replace tz266 : z266.toInt = (f 8).toInt + (2 : Int) := by omega
                refine px_put S k_Tok hT hw 0 0 8 rfl rfl (by decide) m1_111 rfl rfl rfl (Nat.le_of_ble_eq_true rfl) d_Tok_mark_127 (w' := wd_Tok cs h r (fun _ => some tp) (upd f 8 z266) a g) (ps' := [wd_Tok cs h r (fun _ => some tp) (upd f 8 z266) a g, [(tp, .inl (cs 1, 2048, .inl tb))]]) rfl rfl (fun H locs hw => ?_)
                refine lv_iload_n S.x S.b d_Tok_mark_130 rfl (lv_at hl 2 rfl) ?_
                first | exact px_iret (v := v229) S hr rfl hlk hAe hw (Nat.le_of_ble_eq_true rfl) (Nat.le_of_ble_eq_true rfl) (⟨(upd f 8 z266), a, rfl, (show TokOk (f 7) z266 (f 10) (f 11) (f 12) (f 13) (f 17) (a 4) from ⟨⟨o1, o2⟩, ⟨(oz_6c4a1e09c3 tz266 g1), (oz_26c995f1f8 g2 tz266)⟩, ⟨o5, o6⟩, ⟨o7, o8⟩, ⟨o9, o10⟩, ⟨o11, o12⟩, o13, hn4⟩), (show (f 7).toInt = (f 7).toInt from rfl), (show (f 10).toInt = (f 10).toInt from rfl), (show (f 15).toInt = (f 15).toInt from rfl), (show v229.toInt = 19 ∨ (f 8).toInt + 1 ≤ z266.toInt from by first | with_reducible rfl | with_reducible assumption | omega), (show Q5 (a 5) from hq5)⟩) d_Tok_mark_131 | exact px_iret (v := v229) S hr rfl hlk hAe hw (Nat.le_of_ble_eq_true rfl) (Nat.le_of_ble_eq_true rfl) (⟨(upd f 8 z266), a, rfl, (show TokOk (f 7) z266 (f 10) (f 11) (f 12) (f 13) (f 17) (a 4) from ⟨⟨by first | exact o1 | omega, by first | exact o2 | omega⟩, ⟨by first | exact oz_6c4a1e09c3 tz266 g1 | omega, by first | exact oz_26c995f1f8 g2 tz266 | omega⟩, ⟨by first | exact o5 | omega, by first | exact o6 | omega⟩, ⟨by first | exact o7 | omega, by first | exact o8 | omega⟩, ⟨by first | exact o9 | omega, by first | exact o10 | omega⟩, ⟨by first | exact o11 | omega, by first | exact o12 | omega⟩, by first | exact o13 | omega, hn4⟩), (show (f 7).toInt = (f 7).toInt from rfl), (show (f 10).toInt = (f 10).toInt from rfl), (show (f 15).toInt = (f 15).toInt from rfl), (show v229.toInt = 19 ∨ (f 8).toInt + 1 ≤ z266.toInt from by first | with_reducible rfl | with_reducible assumption | omega), (show Q5 (a 5) from hq5)⟩) d_Tok_mark_131
              · exact absurd c264 (by decide)
            · have nc263 : v259.toInt = (61 : Int) := (i_eq (x := v259) (y := 61)).mp c263
              refine lv_iload_n S.x S.b d_Tok_mark_99 rfl (lv_at hl 1 rfl) ?_
              refine px_calli (pr := [wd_Tok cs h r (fun _ => some tp) f a g, [(tp, .inl (cs 1, 2048, .inl tb))]]) (px_runS (As := [.int v229]) (rest := []) S (c_Tok_withEquals l D cs v229 _) hT (pr := [wd_Tok cs h r (fun _ => some tp) f a g, [(tp, .inl (cs 1, 2048, .inl tb))]]) (pcs := []) hw px_X.tt m4_67 m4_65 m4_66 m1_2 q_Tok_withEquals ⟨Nat.le_of_ble_eq_true rfl, Nat.le_of_ble_eq_true rfl⟩ hl.1 rfl (Nat.le_of_ble_eq_true rfl) d_Tok_mark_100 ⟨Nat.le_of_ble_eq_true rfl, Nat.le_of_ble_eq_true rfl⟩) hw hA (fun v270 p269 H locs hp269 hw => ?_)
              subst hp269
              have lv270 := Int32.le_toInt v270
              have uv270 := Int32.toInt_lt v270
              refine lv_goto (tgt := 107) S.x S.b d_Tok_mark_103 (by decide) ?_
              refine lv_istore (lv' := [(5, .int v270), (3, .int 2), (2, .int v229), (4, .int v229), (0, .ref h), (1, .int p0)]) S.x S.b d_Tok_mark_107 hl (by decide) rfl (fun ls hl => ?_)
              refine lv_iload S.x S.b d_Tok_mark_109 (lv_at hl 0 rfl) ?_
              refine lv_if_le (tgt := 120) S.x S.b d_Tok_mark_111 (by decide) (fun c271 => ?_) (fun c271 => ?_)
              · have nc271 : v270.toInt ≤ (0 : Int) := (i_le (x := v270) (y := 0)).mp c271
                refine lv_aload_n S.x S.b d_Tok_mark_120 rfl (lv_at hl 4 rfl) ?_
                refine lv_dup S.x S.b d_Tok_mark_121 rfl ?_
                refine px_get S k_Tok hT hw 0 0 8 (v := .int (f 8)) rfl rfl rfl (by decide) m1_111 d_Tok_mark_122 ?_
                refine lv_iload_n S.x S.b d_Tok_mark_125 rfl (lv_at hl 1 rfl) ?_
                refine lv_iadd S.x S.b d_Tok_mark_126 ?_
                have lr272 := Int32.le_toInt (f 8)
                have ur272 := Int32.toInt_lt (f 8)
                refine lv_topi (fun z273 ez273 => ?_)
                have tz273 : z273.toInt = ((f 8).toInt + (2 : Int) + 2147483648) % 4294967296 - 2147483648 := by rw [ez273]; exact i_add (f 8) 2
                have lz273 := Int32.le_toInt z273
                have uz273 := Int32.toInt_lt z273
                try replace tz273 : z273.toInt = (f 8).toInt + (2 : Int) := by omega
                refine px_put S k_Tok hT hw 0 0 8 rfl rfl (by decide) m1_111 rfl rfl rfl (Nat.le_of_ble_eq_true rfl) d_Tok_mark_127 (w' := wd_Tok cs h r (fun _ => some tp) (upd f 8 z273) a g) (ps' := [wd_Tok cs h r (fun _ => some tp) (upd f 8 z273) a g, [(tp, .inl (cs 1, 2048, .inl tb))]]) rfl rfl (fun H locs hw => ?_)
                refine lv_iload_n S.x S.b d_Tok_mark_130 rfl (lv_at hl 2 rfl) ?_
                first | exact px_iret (v := v229) S hr rfl hlk hAe hw (Nat.le_of_ble_eq_true rfl) (Nat.le_of_ble_eq_true rfl) (⟨(upd f 8 z273), a, rfl, (show TokOk (f 7) z273 (f 10) (f 11) (f 12) (f 13) (f 17) (a 4) from ⟨⟨o1, o2⟩, ⟨(oz_6c4a1e09c3 tz273 g1), (oz_26c995f1f8 g2 tz273)⟩, ⟨o5, o6⟩, ⟨o7, o8⟩, ⟨o9, o10⟩, ⟨o11, o12⟩, o13, hn4⟩), (show (f 7).toInt = (f 7).toInt from rfl), (show (f 10).toInt = (f 10).toInt from rfl), (show (f 15).toInt = (f 15).toInt from rfl), (show v229.toInt = 19 ∨ (f 8).toInt + 1 ≤ z273.toInt from by first | with_reducible rfl | with_reducible assumption | omega), (show Q5 (a 5) from hq5)⟩) d_Tok_mark_131 | exact px_iret (v := v229) S hr rfl hlk hAe hw (Nat.le_of_ble_eq_true rfl) (Nat.le_of_ble_eq_true rfl) (⟨(upd f 8 z273), a, rfl, (show TokOk (f 7) z273 (f 10) (f 11) (f 12) (f 13) (f 17) (a 4) from ⟨⟨by first | exact o1 | omega, by first | exact o2 | omega⟩, ⟨by first | exact oz_6c4a1e09c3 tz273 g1 | omega, by first | exact oz_26c995f1f8 g2 tz273 | omega⟩, ⟨by first | exact o5 | omega, by first | exact o6 | omega⟩, ⟨by first | exact o7 | omega, by first | exact o8 | omega⟩, ⟨by first | exact o9 | omega, by first | exact o10 | omega⟩, ⟨by first | exact o11 | omega, by first | exact o12 | omega⟩, by first | exact o13 | omega, hn4⟩), (show (f 7).toInt = (f 7).toInt from rfl), (show (f 10).toInt = (f 10).toInt from rfl), (show (f 15).toInt = (f 15).toInt from rfl), (show v229.toInt = 19 ∨ (f 8).toInt + 1 ≤ z273.toInt from by first | with_reducible rfl | with_reducible assumption | omega), (show Q5 (a 5) from hq5)⟩) d_Tok_mark_131
              · have nc271 : ¬ v270.toInt ≤ (0 : Int) := mt (i_le (x := v270) (y := 0)).mpr c271
                refine lv_iload S.x S.b d_Tok_mark_114 (lv_at hl 0 rfl) ?_
                refine lv_istore_n (lv' := [(2, .int v270), (5, .int v270), (3, .int 2), (4, .int v229), (0, .ref h), (1, .int p0)]) S.x S.b d_Tok_mark_116 rfl hl (by decide) rfl (fun ls hl => ?_)
                obtain ⟨z274, ez274⟩ : ∃ y : Int32, y = 2 + 1 := ⟨_, rfl⟩
                have tz274 : z274.toInt = ((2 : Int) + 1 + 2147483648) % 4294967296 - 2147483648 := by rw [ez274]; exact i_add 2 1
                have lz274 := Int32.le_toInt z274
                have uz274 := Int32.toInt_lt z274
                try replace tz274 : z274.toInt = (2 : Int) + 1 := by omega
                refine lv_iinc (v := z274) (lv' := [(3, .int z274), (2, .int v270), (5, .int v270), (4, .int v229), (0, .ref h), (1, .int p0)]) S.x S.b d_Tok_mark_117 hl (k := 2) rfl (by rw [ez274]; rfl) (by decide) rfl (fun ls hl => ?_)
                refine lv_aload_n S.x S.b d_Tok_mark_120 rfl (lv_at hl 4 rfl) ?_
                refine lv_dup S.x S.b d_Tok_mark_121 rfl ?_
                refine px_get S k_Tok hT hw 0 0 8 (v := .int (f 8)) rfl rfl rfl (by decide) m1_111 d_Tok_mark_122 ?_
                refine lv_iload_n S.x S.b d_Tok_mark_125 rfl (lv_at hl 0 rfl) ?_
                refine lv_iadd S.x S.b d_Tok_mark_126 ?_
                have lr275 := Int32.le_toInt (f 8)
                have ur275 := Int32.toInt_lt (f 8)
                refine lv_topi (fun z276 ez276 => ?_)
                have tz276 : z276.toInt = ((f 8).toInt + z274.toInt + 2147483648) % 4294967296 - 2147483648 := by rw [ez276]; exact i_add (f 8) z274
                have lz276 := Int32.le_toInt z276
                have uz276 := Int32.toInt_lt z276
                try replace tz276 : z276.toInt = (f 8).toInt + z274.toInt := by omega
                refine px_put S k_Tok hT hw 0 0 8 rfl rfl (by decide) m1_111 rfl rfl rfl (Nat.le_of_ble_eq_true rfl) d_Tok_mark_127 (w' := wd_Tok cs h r (fun _ => some tp) (upd f 8 z276) a g) (ps' := [wd_Tok cs h r (fun _ => some tp) (upd f 8 z276) a g, [(tp, .inl (cs 1, 2048, .inl tb))]]) rfl rfl (fun H locs hw => ?_)
                refine lv_iload_n S.x S.b d_Tok_mark_130 rfl (lv_at hl 1 rfl) ?_
                first | exact px_iret (v := v270) S hr rfl hlk hAe hw (Nat.le_of_ble_eq_true rfl) (Nat.le_of_ble_eq_true rfl) (⟨(upd f 8 z276), a, rfl, (show TokOk (f 7) z276 (f 10) (f 11) (f 12) (f 13) (f 17) (a 4) from ⟨⟨o1, o2⟩, ⟨(oz_5872ca9df2 tz276 g1 tz274), (oz_0136642c8e g2 tz276 tz274)⟩, ⟨o5, o6⟩, ⟨o7, o8⟩, ⟨o9, o10⟩, ⟨o11, o12⟩, o13, hn4⟩), (show (f 7).toInt = (f 7).toInt from rfl), (show (f 10).toInt = (f 10).toInt from rfl), (show (f 15).toInt = (f 15).toInt from rfl), (show v270.toInt = 19 ∨ (f 8).toInt + 1 ≤ z276.toInt from by first | with_reducible rfl | with_reducible assumption | omega), (show Q5 (a 5) from hq5)⟩) d_Tok_mark_131 | exact px_iret (v := v270) S hr rfl hlk hAe hw (Nat.le_of_ble_eq_true rfl) (Nat.le_of_ble_eq_true rfl) (⟨(upd f 8 z276), a, rfl, (show TokOk (f 7) z276 (f 10) (f 11) (f 12) (f 13) (f 17) (a 4) from ⟨⟨by first | exact o1 | omega, by first | exact o2 | omega⟩, ⟨by first | exact oz_5872ca9df2 tz276 g1 tz274 | omega, by first | exact oz_0136642c8e g2 tz276 tz274 | omega⟩, ⟨by first | exact o5 | omega, by first | exact o6 | omega⟩, ⟨by first | exact o7 | omega, by first | exact o8 | omega⟩, ⟨by first | exact o9 | omega, by first | exact o10 | omega⟩, ⟨by first | exact o11 | omega, by first | exact o12 | omega⟩, by first | exact o13 | omega, hn4⟩), (show (f 7).toInt = (f 7).toInt from rfl), (show (f 10).toInt = (f 10).toInt from rfl), (show (f 15).toInt = (f 15).toInt from rfl), (show v270.toInt = 19 ∨ (f 8).toInt + 1 ≤ z276.toInt from by first | with_reducible rfl | with_reducible assumption | omega), (show Q5 (a 5) from hq5)⟩) d_Tok_mark_131
      · have nc191 : p0.toInt = (47 : Int) := (i_eq (x := p0) (y := 47)).mp c191
        refine lv_aload_n S.x S.b d_Tok_mark_32 rfl (lv_at hl 2 rfl) ?_
        refine lv_aload_n S.x S.b d_Tok_mark_33 rfl (lv_at hl 2 rfl) ?_
        refine px_get S k_Tok hT hw 0 0 8 (v := .int (f 8)) rfl rfl rfl (by decide) m1_111 d_Tok_mark_34 ?_
        refine lv_iconst (v := 1) S.x S.b d_Tok_mark_37 (by decide) ?_
        refine lv_iadd S.x S.b d_Tok_mark_38 ?_
        have lr277 := Int32.le_toInt (f 8)
        have ur277 := Int32.toInt_lt (f 8)
        refine lv_topi (fun z278 ez278 => ?_)
        have tz278 : z278.toInt = ((f 8).toInt + (1 : Int) + 2147483648) % 4294967296 - 2147483648 := by rw [ez278]; exact i_add (f 8) 1
        have lz278 := Int32.le_toInt z278
        have uz278 := Int32.toInt_lt z278
        try replace tz278 : z278.toInt = (f 8).toInt + (1 : Int) := by omega
        first | refine px_calli (pr := []) (px_runV (As := [.int z278]) (rest := []) S (c_Tok_byteAt l D cs h r tp tb f a g z278 (show TokOk (f 7) (f 8) (f 10) (f 11) (f 12) (f 13) (f 17) (a 4) from ⟨⟨o1, o2⟩, ⟨g1, o4⟩, ⟨o5, o6⟩, ⟨o7, o8⟩, ⟨o9, o10⟩, ⟨o11, o12⟩, o13, hn4⟩)  _) hT (pr := []) (pcs := [wd_Tok cs h r (fun _ => some tp) f a g, [(tp, .inl (cs 1, 2048, .inl tb))]]) hw px_X.tt (px_recv hT hw 0 0 rfl rfl rfl) m3_186 m3_183 m3_185 ms_1_6 m1_2 q_Tok_byteAt ⟨Nat.le_of_ble_eq_true rfl, Nat.le_of_ble_eq_true rfl⟩ hl.1 rfl (Nat.le_of_ble_eq_true rfl) d_Tok_mark_39 ⟨Nat.le_of_ble_eq_true rfl, Nat.le_of_ble_eq_true rfl⟩) hw hA (fun v282 p281 H locs hp281 hw => ?_) | refine px_calli (pr := []) (px_runV (As := [.int z278]) (rest := []) S (c_Tok_byteAt l D cs h r tp tb f a g z278 (show TokOk (f 7) (f 8) (f 10) (f 11) (f 12) (f 13) (f 17) (a 4) from ⟨⟨by first | exact o1 | omega, by first | exact o2 | omega⟩, ⟨by first | exact g1 | omega, by first | exact o4 | omega⟩, ⟨by first | exact o5 | omega, by first | exact o6 | omega⟩, ⟨by first | exact o7 | omega, by first | exact o8 | omega⟩, ⟨by first | exact o9 | omega, by first | exact o10 | omega⟩, ⟨by first | exact o11 | omega, by first | exact o12 | omega⟩, by first | exact o13 | omega, hn4⟩)  _) hT (pr := []) (pcs := [wd_Tok cs h r (fun _ => some tp) f a g, [(tp, .inl (cs 1, 2048, .inl tb))]]) hw px_X.tt (px_recv hT hw 0 0 rfl rfl rfl) m3_186 m3_183 m3_185 ms_1_6 m1_2 q_Tok_byteAt ⟨Nat.le_of_ble_eq_true rfl, Nat.le_of_ble_eq_true rfl⟩ hl.1 rfl (Nat.le_of_ble_eq_true rfl) d_Tok_mark_39 ⟨Nat.le_of_ble_eq_true rfl, Nat.le_of_ble_eq_true rfl⟩) hw hA (fun v282 p281 H locs hp281 hw => ?_)
        obtain ⟨rfl, e283, e284, e285⟩ := hp281
        have e283 : -1 ≤ v282.toInt := e283
        have e284 : v282.toInt ≤ 255 := e284
        have e285 : 0 ≤ v282.toInt → 0 ≤ z278.toInt ∧ z278.toInt < (f 7).toInt := e285
        have lv282 := Int32.le_toInt v282
        have uv282 := Int32.toInt_lt v282
        refine lv_bipush (v := 42) S.x S.b d_Tok_mark_42 (by decide) ?_
        refine lv_icmp_ne (tgt := 50) S.x S.b d_Tok_mark_44 (by decide) (fun c286 => ?_) (fun c286 => ?_)
        · have nc286 : ¬ v282.toInt = (42 : Int) := mt (i_eq (x := v282) (y := 42)).mpr c286
          refine lv_aload_n S.x S.b d_Tok_mark_50 rfl (lv_at hl 2 rfl) ?_
          refine lv_aload_n S.x S.b d_Tok_mark_51 rfl (lv_at hl 2 rfl) ?_
          refine px_get S k_Tok hT hw 0 0 8 (v := .int (f 8)) rfl rfl rfl (by decide) m1_111 d_Tok_mark_52 ?_
          refine lv_iconst (v := 1) S.x S.b d_Tok_mark_55 (by decide) ?_
          refine lv_iadd S.x S.b d_Tok_mark_56 ?_
          have lr287 := Int32.le_toInt (f 8)
          have ur287 := Int32.toInt_lt (f 8)
          refine lv_topi (fun z288 ez288 => ?_)
          have tz288 : z288.toInt = ((f 8).toInt + (1 : Int) + 2147483648) % 4294967296 - 2147483648 := by rw [ez288]; exact i_add (f 8) 1
          have lz288 := Int32.le_toInt z288
          have uz288 := Int32.toInt_lt z288
          try replace tz288 : z288.toInt = (f 8).toInt + (1 : Int) := by omega
          first | refine px_calli (pr := []) (px_runV (As := [.int z288]) (rest := []) S (c_Tok_byteAt l D cs h r tp tb f a g z288 (show TokOk (f 7) (f 8) (f 10) (f 11) (f 12) (f 13) (f 17) (a 4) from ⟨⟨o1, o2⟩, ⟨g1, o4⟩, ⟨o5, o6⟩, ⟨o7, o8⟩, ⟨o9, o10⟩, ⟨o11, o12⟩, o13, hn4⟩)  _) hT (pr := []) (pcs := [wd_Tok cs h r (fun _ => some tp) f a g, [(tp, .inl (cs 1, 2048, .inl tb))]]) hw px_X.tt (px_recv hT hw 0 0 rfl rfl rfl) m3_186 m3_183 m3_185 ms_1_6 m1_2 q_Tok_byteAt ⟨Nat.le_of_ble_eq_true rfl, Nat.le_of_ble_eq_true rfl⟩ hl.1 rfl (Nat.le_of_ble_eq_true rfl) d_Tok_mark_57 ⟨Nat.le_of_ble_eq_true rfl, Nat.le_of_ble_eq_true rfl⟩) hw hA (fun v292 p291 H locs hp291 hw => ?_) | refine px_calli (pr := []) (px_runV (As := [.int z288]) (rest := []) S (c_Tok_byteAt l D cs h r tp tb f a g z288 (show TokOk (f 7) (f 8) (f 10) (f 11) (f 12) (f 13) (f 17) (a 4) from ⟨⟨by first | exact o1 | omega, by first | exact o2 | omega⟩, ⟨by first | exact g1 | omega, by first | exact o4 | omega⟩, ⟨by first | exact o5 | omega, by first | exact o6 | omega⟩, ⟨by first | exact o7 | omega, by first | exact o8 | omega⟩, ⟨by first | exact o9 | omega, by first | exact o10 | omega⟩, ⟨by first | exact o11 | omega, by first | exact o12 | omega⟩, by first | exact o13 | omega, hn4⟩)  _) hT (pr := []) (pcs := [wd_Tok cs h r (fun _ => some tp) f a g, [(tp, .inl (cs 1, 2048, .inl tb))]]) hw px_X.tt (px_recv hT hw 0 0 rfl rfl rfl) m3_186 m3_183 m3_185 ms_1_6 m1_2 q_Tok_byteAt ⟨Nat.le_of_ble_eq_true rfl, Nat.le_of_ble_eq_true rfl⟩ hl.1 rfl (Nat.le_of_ble_eq_true rfl) d_Tok_mark_57 ⟨Nat.le_of_ble_eq_true rfl, Nat.le_of_ble_eq_true rfl⟩) hw hA (fun v292 p291 H locs hp291 hw => ?_)
          obtain ⟨rfl, e293, e294, e295⟩ := hp291
          have e293 : -1 ≤ v292.toInt := e293
          have e294 : v292.toInt ≤ 255 := e294
          have e295 : 0 ≤ v292.toInt → 0 ≤ z288.toInt ∧ z288.toInt < (f 7).toInt := e295
          have lv292 := Int32.le_toInt v292
          have uv292 := Int32.toInt_lt v292
          refine lv_iload_n S.x S.b d_Tok_mark_60 rfl (lv_at hl 3 rfl) ?_
          refine lv_icmp_ne (tgt := 71) S.x S.b d_Tok_mark_61 (by decide) (fun c296 => ?_) (fun c296 => ?_)
          · have nc296 : ¬ v292.toInt = p0.toInt := mt (i_eq (x := v292) (y := p0)).mpr c296
            refine lv_iconst (v := 0) S.x S.b d_Tok_mark_71 (by decide) ?_
            refine lv_istore (lv' := [(4, .int 0), (3, .int 1), (2, .int 256), (0, .ref h), (1, .int p0)]) S.x S.b d_Tok_mark_72 hl (by decide) rfl (fun ls hl => ?_)
            refine lv_iload S.x S.b d_Tok_mark_74 (lv_at hl 0 rfl) ?_
            refine lv_if_le (tgt := 84) S.x S.b d_Tok_mark_76 (by decide) (fun c297 => ?_) (fun c297 => ?_)
            ·
              refine lv_aload_n S.x S.b d_Tok_mark_84 rfl (lv_at hl 3 rfl) ?_
              refine lv_aload_n S.x S.b d_Tok_mark_85 rfl (lv_at hl 3 rfl) ?_
              refine px_get S k_Tok hT hw 0 0 8 (v := .int (f 8)) rfl rfl rfl (by decide) m1_111 d_Tok_mark_86 ?_
              refine lv_iload_n S.x S.b d_Tok_mark_89 rfl (lv_at hl 1 rfl) ?_
              refine lv_iadd S.x S.b d_Tok_mark_90 ?_
              have lr298 := Int32.le_toInt (f 8)
              have ur298 := Int32.toInt_lt (f 8)
              refine lv_topi (fun z299 ez299 => ?_)
              have tz299 : z299.toInt = ((f 8).toInt + (1 : Int) + 2147483648) % 4294967296 - 2147483648 := by rw [ez299]; exact i_add (f 8) 1
              have lz299 := Int32.le_toInt z299
              have uz299 := Int32.toInt_lt z299
              try replace tz299 : z299.toInt = (f 8).toInt + (1 : Int) := by omega
              first | refine px_calli (pr := []) (px_runV (As := [.int z299]) (rest := []) S (c_Tok_byteAt l D cs h r tp tb f a g z299 (show TokOk (f 7) (f 8) (f 10) (f 11) (f 12) (f 13) (f 17) (a 4) from ⟨⟨o1, o2⟩, ⟨g1, o4⟩, ⟨o5, o6⟩, ⟨o7, o8⟩, ⟨o9, o10⟩, ⟨o11, o12⟩, o13, hn4⟩)  _) hT (pr := []) (pcs := [wd_Tok cs h r (fun _ => some tp) f a g, [(tp, .inl (cs 1, 2048, .inl tb))]]) hw px_X.tt (px_recv hT hw 0 0 rfl rfl rfl) m3_186 m3_183 m3_185 ms_1_6 m1_2 q_Tok_byteAt ⟨Nat.le_of_ble_eq_true rfl, Nat.le_of_ble_eq_true rfl⟩ hl.1 rfl (Nat.le_of_ble_eq_true rfl) d_Tok_mark_91 ⟨Nat.le_of_ble_eq_true rfl, Nat.le_of_ble_eq_true rfl⟩) hw hA (fun v303 p302 H locs hp302 hw => ?_) | refine px_calli (pr := []) (px_runV (As := [.int z299]) (rest := []) S (c_Tok_byteAt l D cs h r tp tb f a g z299 (show TokOk (f 7) (f 8) (f 10) (f 11) (f 12) (f 13) (f 17) (a 4) from ⟨⟨by first | exact o1 | omega, by first | exact o2 | omega⟩, ⟨by first | exact g1 | omega, by first | exact o4 | omega⟩, ⟨by first | exact o5 | omega, by first | exact o6 | omega⟩, ⟨by first | exact o7 | omega, by first | exact o8 | omega⟩, ⟨by first | exact o9 | omega, by first | exact o10 | omega⟩, ⟨by first | exact o11 | omega, by first | exact o12 | omega⟩, by first | exact o13 | omega, hn4⟩)  _) hT (pr := []) (pcs := [wd_Tok cs h r (fun _ => some tp) f a g, [(tp, .inl (cs 1, 2048, .inl tb))]]) hw px_X.tt (px_recv hT hw 0 0 rfl rfl rfl) m3_186 m3_183 m3_185 ms_1_6 m1_2 q_Tok_byteAt ⟨Nat.le_of_ble_eq_true rfl, Nat.le_of_ble_eq_true rfl⟩ hl.1 rfl (Nat.le_of_ble_eq_true rfl) d_Tok_mark_91 ⟨Nat.le_of_ble_eq_true rfl, Nat.le_of_ble_eq_true rfl⟩) hw hA (fun v303 p302 H locs hp302 hw => ?_)
              obtain ⟨rfl, e304, e305, e306⟩ := hp302
              have e304 : -1 ≤ v303.toInt := e304
              have e305 : v303.toInt ≤ 255 := e305
              have e306 : 0 ≤ v303.toInt → 0 ≤ z299.toInt ∧ z299.toInt < (f 7).toInt := e306
              have lv303 := Int32.le_toInt v303
              have uv303 := Int32.toInt_lt v303
              refine lv_bipush (v := 61) S.x S.b d_Tok_mark_94 (by decide) ?_
              refine lv_icmp_ne (tgt := 106) S.x S.b d_Tok_mark_96 (by decide) (fun c307 => ?_) (fun c307 => ?_)
              · have nc307 : ¬ v303.toInt = (61 : Int) := mt (i_eq (x := v303) (y := 61)).mpr c307
                refine lv_iconst (v := 0) S.x S.b d_Tok_mark_106 (by decide) ?_
                refine lv_istore (lv' := [(5, .int 0), (4, .int 0), (3, .int 1), (2, .int 256), (0, .ref h), (1, .int p0)]) S.x S.b d_Tok_mark_107 hl (by decide) rfl (fun ls hl => ?_)
                refine lv_iload S.x S.b d_Tok_mark_109 (lv_at hl 0 rfl) ?_
                refine lv_if_le (tgt := 120) S.x S.b d_Tok_mark_111 (by decide) (fun c308 => ?_) (fun c308 => ?_)
                ·
                  refine lv_aload_n S.x S.b d_Tok_mark_120 rfl (lv_at hl 4 rfl) ?_
                  refine lv_dup S.x S.b d_Tok_mark_121 rfl ?_
                  refine px_get S k_Tok hT hw 0 0 8 (v := .int (f 8)) rfl rfl rfl (by decide) m1_111 d_Tok_mark_122 ?_
                  refine lv_iload_n S.x S.b d_Tok_mark_125 rfl (lv_at hl 2 rfl) ?_
                  refine lv_iadd S.x S.b d_Tok_mark_126 ?_
                  have lr309 := Int32.le_toInt (f 8)
                  have ur309 := Int32.toInt_lt (f 8)
                  refine lv_topi (fun z310 ez310 => ?_)
                  have tz310 : z310.toInt = ((f 8).toInt + (1 : Int) + 2147483648) % 4294967296 - 2147483648 := by rw [ez310]; exact i_add (f 8) 1
                  have lz310 := Int32.le_toInt z310
                  have uz310 := Int32.toInt_lt z310
                  try replace tz310 : z310.toInt = (f 8).toInt + (1 : Int) := by omega
                  refine px_put S k_Tok hT hw 0 0 8 rfl rfl (by decide) m1_111 rfl rfl rfl (Nat.le_of_ble_eq_true rfl) d_Tok_mark_127 (w' := wd_Tok cs h r (fun _ => some tp) (upd f 8 z310) a g) (ps' := [wd_Tok cs h r (fun _ => some tp) (upd f 8 z310) a g, [(tp, .inl (cs 1, 2048, .inl tb))]]) rfl rfl (fun H locs hw => ?_)
                  refine lv_iload_n S.x S.b d_Tok_mark_130 rfl (lv_at hl 3 rfl) ?_
                  first | exact px_iret (v := 256) S hr rfl hlk hAe hw (Nat.le_of_ble_eq_true rfl) (Nat.le_of_ble_eq_true rfl) (⟨(upd f 8 z310), a, rfl, (show TokOk (f 7) z310 (f 10) (f 11) (f 12) (f 13) (f 17) (a 4) from ⟨⟨o1, o2⟩, ⟨(oz_b3b25f0e49 tz310 g1), (oz_8964937ede g2 tz310)⟩, ⟨o5, o6⟩, ⟨o7, o8⟩, ⟨o9, o10⟩, ⟨o11, o12⟩, o13, hn4⟩), (show (f 7).toInt = (f 7).toInt from rfl), (show (f 10).toInt = (f 10).toInt from rfl), (show (f 15).toInt = (f 15).toInt from rfl), (show (256 : Int) = 19 ∨ (f 8).toInt + 1 ≤ z310.toInt from by first | with_reducible rfl | with_reducible assumption | omega), (show Q5 (a 5) from hq5)⟩) d_Tok_mark_131 | exact px_iret (v := 256) S hr rfl hlk hAe hw (Nat.le_of_ble_eq_true rfl) (Nat.le_of_ble_eq_true rfl) (⟨(upd f 8 z310), a, rfl, (show TokOk (f 7) z310 (f 10) (f 11) (f 12) (f 13) (f 17) (a 4) from ⟨⟨by first | exact o1 | omega, by first | exact o2 | omega⟩, ⟨by first | exact oz_b3b25f0e49 tz310 g1 | omega, by first | exact oz_8964937ede g2 tz310 | omega⟩, ⟨by first | exact o5 | omega, by first | exact o6 | omega⟩, ⟨by first | exact o7 | omega, by first | exact o8 | omega⟩, ⟨by first | exact o9 | omega, by first | exact o10 | omega⟩, ⟨by first | exact o11 | omega, by first | exact o12 | omega⟩, by first | exact o13 | omega, hn4⟩), (show (f 7).toInt = (f 7).toInt from rfl), (show (f 10).toInt = (f 10).toInt from rfl), (show (f 15).toInt = (f 15).toInt from rfl), (show (256 : Int) = 19 ∨ (f 8).toInt + 1 ≤ z310.toInt from by first | with_reducible rfl | with_reducible assumption | omega), (show Q5 (a 5) from hq5)⟩) d_Tok_mark_131
                · exact absurd c308 (by decide)
              · have nc307 : v303.toInt = (61 : Int) := (i_eq (x := v303) (y := 61)).mp c307
                refine lv_iload_n S.x S.b d_Tok_mark_99 rfl (lv_at hl 2 rfl) ?_
                refine px_calli (pr := [wd_Tok cs h r (fun _ => some tp) f a g, [(tp, .inl (cs 1, 2048, .inl tb))]]) (px_runS (As := [.int 256]) (rest := []) S (c_Tok_withEquals l D cs 256 _) hT (pr := [wd_Tok cs h r (fun _ => some tp) f a g, [(tp, .inl (cs 1, 2048, .inl tb))]]) (pcs := []) hw px_X.tt m4_67 m4_65 m4_66 m1_2 q_Tok_withEquals ⟨Nat.le_of_ble_eq_true rfl, Nat.le_of_ble_eq_true rfl⟩ hl.1 rfl (Nat.le_of_ble_eq_true rfl) d_Tok_mark_100 ⟨Nat.le_of_ble_eq_true rfl, Nat.le_of_ble_eq_true rfl⟩) hw hA (fun v314 p313 H locs hp313 hw => ?_)
                subst hp313
                have lv314 := Int32.le_toInt v314
                have uv314 := Int32.toInt_lt v314
                refine lv_goto (tgt := 107) S.x S.b d_Tok_mark_103 (by decide) ?_
                refine lv_istore (lv' := [(5, .int v314), (4, .int 0), (3, .int 1), (2, .int 256), (0, .ref h), (1, .int p0)]) S.x S.b d_Tok_mark_107 hl (by decide) rfl (fun ls hl => ?_)
                refine lv_iload S.x S.b d_Tok_mark_109 (lv_at hl 0 rfl) ?_
                refine lv_if_le (tgt := 120) S.x S.b d_Tok_mark_111 (by decide) (fun c315 => ?_) (fun c315 => ?_)
                · have nc315 : v314.toInt ≤ (0 : Int) := (i_le (x := v314) (y := 0)).mp c315
                  refine lv_aload_n S.x S.b d_Tok_mark_120 rfl (lv_at hl 4 rfl) ?_
                  refine lv_dup S.x S.b d_Tok_mark_121 rfl ?_
                  refine px_get S k_Tok hT hw 0 0 8 (v := .int (f 8)) rfl rfl rfl (by decide) m1_111 d_Tok_mark_122 ?_
                  refine lv_iload_n S.x S.b d_Tok_mark_125 rfl (lv_at hl 2 rfl) ?_
                  refine lv_iadd S.x S.b d_Tok_mark_126 ?_
                  have lr316 := Int32.le_toInt (f 8)
                  have ur316 := Int32.toInt_lt (f 8)
                  refine lv_topi (fun z317 ez317 => ?_)
                  have tz317 : z317.toInt = ((f 8).toInt + (1 : Int) + 2147483648) % 4294967296 - 2147483648 := by rw [ez317]; exact i_add (f 8) 1
                  have lz317 := Int32.le_toInt z317
                  have uz317 := Int32.toInt_lt z317
                  try replace tz317 : z317.toInt = (f 8).toInt + (1 : Int) := by omega
                  refine px_put S k_Tok hT hw 0 0 8 rfl rfl (by decide) m1_111 rfl rfl rfl (Nat.le_of_ble_eq_true rfl) d_Tok_mark_127 (w' := wd_Tok cs h r (fun _ => some tp) (upd f 8 z317) a g) (ps' := [wd_Tok cs h r (fun _ => some tp) (upd f 8 z317) a g, [(tp, .inl (cs 1, 2048, .inl tb))]]) rfl rfl (fun H locs hw => ?_)
                  refine lv_iload_n S.x S.b d_Tok_mark_130 rfl (lv_at hl 3 rfl) ?_
                  first | exact px_iret (v := 256) S hr rfl hlk hAe hw (Nat.le_of_ble_eq_true rfl) (Nat.le_of_ble_eq_true rfl) (⟨(upd f 8 z317), a, rfl, (show TokOk (f 7) z317 (f 10) (f 11) (f 12) (f 13) (f 17) (a 4) from ⟨⟨o1, o2⟩, ⟨(oz_b3b25f0e49 tz317 g1), (oz_8964937ede g2 tz317)⟩, ⟨o5, o6⟩, ⟨o7, o8⟩, ⟨o9, o10⟩, ⟨o11, o12⟩, o13, hn4⟩), (show (f 7).toInt = (f 7).toInt from rfl), (show (f 10).toInt = (f 10).toInt from rfl), (show (f 15).toInt = (f 15).toInt from rfl), (show (256 : Int) = 19 ∨ (f 8).toInt + 1 ≤ z317.toInt from by first | with_reducible rfl | with_reducible assumption | omega), (show Q5 (a 5) from hq5)⟩) d_Tok_mark_131 | exact px_iret (v := 256) S hr rfl hlk hAe hw (Nat.le_of_ble_eq_true rfl) (Nat.le_of_ble_eq_true rfl) (⟨(upd f 8 z317), a, rfl, (show TokOk (f 7) z317 (f 10) (f 11) (f 12) (f 13) (f 17) (a 4) from ⟨⟨by first | exact o1 | omega, by first | exact o2 | omega⟩, ⟨by first | exact oz_b3b25f0e49 tz317 g1 | omega, by first | exact oz_8964937ede g2 tz317 | omega⟩, ⟨by first | exact o5 | omega, by first | exact o6 | omega⟩, ⟨by first | exact o7 | omega, by first | exact o8 | omega⟩, ⟨by first | exact o9 | omega, by first | exact o10 | omega⟩, ⟨by first | exact o11 | omega, by first | exact o12 | omega⟩, by first | exact o13 | omega, hn4⟩), (show (f 7).toInt = (f 7).toInt from rfl), (show (f 10).toInt = (f 10).toInt from rfl), (show (f 15).toInt = (f 15).toInt from rfl), (show (256 : Int) = 19 ∨ (f 8).toInt + 1 ≤ z317.toInt from by first | with_reducible rfl | with_reducible assumption | omega), (show Q5 (a 5) from hq5)⟩) d_Tok_mark_131
                · have nc315 : ¬ v314.toInt ≤ (0 : Int) := mt (i_le (x := v314) (y := 0)).mpr c315
                  refine lv_iload S.x S.b d_Tok_mark_114 (lv_at hl 0 rfl) ?_
                  refine lv_istore_n (lv' := [(2, .int v314), (5, .int v314), (4, .int 0), (3, .int 1), (0, .ref h), (1, .int p0)]) S.x S.b d_Tok_mark_116 rfl hl (by decide) rfl (fun ls hl => ?_)
                  obtain ⟨z318, ez318⟩ : ∃ y : Int32, y = 1 + 1 := ⟨_, rfl⟩
                  have tz318 : z318.toInt = ((1 : Int) + 1 + 2147483648) % 4294967296 - 2147483648 := by rw [ez318]; exact i_add 1 1
                  have lz318 := Int32.le_toInt z318
                  have uz318 := Int32.toInt_lt z318
                  try replace tz318 : z318.toInt = (1 : Int) + 1 := by omega
                  refine lv_iinc (v := z318) (lv' := [(3, .int z318), (2, .int v314), (5, .int v314), (4, .int 0), (0, .ref h), (1, .int p0)]) S.x S.b d_Tok_mark_117 hl (k := 3) rfl (by rw [ez318]; rfl) (by decide) rfl (fun ls hl => ?_)
                  refine lv_aload_n S.x S.b d_Tok_mark_120 rfl (lv_at hl 4 rfl) ?_
                  refine lv_dup S.x S.b d_Tok_mark_121 rfl ?_
                  refine px_get S k_Tok hT hw 0 0 8 (v := .int (f 8)) rfl rfl rfl (by decide) m1_111 d_Tok_mark_122 ?_
                  refine lv_iload_n S.x S.b d_Tok_mark_125 rfl (lv_at hl 0 rfl) ?_
                  refine lv_iadd S.x S.b d_Tok_mark_126 ?_
                  have lr319 := Int32.le_toInt (f 8)
                  have ur319 := Int32.toInt_lt (f 8)
                  refine lv_topi (fun z320 ez320 => ?_)
                  have tz320 : z320.toInt = ((f 8).toInt + z318.toInt + 2147483648) % 4294967296 - 2147483648 := by rw [ez320]; exact i_add (f 8) z318
                  have lz320 := Int32.le_toInt z320
                  have uz320 := Int32.toInt_lt z320
                  try replace tz320 : z320.toInt = (f 8).toInt + z318.toInt := by omega
                  refine px_put S k_Tok hT hw 0 0 8 rfl rfl (by decide) m1_111 rfl rfl rfl (Nat.le_of_ble_eq_true rfl) d_Tok_mark_127 (w' := wd_Tok cs h r (fun _ => some tp) (upd f 8 z320) a g) (ps' := [wd_Tok cs h r (fun _ => some tp) (upd f 8 z320) a g, [(tp, .inl (cs 1, 2048, .inl tb))]]) rfl rfl (fun H locs hw => ?_)
                  refine lv_iload_n S.x S.b d_Tok_mark_130 rfl (lv_at hl 1 rfl) ?_
                  first | exact px_iret (v := v314) S hr rfl hlk hAe hw (Nat.le_of_ble_eq_true rfl) (Nat.le_of_ble_eq_true rfl) (⟨(upd f 8 z320), a, rfl, (show TokOk (f 7) z320 (f 10) (f 11) (f 12) (f 13) (f 17) (a 4) from ⟨⟨o1, o2⟩, ⟨(oz_0aba5895db tz320 g1 tz318), (oz_034949d2cd g2 tz320 tz318)⟩, ⟨o5, o6⟩, ⟨o7, o8⟩, ⟨o9, o10⟩, ⟨o11, o12⟩, o13, hn4⟩), (show (f 7).toInt = (f 7).toInt from rfl), (show (f 10).toInt = (f 10).toInt from rfl), (show (f 15).toInt = (f 15).toInt from rfl), (show v314.toInt = 19 ∨ (f 8).toInt + 1 ≤ z320.toInt from by first | with_reducible rfl | with_reducible assumption | omega), (show Q5 (a 5) from hq5)⟩) d_Tok_mark_131 | exact px_iret (v := v314) S hr rfl hlk hAe hw (Nat.le_of_ble_eq_true rfl) (Nat.le_of_ble_eq_true rfl) (⟨(upd f 8 z320), a, rfl, (show TokOk (f 7) z320 (f 10) (f 11) (f 12) (f 13) (f 17) (a 4) from ⟨⟨by first | exact o1 | omega, by first | exact o2 | omega⟩, ⟨by first | exact oz_0aba5895db tz320 g1 tz318 | omega, by first | exact oz_034949d2cd g2 tz320 tz318 | omega⟩, ⟨by first | exact o5 | omega, by first | exact o6 | omega⟩, ⟨by first | exact o7 | omega, by first | exact o8 | omega⟩, ⟨by first | exact o9 | omega, by first | exact o10 | omega⟩, ⟨by first | exact o11 | omega, by first | exact o12 | omega⟩, by first | exact o13 | omega, hn4⟩), (show (f 7).toInt = (f 7).toInt from rfl), (show (f 10).toInt = (f 10).toInt from rfl), (show (f 15).toInt = (f 15).toInt from rfl), (show v314.toInt = 19 ∨ (f 8).toInt + 1 ≤ z320.toInt from by first | with_reducible rfl | with_reducible assumption | omega), (show Q5 (a 5) from hq5)⟩) d_Tok_mark_131
            · exact absurd c297 (by decide)
          · have nc296 : v292.toInt = p0.toInt := (i_eq (x := v292) (y := p0)).mp c296
            refine lv_iload_n S.x S.b d_Tok_mark_64 rfl (lv_at hl 3 rfl) ?_
            refine px_calli (pr := [wd_Tok cs h r (fun _ => some tp) f a g, [(tp, .inl (cs 1, 2048, .inl tb))]]) (px_runS (As := [.int p0]) (rest := []) S (c_Tok_doubled l D cs p0 _) hT (pr := [wd_Tok cs h r (fun _ => some tp) f a g, [(tp, .inl (cs 1, 2048, .inl tb))]]) (pcs := []) hw px_X.tt m4_64 m4_62 m4_63 m1_2 q_Tok_doubled ⟨Nat.le_of_ble_eq_true rfl, Nat.le_of_ble_eq_true rfl⟩ hl.1 rfl (Nat.le_of_ble_eq_true rfl) d_Tok_mark_65 ⟨Nat.le_of_ble_eq_true rfl, Nat.le_of_ble_eq_true rfl⟩) hw hA (fun v324 p323 H locs hp323 hw => ?_)
            subst hp323
            have lv324 := Int32.le_toInt v324
            have uv324 := Int32.toInt_lt v324
            refine lv_goto (tgt := 72) S.x S.b d_Tok_mark_68 (by decide) ?_
            refine lv_istore (lv' := [(4, .int v324), (3, .int 1), (2, .int 256), (0, .ref h), (1, .int p0)]) S.x S.b d_Tok_mark_72 hl (by decide) rfl (fun ls hl => ?_)
            refine lv_iload S.x S.b d_Tok_mark_74 (lv_at hl 0 rfl) ?_
            refine lv_if_le (tgt := 84) S.x S.b d_Tok_mark_76 (by decide) (fun c325 => ?_) (fun c325 => ?_)
            · have nc325 : v324.toInt ≤ (0 : Int) := (i_le (x := v324) (y := 0)).mp c325
              refine lv_aload_n S.x S.b d_Tok_mark_84 rfl (lv_at hl 3 rfl) ?_
              refine lv_aload_n S.x S.b d_Tok_mark_85 rfl (lv_at hl 3 rfl) ?_
              refine px_get S k_Tok hT hw 0 0 8 (v := .int (f 8)) rfl rfl rfl (by decide) m1_111 d_Tok_mark_86 ?_
              refine lv_iload_n S.x S.b d_Tok_mark_89 rfl (lv_at hl 1 rfl) ?_
              refine lv_iadd S.x S.b d_Tok_mark_90 ?_
              have lr326 := Int32.le_toInt (f 8)
              have ur326 := Int32.toInt_lt (f 8)
              refine lv_topi (fun z327 ez327 => ?_)
              have tz327 : z327.toInt = ((f 8).toInt + (1 : Int) + 2147483648) % 4294967296 - 2147483648 := by rw [ez327]; exact i_add (f 8) 1
              have lz327 := Int32.le_toInt z327
              have uz327 := Int32.toInt_lt z327
              try replace tz327 : z327.toInt = (f 8).toInt + (1 : Int) := by omega
              first | refine px_calli (pr := []) (px_runV (As := [.int z327]) (rest := []) S (c_Tok_byteAt l D cs h r tp tb f a g z327 (show TokOk (f 7) (f 8) (f 10) (f 11) (f 12) (f 13) (f 17) (a 4) from ⟨⟨o1, o2⟩, ⟨g1, o4⟩, ⟨o5, o6⟩, ⟨o7, o8⟩, ⟨o9, o10⟩, ⟨o11, o12⟩, o13, hn4⟩)  _) hT (pr := []) (pcs := [wd_Tok cs h r (fun _ => some tp) f a g, [(tp, .inl (cs 1, 2048, .inl tb))]]) hw px_X.tt (px_recv hT hw 0 0 rfl rfl rfl) m3_186 m3_183 m3_185 ms_1_6 m1_2 q_Tok_byteAt ⟨Nat.le_of_ble_eq_true rfl, Nat.le_of_ble_eq_true rfl⟩ hl.1 rfl (Nat.le_of_ble_eq_true rfl) d_Tok_mark_91 ⟨Nat.le_of_ble_eq_true rfl, Nat.le_of_ble_eq_true rfl⟩) hw hA (fun v331 p330 H locs hp330 hw => ?_) | refine px_calli (pr := []) (px_runV (As := [.int z327]) (rest := []) S (c_Tok_byteAt l D cs h r tp tb f a g z327 (show TokOk (f 7) (f 8) (f 10) (f 11) (f 12) (f 13) (f 17) (a 4) from ⟨⟨by first | exact o1 | omega, by first | exact o2 | omega⟩, ⟨by first | exact g1 | omega, by first | exact o4 | omega⟩, ⟨by first | exact o5 | omega, by first | exact o6 | omega⟩, ⟨by first | exact o7 | omega, by first | exact o8 | omega⟩, ⟨by first | exact o9 | omega, by first | exact o10 | omega⟩, ⟨by first | exact o11 | omega, by first | exact o12 | omega⟩, by first | exact o13 | omega, hn4⟩)  _) hT (pr := []) (pcs := [wd_Tok cs h r (fun _ => some tp) f a g, [(tp, .inl (cs 1, 2048, .inl tb))]]) hw px_X.tt (px_recv hT hw 0 0 rfl rfl rfl) m3_186 m3_183 m3_185 ms_1_6 m1_2 q_Tok_byteAt ⟨Nat.le_of_ble_eq_true rfl, Nat.le_of_ble_eq_true rfl⟩ hl.1 rfl (Nat.le_of_ble_eq_true rfl) d_Tok_mark_91 ⟨Nat.le_of_ble_eq_true rfl, Nat.le_of_ble_eq_true rfl⟩) hw hA (fun v331 p330 H locs hp330 hw => ?_)
              obtain ⟨rfl, e332, e333, e334⟩ := hp330
              have e332 : -1 ≤ v331.toInt := e332
              have e333 : v331.toInt ≤ 255 := e333
              have e334 : 0 ≤ v331.toInt → 0 ≤ z327.toInt ∧ z327.toInt < (f 7).toInt := e334
              have lv331 := Int32.le_toInt v331
              have uv331 := Int32.toInt_lt v331
              refine lv_bipush (v := 61) S.x S.b d_Tok_mark_94 (by decide) ?_
              refine lv_icmp_ne (tgt := 106) S.x S.b d_Tok_mark_96 (by decide) (fun c335 => ?_) (fun c335 => ?_)
              · have nc335 : ¬ v331.toInt = (61 : Int) := mt (i_eq (x := v331) (y := 61)).mpr c335
                refine lv_iconst (v := 0) S.x S.b d_Tok_mark_106 (by decide) ?_
                refine lv_istore (lv' := [(5, .int 0), (4, .int v324), (3, .int 1), (2, .int 256), (0, .ref h), (1, .int p0)]) S.x S.b d_Tok_mark_107 hl (by decide) rfl (fun ls hl => ?_)
                refine lv_iload S.x S.b d_Tok_mark_109 (lv_at hl 0 rfl) ?_
                refine lv_if_le (tgt := 120) S.x S.b d_Tok_mark_111 (by decide) (fun c336 => ?_) (fun c336 => ?_)
                ·
                  refine lv_aload_n S.x S.b d_Tok_mark_120 rfl (lv_at hl 4 rfl) ?_
                  refine lv_dup S.x S.b d_Tok_mark_121 rfl ?_
                  refine px_get S k_Tok hT hw 0 0 8 (v := .int (f 8)) rfl rfl rfl (by decide) m1_111 d_Tok_mark_122 ?_
                  refine lv_iload_n S.x S.b d_Tok_mark_125 rfl (lv_at hl 2 rfl) ?_
                  refine lv_iadd S.x S.b d_Tok_mark_126 ?_
                  have lr337 := Int32.le_toInt (f 8)
                  have ur337 := Int32.toInt_lt (f 8)
                  refine lv_topi (fun z338 ez338 => ?_)
                  have tz338 : z338.toInt = ((f 8).toInt + (1 : Int) + 2147483648) % 4294967296 - 2147483648 := by rw [ez338]; exact i_add (f 8) 1
                  have lz338 := Int32.le_toInt z338
                  have uz338 := Int32.toInt_lt z338
                  try replace tz338 : z338.toInt = (f 8).toInt + (1 : Int) := by omega
                  refine px_put S k_Tok hT hw 0 0 8 rfl rfl (by decide) m1_111 rfl rfl rfl (Nat.le_of_ble_eq_true rfl) d_Tok_mark_127 (w' := wd_Tok cs h r (fun _ => some tp) (upd f 8 z338) a g) (ps' := [wd_Tok cs h r (fun _ => some tp) (upd f 8 z338) a g, [(tp, .inl (cs 1, 2048, .inl tb))]]) rfl rfl (fun H locs hw => ?_)
                  refine lv_iload_n S.x S.b d_Tok_mark_130 rfl (lv_at hl 3 rfl) ?_
                  first | exact px_iret (v := 256) S hr rfl hlk hAe hw (Nat.le_of_ble_eq_true rfl) (Nat.le_of_ble_eq_true rfl) (⟨(upd f 8 z338), a, rfl, (show TokOk (f 7) z338 (f 10) (f 11) (f 12) (f 13) (f 17) (a 4) from ⟨⟨o1, o2⟩, ⟨(oz_b3b25f0e49 tz338 g1), (oz_8964937ede g2 tz338)⟩, ⟨o5, o6⟩, ⟨o7, o8⟩, ⟨o9, o10⟩, ⟨o11, o12⟩, o13, hn4⟩), (show (f 7).toInt = (f 7).toInt from rfl), (show (f 10).toInt = (f 10).toInt from rfl), (show (f 15).toInt = (f 15).toInt from rfl), (show (256 : Int) = 19 ∨ (f 8).toInt + 1 ≤ z338.toInt from by first | with_reducible rfl | with_reducible assumption | omega), (show Q5 (a 5) from hq5)⟩) d_Tok_mark_131 | exact px_iret (v := 256) S hr rfl hlk hAe hw (Nat.le_of_ble_eq_true rfl) (Nat.le_of_ble_eq_true rfl) (⟨(upd f 8 z338), a, rfl, (show TokOk (f 7) z338 (f 10) (f 11) (f 12) (f 13) (f 17) (a 4) from ⟨⟨by first | exact o1 | omega, by first | exact o2 | omega⟩, ⟨by first | exact oz_b3b25f0e49 tz338 g1 | omega, by first | exact oz_8964937ede g2 tz338 | omega⟩, ⟨by first | exact o5 | omega, by first | exact o6 | omega⟩, ⟨by first | exact o7 | omega, by first | exact o8 | omega⟩, ⟨by first | exact o9 | omega, by first | exact o10 | omega⟩, ⟨by first | exact o11 | omega, by first | exact o12 | omega⟩, by first | exact o13 | omega, hn4⟩), (show (f 7).toInt = (f 7).toInt from rfl), (show (f 10).toInt = (f 10).toInt from rfl), (show (f 15).toInt = (f 15).toInt from rfl), (show (256 : Int) = 19 ∨ (f 8).toInt + 1 ≤ z338.toInt from by first | with_reducible rfl | with_reducible assumption | omega), (show Q5 (a 5) from hq5)⟩) d_Tok_mark_131
                · exact absurd c336 (by decide)
              · have nc335 : v331.toInt = (61 : Int) := (i_eq (x := v331) (y := 61)).mp c335
                refine lv_iload_n S.x S.b d_Tok_mark_99 rfl (lv_at hl 2 rfl) ?_
                refine px_calli (pr := [wd_Tok cs h r (fun _ => some tp) f a g, [(tp, .inl (cs 1, 2048, .inl tb))]]) (px_runS (As := [.int 256]) (rest := []) S (c_Tok_withEquals l D cs 256 _) hT (pr := [wd_Tok cs h r (fun _ => some tp) f a g, [(tp, .inl (cs 1, 2048, .inl tb))]]) (pcs := []) hw px_X.tt m4_67 m4_65 m4_66 m1_2 q_Tok_withEquals ⟨Nat.le_of_ble_eq_true rfl, Nat.le_of_ble_eq_true rfl⟩ hl.1 rfl (Nat.le_of_ble_eq_true rfl) d_Tok_mark_100 ⟨Nat.le_of_ble_eq_true rfl, Nat.le_of_ble_eq_true rfl⟩) hw hA (fun v342 p341 H locs hp341 hw => ?_)
                subst hp341
                have lv342 := Int32.le_toInt v342
                have uv342 := Int32.toInt_lt v342
                refine lv_goto (tgt := 107) S.x S.b d_Tok_mark_103 (by decide) ?_
                refine lv_istore (lv' := [(5, .int v342), (4, .int v324), (3, .int 1), (2, .int 256), (0, .ref h), (1, .int p0)]) S.x S.b d_Tok_mark_107 hl (by decide) rfl (fun ls hl => ?_)
                refine lv_iload S.x S.b d_Tok_mark_109 (lv_at hl 0 rfl) ?_
                refine lv_if_le (tgt := 120) S.x S.b d_Tok_mark_111 (by decide) (fun c343 => ?_) (fun c343 => ?_)
                · have nc343 : v342.toInt ≤ (0 : Int) := (i_le (x := v342) (y := 0)).mp c343
                  refine lv_aload_n S.x S.b d_Tok_mark_120 rfl (lv_at hl 4 rfl) ?_
                  refine lv_dup S.x S.b d_Tok_mark_121 rfl ?_
                  refine px_get S k_Tok hT hw 0 0 8 (v := .int (f 8)) rfl rfl rfl (by decide) m1_111 d_Tok_mark_122 ?_
                  refine lv_iload_n S.x S.b d_Tok_mark_125 rfl (lv_at hl 2 rfl) ?_
                  refine lv_iadd S.x S.b d_Tok_mark_126 ?_
                  have lr344 := Int32.le_toInt (f 8)
                  have ur344 := Int32.toInt_lt (f 8)
                  refine lv_topi (fun z345 ez345 => ?_)
                  have tz345 : z345.toInt = ((f 8).toInt + (1 : Int) + 2147483648) % 4294967296 - 2147483648 := by rw [ez345]; exact i_add (f 8) 1
                  have lz345 := Int32.le_toInt z345
                  have uz345 := Int32.toInt_lt z345
                  try replace tz345 : z345.toInt = (f 8).toInt + (1 : Int) := by omega
                  refine px_put S k_Tok hT hw 0 0 8 rfl rfl (by decide) m1_111 rfl rfl rfl (Nat.le_of_ble_eq_true rfl) d_Tok_mark_127 (w' := wd_Tok cs h r (fun _ => some tp) (upd f 8 z345) a g) (ps' := [wd_Tok cs h r (fun _ => some tp) (upd f 8 z345) a g, [(tp, .inl (cs 1, 2048, .inl tb))]]) rfl rfl (fun H locs hw => ?_)
                  refine lv_iload_n S.x S.b d_Tok_mark_130 rfl (lv_at hl 3 rfl) ?_
                  first | exact px_iret (v := 256) S hr rfl hlk hAe hw (Nat.le_of_ble_eq_true rfl) (Nat.le_of_ble_eq_true rfl) (⟨(upd f 8 z345), a, rfl, (show TokOk (f 7) z345 (f 10) (f 11) (f 12) (f 13) (f 17) (a 4) from ⟨⟨o1, o2⟩, ⟨(oz_b3b25f0e49 tz345 g1), (oz_8964937ede g2 tz345)⟩, ⟨o5, o6⟩, ⟨o7, o8⟩, ⟨o9, o10⟩, ⟨o11, o12⟩, o13, hn4⟩), (show (f 7).toInt = (f 7).toInt from rfl), (show (f 10).toInt = (f 10).toInt from rfl), (show (f 15).toInt = (f 15).toInt from rfl), (show (256 : Int) = 19 ∨ (f 8).toInt + 1 ≤ z345.toInt from by first | with_reducible rfl | with_reducible assumption | omega), (show Q5 (a 5) from hq5)⟩) d_Tok_mark_131 | exact px_iret (v := 256) S hr rfl hlk hAe hw (Nat.le_of_ble_eq_true rfl) (Nat.le_of_ble_eq_true rfl) (⟨(upd f 8 z345), a, rfl, (show TokOk (f 7) z345 (f 10) (f 11) (f 12) (f 13) (f 17) (a 4) from ⟨⟨by first | exact o1 | omega, by first | exact o2 | omega⟩, ⟨by first | exact oz_b3b25f0e49 tz345 g1 | omega, by first | exact oz_8964937ede g2 tz345 | omega⟩, ⟨by first | exact o5 | omega, by first | exact o6 | omega⟩, ⟨by first | exact o7 | omega, by first | exact o8 | omega⟩, ⟨by first | exact o9 | omega, by first | exact o10 | omega⟩, ⟨by first | exact o11 | omega, by first | exact o12 | omega⟩, by first | exact o13 | omega, hn4⟩), (show (f 7).toInt = (f 7).toInt from rfl), (show (f 10).toInt = (f 10).toInt from rfl), (show (f 15).toInt = (f 15).toInt from rfl), (show (256 : Int) = 19 ∨ (f 8).toInt + 1 ≤ z345.toInt from by first | with_reducible rfl | with_reducible assumption | omega), (show Q5 (a 5) from hq5)⟩) d_Tok_mark_131
                · have nc343 : ¬ v342.toInt ≤ (0 : Int) := mt (i_le (x := v342) (y := 0)).mpr c343
                  refine lv_iload S.x S.b d_Tok_mark_114 (lv_at hl 0 rfl) ?_
                  refine lv_istore_n (lv' := [(2, .int v342), (5, .int v342), (4, .int v324), (3, .int 1), (0, .ref h), (1, .int p0)]) S.x S.b d_Tok_mark_116 rfl hl (by decide) rfl (fun ls hl => ?_)
                  obtain ⟨z346, ez346⟩ : ∃ y : Int32, y = 1 + 1 := ⟨_, rfl⟩
                  have tz346 : z346.toInt = ((1 : Int) + 1 + 2147483648) % 4294967296 - 2147483648 := by rw [ez346]; exact i_add 1 1
                  have lz346 := Int32.le_toInt z346
                  have uz346 := Int32.toInt_lt z346
                  try replace tz346 : z346.toInt = (1 : Int) + 1 := by omega
                  refine lv_iinc (v := z346) (lv' := [(3, .int z346), (2, .int v342), (5, .int v342), (4, .int v324), (0, .ref h), (1, .int p0)]) S.x S.b d_Tok_mark_117 hl (k := 3) rfl (by rw [ez346]; rfl) (by decide) rfl (fun ls hl => ?_)
                  refine lv_aload_n S.x S.b d_Tok_mark_120 rfl (lv_at hl 4 rfl) ?_
                  refine lv_dup S.x S.b d_Tok_mark_121 rfl ?_
                  refine px_get S k_Tok hT hw 0 0 8 (v := .int (f 8)) rfl rfl rfl (by decide) m1_111 d_Tok_mark_122 ?_
                  refine lv_iload_n S.x S.b d_Tok_mark_125 rfl (lv_at hl 0 rfl) ?_
                  refine lv_iadd S.x S.b d_Tok_mark_126 ?_
                  have lr347 := Int32.le_toInt (f 8)
                  have ur347 := Int32.toInt_lt (f 8)
                  refine lv_topi (fun z348 ez348 => ?_)
                  have tz348 : z348.toInt = ((f 8).toInt + z346.toInt + 2147483648) % 4294967296 - 2147483648 := by rw [ez348]; exact i_add (f 8) z346
                  have lz348 := Int32.le_toInt z348
                  have uz348 := Int32.toInt_lt z348
                  try replace tz348 : z348.toInt = (f 8).toInt + z346.toInt := by omega
                  refine px_put S k_Tok hT hw 0 0 8 rfl rfl (by decide) m1_111 rfl rfl rfl (Nat.le_of_ble_eq_true rfl) d_Tok_mark_127 (w' := wd_Tok cs h r (fun _ => some tp) (upd f 8 z348) a g) (ps' := [wd_Tok cs h r (fun _ => some tp) (upd f 8 z348) a g, [(tp, .inl (cs 1, 2048, .inl tb))]]) rfl rfl (fun H locs hw => ?_)
                  refine lv_iload_n S.x S.b d_Tok_mark_130 rfl (lv_at hl 1 rfl) ?_
                  first | exact px_iret (v := v342) S hr rfl hlk hAe hw (Nat.le_of_ble_eq_true rfl) (Nat.le_of_ble_eq_true rfl) (⟨(upd f 8 z348), a, rfl, (show TokOk (f 7) z348 (f 10) (f 11) (f 12) (f 13) (f 17) (a 4) from ⟨⟨o1, o2⟩, ⟨(oz_0aba5895db tz348 g1 tz346), (oz_034949d2cd g2 tz348 tz346)⟩, ⟨o5, o6⟩, ⟨o7, o8⟩, ⟨o9, o10⟩, ⟨o11, o12⟩, o13, hn4⟩), (show (f 7).toInt = (f 7).toInt from rfl), (show (f 10).toInt = (f 10).toInt from rfl), (show (f 15).toInt = (f 15).toInt from rfl), (show v342.toInt = 19 ∨ (f 8).toInt + 1 ≤ z348.toInt from by first | with_reducible rfl | with_reducible assumption | omega), (show Q5 (a 5) from hq5)⟩) d_Tok_mark_131 | exact px_iret (v := v342) S hr rfl hlk hAe hw (Nat.le_of_ble_eq_true rfl) (Nat.le_of_ble_eq_true rfl) (⟨(upd f 8 z348), a, rfl, (show TokOk (f 7) z348 (f 10) (f 11) (f 12) (f 13) (f 17) (a 4) from ⟨⟨by first | exact o1 | omega, by first | exact o2 | omega⟩, ⟨by first | exact oz_0aba5895db tz348 g1 tz346 | omega, by first | exact oz_034949d2cd g2 tz348 tz346 | omega⟩, ⟨by first | exact o5 | omega, by first | exact o6 | omega⟩, ⟨by first | exact o7 | omega, by first | exact o8 | omega⟩, ⟨by first | exact o9 | omega, by first | exact o10 | omega⟩, ⟨by first | exact o11 | omega, by first | exact o12 | omega⟩, by first | exact o13 | omega, hn4⟩), (show (f 7).toInt = (f 7).toInt from rfl), (show (f 10).toInt = (f 10).toInt from rfl), (show (f 15).toInt = (f 15).toInt from rfl), (show v342.toInt = 19 ∨ (f 8).toInt + 1 ≤ z348.toInt from by first | with_reducible rfl | with_reducible assumption | omega), (show Q5 (a 5) from hq5)⟩) d_Tok_mark_131
            · have nc325 : ¬ v324.toInt ≤ (0 : Int) := mt (i_le (x := v324) (y := 0)).mpr c325
              refine lv_iload S.x S.b d_Tok_mark_79 (lv_at hl 0 rfl) ?_
              refine lv_istore_n (lv' := [(2, .int v324), (4, .int v324), (3, .int 1), (0, .ref h), (1, .int p0)]) S.x S.b d_Tok_mark_81 rfl hl (by decide) rfl (fun ls hl => ?_)
              refine lv_iconst (v := 2) S.x S.b d_Tok_mark_82 (by decide) ?_
              refine lv_istore_n (lv' := [(3, .int 2), (2, .int v324), (4, .int v324), (0, .ref h), (1, .int p0)]) S.x S.b d_Tok_mark_83 rfl hl (by decide) rfl (fun ls hl => ?_)
              refine lv_aload_n S.x S.b d_Tok_mark_84 rfl (lv_at hl 3 rfl) ?_
              refine lv_aload_n S.x S.b d_Tok_mark_85 rfl (lv_at hl 3 rfl) ?_
              refine px_get S k_Tok hT hw 0 0 8 (v := .int (f 8)) rfl rfl rfl (by decide) m1_111 d_Tok_mark_86 ?_
              refine lv_iload_n S.x S.b d_Tok_mark_89 rfl (lv_at hl 0 rfl) ?_
              refine lv_iadd S.x S.b d_Tok_mark_90 ?_
              have lr349 := Int32.le_toInt (f 8)
              have ur349 := Int32.toInt_lt (f 8)
              refine lv_topi (fun z350 ez350 => ?_)
              have tz350 : z350.toInt = ((f 8).toInt + (2 : Int) + 2147483648) % 4294967296 - 2147483648 := by rw [ez350]; exact i_add (f 8) 2
              have lz350 := Int32.le_toInt z350
              have uz350 := Int32.toInt_lt z350
              try replace tz350 : z350.toInt = (f 8).toInt + (2 : Int) := by omega
              first | refine px_calli (pr := []) (px_runV (As := [.int z350]) (rest := []) S (c_Tok_byteAt l D cs h r tp tb f a g z350 (show TokOk (f 7) (f 8) (f 10) (f 11) (f 12) (f 13) (f 17) (a 4) from ⟨⟨o1, o2⟩, ⟨g1, o4⟩, ⟨o5, o6⟩, ⟨o7, o8⟩, ⟨o9, o10⟩, ⟨o11, o12⟩, o13, hn4⟩)  _) hT (pr := []) (pcs := [wd_Tok cs h r (fun _ => some tp) f a g, [(tp, .inl (cs 1, 2048, .inl tb))]]) hw px_X.tt (px_recv hT hw 0 0 rfl rfl rfl) m3_186 m3_183 m3_185 ms_1_6 m1_2 q_Tok_byteAt ⟨Nat.le_of_ble_eq_true rfl, Nat.le_of_ble_eq_true rfl⟩ hl.1 rfl (Nat.le_of_ble_eq_true rfl) d_Tok_mark_91 ⟨Nat.le_of_ble_eq_true rfl, Nat.le_of_ble_eq_true rfl⟩) hw hA (fun v354 p353 H locs hp353 hw => ?_) | refine px_calli (pr := []) (px_runV (As := [.int z350]) (rest := []) S (c_Tok_byteAt l D cs h r tp tb f a g z350 (show TokOk (f 7) (f 8) (f 10) (f 11) (f 12) (f 13) (f 17) (a 4) from ⟨⟨by first | exact o1 | omega, by first | exact o2 | omega⟩, ⟨by first | exact g1 | omega, by first | exact o4 | omega⟩, ⟨by first | exact o5 | omega, by first | exact o6 | omega⟩, ⟨by first | exact o7 | omega, by first | exact o8 | omega⟩, ⟨by first | exact o9 | omega, by first | exact o10 | omega⟩, ⟨by first | exact o11 | omega, by first | exact o12 | omega⟩, by first | exact o13 | omega, hn4⟩)  _) hT (pr := []) (pcs := [wd_Tok cs h r (fun _ => some tp) f a g, [(tp, .inl (cs 1, 2048, .inl tb))]]) hw px_X.tt (px_recv hT hw 0 0 rfl rfl rfl) m3_186 m3_183 m3_185 ms_1_6 m1_2 q_Tok_byteAt ⟨Nat.le_of_ble_eq_true rfl, Nat.le_of_ble_eq_true rfl⟩ hl.1 rfl (Nat.le_of_ble_eq_true rfl) d_Tok_mark_91 ⟨Nat.le_of_ble_eq_true rfl, Nat.le_of_ble_eq_true rfl⟩) hw hA (fun v354 p353 H locs hp353 hw => ?_)
              obtain ⟨rfl, e355, e356, e357⟩ := hp353
              have e355 : -1 ≤ v354.toInt := e355
              have e356 : v354.toInt ≤ 255 := e356
              have e357 : 0 ≤ v354.toInt → 0 ≤ z350.toInt ∧ z350.toInt < (f 7).toInt := e357
              have lv354 := Int32.le_toInt v354
              have uv354 := Int32.toInt_lt v354
              refine lv_bipush (v := 61) S.x S.b d_Tok_mark_94 (by decide) ?_
              refine lv_icmp_ne (tgt := 106) S.x S.b d_Tok_mark_96 (by decide) (fun c358 => ?_) (fun c358 => ?_)
              · have nc358 : ¬ v354.toInt = (61 : Int) := mt (i_eq (x := v354) (y := 61)).mpr c358
                refine lv_iconst (v := 0) S.x S.b d_Tok_mark_106 (by decide) ?_
                refine lv_istore (lv' := [(5, .int 0), (3, .int 2), (2, .int v324), (4, .int v324), (0, .ref h), (1, .int p0)]) S.x S.b d_Tok_mark_107 hl (by decide) rfl (fun ls hl => ?_)
                refine lv_iload S.x S.b d_Tok_mark_109 (lv_at hl 0 rfl) ?_
                refine lv_if_le (tgt := 120) S.x S.b d_Tok_mark_111 (by decide) (fun c359 => ?_) (fun c359 => ?_)
                ·
                  refine lv_aload_n S.x S.b d_Tok_mark_120 rfl (lv_at hl 4 rfl) ?_
                  refine lv_dup S.x S.b d_Tok_mark_121 rfl ?_
                  refine px_get S k_Tok hT hw 0 0 8 (v := .int (f 8)) rfl rfl rfl (by decide) m1_111 d_Tok_mark_122 ?_
                  refine lv_iload_n S.x S.b d_Tok_mark_125 rfl (lv_at hl 1 rfl) ?_
                  refine lv_iadd S.x S.b d_Tok_mark_126 ?_
                  have lr360 := Int32.le_toInt (f 8)
                  have ur360 := Int32.toInt_lt (f 8)
                  refine lv_topi (fun z361 ez361 => ?_)
                  have tz361 : z361.toInt = ((f 8).toInt + (2 : Int) + 2147483648) % 4294967296 - 2147483648 := by rw [ez361]; exact i_add (f 8) 2
                  have lz361 := Int32.le_toInt z361
                  have uz361 := Int32.toInt_lt z361
                  try replace tz361 : z361.toInt = (f 8).toInt + (2 : Int) := by omega
                  refine px_put S k_Tok hT hw 0 0 8 rfl rfl (by decide) m1_111 rfl rfl rfl (Nat.le_of_ble_eq_true rfl) d_Tok_mark_127 (w' := wd_Tok cs h r (fun _ => some tp) (upd f 8 z361) a g) (ps' := [wd_Tok cs h r (fun _ => some tp) (upd f 8 z361) a g, [(tp, .inl (cs 1, 2048, .inl tb))]]) rfl rfl (fun H locs hw => ?_)
                  refine lv_iload_n S.x S.b d_Tok_mark_130 rfl (lv_at hl 2 rfl) ?_
                  first | exact px_iret (v := v324) S hr rfl hlk hAe hw (Nat.le_of_ble_eq_true rfl) (Nat.le_of_ble_eq_true rfl) (⟨(upd f 8 z361), a, rfl, (show TokOk (f 7) z361 (f 10) (f 11) (f 12) (f 13) (f 17) (a 4) from ⟨⟨o1, o2⟩, ⟨(oz_6c4a1e09c3 tz361 g1), (oz_26c995f1f8 g2 tz361)⟩, ⟨o5, o6⟩, ⟨o7, o8⟩, ⟨o9, o10⟩, ⟨o11, o12⟩, o13, hn4⟩), (show (f 7).toInt = (f 7).toInt from rfl), (show (f 10).toInt = (f 10).toInt from rfl), (show (f 15).toInt = (f 15).toInt from rfl), (show v324.toInt = 19 ∨ (f 8).toInt + 1 ≤ z361.toInt from by first | with_reducible rfl | with_reducible assumption | omega), (show Q5 (a 5) from hq5)⟩) d_Tok_mark_131 | exact px_iret (v := v324) S hr rfl hlk hAe hw (Nat.le_of_ble_eq_true rfl) (Nat.le_of_ble_eq_true rfl) (⟨(upd f 8 z361), a, rfl, (show TokOk (f 7) z361 (f 10) (f 11) (f 12) (f 13) (f 17) (a 4) from ⟨⟨by first | exact o1 | omega, by first | exact o2 | omega⟩, ⟨by first | exact oz_6c4a1e09c3 tz361 g1 | omega, by first | exact oz_26c995f1f8 g2 tz361 | omega⟩, ⟨by first | exact o5 | omega, by first | exact o6 | omega⟩, ⟨by first | exact o7 | omega, by first | exact o8 | omega⟩, ⟨by first | exact o9 | omega, by first | exact o10 | omega⟩, ⟨by first | exact o11 | omega, by first | exact o12 | omega⟩, by first | exact o13 | omega, hn4⟩), (show (f 7).toInt = (f 7).toInt from rfl), (show (f 10).toInt = (f 10).toInt from rfl), (show (f 15).toInt = (f 15).toInt from rfl), (show v324.toInt = 19 ∨ (f 8).toInt + 1 ≤ z361.toInt from by first | with_reducible rfl | with_reducible assumption | omega), (show Q5 (a 5) from hq5)⟩) d_Tok_mark_131
                · exact absurd c359 (by decide)
              · have nc358 : v354.toInt = (61 : Int) := (i_eq (x := v354) (y := 61)).mp c358
                refine lv_iload_n S.x S.b d_Tok_mark_99 rfl (lv_at hl 1 rfl) ?_
                refine px_calli (pr := [wd_Tok cs h r (fun _ => some tp) f a g, [(tp, .inl (cs 1, 2048, .inl tb))]]) (px_runS (As := [.int v324]) (rest := []) S (c_Tok_withEquals l D cs v324 _) hT (pr := [wd_Tok cs h r (fun _ => some tp) f a g, [(tp, .inl (cs 1, 2048, .inl tb))]]) (pcs := []) hw px_X.tt m4_67 m4_65 m4_66 m1_2 q_Tok_withEquals ⟨Nat.le_of_ble_eq_true rfl, Nat.le_of_ble_eq_true rfl⟩ hl.1 rfl (Nat.le_of_ble_eq_true rfl) d_Tok_mark_100 ⟨Nat.le_of_ble_eq_true rfl, Nat.le_of_ble_eq_true rfl⟩) hw hA (fun v365 p364 H locs hp364 hw => ?_)
                subst hp364
                have lv365 := Int32.le_toInt v365
                have uv365 := Int32.toInt_lt v365
                refine lv_goto (tgt := 107) S.x S.b d_Tok_mark_103 (by decide) ?_
                refine lv_istore (lv' := [(5, .int v365), (3, .int 2), (2, .int v324), (4, .int v324), (0, .ref h), (1, .int p0)]) S.x S.b d_Tok_mark_107 hl (by decide) rfl (fun ls hl => ?_)
                refine lv_iload S.x S.b d_Tok_mark_109 (lv_at hl 0 rfl) ?_
                refine lv_if_le (tgt := 120) S.x S.b d_Tok_mark_111 (by decide) (fun c366 => ?_) (fun c366 => ?_)
                · have nc366 : v365.toInt ≤ (0 : Int) := (i_le (x := v365) (y := 0)).mp c366
                  refine lv_aload_n S.x S.b d_Tok_mark_120 rfl (lv_at hl 4 rfl) ?_
                  refine lv_dup S.x S.b d_Tok_mark_121 rfl ?_
                  refine px_get S k_Tok hT hw 0 0 8 (v := .int (f 8)) rfl rfl rfl (by decide) m1_111 d_Tok_mark_122 ?_
                  refine lv_iload_n S.x S.b d_Tok_mark_125 rfl (lv_at hl 1 rfl) ?_
                  refine lv_iadd S.x S.b d_Tok_mark_126 ?_
                  have lr367 := Int32.le_toInt (f 8)
                  have ur367 := Int32.toInt_lt (f 8)
                  refine lv_topi (fun z368 ez368 => ?_)
                  have tz368 : z368.toInt = ((f 8).toInt + (2 : Int) + 2147483648) % 4294967296 - 2147483648 := by rw [ez368]; exact i_add (f 8) 2
                  have lz368 := Int32.le_toInt z368
                  have uz368 := Int32.toInt_lt z368
                  try replace tz368 : z368.toInt = (f 8).toInt + (2 : Int) := by omega
                  refine px_put S k_Tok hT hw 0 0 8 rfl rfl (by decide) m1_111 rfl rfl rfl (Nat.le_of_ble_eq_true rfl) d_Tok_mark_127 (w' := wd_Tok cs h r (fun _ => some tp) (upd f 8 z368) a g) (ps' := [wd_Tok cs h r (fun _ => some tp) (upd f 8 z368) a g, [(tp, .inl (cs 1, 2048, .inl tb))]]) rfl rfl (fun H locs hw => ?_)
                  refine lv_iload_n S.x S.b d_Tok_mark_130 rfl (lv_at hl 2 rfl) ?_
                  first | exact px_iret (v := v324) S hr rfl hlk hAe hw (Nat.le_of_ble_eq_true rfl) (Nat.le_of_ble_eq_true rfl) (⟨(upd f 8 z368), a, rfl, (show TokOk (f 7) z368 (f 10) (f 11) (f 12) (f 13) (f 17) (a 4) from ⟨⟨o1, o2⟩, ⟨(oz_6c4a1e09c3 tz368 g1), (oz_26c995f1f8 g2 tz368)⟩, ⟨o5, o6⟩, ⟨o7, o8⟩, ⟨o9, o10⟩, ⟨o11, o12⟩, o13, hn4⟩), (show (f 7).toInt = (f 7).toInt from rfl), (show (f 10).toInt = (f 10).toInt from rfl), (show (f 15).toInt = (f 15).toInt from rfl), (show v324.toInt = 19 ∨ (f 8).toInt + 1 ≤ z368.toInt from by first | with_reducible rfl | with_reducible assumption | omega), (show Q5 (a 5) from hq5)⟩) d_Tok_mark_131 | exact px_iret (v := v324) S hr rfl hlk hAe hw (Nat.le_of_ble_eq_true rfl) (Nat.le_of_ble_eq_true rfl) (⟨(upd f 8 z368), a, rfl, (show TokOk (f 7) z368 (f 10) (f 11) (f 12) (f 13) (f 17) (a 4) from ⟨⟨by first | exact o1 | omega, by first | exact o2 | omega⟩, ⟨by first | exact oz_6c4a1e09c3 tz368 g1 | omega, by first | exact oz_26c995f1f8 g2 tz368 | omega⟩, ⟨by first | exact o5 | omega, by first | exact o6 | omega⟩, ⟨by first | exact o7 | omega, by first | exact o8 | omega⟩, ⟨by first | exact o9 | omega, by first | exact o10 | omega⟩, ⟨by first | exact o11 | omega, by first | exact o12 | omega⟩, by first | exact o13 | omega, hn4⟩), (show (f 7).toInt = (f 7).toInt from rfl), (show (f 10).toInt = (f 10).toInt from rfl), (show (f 15).toInt = (f 15).toInt from rfl), (show v324.toInt = 19 ∨ (f 8).toInt + 1 ≤ z368.toInt from by first | with_reducible rfl | with_reducible assumption | omega), (show Q5 (a 5) from hq5)⟩) d_Tok_mark_131
                · have nc366 : ¬ v365.toInt ≤ (0 : Int) := mt (i_le (x := v365) (y := 0)).mpr c366
                  refine lv_iload S.x S.b d_Tok_mark_114 (lv_at hl 0 rfl) ?_
                  refine lv_istore_n (lv' := [(2, .int v365), (5, .int v365), (3, .int 2), (4, .int v324), (0, .ref h), (1, .int p0)]) S.x S.b d_Tok_mark_116 rfl hl (by decide) rfl (fun ls hl => ?_)
                  obtain ⟨z369, ez369⟩ : ∃ y : Int32, y = 2 + 1 := ⟨_, rfl⟩
                  have tz369 : z369.toInt = ((2 : Int) + 1 + 2147483648) % 4294967296 - 2147483648 := by rw [ez369]; exact i_add 2 1
                  have lz369 := Int32.le_toInt z369
                  have uz369 := Int32.toInt_lt z369
                  try replace tz369 : z369.toInt = (2 : Int) + 1 := by omega
                  refine lv_iinc (v := z369) (lv' := [(3, .int z369), (2, .int v365), (5, .int v365), (4, .int v324), (0, .ref h), (1, .int p0)]) S.x S.b d_Tok_mark_117 hl (k := 2) rfl (by rw [ez369]; rfl) (by decide) rfl (fun ls hl => ?_)
                  refine lv_aload_n S.x S.b d_Tok_mark_120 rfl (lv_at hl 4 rfl) ?_
                  refine lv_dup S.x S.b d_Tok_mark_121 rfl ?_
                  refine px_get S k_Tok hT hw 0 0 8 (v := .int (f 8)) rfl rfl rfl (by decide) m1_111 d_Tok_mark_122 ?_
                  refine lv_iload_n S.x S.b d_Tok_mark_125 rfl (lv_at hl 0 rfl) ?_
                  refine lv_iadd S.x S.b d_Tok_mark_126 ?_
                  have lr370 := Int32.le_toInt (f 8)
                  have ur370 := Int32.toInt_lt (f 8)
                  refine lv_topi (fun z371 ez371 => ?_)
                  have tz371 : z371.toInt = ((f 8).toInt + z369.toInt + 2147483648) % 4294967296 - 2147483648 := by rw [ez371]; exact i_add (f 8) z369
                  have lz371 := Int32.le_toInt z371
                  have uz371 := Int32.toInt_lt z371
                  try replace tz371 : z371.toInt = (f 8).toInt + z369.toInt := by omega
                  refine px_put S k_Tok hT hw 0 0 8 rfl rfl (by decide) m1_111 rfl rfl rfl (Nat.le_of_ble_eq_true rfl) d_Tok_mark_127 (w' := wd_Tok cs h r (fun _ => some tp) (upd f 8 z371) a g) (ps' := [wd_Tok cs h r (fun _ => some tp) (upd f 8 z371) a g, [(tp, .inl (cs 1, 2048, .inl tb))]]) rfl rfl (fun H locs hw => ?_)
                  refine lv_iload_n S.x S.b d_Tok_mark_130 rfl (lv_at hl 1 rfl) ?_
                  first | exact px_iret (v := v365) S hr rfl hlk hAe hw (Nat.le_of_ble_eq_true rfl) (Nat.le_of_ble_eq_true rfl) (⟨(upd f 8 z371), a, rfl, (show TokOk (f 7) z371 (f 10) (f 11) (f 12) (f 13) (f 17) (a 4) from ⟨⟨o1, o2⟩, ⟨(oz_5872ca9df2 tz371 g1 tz369), (oz_0136642c8e g2 tz371 tz369)⟩, ⟨o5, o6⟩, ⟨o7, o8⟩, ⟨o9, o10⟩, ⟨o11, o12⟩, o13, hn4⟩), (show (f 7).toInt = (f 7).toInt from rfl), (show (f 10).toInt = (f 10).toInt from rfl), (show (f 15).toInt = (f 15).toInt from rfl), (show v365.toInt = 19 ∨ (f 8).toInt + 1 ≤ z371.toInt from by first | with_reducible rfl | with_reducible assumption | omega), (show Q5 (a 5) from hq5)⟩) d_Tok_mark_131 | exact px_iret (v := v365) S hr rfl hlk hAe hw (Nat.le_of_ble_eq_true rfl) (Nat.le_of_ble_eq_true rfl) (⟨(upd f 8 z371), a, rfl, (show TokOk (f 7) z371 (f 10) (f 11) (f 12) (f 13) (f 17) (a 4) from ⟨⟨by first | exact o1 | omega, by first | exact o2 | omega⟩, ⟨by first | exact oz_5872ca9df2 tz371 g1 tz369 | omega, by first | exact oz_0136642c8e g2 tz371 tz369 | omega⟩, ⟨by first | exact o5 | omega, by first | exact o6 | omega⟩, ⟨by first | exact o7 | omega, by first | exact o8 | omega⟩, ⟨by first | exact o9 | omega, by first | exact o10 | omega⟩, ⟨by first | exact o11 | omega, by first | exact o12 | omega⟩, by first | exact o13 | omega, hn4⟩), (show (f 7).toInt = (f 7).toInt from rfl), (show (f 10).toInt = (f 10).toInt from rfl), (show (f 15).toInt = (f 15).toInt from rfl), (show v365.toInt = 19 ∨ (f 8).toInt + 1 ≤ z371.toInt from by first | with_reducible rfl | with_reducible assumption | omega), (show Q5 (a 5) from hq5)⟩) d_Tok_mark_131
        · have nc286 : v282.toInt = (42 : Int) := (i_eq (x := v282) (y := 42)).mp c286
          refine lv_bipush (v := 19) S.x S.b d_Tok_mark_47 (by decide) ?_
          first | exact px_iret (v := 19) S hr rfl hlk hAe hw (Nat.le_of_ble_eq_true rfl) (Nat.le_of_ble_eq_true rfl) (⟨f, a, rfl, (show TokOk (f 7) (f 8) (f 10) (f 11) (f 12) (f 13) (f 17) (a 4) from ⟨⟨o1, o2⟩, ⟨g1, o4⟩, ⟨o5, o6⟩, ⟨o7, o8⟩, ⟨o9, o10⟩, ⟨o11, o12⟩, o13, hn4⟩), (show (f 7).toInt = (f 7).toInt from rfl), (show (f 10).toInt = (f 10).toInt from rfl), (show (f 15).toInt = (f 15).toInt from rfl), (show (19 : Int) = 19 ∨ (f 8).toInt + 1 ≤ (f 8).toInt from by first | with_reducible rfl | with_reducible assumption | omega), (show Q5 (a 5) from hq5)⟩) d_Tok_mark_49 | exact px_iret (v := 19) S hr rfl hlk hAe hw (Nat.le_of_ble_eq_true rfl) (Nat.le_of_ble_eq_true rfl) (⟨f, a, rfl, (show TokOk (f 7) (f 8) (f 10) (f 11) (f 12) (f 13) (f 17) (a 4) from ⟨⟨by first | exact o1 | omega, by first | exact o2 | omega⟩, ⟨by first | exact g1 | omega, by first | exact o4 | omega⟩, ⟨by first | exact o5 | omega, by first | exact o6 | omega⟩, ⟨by first | exact o7 | omega, by first | exact o8 | omega⟩, ⟨by first | exact o9 | omega, by first | exact o10 | omega⟩, ⟨by first | exact o11 | omega, by first | exact o12 | omega⟩, by first | exact o13 | omega, hn4⟩), (show (f 7).toInt = (f 7).toInt from rfl), (show (f 10).toInt = (f 10).toInt from rfl), (show (f 15).toInt = (f 15).toInt from rfl), (show (19 : Int) = 19 ∨ (f 8).toInt + 1 ≤ (f 8).toInt from by first | with_reducible rfl | with_reducible assumption | omega), (show Q5 (a 5) from hq5)⟩) d_Tok_mark_49
set_option maxHeartbeats 4000000 in
set_option maxRecDepth 100000 in
theorem c_t2_token (l : Launch) (D : va_G) (cs : Nat → ClassId) (sk : Nat) (st : Nat) (sn : Nat) (sb : Nat → Int32) (h : Nat) (r : Nat → Nat) (tp : Nat) (tb : Nat → Int32) (g : Nat → Nat → Option Nat) (f : Nat → Int32) (a : Nat → Nat → Int32)  (hinv0 : TokOk (f 7) (f 8) (f 10) (f 11) (f 12) (f 13) (f 17) (a 4)) (g0 : sn ≤ 1000000) (g1 : (f 10).toInt ≤ 2048) (hq5 : Q5 (a 5)) : MetI l y_Tok_token b_Tok_token 4 (.boolean) D cs 5 200 (0) (0) [.ref h] [wd_Tok cs h r (fun _ => some tp) f a g, [(tp, .inl (cs 1, 2048, .inl tb))]] (oX (fun A U H => (vk_R "HomeSystem$Tokens" 127 "(){}[],;:?=|^&<>+-*/%!~" sk U) ∧ (oZ A U H) ∧ (oS A sk st sn sb U H)) [wd_Tok cs h r (fun _ => some tp) f a g, [(tp, .inl (cs 1, 2048, .inl tb))]]) (fun v ps => ∃ (f' : Nat → Int32) (a' : Nat → Nat → Int32), (ps = [wd_Tok cs h r (fun _ => some tp) f' a' g, [(tp, .inl (cs 1, 2048, .inl tb))]]) ∧ (TokOk (f' 7) (f' 8) (f' 10) (f' 11) (f' 12) (f' 13) (f' 17) (a' 4)) ∧ (v = 0 ∨ v = 1) ∧ ((f' 7).toInt = (f 7).toInt) ∧ ((f' 15).toInt = (f 15).toInt) ∧ ((f' 10).toInt = (f 10).toInt + 1) ∧ (v.toInt = 1 → (f 8).toInt + 1 ≤ (f' 8).toInt ∧ (f 8).toInt < (f 7).toInt) ∧ (LsT v (a' 0) (f' 10)) ∧ (Q5 (a' 5))) := by
  refine px_enter (by decide) (Nat.le_of_ble_eq_true rfl) ?_
  intro p e s m below meth c A ls hAe S hr hlk hnm hA hT hX hw hl
  have hl : lv_has ls 4 [(0, .ref h)] := hl
  have cst0 : (0 : Int32).toInt = 0 := rfl
  have cst1 : (1 : Int32).toInt = 1 := rfl
  have cst19 : (19 : Int32).toInt = 19 := rfl
  have cst34 : (34 : Int32).toInt = 34 := rfl
  have cst39 : (39 : Int32).toInt = 39 := rfl
  have hX : (fun A U H => (vk_R "HomeSystem$Tokens" 127 "(){}[],;:?=|^&<>+-*/%!~" sk U) ∧ (oZ A U H) ∧ (oS A sk st sn sb U H)) A s s.heap := by rw [hAe]; exact hX
  obtain ⟨hL, hZ, hS⟩ := hX
  have hsn : (nI sn).toInt = (sn : Int) := nI_toInt (by omega)
  obtain ⟨⟨o1, o2⟩, ⟨o3, o4⟩, ⟨o5, o6⟩, ⟨o7, o8⟩, ⟨o9, o10⟩, ⟨o11, o12⟩, o13, hn4⟩ := hinv0
  have J89 : ∀ (f_89 : Nat → Int32) (a_89 : Nat → Nat → Int32) (x89_1 x89_3 : Int32) (H : Heap) (locs : List Loc) (ls : Array Slot), (TokOk (f_89 7) (f_89 8) (f_89 10) (f_89 11) (f_89 12) (f_89 13) (f_89 17) (a_89 4)) → ((f_89 7).toInt = (f 7).toInt) → ((f_89 10).toInt = (f 10).toInt) → ((f_89 15).toInt = (f 15).toInt) → (Q5 (a_89 5)) → (x89_3.toInt = 0 ∨ x89_3.toInt = 19 ∨ ((f 8).toInt + 1 ≤ (f_89 8).toInt ∧ (f 8).toInt < (f 7).toInt)) → pw D A s.heap H locs [wd_Tok cs h r (fun _ => some tp) f_89 a_89 g, [(tp, .inl (cs 1, 2048, .inl tb))]] → lv_has ls 4 [(0, .ref h), (1, .int x89_1), (3, .int x89_3)] → W p l e { frames := 5, cells := 0, slots := 0, locals := 200 } s m [.ref h].toArray below meth c H locs 0 0 (MQ below (va_Qi (fun v ps => ∃ (f' : Nat → Int32) (a' : Nat → Nat → Int32), (ps = [wd_Tok cs h r (fun _ => some tp) f' a' g, [(tp, .inl (cs 1, 2048, .inl tb))]]) ∧ (TokOk (f' 7) (f' 8) (f' 10) (f' 11) (f' 12) (f' 13) (f' 17) (a' 4)) ∧ (v = 0 ∨ v = 1) ∧ ((f' 7).toInt = (f 7).toInt) ∧ ((f' 15).toInt = (f 15).toInt) ∧ ((f' 10).toInt = (f 10).toInt + 1) ∧ (v.toInt = 1 → (f 8).toInt + 1 ≤ (f' 8).toInt ∧ (f 8).toInt < (f 7).toInt) ∧ (LsT v (a' 0) (f' 10)) ∧ (Q5 (a' 5))) (pc_B D (va_A ([wd_Tok cs h r (fun _ => some tp) f a g, [(tp, .inl (cs 1, 2048, .inl tb))]] : List va_W).flatten s.heap.size)) (va_A ([wd_Tok cs h r (fun _ => some tp) f a g, [(tp, .inl (cs 1, 2048, .inl tb))]] : List va_W).flatten s.heap.size)) [.ref h].toArray s 0 0 A) (F0 m 89 ls []) := by
    intro f_89 a_89 x89_1 x89_3 H locs ls hi89_0 k89_0 k89_1 k89_2 k89_3 k89_4 hw hl
    obtain ⟨⟨o1, o2⟩, ⟨o3, o4⟩, ⟨o5, o6⟩, ⟨o7, o8⟩, ⟨o9, o10⟩, ⟨o11, o12⟩, o13, hn4⟩ := hi89_0
    have lx89_1 := Int32.le_toInt x89_1
    have ux89_1 := Int32.toInt_lt x89_1
    have lx89_3 := Int32.le_toInt x89_3
    have ux89_3 := Int32.toInt_lt x89_3
    have hq5 := k89_3
    refine lv_aload_n S.x S.b d_Tok_token_89 rfl (lv_at hl 0 rfl) ?_
    refine px_get S k_Tok hT hw 0 0 10 (v := .int (f_89 10)) rfl rfl rfl (by decide) m1_113 d_Tok_token_90 ?_
    refine lv_aload_n S.x S.b d_Tok_token_93 rfl (lv_at hl 0 rfl) ?_
    refine px_get S k_Tok hT hw 0 0 0 (v := .ref (r 0)) rfl rfl rfl (by decide) m1_103 d_Tok_token_94 ?_
    refine px_len S hT hw 0 1 0 rfl rfl rfl (v := 2049) rfl d_Tok_token_97 ?_
    refine lv_icmp_ge (tgt := 144) S.x S.b d_Tok_token_98 (by decide) (fun c1 => ?_) (fun c1 => ?_)
    · have nc1 : (2049 : Int) ≤ (f_89 10).toInt := (i_le (x := 2049) (y := (f_89 10))).mp c1
      exfalso
      omega
    · have nc1 : ¬ (2049 : Int) ≤ (f_89 10).toInt := mt (i_le (x := 2049) (y := (f_89 10))).mpr c1
      refine lv_aload_n S.x S.b d_Tok_token_101 rfl (lv_at hl 0 rfl) ?_
      refine px_get S k_Tok hT hw 0 0 0 (v := .ref (r 0)) rfl rfl rfl (by decide) m1_103 d_Tok_token_102 ?_
      refine lv_aload_n S.x S.b d_Tok_token_105 rfl (lv_at hl 0 rfl) ?_
      refine px_get S k_Tok hT hw 0 0 10 (v := .int (f_89 10)) rfl rfl rfl (by decide) m1_113 d_Tok_token_106 ?_
      refine lv_iload_n S.x S.b d_Tok_token_109 rfl (lv_at hl 2 rfl) ?_
      refine px_iast S hT hw 0 1 (n := 2049) (f := (a_89 0)) (x := (f_89 10)) (y := x89_3) rfl (ga_Tok_0 _ _ _ _ _ _ _) (vp_in_iff.mpr (by constructor <;> omega)) d_Tok_token_110 (w' := wd_Tok cs h r (fun _ => some tp) f_89 (va_up a_89 0 (upd (a_89 0) (f_89 10).toNatClampNeg x89_3)) g) (ps' := [wd_Tok cs h r (fun _ => some tp) f_89 (va_up a_89 0 (upd (a_89 0) (f_89 10).toNatClampNeg x89_3)) g, [(tp, .inl (cs 1, 2048, .inl tb))]]) (sa_Tok_0 _ _ _ _ _ _ _ _) rfl (fun H locs hw => ?_)
      refine lv_aload_n S.x S.b d_Tok_token_111 rfl (lv_at hl 0 rfl) ?_
      refine px_get S k_Tok hT hw 0 0 1 (v := .ref (r 1)) rfl rfl rfl (by decide) m1_104 d_Tok_token_112 ?_
      refine lv_aload_n S.x S.b d_Tok_token_115 rfl (lv_at hl 0 rfl) ?_
      refine px_get S k_Tok hT hw 0 0 10 (v := .int (f_89 10)) rfl rfl rfl (by decide) m1_113 d_Tok_token_116 ?_
      refine lv_iload_n S.x S.b d_Tok_token_119 rfl (lv_at hl 1 rfl) ?_
      refine px_iast S hT hw 0 2 (n := 2049) (f := ((va_up a_89 0 (upd (a_89 0) (f_89 10).toNatClampNeg x89_3)) 1)) (x := (f_89 10)) (y := x89_1) rfl (ga_Tok_1 _ _ _ _ _ _ _) (vp_in_iff.mpr (by constructor <;> omega)) d_Tok_token_120 (w' := wd_Tok cs h r (fun _ => some tp) f_89 (va_up (va_up a_89 0 (upd (a_89 0) (f_89 10).toNatClampNeg x89_3)) 1 (upd ((va_up a_89 0 (upd (a_89 0) (f_89 10).toNatClampNeg x89_3)) 1) (f_89 10).toNatClampNeg x89_1)) g) (ps' := [wd_Tok cs h r (fun _ => some tp) f_89 (va_up (va_up a_89 0 (upd (a_89 0) (f_89 10).toNatClampNeg x89_3)) 1 (upd ((va_up a_89 0 (upd (a_89 0) (f_89 10).toNatClampNeg x89_3)) 1) (f_89 10).toNatClampNeg x89_1)) g, [(tp, .inl (cs 1, 2048, .inl tb))]]) (sa_Tok_1 _ _ _ _ _ _ _ _) rfl (fun H locs hw => ?_)
      refine lv_aload_n S.x S.b d_Tok_token_121 rfl (lv_at hl 0 rfl) ?_
      refine px_get S k_Tok hT hw 0 0 2 (v := .ref (r 2)) rfl rfl rfl (by decide) m1_105 d_Tok_token_122 ?_
      refine lv_aload_n S.x S.b d_Tok_token_125 rfl (lv_at hl 0 rfl) ?_
      refine px_get S k_Tok hT hw 0 0 10 (v := .int (f_89 10)) rfl rfl rfl (by decide) m1_113 d_Tok_token_126 ?_
      refine lv_aload_n S.x S.b d_Tok_token_129 rfl (lv_at hl 0 rfl) ?_
      refine px_get S k_Tok hT hw 0 0 9 (v := .int (f_89 9)) rfl rfl rfl (by decide) m1_112 d_Tok_token_130 ?_
      refine px_iast S hT hw 0 3 (n := 2049) (f := ((va_up (va_up a_89 0 (upd (a_89 0) (f_89 10).toNatClampNeg x89_3)) 1 (upd ((va_up a_89 0 (upd (a_89 0) (f_89 10).toNatClampNeg x89_3)) 1) (f_89 10).toNatClampNeg x89_1)) 2)) (x := (f_89 10)) (y := (f_89 9)) rfl (ga_Tok_2 _ _ _ _ _ _ _) (vp_in_iff.mpr (by constructor <;> omega)) d_Tok_token_133 (w' := wd_Tok cs h r (fun _ => some tp) f_89 (va_up (va_up (va_up a_89 0 (upd (a_89 0) (f_89 10).toNatClampNeg x89_3)) 1 (upd ((va_up a_89 0 (upd (a_89 0) (f_89 10).toNatClampNeg x89_3)) 1) (f_89 10).toNatClampNeg x89_1)) 2 (upd ((va_up (va_up a_89 0 (upd (a_89 0) (f_89 10).toNatClampNeg x89_3)) 1 (upd ((va_up a_89 0 (upd (a_89 0) (f_89 10).toNatClampNeg x89_3)) 1) (f_89 10).toNatClampNeg x89_1)) 2) (f_89 10).toNatClampNeg (f_89 9))) g) (ps' := [wd_Tok cs h r (fun _ => some tp) f_89 (va_up (va_up (va_up a_89 0 (upd (a_89 0) (f_89 10).toNatClampNeg x89_3)) 1 (upd ((va_up a_89 0 (upd (a_89 0) (f_89 10).toNatClampNeg x89_3)) 1) (f_89 10).toNatClampNeg x89_1)) 2 (upd ((va_up (va_up a_89 0 (upd (a_89 0) (f_89 10).toNatClampNeg x89_3)) 1 (upd ((va_up a_89 0 (upd (a_89 0) (f_89 10).toNatClampNeg x89_3)) 1) (f_89 10).toNatClampNeg x89_1)) 2) (f_89 10).toNatClampNeg (f_89 9))) g, [(tp, .inl (cs 1, 2048, .inl tb))]]) (sa_Tok_2 _ _ _ _ _ _ _ _) rfl (fun H locs hw => ?_)
      refine lv_aload_n S.x S.b d_Tok_token_134 rfl (lv_at hl 0 rfl) ?_
      refine lv_dup S.x S.b d_Tok_token_135 rfl ?_
      refine px_get S k_Tok hT hw 0 0 10 (v := .int (f_89 10)) rfl rfl rfl (by decide) m1_113 d_Tok_token_136 ?_
      refine lv_iconst (v := 1) S.x S.b d_Tok_token_139 (by decide) ?_
      refine lv_iadd S.x S.b d_Tok_token_140 ?_
      have lr2 := Int32.le_toInt (f_89 10)
      have ur2 := Int32.toInt_lt (f_89 10)
      refine lv_topi (fun z3 ez3 => ?_)
      have tz3 : z3.toInt = ((f_89 10).toInt + (1 : Int) + 2147483648) % 4294967296 - 2147483648 := by rw [ez3]; exact i_add (f_89 10) 1
      have lz3 := Int32.le_toInt z3
      have uz3 := Int32.toInt_lt z3
      try replace tz3 : z3.toInt = (f_89 10).toInt + (1 : Int) := by omega
      refine px_put S k_Tok hT hw 0 0 10 rfl rfl (by decide) m1_113 rfl rfl rfl (Nat.le_of_ble_eq_true rfl) d_Tok_token_141 (w' := wd_Tok cs h r (fun _ => some tp) (upd f_89 10 z3) (va_up (va_up (va_up a_89 0 (upd (a_89 0) (f_89 10).toNatClampNeg x89_3)) 1 (upd ((va_up a_89 0 (upd (a_89 0) (f_89 10).toNatClampNeg x89_3)) 1) (f_89 10).toNatClampNeg x89_1)) 2 (upd ((va_up (va_up a_89 0 (upd (a_89 0) (f_89 10).toNatClampNeg x89_3)) 1 (upd ((va_up a_89 0 (upd (a_89 0) (f_89 10).toNatClampNeg x89_3)) 1) (f_89 10).toNatClampNeg x89_1)) 2) (f_89 10).toNatClampNeg (f_89 9))) g) (ps' := [wd_Tok cs h r (fun _ => some tp) (upd f_89 10 z3) (va_up (va_up (va_up a_89 0 (upd (a_89 0) (f_89 10).toNatClampNeg x89_3)) 1 (upd ((va_up a_89 0 (upd (a_89 0) (f_89 10).toNatClampNeg x89_3)) 1) (f_89 10).toNatClampNeg x89_1)) 2 (upd ((va_up (va_up a_89 0 (upd (a_89 0) (f_89 10).toNatClampNeg x89_3)) 1 (upd ((va_up a_89 0 (upd (a_89 0) (f_89 10).toNatClampNeg x89_3)) 1) (f_89 10).toNatClampNeg x89_1)) 2) (f_89 10).toNatClampNeg (f_89 9))) g, [(tp, .inl (cs 1, 2048, .inl tb))]]) rfl rfl (fun H locs hw => ?_)
      refine lv_iload_n S.x S.b d_Tok_token_144 rfl (lv_at hl 2 rfl) ?_
      refine lv_if_eq (tgt := 158) S.x S.b d_Tok_token_145 (by decide) (fun c4 => ?_) (fun c4 => ?_)
      · have nc4 : x89_3.toInt = (0 : Int) := (i_eq (x := x89_3) (y := 0)).mp c4
        refine lv_iconst (v := 0) S.x S.b d_Tok_token_158 (by decide) ?_
        first | exact px_iret (v := 0) S hr rfl hlk hAe hw (Nat.le_of_ble_eq_true rfl) (Nat.le_of_ble_eq_true rfl) (⟨(upd f_89 10 z3), (va_up (va_up (va_up a_89 0 (upd (a_89 0) (f_89 10).toNatClampNeg x89_3)) 1 (upd ((va_up a_89 0 (upd (a_89 0) (f_89 10).toNatClampNeg x89_3)) 1) (f_89 10).toNatClampNeg x89_1)) 2 (upd ((va_up (va_up a_89 0 (upd (a_89 0) (f_89 10).toNatClampNeg x89_3)) 1 (upd ((va_up a_89 0 (upd (a_89 0) (f_89 10).toNatClampNeg x89_3)) 1) (f_89 10).toNatClampNeg x89_1)) 2) (f_89 10).toNatClampNeg (f_89 9))), rfl, (show TokOk (f_89 7) (f_89 8) z3 (f_89 11) (f_89 12) (f_89 13) (f_89 17) ((va_up (va_up (va_up a_89 0 (upd (a_89 0) (f_89 10).toNatClampNeg x89_3)) 1 (upd ((va_up a_89 0 (upd (a_89 0) (f_89 10).toNatClampNeg x89_3)) 1) (f_89 10).toNatClampNeg x89_1)) 2 (upd ((va_up (va_up a_89 0 (upd (a_89 0) (f_89 10).toNatClampNeg x89_3)) 1 (upd ((va_up a_89 0 (upd (a_89 0) (f_89 10).toNatClampNeg x89_3)) 1) (f_89 10).toNatClampNeg x89_1)) 2) (f_89 10).toNatClampNeg (f_89 9))) 4) from ⟨⟨o1, o2⟩, ⟨o3, o4⟩, ⟨(oz_b3b25f0e49 tz3 o5), (oz_26a0dc0197 tz3 nc1)⟩, ⟨o7, o8⟩, ⟨o9, o10⟩, ⟨o11, o12⟩, o13, (by rw [va_up_n (by decide), va_up_n (by decide), va_up_n (by decide)]; exact hn4)⟩), (show (0 : Int32) = 0 ∨ (0 : Int32) = 1 from by first | exact Or.inl rfl | exact Or.inr rfl | exact z_or (by omega)), (show (f_89 7).toInt = (f 7).toInt from k89_0), (show (f_89 15).toInt = (f 15).toInt from k89_2), (show z3.toInt = (f 10).toInt + 1 from (oz_39da5b546a k89_1 tz3)), (show (0 : Int) = 1 → (f 8).toInt + 1 ≤ (f_89 8).toInt ∧ (f 8).toInt < (f 7).toInt from by first | with_reducible rfl | with_reducible assumption | omega), (show LsT (0 : Int32) ((va_up (va_up (va_up a_89 0 (upd (a_89 0) (f_89 10).toNatClampNeg x89_3)) 1 (upd ((va_up a_89 0 (upd (a_89 0) (f_89 10).toNatClampNeg x89_3)) 1) (f_89 10).toNatClampNeg x89_1)) 2 (upd ((va_up (va_up a_89 0 (upd (a_89 0) (f_89 10).toNatClampNeg x89_3)) 1 (upd ((va_up a_89 0 (upd (a_89 0) (f_89 10).toNatClampNeg x89_3)) 1) (f_89 10).toNatClampNeg x89_1)) 2) (f_89 10).toNatClampNeg (f_89 9))) 0) z3 from (fun _ => (by rw [va_up_n (by decide), va_up_n (by decide), va_up_s]; exact last_mk (by omega) (by omega) (by omega)))), (show Q5 ((va_up (va_up (va_up a_89 0 (upd (a_89 0) (f_89 10).toNatClampNeg x89_3)) 1 (upd ((va_up a_89 0 (upd (a_89 0) (f_89 10).toNatClampNeg x89_3)) 1) (f_89 10).toNatClampNeg x89_1)) 2 (upd ((va_up (va_up a_89 0 (upd (a_89 0) (f_89 10).toNatClampNeg x89_3)) 1 (upd ((va_up a_89 0 (upd (a_89 0) (f_89 10).toNatClampNeg x89_3)) 1) (f_89 10).toNatClampNeg x89_1)) 2) (f_89 10).toNatClampNeg (f_89 9))) 5) from (by rw [va_up_n (by decide), va_up_n (by decide), va_up_n (by decide)]; exact hq5))⟩) d_Tok_token_159 | exact px_iret (v := 0) S hr rfl hlk hAe hw (Nat.le_of_ble_eq_true rfl) (Nat.le_of_ble_eq_true rfl) (⟨(upd f_89 10 z3), (va_up (va_up (va_up a_89 0 (upd (a_89 0) (f_89 10).toNatClampNeg x89_3)) 1 (upd ((va_up a_89 0 (upd (a_89 0) (f_89 10).toNatClampNeg x89_3)) 1) (f_89 10).toNatClampNeg x89_1)) 2 (upd ((va_up (va_up a_89 0 (upd (a_89 0) (f_89 10).toNatClampNeg x89_3)) 1 (upd ((va_up a_89 0 (upd (a_89 0) (f_89 10).toNatClampNeg x89_3)) 1) (f_89 10).toNatClampNeg x89_1)) 2) (f_89 10).toNatClampNeg (f_89 9))), rfl, (show TokOk (f_89 7) (f_89 8) z3 (f_89 11) (f_89 12) (f_89 13) (f_89 17) ((va_up (va_up (va_up a_89 0 (upd (a_89 0) (f_89 10).toNatClampNeg x89_3)) 1 (upd ((va_up a_89 0 (upd (a_89 0) (f_89 10).toNatClampNeg x89_3)) 1) (f_89 10).toNatClampNeg x89_1)) 2 (upd ((va_up (va_up a_89 0 (upd (a_89 0) (f_89 10).toNatClampNeg x89_3)) 1 (upd ((va_up a_89 0 (upd (a_89 0) (f_89 10).toNatClampNeg x89_3)) 1) (f_89 10).toNatClampNeg x89_1)) 2) (f_89 10).toNatClampNeg (f_89 9))) 4) from ⟨⟨by first | exact o1 | omega, by first | exact o2 | omega⟩, ⟨by first | exact o3 | omega, by first | exact o4 | omega⟩, ⟨by first | exact oz_b3b25f0e49 tz3 o5 | omega, by first | exact oz_26a0dc0197 tz3 nc1 | omega⟩, ⟨by first | exact o7 | omega, by first | exact o8 | omega⟩, ⟨by first | exact o9 | omega, by first | exact o10 | omega⟩, ⟨by first | exact o11 | omega, by first | exact o12 | omega⟩, by first | exact o13 | omega, (by rw [va_up_n (by decide), va_up_n (by decide), va_up_n (by decide)]; exact hn4)⟩), (show (0 : Int32) = 0 ∨ (0 : Int32) = 1 from by first | exact Or.inl rfl | exact Or.inr rfl | exact z_or (by omega)), (show (f_89 7).toInt = (f 7).toInt from by first | exact k89_0 | omega), (show (f_89 15).toInt = (f 15).toInt from by first | exact k89_2 | omega), (show z3.toInt = (f 10).toInt + 1 from by first | exact oz_39da5b546a k89_1 tz3 | omega), (show (0 : Int) = 1 → (f 8).toInt + 1 ≤ (f_89 8).toInt ∧ (f 8).toInt < (f 7).toInt from by first | with_reducible rfl | with_reducible assumption | omega), (show LsT (0 : Int32) ((va_up (va_up (va_up a_89 0 (upd (a_89 0) (f_89 10).toNatClampNeg x89_3)) 1 (upd ((va_up a_89 0 (upd (a_89 0) (f_89 10).toNatClampNeg x89_3)) 1) (f_89 10).toNatClampNeg x89_1)) 2 (upd ((va_up (va_up a_89 0 (upd (a_89 0) (f_89 10).toNatClampNeg x89_3)) 1 (upd ((va_up a_89 0 (upd (a_89 0) (f_89 10).toNatClampNeg x89_3)) 1) (f_89 10).toNatClampNeg x89_1)) 2) (f_89 10).toNatClampNeg (f_89 9))) 0) z3 from (fun _ => (by rw [va_up_n (by decide), va_up_n (by decide), va_up_s]; exact last_mk (by omega) (by omega) (by omega)))), (show Q5 ((va_up (va_up (va_up a_89 0 (upd (a_89 0) (f_89 10).toNatClampNeg x89_3)) 1 (upd ((va_up a_89 0 (upd (a_89 0) (f_89 10).toNatClampNeg x89_3)) 1) (f_89 10).toNatClampNeg x89_1)) 2 (upd ((va_up (va_up a_89 0 (upd (a_89 0) (f_89 10).toNatClampNeg x89_3)) 1 (upd ((va_up a_89 0 (upd (a_89 0) (f_89 10).toNatClampNeg x89_3)) 1) (f_89 10).toNatClampNeg x89_1)) 2) (f_89 10).toNatClampNeg (f_89 9))) 5) from (by rw [va_up_n (by decide), va_up_n (by decide), va_up_n (by decide)]; exact hq5))⟩) d_Tok_token_159
      · have nc4 : ¬ x89_3.toInt = (0 : Int) := mt (i_eq (x := x89_3) (y := 0)).mpr c4
        refine lv_iload_n S.x S.b d_Tok_token_148 rfl (lv_at hl 2 rfl) ?_
        refine lv_bipush (v := 19) S.x S.b d_Tok_token_149 (by decide) ?_
        refine lv_icmp_eq (tgt := 158) S.x S.b d_Tok_token_151 (by decide) (fun c5 => ?_) (fun c5 => ?_)
        · have nc5 : x89_3.toInt = (19 : Int) := (i_eq (x := x89_3) (y := 19)).mp c5
          refine lv_iconst (v := 0) S.x S.b d_Tok_token_158 (by decide) ?_
          first | exact px_iret (v := 0) S hr rfl hlk hAe hw (Nat.le_of_ble_eq_true rfl) (Nat.le_of_ble_eq_true rfl) (⟨(upd f_89 10 z3), (va_up (va_up (va_up a_89 0 (upd (a_89 0) (f_89 10).toNatClampNeg x89_3)) 1 (upd ((va_up a_89 0 (upd (a_89 0) (f_89 10).toNatClampNeg x89_3)) 1) (f_89 10).toNatClampNeg x89_1)) 2 (upd ((va_up (va_up a_89 0 (upd (a_89 0) (f_89 10).toNatClampNeg x89_3)) 1 (upd ((va_up a_89 0 (upd (a_89 0) (f_89 10).toNatClampNeg x89_3)) 1) (f_89 10).toNatClampNeg x89_1)) 2) (f_89 10).toNatClampNeg (f_89 9))), rfl, (show TokOk (f_89 7) (f_89 8) z3 (f_89 11) (f_89 12) (f_89 13) (f_89 17) ((va_up (va_up (va_up a_89 0 (upd (a_89 0) (f_89 10).toNatClampNeg x89_3)) 1 (upd ((va_up a_89 0 (upd (a_89 0) (f_89 10).toNatClampNeg x89_3)) 1) (f_89 10).toNatClampNeg x89_1)) 2 (upd ((va_up (va_up a_89 0 (upd (a_89 0) (f_89 10).toNatClampNeg x89_3)) 1 (upd ((va_up a_89 0 (upd (a_89 0) (f_89 10).toNatClampNeg x89_3)) 1) (f_89 10).toNatClampNeg x89_1)) 2) (f_89 10).toNatClampNeg (f_89 9))) 4) from ⟨⟨o1, o2⟩, ⟨o3, o4⟩, ⟨(oz_b3b25f0e49 tz3 o5), (oz_26a0dc0197 tz3 nc1)⟩, ⟨o7, o8⟩, ⟨o9, o10⟩, ⟨o11, o12⟩, o13, (by rw [va_up_n (by decide), va_up_n (by decide), va_up_n (by decide)]; exact hn4)⟩), (show (0 : Int32) = 0 ∨ (0 : Int32) = 1 from by first | exact Or.inl rfl | exact Or.inr rfl | exact z_or (by omega)), (show (f_89 7).toInt = (f 7).toInt from k89_0), (show (f_89 15).toInt = (f 15).toInt from k89_2), (show z3.toInt = (f 10).toInt + 1 from (oz_39da5b546a k89_1 tz3)), (show (0 : Int) = 1 → (f 8).toInt + 1 ≤ (f_89 8).toInt ∧ (f 8).toInt < (f 7).toInt from by first | with_reducible rfl | with_reducible assumption | omega), (show LsT (0 : Int32) ((va_up (va_up (va_up a_89 0 (upd (a_89 0) (f_89 10).toNatClampNeg x89_3)) 1 (upd ((va_up a_89 0 (upd (a_89 0) (f_89 10).toNatClampNeg x89_3)) 1) (f_89 10).toNatClampNeg x89_1)) 2 (upd ((va_up (va_up a_89 0 (upd (a_89 0) (f_89 10).toNatClampNeg x89_3)) 1 (upd ((va_up a_89 0 (upd (a_89 0) (f_89 10).toNatClampNeg x89_3)) 1) (f_89 10).toNatClampNeg x89_1)) 2) (f_89 10).toNatClampNeg (f_89 9))) 0) z3 from (fun _ => (by rw [va_up_n (by decide), va_up_n (by decide), va_up_s]; exact last_mk (by omega) (by omega) (by omega)))), (show Q5 ((va_up (va_up (va_up a_89 0 (upd (a_89 0) (f_89 10).toNatClampNeg x89_3)) 1 (upd ((va_up a_89 0 (upd (a_89 0) (f_89 10).toNatClampNeg x89_3)) 1) (f_89 10).toNatClampNeg x89_1)) 2 (upd ((va_up (va_up a_89 0 (upd (a_89 0) (f_89 10).toNatClampNeg x89_3)) 1 (upd ((va_up a_89 0 (upd (a_89 0) (f_89 10).toNatClampNeg x89_3)) 1) (f_89 10).toNatClampNeg x89_1)) 2) (f_89 10).toNatClampNeg (f_89 9))) 5) from (by rw [va_up_n (by decide), va_up_n (by decide), va_up_n (by decide)]; exact hq5))⟩) d_Tok_token_159 | exact px_iret (v := 0) S hr rfl hlk hAe hw (Nat.le_of_ble_eq_true rfl) (Nat.le_of_ble_eq_true rfl) (⟨(upd f_89 10 z3), (va_up (va_up (va_up a_89 0 (upd (a_89 0) (f_89 10).toNatClampNeg x89_3)) 1 (upd ((va_up a_89 0 (upd (a_89 0) (f_89 10).toNatClampNeg x89_3)) 1) (f_89 10).toNatClampNeg x89_1)) 2 (upd ((va_up (va_up a_89 0 (upd (a_89 0) (f_89 10).toNatClampNeg x89_3)) 1 (upd ((va_up a_89 0 (upd (a_89 0) (f_89 10).toNatClampNeg x89_3)) 1) (f_89 10).toNatClampNeg x89_1)) 2) (f_89 10).toNatClampNeg (f_89 9))), rfl, (show TokOk (f_89 7) (f_89 8) z3 (f_89 11) (f_89 12) (f_89 13) (f_89 17) ((va_up (va_up (va_up a_89 0 (upd (a_89 0) (f_89 10).toNatClampNeg x89_3)) 1 (upd ((va_up a_89 0 (upd (a_89 0) (f_89 10).toNatClampNeg x89_3)) 1) (f_89 10).toNatClampNeg x89_1)) 2 (upd ((va_up (va_up a_89 0 (upd (a_89 0) (f_89 10).toNatClampNeg x89_3)) 1 (upd ((va_up a_89 0 (upd (a_89 0) (f_89 10).toNatClampNeg x89_3)) 1) (f_89 10).toNatClampNeg x89_1)) 2) (f_89 10).toNatClampNeg (f_89 9))) 4) from ⟨⟨by first | exact o1 | omega, by first | exact o2 | omega⟩, ⟨by first | exact o3 | omega, by first | exact o4 | omega⟩, ⟨by first | exact oz_b3b25f0e49 tz3 o5 | omega, by first | exact oz_26a0dc0197 tz3 nc1 | omega⟩, ⟨by first | exact o7 | omega, by first | exact o8 | omega⟩, ⟨by first | exact o9 | omega, by first | exact o10 | omega⟩, ⟨by first | exact o11 | omega, by first | exact o12 | omega⟩, by first | exact o13 | omega, (by rw [va_up_n (by decide), va_up_n (by decide), va_up_n (by decide)]; exact hn4)⟩), (show (0 : Int32) = 0 ∨ (0 : Int32) = 1 from by first | exact Or.inl rfl | exact Or.inr rfl | exact z_or (by omega)), (show (f_89 7).toInt = (f 7).toInt from by first | exact k89_0 | omega), (show (f_89 15).toInt = (f 15).toInt from by first | exact k89_2 | omega), (show z3.toInt = (f 10).toInt + 1 from by first | exact oz_39da5b546a k89_1 tz3 | omega), (show (0 : Int) = 1 → (f 8).toInt + 1 ≤ (f_89 8).toInt ∧ (f 8).toInt < (f 7).toInt from by first | with_reducible rfl | with_reducible assumption | omega), (show LsT (0 : Int32) ((va_up (va_up (va_up a_89 0 (upd (a_89 0) (f_89 10).toNatClampNeg x89_3)) 1 (upd ((va_up a_89 0 (upd (a_89 0) (f_89 10).toNatClampNeg x89_3)) 1) (f_89 10).toNatClampNeg x89_1)) 2 (upd ((va_up (va_up a_89 0 (upd (a_89 0) (f_89 10).toNatClampNeg x89_3)) 1 (upd ((va_up a_89 0 (upd (a_89 0) (f_89 10).toNatClampNeg x89_3)) 1) (f_89 10).toNatClampNeg x89_1)) 2) (f_89 10).toNatClampNeg (f_89 9))) 0) z3 from (fun _ => (by rw [va_up_n (by decide), va_up_n (by decide), va_up_s]; exact last_mk (by omega) (by omega) (by omega)))), (show Q5 ((va_up (va_up (va_up a_89 0 (upd (a_89 0) (f_89 10).toNatClampNeg x89_3)) 1 (upd ((va_up a_89 0 (upd (a_89 0) (f_89 10).toNatClampNeg x89_3)) 1) (f_89 10).toNatClampNeg x89_1)) 2 (upd ((va_up (va_up a_89 0 (upd (a_89 0) (f_89 10).toNatClampNeg x89_3)) 1 (upd ((va_up a_89 0 (upd (a_89 0) (f_89 10).toNatClampNeg x89_3)) 1) (f_89 10).toNatClampNeg x89_1)) 2) (f_89 10).toNatClampNeg (f_89 9))) 5) from (by rw [va_up_n (by decide), va_up_n (by decide), va_up_n (by decide)]; exact hq5))⟩) d_Tok_token_159
        · have nc5 : ¬ x89_3.toInt = (19 : Int) := mt (i_eq (x := x89_3) (y := 19)).mpr c5
          refine lv_iconst (v := 1) S.x S.b d_Tok_token_154 (by decide) ?_
          refine lv_goto (tgt := 159) S.x S.b d_Tok_token_155 (by decide) ?_
          first | exact px_iret (v := 1) S hr rfl hlk hAe hw (Nat.le_of_ble_eq_true rfl) (Nat.le_of_ble_eq_true rfl) (⟨(upd f_89 10 z3), (va_up (va_up (va_up a_89 0 (upd (a_89 0) (f_89 10).toNatClampNeg x89_3)) 1 (upd ((va_up a_89 0 (upd (a_89 0) (f_89 10).toNatClampNeg x89_3)) 1) (f_89 10).toNatClampNeg x89_1)) 2 (upd ((va_up (va_up a_89 0 (upd (a_89 0) (f_89 10).toNatClampNeg x89_3)) 1 (upd ((va_up a_89 0 (upd (a_89 0) (f_89 10).toNatClampNeg x89_3)) 1) (f_89 10).toNatClampNeg x89_1)) 2) (f_89 10).toNatClampNeg (f_89 9))), rfl, (show TokOk (f_89 7) (f_89 8) z3 (f_89 11) (f_89 12) (f_89 13) (f_89 17) ((va_up (va_up (va_up a_89 0 (upd (a_89 0) (f_89 10).toNatClampNeg x89_3)) 1 (upd ((va_up a_89 0 (upd (a_89 0) (f_89 10).toNatClampNeg x89_3)) 1) (f_89 10).toNatClampNeg x89_1)) 2 (upd ((va_up (va_up a_89 0 (upd (a_89 0) (f_89 10).toNatClampNeg x89_3)) 1 (upd ((va_up a_89 0 (upd (a_89 0) (f_89 10).toNatClampNeg x89_3)) 1) (f_89 10).toNatClampNeg x89_1)) 2) (f_89 10).toNatClampNeg (f_89 9))) 4) from ⟨⟨o1, o2⟩, ⟨o3, o4⟩, ⟨(oz_b3b25f0e49 tz3 o5), (oz_26a0dc0197 tz3 nc1)⟩, ⟨o7, o8⟩, ⟨o9, o10⟩, ⟨o11, o12⟩, o13, (by rw [va_up_n (by decide), va_up_n (by decide), va_up_n (by decide)]; exact hn4)⟩), (show (1 : Int32) = 0 ∨ (1 : Int32) = 1 from by first | exact Or.inl rfl | exact Or.inr rfl | exact z_or (by omega)), (show (f_89 7).toInt = (f 7).toInt from k89_0), (show (f_89 15).toInt = (f 15).toInt from k89_2), (show z3.toInt = (f 10).toInt + 1 from (oz_39da5b546a k89_1 tz3)), (show (1 : Int) = 1 → (f 8).toInt + 1 ≤ (f_89 8).toInt ∧ (f 8).toInt < (f 7).toInt from by first | with_reducible rfl | with_reducible assumption | omega), (show LsT (1 : Int32) ((va_up (va_up (va_up a_89 0 (upd (a_89 0) (f_89 10).toNatClampNeg x89_3)) 1 (upd ((va_up a_89 0 (upd (a_89 0) (f_89 10).toNatClampNeg x89_3)) 1) (f_89 10).toNatClampNeg x89_1)) 2 (upd ((va_up (va_up a_89 0 (upd (a_89 0) (f_89 10).toNatClampNeg x89_3)) 1 (upd ((va_up a_89 0 (upd (a_89 0) (f_89 10).toNatClampNeg x89_3)) 1) (f_89 10).toNatClampNeg x89_1)) 2) (f_89 10).toNatClampNeg (f_89 9))) 0) z3 from (fun h => absurd h (by decide))), (show Q5 ((va_up (va_up (va_up a_89 0 (upd (a_89 0) (f_89 10).toNatClampNeg x89_3)) 1 (upd ((va_up a_89 0 (upd (a_89 0) (f_89 10).toNatClampNeg x89_3)) 1) (f_89 10).toNatClampNeg x89_1)) 2 (upd ((va_up (va_up a_89 0 (upd (a_89 0) (f_89 10).toNatClampNeg x89_3)) 1 (upd ((va_up a_89 0 (upd (a_89 0) (f_89 10).toNatClampNeg x89_3)) 1) (f_89 10).toNatClampNeg x89_1)) 2) (f_89 10).toNatClampNeg (f_89 9))) 5) from (by rw [va_up_n (by decide), va_up_n (by decide), va_up_n (by decide)]; exact hq5))⟩) d_Tok_token_159 | exact px_iret (v := 1) S hr rfl hlk hAe hw (Nat.le_of_ble_eq_true rfl) (Nat.le_of_ble_eq_true rfl) (⟨(upd f_89 10 z3), (va_up (va_up (va_up a_89 0 (upd (a_89 0) (f_89 10).toNatClampNeg x89_3)) 1 (upd ((va_up a_89 0 (upd (a_89 0) (f_89 10).toNatClampNeg x89_3)) 1) (f_89 10).toNatClampNeg x89_1)) 2 (upd ((va_up (va_up a_89 0 (upd (a_89 0) (f_89 10).toNatClampNeg x89_3)) 1 (upd ((va_up a_89 0 (upd (a_89 0) (f_89 10).toNatClampNeg x89_3)) 1) (f_89 10).toNatClampNeg x89_1)) 2) (f_89 10).toNatClampNeg (f_89 9))), rfl, (show TokOk (f_89 7) (f_89 8) z3 (f_89 11) (f_89 12) (f_89 13) (f_89 17) ((va_up (va_up (va_up a_89 0 (upd (a_89 0) (f_89 10).toNatClampNeg x89_3)) 1 (upd ((va_up a_89 0 (upd (a_89 0) (f_89 10).toNatClampNeg x89_3)) 1) (f_89 10).toNatClampNeg x89_1)) 2 (upd ((va_up (va_up a_89 0 (upd (a_89 0) (f_89 10).toNatClampNeg x89_3)) 1 (upd ((va_up a_89 0 (upd (a_89 0) (f_89 10).toNatClampNeg x89_3)) 1) (f_89 10).toNatClampNeg x89_1)) 2) (f_89 10).toNatClampNeg (f_89 9))) 4) from ⟨⟨by first | exact o1 | omega, by first | exact o2 | omega⟩, ⟨by first | exact o3 | omega, by first | exact o4 | omega⟩, ⟨by first | exact oz_b3b25f0e49 tz3 o5 | omega, by first | exact oz_26a0dc0197 tz3 nc1 | omega⟩, ⟨by first | exact o7 | omega, by first | exact o8 | omega⟩, ⟨by first | exact o9 | omega, by first | exact o10 | omega⟩, ⟨by first | exact o11 | omega, by first | exact o12 | omega⟩, by first | exact o13 | omega, (by rw [va_up_n (by decide), va_up_n (by decide), va_up_n (by decide)]; exact hn4)⟩), (show (1 : Int32) = 0 ∨ (1 : Int32) = 1 from by first | exact Or.inl rfl | exact Or.inr rfl | exact z_or (by omega)), (show (f_89 7).toInt = (f 7).toInt from by first | exact k89_0 | omega), (show (f_89 15).toInt = (f 15).toInt from by first | exact k89_2 | omega), (show z3.toInt = (f 10).toInt + 1 from by first | exact oz_39da5b546a k89_1 tz3 | omega), (show (1 : Int) = 1 → (f 8).toInt + 1 ≤ (f_89 8).toInt ∧ (f 8).toInt < (f 7).toInt from by first | with_reducible rfl | with_reducible assumption | omega), (show LsT (1 : Int32) ((va_up (va_up (va_up a_89 0 (upd (a_89 0) (f_89 10).toNatClampNeg x89_3)) 1 (upd ((va_up a_89 0 (upd (a_89 0) (f_89 10).toNatClampNeg x89_3)) 1) (f_89 10).toNatClampNeg x89_1)) 2 (upd ((va_up (va_up a_89 0 (upd (a_89 0) (f_89 10).toNatClampNeg x89_3)) 1 (upd ((va_up a_89 0 (upd (a_89 0) (f_89 10).toNatClampNeg x89_3)) 1) (f_89 10).toNatClampNeg x89_1)) 2) (f_89 10).toNatClampNeg (f_89 9))) 0) z3 from (fun h => absurd h (by decide))), (show Q5 ((va_up (va_up (va_up a_89 0 (upd (a_89 0) (f_89 10).toNatClampNeg x89_3)) 1 (upd ((va_up a_89 0 (upd (a_89 0) (f_89 10).toNatClampNeg x89_3)) 1) (f_89 10).toNatClampNeg x89_1)) 2 (upd ((va_up (va_up a_89 0 (upd (a_89 0) (f_89 10).toNatClampNeg x89_3)) 1 (upd ((va_up a_89 0 (upd (a_89 0) (f_89 10).toNatClampNeg x89_3)) 1) (f_89 10).toNatClampNeg x89_1)) 2) (f_89 10).toNatClampNeg (f_89 9))) 5) from (by rw [va_up_n (by decide), va_up_n (by decide), va_up_n (by decide)]; exact hq5))⟩) d_Tok_token_159
  refine lv_aload_n S.x S.b d_Tok_token_0 rfl (lv_at hl 0 rfl) ?_
  refine px_get S k_Tok hT hw 0 0 8 (v := .int (f 8)) rfl rfl rfl (by decide) m1_111 d_Tok_token_1 ?_
  refine lv_istore_n (lv' := [(1, .int (f 8)), (0, .ref h)]) S.x S.b d_Tok_token_4 rfl hl (by decide) rfl (fun ls hl => ?_)
  refine lv_aload_n S.x S.b d_Tok_token_5 rfl (lv_at hl 1 rfl) ?_
  refine lv_aload_n S.x S.b d_Tok_token_6 rfl (lv_at hl 1 rfl) ?_
  refine px_get S k_Tok hT hw 0 0 8 (v := .int (f 8)) rfl rfl rfl (by decide) m1_111 d_Tok_token_7 ?_
  first | refine px_calli (pr := []) (px_runV (As := [.int (f 8)]) (rest := []) S (c_t2_byteAt l D cs h r tp tb g f a (f 8)  (show TokOk (f 7) (f 8) (f 10) (f 11) (f 12) (f 13) (f 17) (a 4) from ⟨⟨o1, o2⟩, ⟨o3, o4⟩, ⟨o5, o6⟩, ⟨o7, o8⟩, ⟨o9, o10⟩, ⟨o11, o12⟩, o13, hn4⟩) _) hT (pr := []) (pcs := [wd_Tok cs h r (fun _ => some tp) f a g, [(tp, .inl (cs 1, 2048, .inl tb))]]) hw px_X.tt (px_recv hT hw 0 0 rfl rfl rfl) m3_186 m3_183 m3_185 ms_1_6 m1_2 q_Tok_byteAt ⟨Nat.le_of_ble_eq_true rfl, Nat.le_of_ble_eq_true rfl⟩ hl.1 rfl (Nat.le_of_ble_eq_true rfl) d_Tok_token_10 ⟨Nat.le_of_ble_eq_true rfl, Nat.le_of_ble_eq_true rfl⟩) hw hA (fun v7 p6 H locs hp6 hw => ?_) | refine px_calli (pr := []) (px_runV (As := [.int (f 8)]) (rest := []) S (c_t2_byteAt l D cs h r tp tb g f a (f 8)  (show TokOk (f 7) (f 8) (f 10) (f 11) (f 12) (f 13) (f 17) (a 4) from ⟨⟨by first | exact o1 | omega, by first | exact o2 | omega⟩, ⟨by first | exact o3 | omega, by first | exact o4 | omega⟩, ⟨by first | exact o5 | omega, by first | exact o6 | omega⟩, ⟨by first | exact o7 | omega, by first | exact o8 | omega⟩, ⟨by first | exact o9 | omega, by first | exact o10 | omega⟩, ⟨by first | exact o11 | omega, by first | exact o12 | omega⟩, by first | exact o13 | omega, hn4⟩) _) hT (pr := []) (pcs := [wd_Tok cs h r (fun _ => some tp) f a g, [(tp, .inl (cs 1, 2048, .inl tb))]]) hw px_X.tt (px_recv hT hw 0 0 rfl rfl rfl) m3_186 m3_183 m3_185 ms_1_6 m1_2 q_Tok_byteAt ⟨Nat.le_of_ble_eq_true rfl, Nat.le_of_ble_eq_true rfl⟩ hl.1 rfl (Nat.le_of_ble_eq_true rfl) d_Tok_token_10 ⟨Nat.le_of_ble_eq_true rfl, Nat.le_of_ble_eq_true rfl⟩) hw hA (fun v7 p6 H locs hp6 hw => ?_)
  obtain ⟨rfl, e8, e9, e10, e11⟩ := hp6
  have e8 : -1 ≤ v7.toInt := e8
  have e9 : v7.toInt ≤ 255 := e9
  have e10 : 0 ≤ v7.toInt → 0 ≤ (f 8).toInt ∧ (f 8).toInt < (f 7).toInt := e10
  have e11 : By tb (f 7) (f 8) v7 := e11
  have lv7 := Int32.le_toInt v7
  have uv7 := Int32.toInt_lt v7
  refine lv_istore_n (lv' := [(2, .int v7), (1, .int (f 8)), (0, .ref h)]) S.x S.b d_Tok_token_13 rfl hl (by decide) rfl (fun ls hl => ?_)
  refine lv_iconst (v := 0) S.x S.b d_Tok_token_14 (by decide) ?_
  refine lv_istore_n (lv' := [(3, .int 0), (2, .int v7), (1, .int (f 8)), (0, .ref h)]) S.x S.b d_Tok_token_15 rfl hl (by decide) rfl (fun ls hl => ?_)
  refine lv_aload_n S.x S.b d_Tok_token_16 rfl (lv_at hl 3 rfl) ?_
  refine lv_iconst (v := 0) S.x S.b d_Tok_token_17 (by decide) ?_
  refine px_put S k_Tok hT hw 0 0 9 rfl rfl (by decide) m1_112 rfl rfl rfl (Nat.le_of_ble_eq_true rfl) d_Tok_token_18 (w' := wd_Tok cs h r (fun _ => some tp) (upd f 9 0) a g) (ps' := [wd_Tok cs h r (fun _ => some tp) (upd f 9 0) a g, [(tp, .inl (cs 1, 2048, .inl tb))]]) rfl rfl (fun H locs hw => ?_)
  refine lv_iload_n S.x S.b d_Tok_token_21 rfl (lv_at hl 1 rfl) ?_
  refine px_calli (pr := [wd_Tok cs h r (fun _ => some tp) (upd f 9 0) a g, [(tp, .inl (cs 1, 2048, .inl tb))]]) (px_runS (As := [.int v7]) (rest := []) S (c_t2_isLetter l D cs  v7   _) hT (pr := [wd_Tok cs h r (fun _ => some tp) (upd f 9 0) a g, [(tp, .inl (cs 1, 2048, .inl tb))]]) (pcs := []) hw px_X.tt m3_201 m3_199 m3_200 m1_2 q_Tok_isLetter ⟨Nat.le_of_ble_eq_true rfl, Nat.le_of_ble_eq_true rfl⟩ hl.1 rfl (Nat.le_of_ble_eq_true rfl) d_Tok_token_22 ⟨Nat.le_of_ble_eq_true rfl, Nat.le_of_ble_eq_true rfl⟩) hw hA (fun v13 p12 H locs hp12 hw => ?_)
  obtain ⟨rfl, e14, e15⟩ := hp12
  have e14 := z_rng e14
  have e15 : IsLt v13 v7 := e15
  have lv13 := Int32.le_toInt v13
  have uv13 := Int32.toInt_lt v13
  refine lv_if_eq (tgt := 36) S.x S.b d_Tok_token_25 (by decide) (fun c16 => ?_) (fun c16 => ?_)
  · have nc16 : v13.toInt = (0 : Int) := (i_eq (x := v13) (y := 0)).mp c16
    refine lv_iload_n S.x S.b d_Tok_token_36 rfl (lv_at hl 1 rfl) ?_
    refine px_calli (pr := [wd_Tok cs h r (fun _ => some tp) (upd f 9 0) a g, [(tp, .inl (cs 1, 2048, .inl tb))]]) (px_runS (As := [.int v7]) (rest := []) S (c_t2_isDigit l D cs  v7   _) hT (pr := [wd_Tok cs h r (fun _ => some tp) (upd f 9 0) a g, [(tp, .inl (cs 1, 2048, .inl tb))]]) (pcs := []) hw px_X.tt m3_208 m3_206 m3_207 m1_2 q_Tok_isDigit ⟨Nat.le_of_ble_eq_true rfl, Nat.le_of_ble_eq_true rfl⟩ hl.1 rfl (Nat.le_of_ble_eq_true rfl) d_Tok_token_37 ⟨Nat.le_of_ble_eq_true rfl, Nat.le_of_ble_eq_true rfl⟩) hw hA (fun v18 p17 H locs hp17 hw => ?_)
    obtain ⟨rfl, e19, e20⟩ := hp17
    have e19 := z_rng e19
    have e20 : v18.toInt = 1 → 48 ≤ v7.toInt := e20
    have lv18 := Int32.le_toInt v18
    have uv18 := Int32.toInt_lt v18
    refine lv_if_eq (tgt := 51) S.x S.b d_Tok_token_40 (by decide) (fun c21 => ?_) (fun c21 => ?_)
    · have nc21 : v18.toInt = (0 : Int) := (i_eq (x := v18) (y := 0)).mp c21
      refine lv_iload_n S.x S.b d_Tok_token_51 rfl (lv_at hl 1 rfl) ?_
      refine lv_bipush (v := 39) S.x S.b d_Tok_token_52 (by decide) ?_
      refine lv_icmp_ne (tgt := 65) S.x S.b d_Tok_token_54 (by decide) (fun c22 => ?_) (fun c22 => ?_)
      · have nc22 : ¬ v7.toInt = (39 : Int) := mt (i_eq (x := v7) (y := 39)).mpr c22
        refine lv_iload_n S.x S.b d_Tok_token_65 rfl (lv_at hl 1 rfl) ?_
        refine lv_bipush (v := 34) S.x S.b d_Tok_token_66 (by decide) ?_
        refine lv_icmp_ne (tgt := 79) S.x S.b d_Tok_token_68 (by decide) (fun c23 => ?_) (fun c23 => ?_)
        · have nc23 : ¬ v7.toInt = (34 : Int) := mt (i_eq (x := v7) (y := 34)).mpr c23
          refine lv_iload_n S.x S.b d_Tok_token_79 rfl (lv_at hl 1 rfl) ?_
          refine lv_if_lt (tgt := 89) S.x S.b d_Tok_token_80 (by decide) (fun c24 => ?_) (fun c24 => ?_)
          · have nc24 : v7.toInt < (0 : Int) := (i_lt (x := v7) (y := 0)).mp c24
            first | exact J89 (upd f 9 0) a (f 8) (0 : Int32) _ _ ls (show TokOk (f 7) (f 8) (f 10) (f 11) (f 12) (f 13) (f 17) (a 4) from ⟨⟨o1, o2⟩, ⟨o3, o4⟩, ⟨o5, o6⟩, ⟨o7, o8⟩, ⟨o9, o10⟩, ⟨o11, o12⟩, o13, hn4⟩) (show (f 7).toInt = (f 7).toInt from rfl) (show (f 10).toInt = (f 10).toInt from rfl) (show (f 15).toInt = (f 15).toInt from rfl) (show Q5 (a 5) from hq5) (show (0 : Int) = 0 ∨ (0 : Int) = 19 ∨ ((f 8).toInt + 1 ≤ (f 8).toInt ∧ (f 8).toInt < (f 7).toInt) from by first | with_reducible rfl | with_reducible assumption | omega) hw (lv_sub hl [3, 2, 0] rfl) | exact J89 (upd f 9 0) a (f 8) (0 : Int32) _ _ ls (show TokOk (f 7) (f 8) (f 10) (f 11) (f 12) (f 13) (f 17) (a 4) from ⟨⟨by first | exact o1 | omega, by first | exact o2 | omega⟩, ⟨by first | exact o3 | omega, by first | exact o4 | omega⟩, ⟨by first | exact o5 | omega, by first | exact o6 | omega⟩, ⟨by first | exact o7 | omega, by first | exact o8 | omega⟩, ⟨by first | exact o9 | omega, by first | exact o10 | omega⟩, ⟨by first | exact o11 | omega, by first | exact o12 | omega⟩, by first | exact o13 | omega, hn4⟩) (show (f 7).toInt = (f 7).toInt from rfl) (show (f 10).toInt = (f 10).toInt from rfl) (show (f 15).toInt = (f 15).toInt from rfl) (show Q5 (a 5) from hq5) (show (0 : Int) = 0 ∨ (0 : Int) = 19 ∨ ((f 8).toInt + 1 ≤ (f 8).toInt ∧ (f 8).toInt < (f 7).toInt) from by first | with_reducible rfl | with_reducible assumption | omega) hw (lv_sub hl [3, 2, 0] rfl)
          · have nc24 : ¬ v7.toInt < (0 : Int) := mt (i_lt (x := v7) (y := 0)).mpr c24
            refine lv_aload_n S.x S.b d_Tok_token_83 rfl (lv_at hl 3 rfl) ?_
            refine lv_iload_n S.x S.b d_Tok_token_84 rfl (lv_at hl 1 rfl) ?_
            first | refine px_calli (pr := []) (px_runV (As := [.int v7]) (rest := []) S (c_t2_mark l D cs sk st sn sb h r tp tb g (upd f 9 0) a v7  (show TokOk (f 7) (f 8) (f 10) (f 11) (f 12) (f 13) (f 17) (a 4) from ⟨⟨o1, o2⟩, ⟨o3, o4⟩, ⟨o5, o6⟩, ⟨o7, o8⟩, ⟨o9, o10⟩, ⟨o11, o12⟩, o13, hn4⟩) (show sn ≤ 1000000 from g0) (show 0 ≤ (f 8).toInt from o3) (show (f 8).toInt < (f 7).toInt from (oz_2218542316 nc24 e10)) hq5 _) hT (pr := []) (pcs := [wd_Tok cs h r (fun _ => some tp) (upd f 9 0) a g, [(tp, .inl (cs 1, 2048, .inl tb))]]) hw (oX_call (P := (fun A U H => (vk_R "HomeSystem$Tokens" 127 "(){}[],;:?=|^&<>+-*/%!~" sk U) ∧ (oZ A U H) ∧ (oS A sk st sn sb U H))) (pr := []) (oG_and oG_L (oG_and oG_Z oG_S)) hw hA ⟨hL, hZ, hS⟩) (px_recv hT hw 0 0 rfl rfl rfl) m4_5 m4_2 m4_4 ms_2_3 m1_2 q_Tok_mark ⟨Nat.le_of_ble_eq_true rfl, Nat.le_of_ble_eq_true rfl⟩ hl.1 rfl (Nat.le_of_ble_eq_true rfl) d_Tok_token_85 ⟨Nat.le_of_ble_eq_true rfl, Nat.le_of_ble_eq_true rfl⟩) hw hA (fun v30 p29 H locs hp29 hw => ?_) | refine px_calli (pr := []) (px_runV (As := [.int v7]) (rest := []) S (c_t2_mark l D cs sk st sn sb h r tp tb g (upd f 9 0) a v7  (show TokOk (f 7) (f 8) (f 10) (f 11) (f 12) (f 13) (f 17) (a 4) from ⟨⟨by first | exact o1 | omega, by first | exact o2 | omega⟩, ⟨by first | exact o3 | omega, by first | exact o4 | omega⟩, ⟨by first | exact o5 | omega, by first | exact o6 | omega⟩, ⟨by first | exact o7 | omega, by first | exact o8 | omega⟩, ⟨by first | exact o9 | omega, by first | exact o10 | omega⟩, ⟨by first | exact o11 | omega, by first | exact o12 | omega⟩, by first | exact o13 | omega, hn4⟩) (show sn ≤ 1000000 from by first | exact g0 | omega) (show 0 ≤ (f 8).toInt from by first | exact o3 | omega) (show (f 8).toInt < (f 7).toInt from by first | exact oz_2218542316 nc24 e10 | omega) hq5 _) hT (pr := []) (pcs := [wd_Tok cs h r (fun _ => some tp) (upd f 9 0) a g, [(tp, .inl (cs 1, 2048, .inl tb))]]) hw (oX_call (P := (fun A U H => (vk_R "HomeSystem$Tokens" 127 "(){}[],;:?=|^&<>+-*/%!~" sk U) ∧ (oZ A U H) ∧ (oS A sk st sn sb U H))) (pr := []) (oG_and oG_L (oG_and oG_Z oG_S)) hw hA ⟨hL, hZ, hS⟩) (px_recv hT hw 0 0 rfl rfl rfl) m4_5 m4_2 m4_4 ms_2_3 m1_2 q_Tok_mark ⟨Nat.le_of_ble_eq_true rfl, Nat.le_of_ble_eq_true rfl⟩ hl.1 rfl (Nat.le_of_ble_eq_true rfl) d_Tok_token_85 ⟨Nat.le_of_ble_eq_true rfl, Nat.le_of_ble_eq_true rfl⟩) hw hA (fun v30 p29 H locs hp29 hw => ?_)
            obtain ⟨f27, a28, rfl, h36, e31, e32, e33, e34, e35⟩ := hp29
            obtain ⟨⟨o1, o2⟩, ⟨o3, o4⟩, ⟨o5, o6⟩, ⟨o7, o8⟩, ⟨o9, o10⟩, ⟨o11, o12⟩, o13, hn4⟩ := h36
            have e31 : (f27 7).toInt = (f 7).toInt := e31
            have e32 : (f27 10).toInt = (f 10).toInt := e32
            have e33 : (f27 15).toInt = (f 15).toInt := e33
            have e34 : v30.toInt = 19 ∨ (f 8).toInt + 1 ≤ (f27 8).toInt := e34
            have e35 : Q5 (a28 5) := e35
            have hq5 := e35
            have lv30 := Int32.le_toInt v30
            have uv30 := Int32.toInt_lt v30
            refine lv_istore_n (lv' := [(3, .int v30), (2, .int v7), (1, .int (f 8)), (0, .ref h)]) S.x S.b d_Tok_token_88 rfl hl (by decide) rfl (fun ls hl => ?_)
            first | exact J89 f27 a28 (f 8) v30 _ _ ls (show TokOk (f27 7) (f27 8) (f27 10) (f27 11) (f27 12) (f27 13) (f27 17) (a28 4) from ⟨⟨o1, o2⟩, ⟨o3, o4⟩, ⟨o5, o6⟩, ⟨o7, o8⟩, ⟨o9, o10⟩, ⟨o11, o12⟩, o13, hn4⟩) (show (f27 7).toInt = (f 7).toInt from e31) (show (f27 10).toInt = (f 10).toInt from e32) (show (f27 15).toInt = (f 15).toInt from e33) (show Q5 (a28 5) from hq5) (show v30.toInt = 0 ∨ v30.toInt = 19 ∨ ((f 8).toInt + 1 ≤ (f27 8).toInt ∧ (f 8).toInt < (f 7).toInt) from by first | with_reducible rfl | with_reducible assumption | omega) hw (lv_sub hl [3, 2, 0] rfl) | exact J89 f27 a28 (f 8) v30 _ _ ls (show TokOk (f27 7) (f27 8) (f27 10) (f27 11) (f27 12) (f27 13) (f27 17) (a28 4) from ⟨⟨by first | exact o1 | omega, by first | exact o2 | omega⟩, ⟨by first | exact o3 | omega, by first | exact o4 | omega⟩, ⟨by first | exact o5 | omega, by first | exact o6 | omega⟩, ⟨by first | exact o7 | omega, by first | exact o8 | omega⟩, ⟨by first | exact o9 | omega, by first | exact o10 | omega⟩, ⟨by first | exact o11 | omega, by first | exact o12 | omega⟩, by first | exact o13 | omega, hn4⟩) (show (f27 7).toInt = (f 7).toInt from by first | exact e31 | omega) (show (f27 10).toInt = (f 10).toInt from by first | exact e32 | omega) (show (f27 15).toInt = (f 15).toInt from by first | exact e33 | omega) (show Q5 (a28 5) from hq5) (show v30.toInt = 0 ∨ v30.toInt = 19 ∨ ((f 8).toInt + 1 ≤ (f27 8).toInt ∧ (f 8).toInt < (f 7).toInt) from by first | with_reducible rfl | with_reducible assumption | omega) hw (lv_sub hl [3, 2, 0] rfl)
        · have nc23 : v7.toInt = (34 : Int) := (i_eq (x := v7) (y := 34)).mp c23
          refine lv_aload_n S.x S.b d_Tok_token_71 rfl (lv_at hl 3 rfl) ?_
          first | refine px_calli (pr := []) (px_runV (As := []) (rest := []) S (c_t2_string l D cs h r tp tb g (upd f 9 0) a   (show TokOk (f 7) (f 8) (f 10) (f 11) (f 12) (f 13) (f 17) (a 4) from ⟨⟨o1, o2⟩, ⟨o3, o4⟩, ⟨o5, o6⟩, ⟨o7, o8⟩, ⟨o9, o10⟩, ⟨o11, o12⟩, o13, hn4⟩) hq5 _) hT (pr := []) (pcs := [wd_Tok cs h r (fun _ => some tp) (upd f 9 0) a g, [(tp, .inl (cs 1, 2048, .inl tb))]]) hw px_X.tt (px_recv hT hw 0 0 rfl rfl rfl) m4_1 m3_238 m4_0 ms_2_2 m1_2 q_Tok_string ⟨Nat.le_of_ble_eq_true rfl, Nat.le_of_ble_eq_true rfl⟩ hl.1 rfl (Nat.le_of_ble_eq_true rfl) d_Tok_token_72 ⟨Nat.le_of_ble_eq_true rfl, Nat.le_of_ble_eq_true rfl⟩) hw hA (fun v42 p41 H locs hp41 hw => ?_) | refine px_calli (pr := []) (px_runV (As := []) (rest := []) S (c_t2_string l D cs h r tp tb g (upd f 9 0) a   (show TokOk (f 7) (f 8) (f 10) (f 11) (f 12) (f 13) (f 17) (a 4) from ⟨⟨by first | exact o1 | omega, by first | exact o2 | omega⟩, ⟨by first | exact o3 | omega, by first | exact o4 | omega⟩, ⟨by first | exact o5 | omega, by first | exact o6 | omega⟩, ⟨by first | exact o7 | omega, by first | exact o8 | omega⟩, ⟨by first | exact o9 | omega, by first | exact o10 | omega⟩, ⟨by first | exact o11 | omega, by first | exact o12 | omega⟩, by first | exact o13 | omega, hn4⟩) hq5 _) hT (pr := []) (pcs := [wd_Tok cs h r (fun _ => some tp) (upd f 9 0) a g, [(tp, .inl (cs 1, 2048, .inl tb))]]) hw px_X.tt (px_recv hT hw 0 0 rfl rfl rfl) m4_1 m3_238 m4_0 ms_2_2 m1_2 q_Tok_string ⟨Nat.le_of_ble_eq_true rfl, Nat.le_of_ble_eq_true rfl⟩ hl.1 rfl (Nat.le_of_ble_eq_true rfl) d_Tok_token_72 ⟨Nat.le_of_ble_eq_true rfl, Nat.le_of_ble_eq_true rfl⟩) hw hA (fun v42 p41 H locs hp41 hw => ?_)
          obtain ⟨f39, a40, rfl, h48, e43, e44, e45, e46, e47⟩ := hp41
          obtain ⟨⟨o1, o2⟩, ⟨o3, o4⟩, ⟨o5, o6⟩, ⟨o7, o8⟩, ⟨o9, o10⟩, ⟨o11, o12⟩, o13, hn4⟩ := h48
          have e43 : (f39 7).toInt = (f 7).toInt := e43
          have e44 : (f39 10).toInt = (f 10).toInt := e44
          have e45 : (f39 15).toInt = (f 15).toInt := e45
          have e46 : v42.toInt = 19 ∨ (f 8).toInt + 1 ≤ (f39 8).toInt := e46
          have e47 : Q5 (a40 5) := e47
          have hq5 := e47
          have lv42 := Int32.le_toInt v42
          have uv42 := Int32.toInt_lt v42
          refine lv_istore_n (lv' := [(3, .int v42), (2, .int v7), (1, .int (f 8)), (0, .ref h)]) S.x S.b d_Tok_token_75 rfl hl (by decide) rfl (fun ls hl => ?_)
          refine lv_goto (tgt := 89) S.x S.b d_Tok_token_76 (by decide) ?_
          first | exact J89 f39 a40 (f 8) v42 _ _ ls (show TokOk (f39 7) (f39 8) (f39 10) (f39 11) (f39 12) (f39 13) (f39 17) (a40 4) from ⟨⟨o1, o2⟩, ⟨o3, o4⟩, ⟨o5, o6⟩, ⟨o7, o8⟩, ⟨o9, o10⟩, ⟨o11, o12⟩, o13, hn4⟩) (show (f39 7).toInt = (f 7).toInt from e43) (show (f39 10).toInt = (f 10).toInt from e44) (show (f39 15).toInt = (f 15).toInt from e45) (show Q5 (a40 5) from hq5) (show v42.toInt = 0 ∨ v42.toInt = 19 ∨ ((f 8).toInt + 1 ≤ (f39 8).toInt ∧ (f 8).toInt < (f 7).toInt) from by first | with_reducible rfl | with_reducible assumption | omega) hw (lv_sub hl [3, 2, 0] rfl) | exact J89 f39 a40 (f 8) v42 _ _ ls (show TokOk (f39 7) (f39 8) (f39 10) (f39 11) (f39 12) (f39 13) (f39 17) (a40 4) from ⟨⟨by first | exact o1 | omega, by first | exact o2 | omega⟩, ⟨by first | exact o3 | omega, by first | exact o4 | omega⟩, ⟨by first | exact o5 | omega, by first | exact o6 | omega⟩, ⟨by first | exact o7 | omega, by first | exact o8 | omega⟩, ⟨by first | exact o9 | omega, by first | exact o10 | omega⟩, ⟨by first | exact o11 | omega, by first | exact o12 | omega⟩, by first | exact o13 | omega, hn4⟩) (show (f39 7).toInt = (f 7).toInt from by first | exact e43 | omega) (show (f39 10).toInt = (f 10).toInt from by first | exact e44 | omega) (show (f39 15).toInt = (f 15).toInt from by first | exact e45 | omega) (show Q5 (a40 5) from hq5) (show v42.toInt = 0 ∨ v42.toInt = 19 ∨ ((f 8).toInt + 1 ≤ (f39 8).toInt ∧ (f 8).toInt < (f 7).toInt) from by first | with_reducible rfl | with_reducible assumption | omega) hw (lv_sub hl [3, 2, 0] rfl)
      · have nc22 : v7.toInt = (39 : Int) := (i_eq (x := v7) (y := 39)).mp c22
        refine lv_aload_n S.x S.b d_Tok_token_57 rfl (lv_at hl 3 rfl) ?_
        first | refine px_calli (pr := []) (px_runV (As := []) (rest := []) S (c_t2_character l D cs h r tp tb g (upd f 9 0) a   (show TokOk (f 7) (f 8) (f 10) (f 11) (f 12) (f 13) (f 17) (a 4) from ⟨⟨o1, o2⟩, ⟨o3, o4⟩, ⟨o5, o6⟩, ⟨o7, o8⟩, ⟨o9, o10⟩, ⟨o11, o12⟩, o13, hn4⟩) hq5 _) hT (pr := []) (pcs := [wd_Tok cs h r (fun _ => some tp) (upd f 9 0) a g, [(tp, .inl (cs 1, 2048, .inl tb))]]) hw px_X.tt (px_recv hT hw 0 0 rfl rfl rfl) m3_229 m3_226 m3_228 ms_1_15 m1_2 q_Tok_character ⟨Nat.le_of_ble_eq_true rfl, Nat.le_of_ble_eq_true rfl⟩ hl.1 rfl (Nat.le_of_ble_eq_true rfl) d_Tok_token_58 ⟨Nat.le_of_ble_eq_true rfl, Nat.le_of_ble_eq_true rfl⟩) hw hA (fun v54 p53 H locs hp53 hw => ?_) | refine px_calli (pr := []) (px_runV (As := []) (rest := []) S (c_t2_character l D cs h r tp tb g (upd f 9 0) a   (show TokOk (f 7) (f 8) (f 10) (f 11) (f 12) (f 13) (f 17) (a 4) from ⟨⟨by first | exact o1 | omega, by first | exact o2 | omega⟩, ⟨by first | exact o3 | omega, by first | exact o4 | omega⟩, ⟨by first | exact o5 | omega, by first | exact o6 | omega⟩, ⟨by first | exact o7 | omega, by first | exact o8 | omega⟩, ⟨by first | exact o9 | omega, by first | exact o10 | omega⟩, ⟨by first | exact o11 | omega, by first | exact o12 | omega⟩, by first | exact o13 | omega, hn4⟩) hq5 _) hT (pr := []) (pcs := [wd_Tok cs h r (fun _ => some tp) (upd f 9 0) a g, [(tp, .inl (cs 1, 2048, .inl tb))]]) hw px_X.tt (px_recv hT hw 0 0 rfl rfl rfl) m3_229 m3_226 m3_228 ms_1_15 m1_2 q_Tok_character ⟨Nat.le_of_ble_eq_true rfl, Nat.le_of_ble_eq_true rfl⟩ hl.1 rfl (Nat.le_of_ble_eq_true rfl) d_Tok_token_58 ⟨Nat.le_of_ble_eq_true rfl, Nat.le_of_ble_eq_true rfl⟩) hw hA (fun v54 p53 H locs hp53 hw => ?_)
        obtain ⟨f51, a52, rfl, h60, e55, e56, e57, e58, e59⟩ := hp53
        obtain ⟨⟨o1, o2⟩, ⟨o3, o4⟩, ⟨o5, o6⟩, ⟨o7, o8⟩, ⟨o9, o10⟩, ⟨o11, o12⟩, o13, hn4⟩ := h60
        have e55 : (f51 7).toInt = (f 7).toInt := e55
        have e56 : (f51 10).toInt = (f 10).toInt := e56
        have e57 : (f51 15).toInt = (f 15).toInt := e57
        have e58 : v54.toInt = 19 ∨ (f 8).toInt + 1 ≤ (f51 8).toInt := e58
        have e59 : Q5 (a52 5) := e59
        have hq5 := e59
        have lv54 := Int32.le_toInt v54
        have uv54 := Int32.toInt_lt v54
        refine lv_istore_n (lv' := [(3, .int v54), (2, .int v7), (1, .int (f 8)), (0, .ref h)]) S.x S.b d_Tok_token_61 rfl hl (by decide) rfl (fun ls hl => ?_)
        refine lv_goto (tgt := 89) S.x S.b d_Tok_token_62 (by decide) ?_
        first | exact J89 f51 a52 (f 8) v54 _ _ ls (show TokOk (f51 7) (f51 8) (f51 10) (f51 11) (f51 12) (f51 13) (f51 17) (a52 4) from ⟨⟨o1, o2⟩, ⟨o3, o4⟩, ⟨o5, o6⟩, ⟨o7, o8⟩, ⟨o9, o10⟩, ⟨o11, o12⟩, o13, hn4⟩) (show (f51 7).toInt = (f 7).toInt from e55) (show (f51 10).toInt = (f 10).toInt from e56) (show (f51 15).toInt = (f 15).toInt from e57) (show Q5 (a52 5) from hq5) (show v54.toInt = 0 ∨ v54.toInt = 19 ∨ ((f 8).toInt + 1 ≤ (f51 8).toInt ∧ (f 8).toInt < (f 7).toInt) from by first | with_reducible rfl | with_reducible assumption | omega) hw (lv_sub hl [3, 2, 0] rfl) | exact J89 f51 a52 (f 8) v54 _ _ ls (show TokOk (f51 7) (f51 8) (f51 10) (f51 11) (f51 12) (f51 13) (f51 17) (a52 4) from ⟨⟨by first | exact o1 | omega, by first | exact o2 | omega⟩, ⟨by first | exact o3 | omega, by first | exact o4 | omega⟩, ⟨by first | exact o5 | omega, by first | exact o6 | omega⟩, ⟨by first | exact o7 | omega, by first | exact o8 | omega⟩, ⟨by first | exact o9 | omega, by first | exact o10 | omega⟩, ⟨by first | exact o11 | omega, by first | exact o12 | omega⟩, by first | exact o13 | omega, hn4⟩) (show (f51 7).toInt = (f 7).toInt from by first | exact e55 | omega) (show (f51 10).toInt = (f 10).toInt from by first | exact e56 | omega) (show (f51 15).toInt = (f 15).toInt from by first | exact e57 | omega) (show Q5 (a52 5) from hq5) (show v54.toInt = 0 ∨ v54.toInt = 19 ∨ ((f 8).toInt + 1 ≤ (f51 8).toInt ∧ (f 8).toInt < (f 7).toInt) from by first | with_reducible rfl | with_reducible assumption | omega) hw (lv_sub hl [3, 2, 0] rfl)
    · have nc21 : ¬ v18.toInt = (0 : Int) := mt (i_eq (x := v18) (y := 0)).mpr c21
      refine lv_aload_n S.x S.b d_Tok_token_43 rfl (lv_at hl 3 rfl) ?_
      first | refine px_calli (pr := []) (px_runV (As := []) (rest := []) S (c_t2_number l D cs h r tp tb g (upd f 9 0) a   (show TokOk (f 7) (f 8) (f 10) (f 11) (f 12) (f 13) (f 17) (a 4) from ⟨⟨o1, o2⟩, ⟨o3, o4⟩, ⟨o5, o6⟩, ⟨o7, o8⟩, ⟨o9, o10⟩, ⟨o11, o12⟩, o13, hn4⟩) hq5 _) hT (pr := []) (pcs := [wd_Tok cs h r (fun _ => some tp) (upd f 9 0) a g, [(tp, .inl (cs 1, 2048, .inl tb))]]) hw px_X.tt (px_recv hT hw 0 0 rfl rfl rfl) m3_220 m3_217 m3_219 ms_1_13 m1_2 q_Tok_number ⟨Nat.le_of_ble_eq_true rfl, Nat.le_of_ble_eq_true rfl⟩ hl.1 rfl (Nat.le_of_ble_eq_true rfl) d_Tok_token_44 ⟨Nat.le_of_ble_eq_true rfl, Nat.le_of_ble_eq_true rfl⟩) hw hA (fun v66 p65 H locs hp65 hw => ?_) | refine px_calli (pr := []) (px_runV (As := []) (rest := []) S (c_t2_number l D cs h r tp tb g (upd f 9 0) a   (show TokOk (f 7) (f 8) (f 10) (f 11) (f 12) (f 13) (f 17) (a 4) from ⟨⟨by first | exact o1 | omega, by first | exact o2 | omega⟩, ⟨by first | exact o3 | omega, by first | exact o4 | omega⟩, ⟨by first | exact o5 | omega, by first | exact o6 | omega⟩, ⟨by first | exact o7 | omega, by first | exact o8 | omega⟩, ⟨by first | exact o9 | omega, by first | exact o10 | omega⟩, ⟨by first | exact o11 | omega, by first | exact o12 | omega⟩, by first | exact o13 | omega, hn4⟩) hq5 _) hT (pr := []) (pcs := [wd_Tok cs h r (fun _ => some tp) (upd f 9 0) a g, [(tp, .inl (cs 1, 2048, .inl tb))]]) hw px_X.tt (px_recv hT hw 0 0 rfl rfl rfl) m3_220 m3_217 m3_219 ms_1_13 m1_2 q_Tok_number ⟨Nat.le_of_ble_eq_true rfl, Nat.le_of_ble_eq_true rfl⟩ hl.1 rfl (Nat.le_of_ble_eq_true rfl) d_Tok_token_44 ⟨Nat.le_of_ble_eq_true rfl, Nat.le_of_ble_eq_true rfl⟩) hw hA (fun v66 p65 H locs hp65 hw => ?_)
      obtain ⟨f63, a64, rfl, h72, e67, e68, e69, e70, e71⟩ := hp65
      obtain ⟨⟨o1, o2⟩, ⟨o3, o4⟩, ⟨o5, o6⟩, ⟨o7, o8⟩, ⟨o9, o10⟩, ⟨o11, o12⟩, o13, hn4⟩ := h72
      have e67 : (f63 7).toInt = (f 7).toInt := e67
      have e68 : (f63 10).toInt = (f 10).toInt := e68
      have e69 : (f63 15).toInt = (f 15).toInt := e69
      have e70 : v66.toInt = 19 ∨ (f 8).toInt + 1 ≤ (f63 8).toInt := e70
      have e71 : Q5 (a64 5) := e71
      have hq5 := e71
      have lv66 := Int32.le_toInt v66
      have uv66 := Int32.toInt_lt v66
      refine lv_istore_n (lv' := [(3, .int v66), (2, .int v7), (1, .int (f 8)), (0, .ref h)]) S.x S.b d_Tok_token_47 rfl hl (by decide) rfl (fun ls hl => ?_)
      refine lv_goto (tgt := 89) S.x S.b d_Tok_token_48 (by decide) ?_
      first | exact J89 f63 a64 (f 8) v66 _ _ ls (show TokOk (f63 7) (f63 8) (f63 10) (f63 11) (f63 12) (f63 13) (f63 17) (a64 4) from ⟨⟨o1, o2⟩, ⟨o3, o4⟩, ⟨o5, o6⟩, ⟨o7, o8⟩, ⟨o9, o10⟩, ⟨o11, o12⟩, o13, hn4⟩) (show (f63 7).toInt = (f 7).toInt from e67) (show (f63 10).toInt = (f 10).toInt from e68) (show (f63 15).toInt = (f 15).toInt from e69) (show Q5 (a64 5) from hq5) (show v66.toInt = 0 ∨ v66.toInt = 19 ∨ ((f 8).toInt + 1 ≤ (f63 8).toInt ∧ (f 8).toInt < (f 7).toInt) from by first | with_reducible rfl | with_reducible assumption | omega) hw (lv_sub hl [3, 2, 0] rfl) | exact J89 f63 a64 (f 8) v66 _ _ ls (show TokOk (f63 7) (f63 8) (f63 10) (f63 11) (f63 12) (f63 13) (f63 17) (a64 4) from ⟨⟨by first | exact o1 | omega, by first | exact o2 | omega⟩, ⟨by first | exact o3 | omega, by first | exact o4 | omega⟩, ⟨by first | exact o5 | omega, by first | exact o6 | omega⟩, ⟨by first | exact o7 | omega, by first | exact o8 | omega⟩, ⟨by first | exact o9 | omega, by first | exact o10 | omega⟩, ⟨by first | exact o11 | omega, by first | exact o12 | omega⟩, by first | exact o13 | omega, hn4⟩) (show (f63 7).toInt = (f 7).toInt from by first | exact e67 | omega) (show (f63 10).toInt = (f 10).toInt from by first | exact e68 | omega) (show (f63 15).toInt = (f 15).toInt from by first | exact e69 | omega) (show Q5 (a64 5) from hq5) (show v66.toInt = 0 ∨ v66.toInt = 19 ∨ ((f 8).toInt + 1 ≤ (f63 8).toInt ∧ (f 8).toInt < (f 7).toInt) from by first | with_reducible rfl | with_reducible assumption | omega) hw (lv_sub hl [3, 2, 0] rfl)
  · have nc16 : ¬ v13.toInt = (0 : Int) := mt (i_eq (x := v13) (y := 0)).mpr c16
    refine lv_aload_n S.x S.b d_Tok_token_28 rfl (lv_at hl 3 rfl) ?_
    have hge65 := lt_ge (show IsLt v13 v7 by assumption) (by omega)
    first | refine px_calli (pr := []) (px_runV (As := []) (rest := []) S (c_t2_name l D cs h r tp tb g (upd f 9 0) a   (show TokOk (f 7) (f 8) (f 10) (f 11) (f 12) (f 13) (f 17) (a 4) from ⟨⟨o1, o2⟩, ⟨o3, o4⟩, ⟨o5, o6⟩, ⟨o7, o8⟩, ⟨o9, o10⟩, ⟨o11, o12⟩, o13, hn4⟩) (show (f 8).toInt < (f 7).toInt from by first | with_reducible rfl | with_reducible assumption | omega) (name_l (i := (f 8)) (by assumption) (by assumption) (by omega) (by omega) (by omega)) hq5 _) hT (pr := []) (pcs := [wd_Tok cs h r (fun _ => some tp) (upd f 9 0) a g, [(tp, .inl (cs 1, 2048, .inl tb))]]) hw px_X.tt (px_recv hT hw 0 0 rfl rfl rfl) m3_205 m3_202 m3_204 ms_1_10 m1_2 q_Tok_name ⟨Nat.le_of_ble_eq_true rfl, Nat.le_of_ble_eq_true rfl⟩ hl.1 rfl (Nat.le_of_ble_eq_true rfl) d_Tok_token_29 ⟨Nat.le_of_ble_eq_true rfl, Nat.le_of_ble_eq_true rfl⟩) hw hA (fun v78 p77 H locs hp77 hw => ?_) | refine px_calli (pr := []) (px_runV (As := []) (rest := []) S (c_t2_name l D cs h r tp tb g (upd f 9 0) a   (show TokOk (f 7) (f 8) (f 10) (f 11) (f 12) (f 13) (f 17) (a 4) from ⟨⟨by first | exact o1 | omega, by first | exact o2 | omega⟩, ⟨by first | exact o3 | omega, by first | exact o4 | omega⟩, ⟨by first | exact o5 | omega, by first | exact o6 | omega⟩, ⟨by first | exact o7 | omega, by first | exact o8 | omega⟩, ⟨by first | exact o9 | omega, by first | exact o10 | omega⟩, ⟨by first | exact o11 | omega, by first | exact o12 | omega⟩, by first | exact o13 | omega, hn4⟩) (show (f 8).toInt < (f 7).toInt from by first | with_reducible rfl | with_reducible assumption | omega) (name_l (i := (f 8)) (by assumption) (by assumption) (by omega) (by omega) (by omega)) hq5 _) hT (pr := []) (pcs := [wd_Tok cs h r (fun _ => some tp) (upd f 9 0) a g, [(tp, .inl (cs 1, 2048, .inl tb))]]) hw px_X.tt (px_recv hT hw 0 0 rfl rfl rfl) m3_205 m3_202 m3_204 ms_1_10 m1_2 q_Tok_name ⟨Nat.le_of_ble_eq_true rfl, Nat.le_of_ble_eq_true rfl⟩ hl.1 rfl (Nat.le_of_ble_eq_true rfl) d_Tok_token_29 ⟨Nat.le_of_ble_eq_true rfl, Nat.le_of_ble_eq_true rfl⟩) hw hA (fun v78 p77 H locs hp77 hw => ?_)
    obtain ⟨f75, a76, rfl, h84, e79, e80, e81, e82, e83⟩ := hp77
    obtain ⟨⟨o1, o2⟩, ⟨o3, o4⟩, ⟨o5, o6⟩, ⟨o7, o8⟩, ⟨o9, o10⟩, ⟨o11, o12⟩, o13, hn4⟩ := h84
    have e79 : (f75 7).toInt = (f 7).toInt := e79
    have e80 : (f75 10).toInt = (f 10).toInt := e80
    have e81 : (f75 15).toInt = (f 15).toInt := e81
    have e82 : (f 8).toInt + 1 ≤ (f75 8).toInt := e82
    have e83 : Q5 (a76 5) := e83
    have hq5 := e83
    have lv78 := Int32.le_toInt v78
    have uv78 := Int32.toInt_lt v78
    refine lv_istore_n (lv' := [(3, .int v78), (2, .int v7), (1, .int (f 8)), (0, .ref h)]) S.x S.b d_Tok_token_32 rfl hl (by decide) rfl (fun ls hl => ?_)
    refine lv_goto (tgt := 89) S.x S.b d_Tok_token_33 (by decide) ?_
    first | exact J89 f75 a76 (f 8) v78 _ _ ls (show TokOk (f75 7) (f75 8) (f75 10) (f75 11) (f75 12) (f75 13) (f75 17) (a76 4) from ⟨⟨o1, o2⟩, ⟨o3, o4⟩, ⟨o5, o6⟩, ⟨o7, o8⟩, ⟨o9, o10⟩, ⟨o11, o12⟩, o13, hn4⟩) (show (f75 7).toInt = (f 7).toInt from e79) (show (f75 10).toInt = (f 10).toInt from e80) (show (f75 15).toInt = (f 15).toInt from e81) (show Q5 (a76 5) from hq5) (show v78.toInt = 0 ∨ v78.toInt = 19 ∨ ((f 8).toInt + 1 ≤ (f75 8).toInt ∧ (f 8).toInt < (f 7).toInt) from by first | with_reducible rfl | with_reducible assumption | omega) hw (lv_sub hl [3, 2, 0] rfl) | exact J89 f75 a76 (f 8) v78 _ _ ls (show TokOk (f75 7) (f75 8) (f75 10) (f75 11) (f75 12) (f75 13) (f75 17) (a76 4) from ⟨⟨by first | exact o1 | omega, by first | exact o2 | omega⟩, ⟨by first | exact o3 | omega, by first | exact o4 | omega⟩, ⟨by first | exact o5 | omega, by first | exact o6 | omega⟩, ⟨by first | exact o7 | omega, by first | exact o8 | omega⟩, ⟨by first | exact o9 | omega, by first | exact o10 | omega⟩, ⟨by first | exact o11 | omega, by first | exact o12 | omega⟩, by first | exact o13 | omega, hn4⟩) (show (f75 7).toInt = (f 7).toInt from by first | exact e79 | omega) (show (f75 10).toInt = (f 10).toInt from by first | exact e80 | omega) (show (f75 15).toInt = (f 15).toInt from by first | exact e81 | omega) (show Q5 (a76 5) from hq5) (show v78.toInt = 0 ∨ v78.toInt = 19 ∨ ((f 8).toInt + 1 ≤ (f75 8).toInt ∧ (f 8).toInt < (f 7).toInt) from by first | with_reducible rfl | with_reducible assumption | omega) hw (lv_sub hl [3, 2, 0] rfl)
set_option maxHeartbeats 4000000 in
set_option maxRecDepth 100000 in
theorem c_t2_scan (l : Launch) (D : va_G) (cs : Nat → ClassId) (sk : Nat) (st : Nat) (sn : Nat) (sb : Nat → Int32) (h : Nat) (r : Nat → Nat) (tp : Nat) (tb : Nat → Int32) (g : Nat → Nat → Option Nat) (f : Nat → Int32) (a : Nat → Nat → Int32) (p0 : Int32) (o6 : Option Nat) (g0 : sn ≤ 1000000) (g1 : 0 ≤ p0.toInt) (g2 : p0.toInt ≤ 2048) (g3 : 0 ≤ (f 13).toInt) (g4 : (f 13).toInt ≤ 2048) (g5 : 0 ≤ (f 17).toInt) (hn4 : ∀ j : Nat, 0 ≤ (a 4 j).toInt ∧ (a 4 j).toInt ≤ 1000 + 24 * (j : Int)) (hq5 : Q5 (a 5)) : MetV l y_Tok_scan b_Tok_scan 5 D cs 6 240 (0) (0) [.ref h, .ref tp, .int p0] [wd_Tok cs h r (fun k => if k = 6 then o6 else none) f a g, [(tp, .inl (cs 1, 2048, .inl tb))]] (oX (fun A U H => (vk_R "HomeSystem$Tokens" 127 "(){}[],;:?=|^&<>+-*/%!~" sk U) ∧ (oZ A U H) ∧ (oS A sk st sn sb U H)) [wd_Tok cs h r (fun k => if k = 6 then o6 else none) f a g, [(tp, .inl (cs 1, 2048, .inl tb))]]) (fun ps => ∃ (f' : Nat → Int32) (a' : Nat → Nat → Int32), (ps = [wd_Tok cs h r (fun _ => some tp) f' a' g, [(tp, .inl (cs 1, 2048, .inl tb))]]) ∧ (TokOk (f' 7) (f' 8) (f' 10) (f' 11) (f' 12) (f' 13) (f' 17) (a' 4)) ∧ ((f' 7).toInt = p0.toInt) ∧ ((f' 15).toInt = 0) ∧ (1 ≤ (f' 10).toInt) ∧ ((f' 10).toInt ≤ p0.toInt + 1) ∧ (LastOk (a' 0) (f' 10)) ∧ (Q5 (a' 5))) := by
  refine px_enter (by decide) (Nat.le_of_ble_eq_true rfl) ?_
  intro p e s m below meth c A ls hAe S hr hlk hnm hA hT hX hw hl
  have hl : lv_has ls 5 [(0, .ref h), (1, .ref tp), (2, .int p0)] := hl
  have lp0 := Int32.le_toInt p0
  have up0 := Int32.toInt_lt p0
  have cst0 : (0 : Int32).toInt = 0 := rfl
  have cst1 : (1 : Int32).toInt = 1 := rfl
  have cst26 : (26 : Int32).toInt = 26 := rfl
  have hX : (fun A U H => (vk_R "HomeSystem$Tokens" 127 "(){}[],;:?=|^&<>+-*/%!~" sk U) ∧ (oZ A U H) ∧ (oS A sk st sn sb U H)) A s s.heap := by rw [hAe]; exact hX
  obtain ⟨hL, hZ, hS⟩ := hX
  have hsn : (nI sn).toInt = (sn : Int) := nI_toInt (by omega)
  have J41 : ∀ (n_41 : Nat) (f_41 : Nat → Int32) (a_41 : Nat → Nat → Int32) (x41_3 x41_4 : Int32) (H : Heap) (locs : List Loc) (ls : Array Slot), (TokOk (f_41 7) (f_41 8) (f_41 10) (f_41 11) (f_41 12) (f_41 13) (f_41 17) (a_41 4)) → ((f_41 7).toInt = p0.toInt) → ((f_41 15).toInt = 0) → (0 ≤ x41_3.toInt) → (x41_3.toInt ≤ 1) → (0 ≤ x41_4.toInt) → (x41_4.toInt ≤ (f_41 7).toInt + 1) → (x41_4.toInt = 0 → x41_3.toInt = 1) → ((f_41 10).toInt = x41_4.toInt) → (x41_3.toInt = 1 → x41_4.toInt ≤ (f_41 8).toInt ∧ x41_4.toInt ≤ (f_41 7).toInt) → (LsT x41_3 (a_41 0) (f_41 10)) → (Q5 (a_41 5)) → (f_41 7).toInt+2-x41_4.toInt < (n_41 : Int) → pw D A s.heap H locs [wd_Tok cs h r (fun _ => some tp) f_41 a_41 g, [(tp, .inl (cs 1, 2048, .inl tb))]] → lv_has ls 5 [(0, .ref h), (1, .ref tp), (2, .int p0), (3, .int x41_3), (4, .int x41_4)] → W p l e { frames := 6, cells := 0, slots := 0, locals := 240 } s m [.ref h, .ref tp, .int p0].toArray below meth c H locs 0 0 (MQ below (va_Qv (fun ps => ∃ (f' : Nat → Int32) (a' : Nat → Nat → Int32), (ps = [wd_Tok cs h r (fun _ => some tp) f' a' g, [(tp, .inl (cs 1, 2048, .inl tb))]]) ∧ (TokOk (f' 7) (f' 8) (f' 10) (f' 11) (f' 12) (f' 13) (f' 17) (a' 4)) ∧ ((f' 7).toInt = p0.toInt) ∧ ((f' 15).toInt = 0) ∧ (1 ≤ (f' 10).toInt) ∧ ((f' 10).toInt ≤ p0.toInt + 1) ∧ (LastOk (a' 0) (f' 10)) ∧ (Q5 (a' 5))) (pc_B D (va_A ([wd_Tok cs h r (fun k => if k = 6 then o6 else none) f a g, [(tp, .inl (cs 1, 2048, .inl tb))]] : List va_W).flatten s.heap.size)) (va_A ([wd_Tok cs h r (fun k => if k = 6 then o6 else none) f a g, [(tp, .inl (cs 1, 2048, .inl tb))]] : List va_W).flatten s.heap.size)) [.ref h, .ref tp, .int p0].toArray s 0 0 A) (F0 m 41 ls []) := by
    intro  n_41
    induction n_41 with
    | zero =>
      intro f_41 a_41 x41_3 x41_4 H locs ls hi41_0 k41_0 k41_1 k41_2 k41_3 k41_4 k41_5 k41_6 k41_7 k41_8 k41_9 k41_10 hm hw hl
      obtain ⟨⟨o1, o2⟩, ⟨o3, o4⟩, ⟨o5, o6⟩, ⟨o7, o8⟩, ⟨o9, o10⟩, ⟨o11, o12⟩, o13, hn4⟩ := hi41_0
      have lx41_3 := Int32.le_toInt x41_3
      have ux41_3 := Int32.toInt_lt x41_3
      have lx41_4 := Int32.le_toInt x41_4
      have ux41_4 := Int32.toInt_lt x41_4
      have hq5 := k41_10
      exact absurd hm (by omega)
    | succ n_41 ih41 =>
      intro f_41 a_41 x41_3 x41_4 H locs ls hi41_0 k41_0 k41_1 k41_2 k41_3 k41_4 k41_5 k41_6 k41_7 k41_8 k41_9 k41_10 hm hw hl
      obtain ⟨⟨o1, o2⟩, ⟨o3, o4⟩, ⟨o5, o6⟩, ⟨o7, o8⟩, ⟨o9, o10⟩, ⟨o11, o12⟩, o13, hn4⟩ := hi41_0
      have lx41_3 := Int32.le_toInt x41_3
      have ux41_3 := Int32.toInt_lt x41_3
      have lx41_4 := Int32.le_toInt x41_4
      have ux41_4 := Int32.toInt_lt x41_4
      have hq5 := k41_10
      refine lv_iload S.x S.b d_Tok_scan_41 (lv_at hl 4 rfl) ?_
      refine lv_aload_n S.x S.b d_Tok_scan_43 rfl (lv_at hl 0 rfl) ?_
      refine px_get S k_Tok hT hw 0 0 7 (v := .int (f_41 7)) rfl rfl rfl (by decide) m1_110 d_Tok_scan_44 ?_
      refine lv_icmp_gt (tgt := 69) S.x S.b d_Tok_scan_47 (by decide) (fun c1 => ?_) (fun c1 => ?_)
      · have nc1 : (f_41 7).toInt < x41_4.toInt := (i_lt (x := (f_41 7)) (y := x41_4)).mp c1
        first | exact px_vret S hr hlk hAe hw (Nat.le_of_ble_eq_true rfl) (Nat.le_of_ble_eq_true rfl) (⟨f_41, a_41, rfl, (show TokOk (f_41 7) (f_41 8) (f_41 10) (f_41 11) (f_41 12) (f_41 13) (f_41 17) (a_41 4) from ⟨⟨o1, o2⟩, ⟨o3, o4⟩, ⟨o5, o6⟩, ⟨o7, o8⟩, ⟨o9, o10⟩, ⟨o11, o12⟩, o13, hn4⟩), (show (f_41 7).toInt = p0.toInt from k41_0), (show (f_41 15).toInt = 0 from k41_1), (show 1 ≤ (f_41 10).toInt from (oz_409f6d7389 k41_7 nc1 o1)), (show (f_41 10).toInt ≤ p0.toInt + 1 from (oz_b4fae048ea k41_0 k41_7 k41_5)), (show LastOk (a_41 0) (f_41 10) from (show LastOk _ _ from (show LsT _ _ _ by assumption) (by omega))), (show Q5 (a_41 5) from hq5)⟩) d_Tok_scan_69 | exact px_vret S hr hlk hAe hw (Nat.le_of_ble_eq_true rfl) (Nat.le_of_ble_eq_true rfl) (⟨f_41, a_41, rfl, (show TokOk (f_41 7) (f_41 8) (f_41 10) (f_41 11) (f_41 12) (f_41 13) (f_41 17) (a_41 4) from ⟨⟨by first | exact o1 | omega, by first | exact o2 | omega⟩, ⟨by first | exact o3 | omega, by first | exact o4 | omega⟩, ⟨by first | exact o5 | omega, by first | exact o6 | omega⟩, ⟨by first | exact o7 | omega, by first | exact o8 | omega⟩, ⟨by first | exact o9 | omega, by first | exact o10 | omega⟩, ⟨by first | exact o11 | omega, by first | exact o12 | omega⟩, by first | exact o13 | omega, hn4⟩), (show (f_41 7).toInt = p0.toInt from by first | exact k41_0 | omega), (show (f_41 15).toInt = 0 from by first | exact k41_1 | omega), (show 1 ≤ (f_41 10).toInt from by first | exact oz_409f6d7389 k41_7 nc1 o1 | omega), (show (f_41 10).toInt ≤ p0.toInt + 1 from by first | exact oz_b4fae048ea k41_0 k41_7 k41_5 | omega), (show LastOk (a_41 0) (f_41 10) from (show LastOk _ _ from (show LsT _ _ _ by assumption) (by omega))), (show Q5 (a_41 5) from hq5)⟩) d_Tok_scan_69
      · have nc1 : ¬ (f_41 7).toInt < x41_4.toInt := mt (i_lt (x := (f_41 7)) (y := x41_4)).mpr c1
        refine lv_iload_n S.x S.b d_Tok_scan_50 rfl (lv_at hl 3 rfl) ?_
        refine lv_if_eq (tgt := 69) S.x S.b d_Tok_scan_51 (by decide) (fun c2 => ?_) (fun c2 => ?_)
        · have nc2 : x41_3.toInt = (0 : Int) := (i_eq (x := x41_3) (y := 0)).mp c2
          first | exact px_vret S hr hlk hAe hw (Nat.le_of_ble_eq_true rfl) (Nat.le_of_ble_eq_true rfl) (⟨f_41, a_41, rfl, (show TokOk (f_41 7) (f_41 8) (f_41 10) (f_41 11) (f_41 12) (f_41 13) (f_41 17) (a_41 4) from ⟨⟨o1, o2⟩, ⟨o3, o4⟩, ⟨o5, o6⟩, ⟨o7, o8⟩, ⟨o9, o10⟩, ⟨o11, o12⟩, o13, hn4⟩), (show (f_41 7).toInt = p0.toInt from k41_0), (show (f_41 15).toInt = 0 from k41_1), (show 1 ≤ (f_41 10).toInt from by first | with_reducible rfl | with_reducible assumption | omega), (show (f_41 10).toInt ≤ p0.toInt + 1 from (oz_153df23603 k41_0 k41_7 nc1)), (show LastOk (a_41 0) (f_41 10) from (show LastOk _ _ from (show LsT _ _ _ by assumption) (by omega))), (show Q5 (a_41 5) from hq5)⟩) d_Tok_scan_69 | exact px_vret S hr hlk hAe hw (Nat.le_of_ble_eq_true rfl) (Nat.le_of_ble_eq_true rfl) (⟨f_41, a_41, rfl, (show TokOk (f_41 7) (f_41 8) (f_41 10) (f_41 11) (f_41 12) (f_41 13) (f_41 17) (a_41 4) from ⟨⟨by first | exact o1 | omega, by first | exact o2 | omega⟩, ⟨by first | exact o3 | omega, by first | exact o4 | omega⟩, ⟨by first | exact o5 | omega, by first | exact o6 | omega⟩, ⟨by first | exact o7 | omega, by first | exact o8 | omega⟩, ⟨by first | exact o9 | omega, by first | exact o10 | omega⟩, ⟨by first | exact o11 | omega, by first | exact o12 | omega⟩, by first | exact o13 | omega, hn4⟩), (show (f_41 7).toInt = p0.toInt from by first | exact k41_0 | omega), (show (f_41 15).toInt = 0 from by first | exact k41_1 | omega), (show 1 ≤ (f_41 10).toInt from by first | with_reducible rfl | with_reducible assumption | omega), (show (f_41 10).toInt ≤ p0.toInt + 1 from by first | exact oz_153df23603 k41_0 k41_7 nc1 | omega), (show LastOk (a_41 0) (f_41 10) from (show LastOk _ _ from (show LsT _ _ _ by assumption) (by omega))), (show Q5 (a_41 5) from hq5)⟩) d_Tok_scan_69
        · have nc2 : ¬ x41_3.toInt = (0 : Int) := mt (i_eq (x := x41_3) (y := 0)).mpr c2
          refine lv_aload_n S.x S.b d_Tok_scan_54 rfl (lv_at hl 0 rfl) ?_
          first | refine px_callv (pr := []) (px_runV (As := []) (rest := []) S (c_t2_skip l D cs h r tp tb g f_41 a_41   (show TokOk (f_41 7) (f_41 8) (f_41 10) (f_41 11) (f_41 12) (f_41 13) (f_41 17) (a_41 4) from ⟨⟨o1, o2⟩, ⟨o3, o4⟩, ⟨o5, o6⟩, ⟨o7, o8⟩, ⟨o9, o10⟩, ⟨o11, o12⟩, o13, hn4⟩) hq5 _) hT (pr := []) (pcs := [wd_Tok cs h r (fun _ => some tp) f_41 a_41 g, [(tp, .inl (cs 1, 2048, .inl tb))]]) hw px_X.tt (px_recv hT hw 0 0 rfl rfl rfl) m3_182 m3_179 m3_181 ms_1_5 m1_2 q_Tok_skip ⟨Nat.le_of_ble_eq_true rfl, Nat.le_of_ble_eq_true rfl⟩ hl.1 rfl (Nat.le_of_ble_eq_true rfl) d_Tok_scan_55 ⟨Nat.le_of_ble_eq_true rfl, Nat.le_of_ble_eq_true rfl⟩) hw hA (fun p7 H locs hp7 hw => ?_) | refine px_callv (pr := []) (px_runV (As := []) (rest := []) S (c_t2_skip l D cs h r tp tb g f_41 a_41   (show TokOk (f_41 7) (f_41 8) (f_41 10) (f_41 11) (f_41 12) (f_41 13) (f_41 17) (a_41 4) from ⟨⟨by first | exact o1 | omega, by first | exact o2 | omega⟩, ⟨by first | exact o3 | omega, by first | exact o4 | omega⟩, ⟨by first | exact o5 | omega, by first | exact o6 | omega⟩, ⟨by first | exact o7 | omega, by first | exact o8 | omega⟩, ⟨by first | exact o9 | omega, by first | exact o10 | omega⟩, ⟨by first | exact o11 | omega, by first | exact o12 | omega⟩, by first | exact o13 | omega, hn4⟩) hq5 _) hT (pr := []) (pcs := [wd_Tok cs h r (fun _ => some tp) f_41 a_41 g, [(tp, .inl (cs 1, 2048, .inl tb))]]) hw px_X.tt (px_recv hT hw 0 0 rfl rfl rfl) m3_182 m3_179 m3_181 ms_1_5 m1_2 q_Tok_skip ⟨Nat.le_of_ble_eq_true rfl, Nat.le_of_ble_eq_true rfl⟩ hl.1 rfl (Nat.le_of_ble_eq_true rfl) d_Tok_scan_55 ⟨Nat.le_of_ble_eq_true rfl, Nat.le_of_ble_eq_true rfl⟩) hw hA (fun p7 H locs hp7 hw => ?_)
          obtain ⟨f5, a6, rfl, h14, e9, e10, e11, e12, e13⟩ := hp7
          obtain ⟨⟨o1, o2⟩, ⟨o3, o4⟩, ⟨o5, o6⟩, ⟨o7, o8⟩, ⟨o9, o10⟩, ⟨o11, o12⟩, o13, hn4⟩ := h14
          have e9 : (f5 7).toInt = (f_41 7).toInt := e9
          have e10 : (f5 10).toInt = (f_41 10).toInt := e10
          have e11 : (f5 15).toInt = (f_41 15).toInt := e11
          have e12 : (f_41 8).toInt ≤ (f5 8).toInt := e12
          have e13 : Q5 (a6 5) := e13
          have hq5 := e13
          refine lv_aload_n S.x S.b d_Tok_scan_58 rfl (lv_at hl 0 rfl) ?_
          first | refine px_calli (pr := []) (px_runV (As := []) (rest := []) S (c_t2_token l D cs sk st sn sb h r tp tb g f5 a6   (show TokOk (f5 7) (f5 8) (f5 10) (f5 11) (f5 12) (f5 13) (f5 17) (a6 4) from ⟨⟨o1, o2⟩, ⟨o3, o4⟩, ⟨o5, o6⟩, ⟨o7, o8⟩, ⟨o9, o10⟩, ⟨o11, o12⟩, o13, hn4⟩) (show sn ≤ 1000000 from g0) (show (f5 10).toInt ≤ 2048 from (oz_dd77e1f903 e10 k41_7 nc1 e9 o2)) hq5 _) hT (pr := []) (pcs := [wd_Tok cs h r (fun _ => some tp) f5 a6 g, [(tp, .inl (cs 1, 2048, .inl tb))]]) hw (oX_call (P := (fun A U H => (vk_R "HomeSystem$Tokens" 127 "(){}[],;:?=|^&<>+-*/%!~" sk U) ∧ (oZ A U H) ∧ (oS A sk st sn sb U H))) (pr := []) (oG_and oG_L (oG_and oG_Z oG_S)) hw hA ⟨hL, hZ, hS⟩) (px_recv hT hw 0 0 rfl rfl rfl) m3_198 m3_195 m3_197 ms_1_9 m1_2 q_Tok_token ⟨Nat.le_of_ble_eq_true rfl, Nat.le_of_ble_eq_true rfl⟩ hl.1 rfl (Nat.le_of_ble_eq_true rfl) d_Tok_scan_59 ⟨Nat.le_of_ble_eq_true rfl, Nat.le_of_ble_eq_true rfl⟩) hw hA (fun v20 p19 H locs hp19 hw => ?_) | refine px_calli (pr := []) (px_runV (As := []) (rest := []) S (c_t2_token l D cs sk st sn sb h r tp tb g f5 a6   (show TokOk (f5 7) (f5 8) (f5 10) (f5 11) (f5 12) (f5 13) (f5 17) (a6 4) from ⟨⟨by first | exact o1 | omega, by first | exact o2 | omega⟩, ⟨by first | exact o3 | omega, by first | exact o4 | omega⟩, ⟨by first | exact o5 | omega, by first | exact o6 | omega⟩, ⟨by first | exact o7 | omega, by first | exact o8 | omega⟩, ⟨by first | exact o9 | omega, by first | exact o10 | omega⟩, ⟨by first | exact o11 | omega, by first | exact o12 | omega⟩, by first | exact o13 | omega, hn4⟩) (show sn ≤ 1000000 from by first | exact g0 | omega) (show (f5 10).toInt ≤ 2048 from by first | exact oz_dd77e1f903 e10 k41_7 nc1 e9 o2 | omega) hq5 _) hT (pr := []) (pcs := [wd_Tok cs h r (fun _ => some tp) f5 a6 g, [(tp, .inl (cs 1, 2048, .inl tb))]]) hw (oX_call (P := (fun A U H => (vk_R "HomeSystem$Tokens" 127 "(){}[],;:?=|^&<>+-*/%!~" sk U) ∧ (oZ A U H) ∧ (oS A sk st sn sb U H))) (pr := []) (oG_and oG_L (oG_and oG_Z oG_S)) hw hA ⟨hL, hZ, hS⟩) (px_recv hT hw 0 0 rfl rfl rfl) m3_198 m3_195 m3_197 ms_1_9 m1_2 q_Tok_token ⟨Nat.le_of_ble_eq_true rfl, Nat.le_of_ble_eq_true rfl⟩ hl.1 rfl (Nat.le_of_ble_eq_true rfl) d_Tok_scan_59 ⟨Nat.le_of_ble_eq_true rfl, Nat.le_of_ble_eq_true rfl⟩) hw hA (fun v20 p19 H locs hp19 hw => ?_)
          obtain ⟨f17, a18, rfl, h28, e21, e22, e23, e24, e25, e26, e27⟩ := hp19
          obtain ⟨⟨o1, o2⟩, ⟨o3, o4⟩, ⟨o5, o6⟩, ⟨o7, o8⟩, ⟨o9, o10⟩, ⟨o11, o12⟩, o13, hn4⟩ := h28
          have e21 := z_rng e21
          have e22 : (f17 7).toInt = (f5 7).toInt := e22
          have e23 : (f17 15).toInt = (f5 15).toInt := e23
          have e24 : (f17 10).toInt = (f5 10).toInt + 1 := e24
          have e25 : v20.toInt = 1 → (f5 8).toInt + 1 ≤ (f17 8).toInt ∧ (f5 8).toInt < (f5 7).toInt := e25
          have e26 : LsT v20 (a18 0) (f17 10) := e26
          have e27 : Q5 (a18 5) := e27
          have hq5 := e27
          have lv20 := Int32.le_toInt v20
          have uv20 := Int32.toInt_lt v20
          refine lv_istore_n (lv' := [(3, .int v20), (0, .ref h), (1, .ref tp), (2, .int p0), (4, .int x41_4)]) S.x S.b d_Tok_scan_62 rfl hl (by decide) rfl (fun ls hl => ?_)
          obtain ⟨z29, ez29⟩ : ∃ y : Int32, y = x41_4 + 1 := ⟨_, rfl⟩
          have tz29 : z29.toInt = (x41_4.toInt + 1 + 2147483648) % 4294967296 - 2147483648 := by rw [ez29]; exact i_add x41_4 1
          have lz29 := Int32.le_toInt z29
          have uz29 := Int32.toInt_lt z29
          try replace tz29 : z29.toInt = x41_4.toInt + 1 := by omega
          refine lv_iinc (v := z29) (lv' := [(4, .int z29), (3, .int v20), (0, .ref h), (1, .ref tp), (2, .int p0)]) S.x S.b d_Tok_scan_63 hl (k := 4) rfl (by rw [ez29]; rfl) (by decide) rfl (fun ls hl => ?_)
          refine lv_goto (tgt := 41) S.x S.b d_Tok_scan_66 (by decide) ?_
          first | exact ih41 f17 a18 v20 z29 _ _ ls (show TokOk (f17 7) (f17 8) (f17 10) (f17 11) (f17 12) (f17 13) (f17 17) (a18 4) from ⟨⟨o1, o2⟩, ⟨o3, o4⟩, ⟨o5, o6⟩, ⟨o7, o8⟩, ⟨o9, o10⟩, ⟨o11, o12⟩, o13, hn4⟩) (show (f17 7).toInt = p0.toInt from (oz_e13fc83238 k41_0 e22 e9)) (show (f17 15).toInt = 0 from (oz_bfc0cf0d20 e23 e11 k41_1)) (show 0 ≤ v20.toInt from e21.1) (show v20.toInt ≤ 1 from e21.2) (show 0 ≤ z29.toInt from (oz_ae613611c0 tz29 k41_4)) (show z29.toInt ≤ (f17 7).toInt + 1 from (oz_35f3a6d852 e22 tz29 nc1 e9)) (show z29.toInt = 0 → v20.toInt = 1 from by first | with_reducible rfl | with_reducible assumption | omega) (show (f17 10).toInt = z29.toInt from (oz_19383e82c5 e24 tz29 k41_7 e10)) (show v20.toInt = 1 → z29.toInt ≤ (f17 8).toInt ∧ z29.toInt ≤ (f17 7).toInt from by first | with_reducible rfl | with_reducible assumption | omega) (show LsT v20 (a18 0) (f17 10) from (by first | exact fun h => absurd h (by decide) | assumption)) (show Q5 (a18 5) from hq5) (show (f17 7).toInt+2-z29.toInt < (n_41 : Int) from (oz_acd9d871a8 hm e22 tz29 e9)) hw (lv_sub hl [2, 3, 4, 1, 0] rfl) | exact ih41 f17 a18 v20 z29 _ _ ls (show TokOk (f17 7) (f17 8) (f17 10) (f17 11) (f17 12) (f17 13) (f17 17) (a18 4) from ⟨⟨by first | exact o1 | omega, by first | exact o2 | omega⟩, ⟨by first | exact o3 | omega, by first | exact o4 | omega⟩, ⟨by first | exact o5 | omega, by first | exact o6 | omega⟩, ⟨by first | exact o7 | omega, by first | exact o8 | omega⟩, ⟨by first | exact o9 | omega, by first | exact o10 | omega⟩, ⟨by first | exact o11 | omega, by first | exact o12 | omega⟩, by first | exact o13 | omega, hn4⟩) (show (f17 7).toInt = p0.toInt from by first | exact oz_e13fc83238 k41_0 e22 e9 | omega) (show (f17 15).toInt = 0 from by first | exact oz_bfc0cf0d20 e23 e11 k41_1 | omega) (show 0 ≤ v20.toInt from by first | exact e21.1 | omega) (show v20.toInt ≤ 1 from by first | exact e21.2 | omega) (show 0 ≤ z29.toInt from by first | exact oz_ae613611c0 tz29 k41_4 | omega) (show z29.toInt ≤ (f17 7).toInt + 1 from by first | exact oz_35f3a6d852 e22 tz29 nc1 e9 | omega) (show z29.toInt = 0 → v20.toInt = 1 from by first | with_reducible rfl | with_reducible assumption | omega) (show (f17 10).toInt = z29.toInt from by first | exact oz_19383e82c5 e24 tz29 k41_7 e10 | omega) (show v20.toInt = 1 → z29.toInt ≤ (f17 8).toInt ∧ z29.toInt ≤ (f17 7).toInt from by first | with_reducible rfl | with_reducible assumption | omega) (show LsT v20 (a18 0) (f17 10) from (by first | exact fun h => absurd h (by decide) | assumption)) (show Q5 (a18 5) from hq5) (show (f17 7).toInt+2-z29.toInt < (n_41 : Int) from by first | exact oz_acd9d871a8 hm e22 tz29 e9 | omega) hw (lv_sub hl [2, 3, 4, 1, 0] rfl)
  refine lv_aload_n S.x S.b d_Tok_scan_0 rfl (lv_at hl 0 rfl) ?_
  refine lv_aload_n S.x S.b d_Tok_scan_1 rfl (lv_at hl 1 rfl) ?_
  refine px_put S k_Tok hT hw 0 0 6 rfl rfl (by decide) m1_109 rfl rfl rfl (Nat.le_of_ble_eq_true rfl) d_Tok_scan_2 (w' := wd_Tok cs h r (fun k => if k = 6 then (some tp) else none) f a g) (ps' := [wd_Tok cs h r (fun k => if k = 6 then (some tp) else none) f a g, [(tp, .inl (cs 1, 2048, .inl tb))]]) rfl rfl (fun H locs hw => ?_)
  have hw : pw D A s.heap _ _ [wd_Tok cs h r (fun _ => some tp) f a g, [(tp, .inl (cs 1, 2048, .inl tb))]] := hw.eq rfl
  refine lv_aload_n S.x S.b d_Tok_scan_5 rfl (lv_at hl 0 rfl) ?_
  refine lv_iload_n S.x S.b d_Tok_scan_6 rfl (lv_at hl 2 rfl) ?_
  refine px_put S k_Tok hT hw 0 0 7 rfl rfl (by decide) m1_110 rfl rfl rfl (Nat.le_of_ble_eq_true rfl) d_Tok_scan_7 (w' := wd_Tok cs h r (fun _ => some tp) (upd f 7 p0) a g) (ps' := [wd_Tok cs h r (fun _ => some tp) (upd f 7 p0) a g, [(tp, .inl (cs 1, 2048, .inl tb))]]) rfl rfl (fun H locs hw => ?_)
  refine lv_aload_n S.x S.b d_Tok_scan_10 rfl (lv_at hl 0 rfl) ?_
  refine lv_iconst (v := 0) S.x S.b d_Tok_scan_11 (by decide) ?_
  refine px_put S k_Tok hT hw 0 0 8 rfl rfl (by decide) m1_111 rfl rfl rfl (Nat.le_of_ble_eq_true rfl) d_Tok_scan_12 (w' := wd_Tok cs h r (fun _ => some tp) (upd (upd f 7 p0) 8 0) a g) (ps' := [wd_Tok cs h r (fun _ => some tp) (upd (upd f 7 p0) 8 0) a g, [(tp, .inl (cs 1, 2048, .inl tb))]]) rfl rfl (fun H locs hw => ?_)
  refine lv_aload_n S.x S.b d_Tok_scan_15 rfl (lv_at hl 0 rfl) ?_
  refine lv_iconst (v := 0) S.x S.b d_Tok_scan_16 (by decide) ?_
  refine px_put S k_Tok hT hw 0 0 10 rfl rfl (by decide) m1_113 rfl rfl rfl (Nat.le_of_ble_eq_true rfl) d_Tok_scan_17 (w' := wd_Tok cs h r (fun _ => some tp) (upd (upd (upd f 7 p0) 8 0) 10 0) a g) (ps' := [wd_Tok cs h r (fun _ => some tp) (upd (upd (upd f 7 p0) 8 0) 10 0) a g, [(tp, .inl (cs 1, 2048, .inl tb))]]) rfl rfl (fun H locs hw => ?_)
  refine lv_aload_n S.x S.b d_Tok_scan_20 rfl (lv_at hl 0 rfl) ?_
  refine lv_bipush (v := 26) S.x S.b d_Tok_scan_21 (by decide) ?_
  refine px_put S k_Tok hT hw 0 0 11 rfl rfl (by decide) m1_114 rfl rfl rfl (Nat.le_of_ble_eq_true rfl) d_Tok_scan_23 (w' := wd_Tok cs h r (fun _ => some tp) (upd (upd (upd (upd f 7 p0) 8 0) 10 0) 11 26) a g) (ps' := [wd_Tok cs h r (fun _ => some tp) (upd (upd (upd (upd f 7 p0) 8 0) 10 0) 11 26) a g, [(tp, .inl (cs 1, 2048, .inl tb))]]) rfl rfl (fun H locs hw => ?_)
  refine lv_aload_n S.x S.b d_Tok_scan_26 rfl (lv_at hl 0 rfl) ?_
  refine lv_iconst (v := 0) S.x S.b d_Tok_scan_27 (by decide) ?_
  refine px_put S k_Tok hT hw 0 0 12 rfl rfl (by decide) m1_115 rfl rfl rfl (Nat.le_of_ble_eq_true rfl) d_Tok_scan_28 (w' := wd_Tok cs h r (fun _ => some tp) (upd (upd (upd (upd (upd f 7 p0) 8 0) 10 0) 11 26) 12 0) a g) (ps' := [wd_Tok cs h r (fun _ => some tp) (upd (upd (upd (upd (upd f 7 p0) 8 0) 10 0) 11 26) 12 0) a g, [(tp, .inl (cs 1, 2048, .inl tb))]]) rfl rfl (fun H locs hw => ?_)
  refine lv_aload_n S.x S.b d_Tok_scan_31 rfl (lv_at hl 0 rfl) ?_
  refine lv_iconst (v := 0) S.x S.b d_Tok_scan_32 (by decide) ?_
  refine px_put S k_Tok hT hw 0 0 15 rfl rfl (by decide) m1_121 rfl rfl rfl (Nat.le_of_ble_eq_true rfl) d_Tok_scan_33 (w' := wd_Tok cs h r (fun _ => some tp) (upd (upd (upd (upd (upd (upd f 7 p0) 8 0) 10 0) 11 26) 12 0) 15 0) a g) (ps' := [wd_Tok cs h r (fun _ => some tp) (upd (upd (upd (upd (upd (upd f 7 p0) 8 0) 10 0) 11 26) 12 0) 15 0) a g, [(tp, .inl (cs 1, 2048, .inl tb))]]) rfl rfl (fun H locs hw => ?_)
  refine lv_iconst (v := 1) S.x S.b d_Tok_scan_36 (by decide) ?_
  refine lv_istore_n (lv' := [(3, .int 1), (0, .ref h), (1, .ref tp), (2, .int p0)]) S.x S.b d_Tok_scan_37 rfl hl (by decide) rfl (fun ls hl => ?_)
  refine lv_iconst (v := 0) S.x S.b d_Tok_scan_38 (by decide) ?_
  refine lv_istore (lv' := [(4, .int 0), (3, .int 1), (0, .ref h), (1, .ref tp), (2, .int p0)]) S.x S.b d_Tok_scan_39 hl (by decide) rfl (fun ls hl => ?_)
  first | exact J41 ((p0.toInt+2-(0 : Int)).toNat + 1) (upd (upd (upd (upd (upd (upd f 7 p0) 8 0) 10 0) 11 26) 12 0) 15 0) a (1 : Int32) (0 : Int32) _ _ ls (show TokOk p0 0 0 26 0 (f 13) (f 17) (a 4) from ⟨⟨g1, g2⟩, ⟨by omega, by omega⟩, ⟨by omega, by omega⟩, ⟨by omega, by omega⟩, ⟨by omega, by omega⟩, ⟨g3, g4⟩, g5, hn4⟩) (show p0.toInt = p0.toInt from rfl) (show (0 : Int) = 0 from by first | decide | omega) (show 0 ≤ (1 : Int) from by first | decide | omega) (show (1 : Int) ≤ 1 from by first | decide | omega) (show 0 ≤ (0 : Int) from by first | decide | omega) (show (0 : Int) ≤ p0.toInt + 1 from (oz_628889f9b3 g1)) (show (0 : Int) = 0 → (1 : Int) = 1 from by first | with_reducible rfl | with_reducible assumption | omega) (show (0 : Int) = (0 : Int) from by first | decide | omega) (show (1 : Int) = 1 → (0 : Int) ≤ (0 : Int) ∧ (0 : Int) ≤ p0.toInt from by first | with_reducible rfl | with_reducible assumption | omega) (show LsT 1 (a 0) (0 : Int32) from (by first | exact fun h => absurd h (by decide) | assumption)) (show Q5 (a 5) from hq5) (show p0.toInt+2-(0 : Int) < ((((p0.toInt+2-(0 : Int)).toNat + 1 : Nat) : Int) : Int) from oz_natlt) hw (lv_sub hl [2, 3, 4, 1, 0] rfl) | exact J41 ((p0.toInt+2-(0 : Int)).toNat + 1) (upd (upd (upd (upd (upd (upd f 7 p0) 8 0) 10 0) 11 26) 12 0) 15 0) a (1 : Int32) (0 : Int32) _ _ ls (show TokOk p0 0 0 26 0 (f 13) (f 17) (a 4) from ⟨⟨by first | exact g1 | omega, by first | exact g2 | omega⟩, ⟨by omega, by omega⟩, ⟨by omega, by omega⟩, ⟨by omega, by omega⟩, ⟨by omega, by omega⟩, ⟨by first | exact g3 | omega, by first | exact g4 | omega⟩, by first | exact g5 | omega, hn4⟩) (show p0.toInt = p0.toInt from rfl) (show (0 : Int) = 0 from by first | decide | omega) (show 0 ≤ (1 : Int) from by first | decide | omega) (show (1 : Int) ≤ 1 from by first | decide | omega) (show 0 ≤ (0 : Int) from by first | decide | omega) (show (0 : Int) ≤ p0.toInt + 1 from by first | exact oz_628889f9b3 g1 | omega) (show (0 : Int) = 0 → (1 : Int) = 1 from by first | with_reducible rfl | with_reducible assumption | omega) (show (0 : Int) = (0 : Int) from by first | decide | omega) (show (1 : Int) = 1 → (0 : Int) ≤ (0 : Int) ∧ (0 : Int) ≤ p0.toInt from by first | with_reducible rfl | with_reducible assumption | omega) (show LsT 1 (a 0) (0 : Int32) from (by first | exact fun h => absurd h (by decide) | assumption)) (show Q5 (a 5) from hq5) (show p0.toInt+2-(0 : Int) < ((((p0.toInt+2-(0 : Int)).toNat + 1 : Nat) : Int) : Int) from by first | exact oz_natlt | omega) hw (lv_sub hl [2, 3, 4, 1, 0] rfl)
