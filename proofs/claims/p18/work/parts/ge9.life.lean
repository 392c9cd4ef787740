/-! WHAT LIFE NEEDS, both sides: the tape's bytes, which programs there are, how much life is left -/
abbrev KS : Type := Int × (Nat → Int32) × (Nat → Nat)
def KSm (X X9 : KS) : Prop := X9.1 = X.1 ∧ X9.2.1 = X.2.1 ∧ ∀ j : Nat, X9.2.2 j = X.2.2 j
def EqK (F : Int) (X Y : KS) : Prop := X.1 = Y.1 ∧ (∀ i : Nat, (i : Int) < F → Y.2.1 i = X.2.1 i) ∧ ∀ j : Nat, j < 8 → X.2.2 j = Y.2.2 j
def BtO (n : Int32) (t : Nat → Int32) : Prop := ∀ i : Nat, (i : Int) < n.toInt → -128 ≤ (t i).toInt ∧ (t i).toInt ≤ 127
theorem bto_le {n n' : Int32} {t : Nat → Int32} (h : BtO n t) (e : n'.toInt ≤ n.toInt) : BtO n' t := fun i hi => h i (by omega)
def FdB (n : Nat) (t t' b : Nat → Int32) : Prop := (∀ i : Nat, i < n → t' i = t i) ∧ ∀ k : Nat, k < 20 → t' (n + k) = b k
def sh4 (j : Nat) : Int32 := match j with
  | 0 => 24
  | 1 => 16
  | 2 => 8
  | _ => 0
def pk5 (p0 p1 p2 p3 p4 : Int32) (i : Nat) : Int32 := match i with
  | 0 => p0
  | 1 => p1
  | 2 => p2
  | 3 => p3
  | _ => p4
def byS (p s : Int32) : Int32 := vp_nar .byte ((p.toUInt32 >>> (s.toUInt32 &&& Int32.toUInt32 31)).toInt32).toInt8.toInt32
def byF (p0 p1 p2 p3 p4 : Int32) (k : Nat) : Int32 := byS (pk5 p0 p1 p2 p3 p4 (k / 4)) (sh4 (k % 4))
theorem byS_r (p s : Int32) : -128 ≤ (byS p s).toInt ∧ (byS p s).toInt ≤ 127 := by
  unfold byS
  rw [vp_nar_byte, Int8.toInt_toInt32]
  have h1 := Int8.le_toInt (((p.toUInt32 >>> (s.toUInt32 &&& Int32.toUInt32 31)).toInt32).toInt8.toInt32).toInt8
  have h2 := Int8.toInt_lt (((p.toUInt32 >>> (s.toUInt32 &&& Int32.toUInt32 31)).toInt32).toInt8.toInt32).toInt8
  omega
theorem bto_fd {n n' : Int32} {t t' : Nat → Int32} {p0 p1 p2 p3 p4 : Int32} (h : BtO n t) (hf : FdB n.toInt.toNat t t' (byF p0 p1 p2 p3 p4)) (h0 : 0 ≤ n.toInt) (e : n'.toInt ≤ n.toInt + 20) : BtO n' t' := fun i hi => by
  by_cases c : i < n.toInt.toNat
  · rw [hf.1 i c]
    exact h i (by omega)
  · have q := hf.2 (i - n.toInt.toNat) (by omega)
    rw [show n.toInt.toNat + (i - n.toInt.toNat) = i by omega] at q
    rw [q]
    exact byS_r _ _
theorem by_bv (p : Int32) (n : Nat) (hn : n ≤ 24) : (BitVec.sshiftRight p.toBitVec n).signExtend 8 = (p.toBitVec >>> n).signExtend 8 := by
  apply BitVec.eq_of_getLsbD_eq
  intro i hi
  have h1 : i < 32 := by omega
  have h2 : n + i < 32 := by omega
  have h3 : ¬ 32 ≤ i := by omega
  rw [BitVec.getLsbD_signExtend, BitVec.getLsbD_signExtend, BitVec.getLsbD_sshiftRight, BitVec.getLsbD_ushiftRight]
  simp [hi, h1, h2, h3]
theorem by_eq (p : Int32) {j : Nat} (hj : j < 4) : (p >>> (sh4 j &&& 31)).toInt8 = ((p.toUInt32 >>> ((sh4 j).toUInt32 &&& Int32.toUInt32 31)).toInt32).toInt8 := by
  have h : j = 0 ∨ j = 1 ∨ j = 2 ∨ j = 3 := by omega
  rcases h with rfl | rfl | rfl | rfl
  · exact Int8.toBitVec.inj (by_bv p 24 (by decide))
  · exact Int8.toBitVec.inj (by_bv p 16 (by decide))
  · exact Int8.toBitVec.inj (by_bv p 8 (by decide))
  · exact Int8.toBitVec.inj (by_bv p 0 (by decide))
theorem u_s {f : Nat → Int32} {i : Nat} {v : Int32} : upd f i v i = v := if_pos rfl
theorem u_n {f : Nat → Int32} {i j : Nat} {v : Int32} (h : j ≠ i) : upd f i v j = f j := if_neg h
theorem iv_hs_append_0  {p0 : Int32}  {xf' : Nat → Int32} {xa' : Nat → Nat → Int32}  {xf : Nat → Int32} {xa : Nat → Nat → Int32} {k : Nat} (h : E_hs_append  p0 xf' xa'  k 0 [] [] [] [] [] xf xa) : ∃ k : Nat, E_hs_append  p0 xf' xa'  k 3 [(24 : Int32)] [] [] [] [] xf xa := by
  cases k with
  | zero => exact h.elim
  | succ k =>
    rcases h with ⟨-, hb⟩ | ⟨e, -⟩ | h
    · exact ⟨k, hb⟩
    · exact absurd e (by decide)
    · exact h.elim
theorem iv_hs_append_3  {p0 : Int32}  {xf' : Nat → Int32} {xa' : Nat → Nat → Int32} {x3_2 : Int32} {xf : Nat → Int32} {xa : Nat → Nat → Int32} {k : Nat} (h : E_hs_append  p0 xf' xa'  k 3 [x3_2] [] [] [] [] xf xa) : ∃ k : Nat, (((x3_2.toInt < (0 : Int)) ∧ xf' = xf ∧ xa' = xa) ∨ ((¬ (x3_2.toInt < (0 : Int))) ∧ ((((2048 : Int) ≤ (xf 3).toInt) ∧ xf' = xf ∧ xa' = xa) ∨ ((¬ ((2048 : Int) ≤ (xf 3).toInt)) ∧ ∃ (z5 : Int32), (z5 = (p0.toUInt32 >>> (x3_2.toUInt32 &&& Int32.toUInt32 31)).toInt32) ∧ ∃ (z6 : Int32), (z6 = z5.toInt8.toInt32) ∧ ∃ (z8 : Int32), (z8 = (xf 3) + (1 : Int32)) ∧ ∃ (z9 : Int32), (z9 = x3_2 + (-8)) ∧ E_hs_append  p0 xf' xa'  k 3 [z9] [] [] [] [] (upd xf 3 z8) (va_up xa 0 (upd (xa 0) (xf 3).toNatClampNeg (vp_nar .byte z6))))))) := by
  cases k with
  | zero => exact h.elim
  | succ k =>
    rcases h with ⟨e, -⟩ | ⟨-, b0, e1, e2, e3, e4, e5, hb⟩ | h
    · exact absurd e (by decide)
    · cases e1; cases e2; cases e3; cases e4; cases e5; exact ⟨k, hb⟩
    · exact h.elim
theorem iv_mo_feed_0  {p0 : Int32} {p1 : Int32} {p2 : Int32} {p3 : Int32} {p4 : Int32}  {mf' : Nat → Int32} {md' : Nat → Nat → Int32}  {mf : Nat → Int32} {md : Nat → Nat → Int32} {k : Nat} (h : E_mo_feed  p0 p1 p2 p3 p4 mf' md'  k 0 [] [] [] [] [] mf md) : ∃ k : Nat, ∃ (z52 : Int32), (z52 = (mf 2) + (20 : Int32)) ∧ (((z52.toInt ≤ (2048 : Int)) ∧ E_mo_feed  p0 p1 p2 p3 p4 mf' md'  k 33 [(0 : Int32)] [] [] [] [] (upd mf 0 0) md) ∨ ((¬ (z52.toInt ≤ (2048 : Int))) ∧ mf' = (upd mf 0 1) ∧ md' = md)) := by
  cases k with
  | zero => exact h.elim
  | succ k =>
    rcases h with ⟨-, hb⟩ | ⟨e, -⟩ | h
    · exact ⟨k, hb⟩
    · exact absurd e (by decide)
    · exact h.elim
theorem iv_mo_feed_33  {p0 : Int32} {p1 : Int32} {p2 : Int32} {p3 : Int32} {p4 : Int32}  {mf' : Nat → Int32} {md' : Nat → Nat → Int32} {x33_6 : Int32} {mf : Nat → Int32} {md : Nat → Nat → Int32} {k : Nat} (h : E_mo_feed  p0 p1 p2 p3 p4 mf' md'  k 33 [x33_6] [] [] [] [] mf md) : ∃ k : Nat, ((((20 : Int) ≤ x33_6.toInt) ∧ mf' = mf ∧ md' = md) ∨ ((¬ ((20 : Int) ≤ x33_6.toInt)) ∧ ((((4 : Int) ≤ x33_6.toInt) ∧ ((((8 : Int) ≤ x33_6.toInt) ∧ ((((12 : Int) ≤ x33_6.toInt) ∧ ((((16 : Int) ≤ x33_6.toInt) ∧ ∃ (z11 : Int32), (z11 = x33_6 - x33_6 / (4 : Int32) * (4 : Int32)) ∧ ∃ (z12 : Int32), (z12 = (8 : Int32) * z11) ∧ ∃ (z13 : Int32), (z13 = (24 : Int32) - z12) ∧ ∃ (z14 : Int32), (z14 = p4 >>> (z13 &&& 31)) ∧ ∃ (z15 : Int32), (z15 = z14.toInt8.toInt32) ∧ ∃ (z17 : Int32), (z17 = (mf 2) + (1 : Int32)) ∧ ∃ (z18 : Int32), (z18 = x33_6 + 1) ∧ E_mo_feed  p0 p1 p2 p3 p4 mf' md'  k 33 [z18] [] [] [] [] (upd mf 2 z17) (va_up md 1 (upd (md 1) (mf 2).toNatClampNeg (vp_nar .byte z15)))) ∨ ((¬ ((16 : Int) ≤ x33_6.toInt)) ∧ ∃ (z19 : Int32), (z19 = x33_6 - x33_6 / (4 : Int32) * (4 : Int32)) ∧ ∃ (z20 : Int32), (z20 = (8 : Int32) * z19) ∧ ∃ (z21 : Int32), (z21 = (24 : Int32) - z20) ∧ ∃ (z22 : Int32), (z22 = p3 >>> (z21 &&& 31)) ∧ ∃ (z23 : Int32), (z23 = z22.toInt8.toInt32) ∧ ∃ (z25 : Int32), (z25 = (mf 2) + (1 : Int32)) ∧ ∃ (z26 : Int32), (z26 = x33_6 + 1) ∧ E_mo_feed  p0 p1 p2 p3 p4 mf' md'  k 33 [z26] [] [] [] [] (upd mf 2 z25) (va_up md 1 (upd (md 1) (mf 2).toNatClampNeg (vp_nar .byte z23)))))) ∨ ((¬ ((12 : Int) ≤ x33_6.toInt)) ∧ ∃ (z27 : Int32), (z27 = x33_6 - x33_6 / (4 : Int32) * (4 : Int32)) ∧ ∃ (z28 : Int32), (z28 = (8 : Int32) * z27) ∧ ∃ (z29 : Int32), (z29 = (24 : Int32) - z28) ∧ ∃ (z30 : Int32), (z30 = p2 >>> (z29 &&& 31)) ∧ ∃ (z31 : Int32), (z31 = z30.toInt8.toInt32) ∧ ∃ (z33 : Int32), (z33 = (mf 2) + (1 : Int32)) ∧ ∃ (z34 : Int32), (z34 = x33_6 + 1) ∧ E_mo_feed  p0 p1 p2 p3 p4 mf' md'  k 33 [z34] [] [] [] [] (upd mf 2 z33) (va_up md 1 (upd (md 1) (mf 2).toNatClampNeg (vp_nar .byte z31)))))) ∨ ((¬ ((8 : Int) ≤ x33_6.toInt)) ∧ ∃ (z35 : Int32), (z35 = x33_6 - x33_6 / (4 : Int32) * (4 : Int32)) ∧ ∃ (z36 : Int32), (z36 = (8 : Int32) * z35) ∧ ∃ (z37 : Int32), (z37 = (24 : Int32) - z36) ∧ ∃ (z38 : Int32), (z38 = p1 >>> (z37 &&& 31)) ∧ ∃ (z39 : Int32), (z39 = z38.toInt8.toInt32) ∧ ∃ (z41 : Int32), (z41 = (mf 2) + (1 : Int32)) ∧ ∃ (z42 : Int32), (z42 = x33_6 + 1) ∧ E_mo_feed  p0 p1 p2 p3 p4 mf' md'  k 33 [z42] [] [] [] [] (upd mf 2 z41) (va_up md 1 (upd (md 1) (mf 2).toNatClampNeg (vp_nar .byte z39)))))) ∨ ((¬ ((4 : Int) ≤ x33_6.toInt)) ∧ ∃ (z43 : Int32), (z43 = x33_6 - x33_6 / (4 : Int32) * (4 : Int32)) ∧ ∃ (z44 : Int32), (z44 = (8 : Int32) * z43) ∧ ∃ (z45 : Int32), (z45 = (24 : Int32) - z44) ∧ ∃ (z46 : Int32), (z46 = p0 >>> (z45 &&& 31)) ∧ ∃ (z47 : Int32), (z47 = z46.toInt8.toInt32) ∧ ∃ (z49 : Int32), (z49 = (mf 2) + (1 : Int32)) ∧ ∃ (z50 : Int32), (z50 = x33_6 + 1) ∧ E_mo_feed  p0 p1 p2 p3 p4 mf' md'  k 33 [z50] [] [] [] [] (upd mf 2 z49) (va_up md 1 (upd (md 1) (mf 2).toNatClampNeg (vp_nar .byte z47))))))) := by
  cases k with
  | zero => exact h.elim
  | succ k =>
    rcases h with ⟨e, -⟩ | ⟨-, b0, e1, e2, e3, e4, e5, hb⟩ | h
    · exact absurd e (by decide)
    · cases e1; cases e2; cases e3; cases e4; cases e5; exact ⟨k, hb⟩
    · exact h.elim
theorem iv_Tok_init5_0  {sn : Nat} {sb : Nat → Int32}  {a' : Nat → Nat → Int32}  {a : Nat → Nat → Int32} {k : Nat} (h : E_Tok_init5  sn sb a'  k 0 [] [] [] [] [] a) : ∃ k : Nat, ∃ (v21 : Int32), (R_String_length sn v21) ∧ ∃ (z24 : Int32), (z24 = v21 + (2048 : Int32)) ∧ E_Tok_init5  sn sb a'  k 70 [(0 : Int32), (0 : Int32), (0 : Int32)] [] [] [] [] (fun _ _ => 0) := by
  cases k with
  | zero => exact h.elim
  | succ k =>
    rcases h with ⟨-, hb⟩ | ⟨e, -⟩ | h
    · exact ⟨k, hb⟩
    · exact absurd e (by decide)
    · exact h.elim
theorem iv_Tok_init5_70  {sn : Nat} {sb : Nat → Int32}  {a' : Nat → Nat → Int32} {x70_1 : Int32} {x70_2 : Int32} {x70_3 : Int32} {a : Nat → Nat → Int32} {k : Nat} (h : E_Tok_init5  sn sb a'  k 70 [x70_1, x70_2, x70_3] [] [] [] [] a) : ∃ k : Nat, ∃ (v2 : Int32), (R_String_length sn v2) ∧ (((v2.toInt ≤ x70_3.toInt) ∧ a' = a) ∨ ((¬ (v2.toInt ≤ x70_3.toInt)) ∧ ∃ (v8 : Int32), (R_String_charAt sb x70_3 v8) ∧ (((¬ (v8.toInt = (32 : Int))) ∧ ∃ (z13 : Int32), (z13 = x70_1 + 1) ∧ ∃ (z14 : Int32), (z14 = x70_3 + 1) ∧ E_Tok_init5  sn sb a'  k 70 [z13, x70_2, z14] [] [] [] [] (va_up a 3 (upd (a 3) x70_1.toNatClampNeg (vp_nar .char v8)))) ∨ ((v8.toInt = (32 : Int)) ∧ ∃ (z15 : Int32), (z15 = x70_2 + 1) ∧ ∃ (z16 : Int32), (z16 = x70_3 + 1) ∧ E_Tok_init5  sn sb a'  k 70 [x70_1, z15, z16] [] [] [] [] (va_up a 4 (upd (a 4) x70_2.toNatClampNeg x70_1)))))) := by
  cases k with
  | zero => exact h.elim
  | succ k =>
    rcases h with ⟨e, -⟩ | ⟨-, b0, b1, b2, e1, e2, e3, e4, e5, hb⟩ | h
    · exact absurd e (by decide)
    · cases e1; cases e2; cases e3; cases e4; cases e5; exact ⟨k, hb⟩
    · exact h.elim
theorem iv_StringLatin1_indexOfChar_0  {sb : Nat → Int32} {p0 : Int32} {p1 : Int32} {p2 : Int32}   {v : Int32}   {k : Nat} (h : E_StringLatin1_indexOfChar  sb p0 p1 p2  v  k 0 [] [] [] [] [] ()) : ∃ k : Nat, ∃ (z7 : Int32), (z7 = p0.toInt8.toInt32) ∧ E_StringLatin1_indexOfChar  sb p0 p1 p2  v  k 7 [z7, p1] [] [] [] [] () := by
  cases k with
  | zero => exact h.elim
  | succ k =>
    rcases h with ⟨-, hb⟩ | ⟨e, -⟩ | h
    · exact ⟨k, hb⟩
    · exact absurd e (by decide)
    · exact h.elim
theorem iv_StringLatin1_indexOfChar_7  {sb : Nat → Int32} {p0 : Int32} {p1 : Int32} {p2 : Int32}   {v : Int32} {x7_4 : Int32} {x7_5 : Int32}  {k : Nat} (h : E_StringLatin1_indexOfChar  sb p0 p1 p2  v  k 7 [x7_4, x7_5] [] [] [] [] ()) : ∃ k : Nat, (((p2.toInt ≤ x7_5.toInt) ∧ v = (-1)) ∨ ((¬ (p2.toInt ≤ x7_5.toInt)) ∧ ∃ (z3 : Int32), (z3 = sb x7_5.toNatClampNeg) ∧ (((¬ (z3.toInt = x7_4.toInt)) ∧ ∃ (z6 : Int32), (z6 = x7_5 + 1) ∧ E_StringLatin1_indexOfChar  sb p0 p1 p2  v  k 7 [x7_4, z6] [] [] [] [] ()) ∨ ((z3.toInt = x7_4.toInt) ∧ v = x7_5)))) := by
  cases k with
  | zero => exact h.elim
  | succ k =>
    rcases h with ⟨e, -⟩ | ⟨-, b0, b1, e1, e2, e3, e4, e5, hb⟩ | h
    · exact absurd e (by decide)
    · cases e1; cases e2; cases e3; cases e4; cases e5; exact ⟨k, hb⟩
    · exact h.elim
theorem sh_eq {s : Int32} {j : Nat} (hj : j < 4) (h : s.toInt = 8 * (3 - (j : Int))) : s = sh4 j := by
  have q : j = 0 ∨ j = 1 ∨ j = 2 ∨ j = 3 := by omega
  apply Int32.toInt_inj.mp
  rcases q with rfl | rfl | rfl | rfl
  · rw [h]; rfl
  · rw [h]; rfl
  · rw [h]; rfl
  · rw [h]; rfl
theorem app_3 {p : Int32} {xf' : Nat → Int32} {xa' : Nat → Nat → Int32} : ∀ (d : Nat) (k : Nat) (x : Int32) (xf : Nat → Int32) (xa : Nat → Nat → Int32) (m : Nat), E_hs_append p xf' xa' k 3 [x] [] [] [] [] xf xa → x.toInt = 8 * (d : Int) - 8 → d ≤ 4 → (xf 3).toInt = (m : Int) → m + d ≤ 2048 → (xf' 3).toInt = (m : Int) + (d : Int) ∧ (∀ i : Nat, i < m → xa' 0 i = xa 0 i) ∧ ∀ j : Nat, j < d → xa' 0 (m + j) = byS p (sh4 (4 - d + j)) := by
  intro d
  induction d with
  | zero =>
    intro k x xf xa m h hx hd hm hb
    obtain ⟨k, h⟩ := iv_hs_append_3 h
    rcases h with ⟨-, rfl, rfl⟩ | ⟨c, -⟩
    · exact ⟨by omega, fun _ _ => rfl, fun j hj => absurd hj (Nat.not_lt_zero _)⟩
    · omega
  | succ d ih =>
    intro k x xf xa m h hx hd hm hb
    obtain ⟨k, h⟩ := iv_hs_append_3 h
    rcases h with ⟨c, -⟩ | ⟨-, ⟨c, -⟩ | ⟨-, z5, e5, z6, e6, z8, e8, z9, e9, hE⟩⟩
    · omega
    · omega
    · have t8 := ti_add e8 hm (show (1 : Int32).toInt = 1 from rfl) (by omega) (by omega)
      have t9 := ti_add e9 hx (show (-8 : Int32).toInt = -8 from rfl) (by omega) (by omega)
      have hn : (xf 3).toNatClampNeg = m := cn_of hm
      obtain ⟨a1, a2, a3⟩ := ih k z9 _ _ (m + 1) hE (by omega) (by omega) (by rw [u_s]; omega) (by omega)
      have hw : vp_nar .byte z6 = byS p (sh4 (4 - (d + 1) + 0)) := by
        rw [← sh_eq (s := x) (j := 4 - (d + 1) + 0) (by omega) (by omega), e6, e5]
        rfl
      refine ⟨by omega, fun i hi => ?_, fun j hj => ?_⟩
      · rw [a2 i (by omega), va_up_s, hn, u_n (by omega)]
      · by_cases c : j = 0
        · subst c
          show xa' 0 m = byS p (sh4 (4 - (d + 1) + 0))
          rw [a2 m (by omega), va_up_s, hn, u_s]
          exact hw
        · have q := a3 (j - 1) (by omega)
          rw [show m + 1 + (j - 1) = m + j by omega, show 4 - d + (j - 1) = 4 - (d + 1) + j by omega] at q
          exact q
theorem app_c {p : Int32} {xf xf' : Nat → Int32} {xa xa' : Nat → Nat → Int32} {m : Nat} (h : R_hs_append p xf xa xf' xa') (hm : (xf 3).toInt = (m : Int)) (hb : m + 4 ≤ 2048) : (xf' 3).toInt = ((m + 4 : Nat) : Int) ∧ (∀ i : Nat, i < m → xa' 0 i = xa 0 i) ∧ ∀ j : Nat, j < 4 → xa' 0 (m + j) = byS p (sh4 j) := by
  obtain ⟨k, h⟩ := h
  obtain ⟨k, h⟩ := iv_hs_append_0 h
  obtain ⟨a1, a2, a3⟩ := app_3 4 k 24 xf xa m h rfl (by omega) hm hb
  refine ⟨by omega, a2, fun j hj => ?_⟩
  have q := a3 j hj
  rw [show 4 - 4 + j = j by omega] at q
  exact q
theorem feed_c {p0 p1 p2 p3 p4 : Int32} {xf xf' : Nat → Int32} {xa xa' : Nat → Nat → Int32} (h : R_hx_feed p0 p1 p2 p3 p4 xf xa xf' xa' 0) (h0 : 0 ≤ (xf 3).toInt ∧ (xf 3).toInt ≤ 2048) : FdB (xf 3).toInt.toNat (xa 0) (xa' 0) (byF p0 p1 p2 p3 p4) := by
  obtain ⟨m, hm⟩ : ∃ m : Nat, (xf 3).toInt = (m : Int) := ⟨(xf 3).toInt.toNat, by omega⟩
  rcases h with ⟨z2, e2, c2, xf5, xa6, a1, xf13, xa14, a2, xf21, xa22, a3, xf29, xa30, a4, xf37, xa38, a5, rfl, rfl, -⟩ | h
  · have t2 := ti_add e2 hm (show (20 : Int32).toInt = 20 from rfl) (by omega) (by omega)
    obtain ⟨b1, c1, d1⟩ := app_c a1 hm (by omega)
    obtain ⟨b2, c2', d2⟩ := app_c a2 b1 (by omega)
    obtain ⟨b3, c3, d3⟩ := app_c a3 b2 (by omega)
    obtain ⟨b4, c4, d4⟩ := app_c a4 b3 (by omega)
    obtain ⟨b5, c5, d5⟩ := app_c a5 b4 (by omega)
    rw [show (xf 3).toInt.toNat = m by omega]
    refine ⟨fun i hi => by rw [c5 i (by omega), c4 i (by omega), c3 i (by omega), c2' i (by omega), c1 i hi], fun k hk => ?_⟩
    obtain ⟨i, j, hi, hj, rfl⟩ : ∃ i j : Nat, i < 5 ∧ j < 4 ∧ k = 4 * i + j := ⟨k / 4, k % 4, by omega, by omega, by omega⟩
    unfold byF
    rw [show (4 * i + j) / 4 = i by omega, show (4 * i + j) % 4 = j by omega]
    have q : i = 0 ∨ i = 1 ∨ i = 2 ∨ i = 3 ∨ i = 4 := by omega
    rcases q with rfl | rfl | rfl | rfl | rfl
    · rw [show m + (4 * 0 + j) = m + j by omega, c5 (m + j) (by omega), c4 (m + j) (by omega), c3 (m + j) (by omega), c2' (m + j) (by omega), d1 j hj]
      rfl
    · rw [show m + (4 * 1 + j) = m + 4 + j by omega, c5 (m + 4 + j) (by omega), c4 (m + 4 + j) (by omega), c3 (m + 4 + j) (by omega), d2 j hj]
      rfl
    · rw [show m + (4 * 2 + j) = m + 4 + 4 + j by omega, c5 (m + 4 + 4 + j) (by omega), c4 (m + 4 + 4 + j) (by omega), d3 j hj]
      rfl
    · rw [show m + (4 * 3 + j) = m + 4 + 4 + 4 + j by omega, c5 (m + 4 + 4 + 4 + j) (by omega), d4 j hj]
      rfl
    · rw [show m + (4 * 4 + j) = m + 4 + 4 + 4 + 4 + j by omega, d5 j hj]
      rfl
  · exact h.elim
theorem sh20 : ∀ c : Fin 20, (24 : Int32) - 8 * (Int32.ofNat c.val - Int32.ofNat c.val / 4 * 4) = sh4 (c.val % 4) := by decide +kernel
theorem fm_b {p x z11 z12 z13 z14 z15 : Int32} {c : Nat} (hc : c < 20) (hx : x.toInt = (c : Int)) (e1 : z11 = x - x / (4 : Int32) * (4 : Int32)) (e2 : z12 = (8 : Int32) * z11) (e3 : z13 = (24 : Int32) - z12) (e4 : z14 = p >>> (z13 &&& 31)) (e5 : z15 = z14.toInt8.toInt32) : vp_nar .byte z15 = byS p (sh4 (c % 4)) := by
  have h : x = Int32.ofNat c := Int32.toInt_inj.mp (by rw [hx, Int32.toInt_ofNat_of_lt (by omega)])
  have h3 : z13 = sh4 (c % 4) := by rw [e3, e2, e1, h]; exact sh20 ⟨c, hc⟩
  unfold byS
  rw [e5, e4, h3, by_eq p (j := c % 4) (by omega)]
theorem fdm_33 {p0 p1 p2 p3 p4 : Int32} {mf' : Nat → Int32} {md' : Nat → Nat → Int32} : ∀ (d : Nat) (k : Nat) (x : Int32) (mf : Nat → Int32) (md : Nat → Nat → Int32) (m : Nat), E_mo_feed p0 p1 p2 p3 p4 mf' md' k 33 [x] [] [] [] [] mf md → d ≤ 20 → x.toInt = 20 - (d : Int) → (mf 2).toInt = (m : Int) → m + d ≤ 2048 → (∀ i : Nat, i < m → md' 1 i = md 1 i) ∧ ∀ j : Nat, j < d → md' 1 (m + j) = byF p0 p1 p2 p3 p4 (20 - d + j) := by
  intro d
  induction d with
  | zero =>
    intro k x mf md m h hd hx hm hb
    obtain ⟨k, h⟩ := iv_mo_feed_33 h
    rcases h with ⟨-, rfl, rfl⟩ | ⟨c, -⟩
    · exact ⟨fun _ _ => rfl, fun j hj => absurd hj (Nat.not_lt_zero _)⟩
    · omega
  | succ d ih =>
    intro k x mf md m h hd hx hm hb
    have hn : (mf 2).toNatClampNeg = m := cn_of hm
    have go : ∀ {k : Nat} {z11 z12 z13 z14 z15 z17 z18 p : Int32}, p = pk5 p0 p1 p2 p3 p4 ((20 - (d + 1)) / 4) → z11 = x - x / (4 : Int32) * (4 : Int32) → z12 = (8 : Int32) * z11 → z13 = (24 : Int32) - z12 → z14 = p >>> (z13 &&& 31) → z15 = z14.toInt8.toInt32 → z17 = (mf 2) + (1 : Int32) → z18 = x + 1 → E_mo_feed p0 p1 p2 p3 p4 mf' md' k 33 [z18] [] [] [] [] (upd mf 2 z17) (va_up md 1 (upd (md 1) (mf 2).toNatClampNeg (vp_nar .byte z15))) → (∀ i : Nat, i < m → md' 1 i = md 1 i) ∧ ∀ j : Nat, j < d + 1 → md' 1 (m + j) = byF p0 p1 p2 p3 p4 (20 - (d + 1) + j) := by
      intro k z11 z12 z13 z14 z15 z17 z18 p hp e1 e2 e3 e4 e5 e6 e7 hE
      have hv := fm_b (c := 20 - (d + 1)) (by omega) (by omega) e1 e2 e3 e4 e5
      have t6 := ti_add e6 hm (show (1 : Int32).toInt = 1 from rfl) (by omega) (by omega)
      have t7 := ti_add e7 hx (show (1 : Int32).toInt = 1 from rfl) (by omega) (by omega)
      obtain ⟨a2, a3⟩ := ih k z18 _ _ (m + 1) hE (by omega) (by omega) (by rw [u_s]; omega) (by omega)
      refine ⟨fun i hi => ?_, fun j hj => ?_⟩
      · rw [a2 i (by omega), va_up_s, hn, u_n (by omega)]
      · by_cases c : j = 0
        · subst c
          show md' 1 m = byF p0 p1 p2 p3 p4 (20 - (d + 1))
          rw [a2 m (by omega), va_up_s, hn, u_s, hv, hp]
          rfl
        · have q := a3 (j - 1) (by omega)
          rw [show m + 1 + (j - 1) = m + j by omega, show 20 - d + (j - 1) = 20 - (d + 1) + j by omega] at q
          exact q
    obtain ⟨k, h⟩ := iv_mo_feed_33 h
    rcases h with ⟨c, -⟩ | ⟨-, ⟨c4, ⟨c8, ⟨c12, ⟨c16, z11, e1, z12, e2, z13, e3, z14, e4, z15, e5, z17, e6, z18, e7, hE⟩ | ⟨c16, z11, e1, z12, e2, z13, e3, z14, e4, z15, e5, z17, e6, z18, e7, hE⟩⟩ | ⟨c12, z11, e1, z12, e2, z13, e3, z14, e4, z15, e5, z17, e6, z18, e7, hE⟩⟩ | ⟨c8, z11, e1, z12, e2, z13, e3, z14, e4, z15, e5, z17, e6, z18, e7, hE⟩⟩ | ⟨c4, z11, e1, z12, e2, z13, e3, z14, e4, z15, e5, z17, e6, z18, e7, hE⟩⟩
    · omega
    · exact go (by rw [show (20 - (d + 1)) / 4 = 4 by omega]; rfl) e1 e2 e3 e4 e5 e6 e7 hE
    · exact go (by rw [show (20 - (d + 1)) / 4 = 3 by omega]; rfl) e1 e2 e3 e4 e5 e6 e7 hE
    · exact go (by rw [show (20 - (d + 1)) / 4 = 2 by omega]; rfl) e1 e2 e3 e4 e5 e6 e7 hE
    · exact go (by rw [show (20 - (d + 1)) / 4 = 1 by omega]; rfl) e1 e2 e3 e4 e5 e6 e7 hE
    · exact go (by rw [show (20 - (d + 1)) / 4 = 0 by omega]; rfl) e1 e2 e3 e4 e5 e6 e7 hE
theorem feed_m {p0 p1 p2 p3 p4 : Int32} {mf mf' : Nat → Int32} {md md' : Nat → Nat → Int32} (h : R_mo_feed p0 p1 p2 p3 p4 mf md mf' md') (h0 : 0 ≤ (mf 2).toInt ∧ (mf 2).toInt ≤ 2048) : ((mf 2).toInt + 20 ≤ 2048 → FdB (mf 2).toInt.toNat (md 1) (md' 1) (byF p0 p1 p2 p3 p4)) ∧ (2048 < (mf 2).toInt + 20 → md' = md) := by
  obtain ⟨m, hm⟩ : ∃ m : Nat, (mf 2).toInt = (m : Int) := ⟨(mf 2).toInt.toNat, by omega⟩
  obtain ⟨k, h⟩ := h
  obtain ⟨k, z52, e, h⟩ := iv_mo_feed_0 h
  have t := ti_add e hm (show (20 : Int32).toInt = 20 from rfl) (by omega) (by omega)
  rcases h with ⟨c, hE⟩ | ⟨c, -, hd⟩
  · refine ⟨fun _ => ?_, fun q => by omega⟩
    obtain ⟨a2, a3⟩ := fdm_33 20 k 0 _ _ m hE (by omega) (by decide) (by have q : upd mf 0 0 2 = mf 2 := rfl; rw [q]; exact hm) (by omega)
    rw [show (mf 2).toInt.toNat = m by omega]
    refine ⟨a2, fun j hj => ?_⟩
    have q := a3 j hj
    rw [show 20 - 20 + j = j by omega] at q
    exact q
  · exact ⟨fun q => by omega, fun _ => hd⟩
/-! the names that every text begins with -/
def spW : List Int → List (List Int) → List Int → List (List Int)
  | [], D, _ => D
  | c :: t, D, w => if c = 32 then spW t (D ++ [w]) [] else spW t D (w ++ [c])
theorem offs_1 (w : List Int) : offs [w] = w.length := by show w.length + 0 = w.length; omega
/-- names that are whole, and the one that is read -/
def NmD (a : Nat → Nat → Int32) (D : List (List Int)) (w : List Int) : Prop := (∀ (i : Nat) (u : List Int), D[i]? = some u → (a 4 i).toInt = ((offs (D.take (i + 1)) : Nat) : Int) ∧ ∀ (j : Nat) (x : Int), u[j]? = some x → (a 3 (offs (D.take i) + j)).toInt = x) ∧ ∀ (j : Nat) (x : Int), w[j]? = some x → (a 3 (offs D + j)).toInt = x
theorem offs_tk {D : List (List Int)} {i : Nat} {u : List Int} (h : D[i]? = some u) : offs (D.take i) + u.length ≤ offs D := by
  have q : offs D = offs (D.take (i + 1)) + offs (D.drop (i + 1)) := by rw [← offs_ap, List.take_append_drop]
  have e := offs_take h
  omega
theorem nar_v {v : Int32} (h0 : 0 ≤ v.toInt) (h1 : v.toInt ≤ 255) : vp_nar .char v = v := by
  have q := narC ⟨v.toInt.toNat, by omega⟩
  have e : Int32.ofNat v.toInt.toNat = v := Int32.toInt_inj.mp (by rw [Int32.toInt_ofNat_of_lt (by omega)]; omega)
  rw [show Int32.ofNat (⟨v.toInt.toNat, by omega⟩ : Fin 256).val = v from e] at q
  exact q
theorem nmd_c {a : Nat → Nat → Int32} {D : List (List Int)} {w : List Int} {x v : Int32} {c : Int} (h : NmD a D w) (hx : x.toInt = ((offs D + w.length : Nat) : Int)) (hv : v.toInt = c) : NmD (va_up a 3 (upd (a 3) x.toNatClampNeg v)) D (w ++ [c]) := by
  have hn : x.toNatClampNeg = offs D + w.length := cn_of hx
  refine ⟨fun i u hu => ⟨?_, fun j y hy => ?_⟩, fun j y hy => ?_⟩
  · rw [va_up_n (by decide)]
    exact (h.1 i u hu).1
  · have hj := (List.getElem?_eq_some_iff.mp hy).1
    have ho := offs_tk hu
    rw [va_up_s, hn, u_n (by omega)]
    exact (h.1 i u hu).2 j y hy
  · rw [va_up_s, hn]
    by_cases e : j < w.length
    · rw [u_n (by omega)]
      rw [List.getElem?_append_left e] at hy
      exact h.2 j y hy
    · have hj := (List.getElem?_eq_some_iff.mp hy).1
      rw [List.length_append] at hj
      have hj2 : j = w.length := by have : [c].length = 1 := rfl; omega
      subst hj2
      rw [List.getElem?_append_right (Nat.le_refl _), Nat.sub_self] at hy
      cases hy
      rw [u_s]
      exact hv
theorem nmd_s {a : Nat → Nat → Int32} {D : List (List Int)} {w : List Int} {x y : Int32} (h : NmD a D w) (hx : x.toInt = ((offs D + w.length : Nat) : Int)) (hy : y.toInt = ((D.length : Nat) : Int)) : NmD (va_up a 4 (upd (a 4) y.toNatClampNeg x)) (D ++ [w]) [] := by
  have hn : y.toNatClampNeg = D.length := cn_of hy
  refine ⟨fun i u hu => ?_, fun j z hz => by simp at hz⟩
  by_cases e : i < D.length
  · rw [List.getElem?_append_left e] at hu
    rw [List.take_append_of_le_length (by omega), List.take_append_of_le_length (by omega)]
    refine ⟨?_, fun j z hz => ?_⟩
    · rw [va_up_s, hn, u_n (by omega)]
      exact (h.1 i u hu).1
    · rw [va_up_n (by decide)]
      exact (h.1 i u hu).2 j z hz
  · have hi := (List.getElem?_eq_some_iff.mp hu).1
    rw [List.length_append] at hi
    have hi2 : i = D.length := by have : [w].length = 1 := rfl; omega
    subst hi2
    rw [List.getElem?_append_right (Nat.le_refl _), Nat.sub_self] at hu
    cases hu
    refine ⟨?_, fun j z hz => ?_⟩
    · rw [va_up_s, hn, u_s, hx, show D.length + 1 = (D ++ [w]).length by rw [List.length_append]; rfl, List.take_length, offs_ap, offs_1]
    · rw [va_up_n (by decide), List.take_append_of_le_length (Nat.le_refl _), List.take_length]
      exact h.2 j z hz
theorem tki_70 {sb : Nat → Int32} {a' : Nat → Nat → Int32} : ∀ (cs : List Int) (k : Nat) (x1 x2 x3 : Int32) (a : Nat → Nat → Int32) (D : List (List Int)) (w : List Int), E_Tok_init5 133 sb a' k 70 [x1, x2, x3] [] [] [] [] a → x3.toInt + (cs.length : Int) = 133 → (∀ (j : Nat) (c : Int), cs[j]? = some c → ∃ q : Nat, x3.toInt + (j : Int) = (q : Int) ∧ (sb q).toInt = c ∧ 0 ≤ c ∧ c < 128) → 0 ≤ x3.toInt → x1.toInt = ((offs D + w.length : Nat) : Int) → x2.toInt = ((D.length : Nat) : Int) → offs D + w.length ≤ x3.toInt.toNat → D.length ≤ x3.toInt.toNat → NmD a D w → ∃ w2 : List Int, NmD a' (spW cs D w) w2 := by
  intro cs
  induction cs with
  | nil =>
    intro k x1 x2 x3 a D w h hl hc h0 h1 h2 h3 h4 hN
    obtain ⟨k, v2, r2, h⟩ := iv_Tok_init5_70 h
    have hv := slen_r (by decide) r2
    have : ([] : List Int).length = 0 := rfl
    rcases h with ⟨-, rfl⟩ | ⟨c, -⟩
    · exact ⟨w, hN⟩
    · omega
  | cons c t ih =>
    intro k x1 x2 x3 a D w h hl hc h0 h1 h2 h3 h4 hN
    have hl2 : (c :: t).length = t.length + 1 := rfl
    obtain ⟨k, v2, r2, h⟩ := iv_Tok_init5_70 h
    have hv := slen_r (by decide) r2
    obtain ⟨q, q1, q2, q3, q4⟩ := hc 0 c rfl
    have hc2 : ∀ (z : Int32), z.toInt = x3.toInt + 1 → ∀ (j : Nat) (d : Int), t[j]? = some d → ∃ q : Nat, z.toInt + (j : Int) = (q : Int) ∧ (sb q).toInt = d ∧ 0 ≤ d ∧ d < 128 := fun z hz j d hd => by
      obtain ⟨q, a1, a2⟩ := hc (j + 1) d hd
      exact ⟨q, by omega, a2⟩
    rcases h with ⟨c9, -⟩ | ⟨c9, v8, r8, ⟨c8, z13, e13, z14, e14, hE⟩ | ⟨c8, z15, e15, z16, e16, hE⟩⟩
    · omega
    · have h8 := sca_r (j := q) (by omega) (by omega) r8
      have t13 := ti_add e13 h1 (show (1 : Int32).toInt = 1 from rfl) (by omega) (by omega)
      have t14 := ti_add e14 (rfl : x3.toInt = x3.toInt) (show (1 : Int32).toInt = 1 from rfl) (by omega) (by omega)
      rw [nar_v (by omega) (by omega)] at hE
      have e : spW (c :: t) D w = spW t D (w ++ [c]) := by
        show (if c = 32 then _ else _) = _
        rw [if_neg (by omega)]
      rw [e]
      have hw : (w ++ [c]).length = w.length + 1 := by rw [List.length_append]; rfl
      exact ih k z13 x2 z14 _ D (w ++ [c]) hE (by omega) (hc2 z14 t14) (by omega) (by rw [t13, hw]; omega) h2 (by rw [hw]; omega) (by omega) (nmd_c hN h1 (by omega))
    · have h8 := sca_r (j := q) (by omega) (by omega) r8
      have t15 := ti_add e15 h2 (show (1 : Int32).toInt = 1 from rfl) (by omega) (by omega)
      have t16 := ti_add e16 (rfl : x3.toInt = x3.toInt) (show (1 : Int32).toInt = 1 from rfl) (by omega) (by omega)
      have e : spW (c :: t) D w = spW t (D ++ [w]) [] := by
        show (if c = 32 then _ else _) = _
        rw [if_pos (by omega)]
      rw [e]
      have hw : (D ++ [w]).length = D.length + 1 := by rw [List.length_append]; rfl
      have ho : offs (D ++ [w]) = offs D + w.length := by rw [offs_ap, offs_1]
      exact ih k x1 z15 z16 _ (D ++ [w]) [] hE (by omega) (hc2 z16 t16) (by omega) (by rw [ho]; exact h1) (by rw [t15, hw]; omega) (by rw [ho]; show offs D + w.length + 0 ≤ _; omega) (by rw [hw]; omega) (nmd_s hN h1 h2)
def SDL : List Int := [105, 110, 116, 32, 99, 104, 97, 114, 32, 118, 111, 105, 100, 32, 101, 110, 117, 109, 32, 105, 102, 32, 101, 108, 115, 101, 32, 119, 104, 105, 108, 101, 32, 100, 111, 32, 102, 111, 114, 32, 115, 119, 105, 116, 99, 104, 32, 99, 97, 115, 101, 32, 100, 101, 102, 97, 117, 108, 116, 32, 98, 114, 101, 97, 107, 32, 99, 111, 110, 116, 105, 110, 117, 101, 32, 114, 101, 116, 117, 114, 110, 32, 108, 101, 110, 32, 112, 117, 116, 32, 115, 101, 110, 100, 32, 114, 101, 99, 118, 32, 109, 111, 114, 101, 32, 115, 112, 97, 119, 110, 32, 119, 97, 105, 116, 32, 103, 101, 116, 32, 115, 101, 116, 32, 101, 110, 100, 32, 109, 97, 105, 110, 32]
set_option maxRecDepth 100000 in
theorem sdl_w : spW SDL [] [] = KWL ++ RS0 := by decide +kernel
set_option maxRecDepth 100000 in
theorem sdl_r : ∀ c ∈ SDL, 0 ≤ c ∧ c < 128 := by decide +kernel
set_option maxRecDepth 100000 in
theorem sdl_n : SDL.length = 133 := by decide +kernel
theorem seeds_ok {sb : Nat → Int32} {a a' : Nat → Nat → Int32} {f : Nat → Int32} (h : R_Tok_init5 133 sb a a') (hs : ∀ (j : Nat) (c : Int), SDL[j]? = some c → (sb j).toInt = c) : NmT (upd f 11 26) a' (KWL ++ RS0) := by
  obtain ⟨k, h⟩ := h
  obtain ⟨k, v21, -, z24, -, hE⟩ := iv_Tok_init5_0 h
  obtain ⟨w2, hN⟩ := tki_70 SDL k 0 0 0 _ [] [] hE (by rw [sdl_n]; rfl) (fun j c hc => ⟨j, by show (0 : Int32).toInt + (j : Int) = j; have : (0 : Int32).toInt = 0 := rfl; omega, hs j c hc, sdl_r c (List.mem_of_getElem? hc)⟩) (by decide) rfl rfl (by decide) (by decide) ⟨fun i u hu => by simp at hu, fun j x hx => by simp at hx⟩
  rw [sdl_w] at hN
  exact ⟨by rw [u_s]; decide +kernel, hN.1⟩
/-! the marks -/
theorem ixc_7 {sb : Nat → Int32} {p0 p1 p2 v : Int32} {N : Nat} (hp2 : p2.toInt = (N : Int)) (hN : N ≤ 1000) : ∀ (d : Nat) (k : Nat) (x y : Int32) (i : Nat), E_StringLatin1_indexOfChar sb p0 p1 p2 v k 7 [x, y] [] [] [] [] () → y.toInt = (i : Int) → i + d = N → (v.toInt < 0 ↔ ∀ j : Nat, i ≤ j → j < N → (sb j).toInt ≠ x.toInt) := by
  intro d
  induction d with
  | zero =>
    intro k x y i h hy hi
    obtain ⟨k, h⟩ := iv_StringLatin1_indexOfChar_7 h
    rcases h with ⟨-, rfl⟩ | ⟨c, -⟩
    · exact ⟨fun _ j h1 h2 => by omega, fun _ => by decide⟩
    · omega
  | succ d ih =>
    intro k x y i h hy hi
    obtain ⟨k, h⟩ := iv_StringLatin1_indexOfChar_7 h
    rcases h with ⟨c, -⟩ | ⟨-, z3, e3, ⟨c, z6, e6, hE⟩ | ⟨c, rfl⟩⟩
    · omega
    · have t6 := ti_add e6 hy (show (1 : Int32).toInt = 1 from rfl) (by omega) (by omega)
      rw [ih k x z6 (i + 1) hE (by rw [t6]; rfl) (by omega)]
      rw [e3, cn_of hy] at c
      refine ⟨fun q j h1 h2 => ?_, fun q j h1 h2 => q j (by omega) h2⟩
      by_cases e : j = i
      · subst e; exact c
      · exact q j (by omega) h2
    · rw [e3, cn_of hy] at c
      exact ⟨fun q => by omega, fun q => absurd c (q i (Nat.le_refl _) (by omega))⟩
def MKL : List Int := [40, 41, 123, 125, 91, 93, 44, 59, 58, 63, 61, 124, 94, 38, 60, 62, 43, 45, 42, 47, 37, 33, 126]
set_option maxRecDepth 100000 in
theorem mkl_256 : ∀ c : Fin 256, (∀ m ∈ MKL, m ≠ (Int32.ofNat c.val).toInt8.toInt32.toInt) ↔ isMk (c.val : Int) = false := by decide +kernel
theorem marks_ok {sb : Nat → Int32} (hs : ∀ (j : Nat) (c : Int), MKL[j]? = some c → (sb j).toInt = c) : ∀ z w : Int32, R_String_indexOf1 23 sb z w → 0 ≤ z.toInt → z.toInt ≤ 255 → (w.toInt < 0 ↔ isMk z.toInt = false) := by
  intro z w h h0 h1
  rcases h with ⟨v2, ⟨l2, -, -, v12, r12, v16, h, rfl⟩ | h, rfl⟩ | h
  · have hl := slen_r (by decide) r12
    rcases h with ⟨e2, hc, h⟩ | h
    · have hce : e2.toInt = 1 := by
        rcases hc with hc | hc
        · rcases hc with ⟨c, -⟩ | ⟨-, ⟨c, -⟩ | ⟨-, rfl⟩⟩
          · omega
          · omega
          · rfl
        · exact hc.elim
      rcases h with ⟨-, z7, e7, z8, e8, h⟩ | ⟨c, -⟩
      · have t7 : z7 = 0 := by rw [e7]; split <;> rfl
        have t8 : z8.toInt = 23 := by
          rw [e8]
          have hn : (nI 23).toInt = 23 := rfl
          by_cases q : nI 23 < v12
          · rw [if_pos q, hn]
          · rw [if_neg q]; exact hl
        subst t7
        rcases h with ⟨-, v12', hx, rfl⟩ | ⟨c, -⟩
        · obtain ⟨k, hx⟩ := hx
          obtain ⟨k, y7, ey, hx⟩ := iv_StringLatin1_indexOfChar_0 hx
          have q := ixc_7 (N := 23) t8 (by decide) 23 k y7 0 0 hx rfl rfl
          have hz : z = Int32.ofNat z.toInt.toNat := Int32.toInt_inj.mp (by rw [Int32.toInt_ofNat_of_lt (by omega)]; omega)
          have q2 : (∀ m ∈ MKL, m ≠ (Int32.ofNat z.toInt.toNat).toInt8.toInt32.toInt) ↔ isMk ((z.toInt.toNat : Nat) : Int) = false := mkl_256 ⟨z.toInt.toNat, by omega⟩
          have e4 : ((z.toInt.toNat : Nat) : Int) = z.toInt := by omega
          rw [← hz, e4] at q2
          rw [q, ← q2, ey]
          constructor
          · intro q3 m hm
            obtain ⟨j, hj⟩ := List.getElem?_of_mem hm
            have hlt := (List.getElem?_eq_some_iff.mp hj).1
            have h23 : MKL.length = 23 := rfl
            have h9 := q3 j (Nat.zero_le _) (by omega)
            rw [hs j m hj] at h9
            exact h9
          · intro q3 j _ hj
            have h23 : MKL.length = 23 := rfl
            have hg : MKL[j]? = some (MKL[j]'(by omega)) := List.getElem?_eq_getElem _
            rw [hs j _ hg]
            exact q3 _ (List.mem_of_getElem? hg)
        · have : (0 : Int32).toInt = 0 := rfl
          omega
      · omega
    · exact h.elim
  · exact h.elim
  · exact h.elim
/-! no address twice; the ten functions -/
theorem nd_pw {D : va_G} {A : Nat → Prop} {H0 H : Heap} {locs : List Loc} {ps : List va_W} {P : va_W} {i : Nat} (hw : pw D A H0 H locs ps) (hi : ps[i]? = some P) : ND P := fun j j' a x y h1 h2 => by
  have q := hw.2.1.1 (pp_off ps i + j) (pp_off ps i + j') _ _ (pp_get h1 ps i hi) (pp_get h2 ps i hi) rfl
  omega
theorem gv_1 {i : Nat} {e : FnE} (h : GV[i]? = some e) : e.1.toInt = 15 + (i : Int) := by
  have hi := (List.getElem?_eq_some_iff.mp h).1
  have l10 : GV.length = 10 := rfl
  have q : i = 0 ∨ i = 1 ∨ i = 2 ∨ i = 3 ∨ i = 4 ∨ i = 5 ∨ i = 6 ∨ i = 7 ∨ i = 8 ∨ i = 9 := by omega
  rcases q with rfl | rfl | rfl | rfl | rfl | rfl | rfl | rfl | rfl | rfl <;> (cases h; rfl)
theorem ten_of {na : Nat → Nat → Int32} {P : va_W} {ff : Nat → Int32} {fg : Nat → Option Nat} (h : FunE na P fg 14 GV) (hN : ND P) (h1 : (ff 1).toInt = 10) : TenF na P ff fg := by
  refine ⟨by omega, h, fun i j hi hj e => ?_⟩
  have l10 : GV.length = 10 := rfl
  obtain ⟨ei, gi⟩ : ∃ d, GV[i]? = some d := ⟨_, List.getElem?_eq_getElem (by omega)⟩
  obtain ⟨ej, gj⟩ : ∃ d, GV[j]? = some d := ⟨_, List.getElem?_eq_getElem (by omega)⟩
  have ni := gv_1 gi
  have nj := gv_1 gj
  obtain ⟨q, s, b, ⟨a1, ⟨u, a2⟩, a3, -⟩, -⟩ := h i _ gi
  obtain ⟨q', s', b', ⟨c1, ⟨u', c2⟩, c3, -⟩, -⟩ := h j _ gj
  rw [e, c1] at a1
  have hq : q' = q := Option.some.inj a1
  subst hq
  have hu := hN u u' _ _ _ a2 c2
  subst hu
  rw [a2] at c2
  have h9 := Option.some.inj c2
  have h10 : s 0 = s' 0 := congrArg (fun x : Nat × va_E => match x with | (_, .inr (_, .int y :: _)) => y | _ => 0) h9
  rw [a3, c3] at h10
  rw [h10] at ni
  omega
/-! what the class says of a text is what the reference says -/
def CxA (F : Int) (t : Nat → Int32) (v : Int32) : Prop := ∀ (sbr bb : Nat → Int32) (q0 w : Int32), q0.toInt = F → (∀ i : Nat, (i : Int) < F → bb i = t i) → (∀ j : Nat, j < 4 → mnW[j]? = some (sbr j).toInt) → RdX sbr bb q0 w → (v.toInt = 0 ↔ w.toInt = 0)
section CX
variable {sn9 : Nat} {sb : Nat → Int32} {tp : Nat} {tb : Nat → Int32} {cn : Nat} {fn : Nat} {sn : Nat} {p0 : Int32}
variable {cf' : Nat → Int32} {ca' : Nat → Nat → Int32} {fo' : Option Nat} {tf' : Nat → Int32} {ta' : Nat → Nat → Int32} {ob6' : Option Nat} {fp' : Nat → Int32} {cd' : Nat → Int32} {ft' : Nat → Int32} {nf' : Nat → Int32} {na' : Nat → Nat → Int32} {own' : Bool} {lq' : Nat} {lc' : Nat} {lf' : Nat → Int32} {lg' : Nat → Option Nat} {fq' : Nat} {fc' : Nat} {ff' : Nat → Int32} {fg' : Nat → Option Nat} {P' : va_W} {fs' : Nat → Int32} {sd' : Nat → Int32} {v : Int32}
variable {cf : Nat → Int32} {ca : Nat → Nat → Int32} {fo : Option Nat} {tf : Nat → Int32} {ta : Nat → Nat → Int32} {ob6 : Option Nat} {fp : Nat → Int32} {cd : Nat → Int32} {ft : Nat → Int32} {nf : Nat → Int32} {na : Nat → Nat → Int32} {own : Bool} {lq : Nat} {lc : Nat} {lf : Nat → Int32} {lg : Nat → Option Nat} {fq : Nat} {fc : Nat} {ff : Nat → Int32} {fg : Nat → Option Nat} {P : va_W} {fs : Nat → Int32} {sd : Nat → Int32}
theorem cxa_of {F : Int} (hN : ND P') (hC : CPre sn9 sb tf ta na P ff fg) (hL : 0 ≤ (lf 1).toInt) (hcn : 0 ≤ (nI cn).toInt ∧ (nI cn).toInt ≤ 2000000000) (hp : p0.toInt = ((F.toNat : Nat) : Int)) (hn : F.toNat ≤ 2048) (htb : ∀ i : Nat, i < F.toNat → -128 ≤ (tb i).toInt ∧ (tb i).toInt ≤ 127) (hF : 0 ≤ F) (h : R_tc_compile sn9 sb tp tb cn fn sn p0 cf ca fo tf ta ob6 fp cd ft nf na own lq lc lf lg fq fc ff fg P fs sd cf' ca' fo' tf' ta' ob6' fp' cd' ft' nf' na' own' lq' lc' lf' lg' fq' fc' ff' fg' P' fs' sd' v) : CxA F tb v := by
  intro sbr bb q0 w hq hbb hsb hr
  obtain ⟨_, _, _, _, _, _, _, _, _, _, _, _, _, _, _, _, _, _, _, _, _, _, _, _, h'⟩ := hr
  exact both_ok hN hC hL hcn hp hn htb (fun i hi => hbb i (by omega)) (by omega) hsb h h'
end CX
