def syC (a : Nat) (s : Nat → Int32) : Nat × va_E := (a, .inr (3, [.int (s 0), .int (s 1), .int (s 2), .int (s 3), .int (s 4), .int (s 5), .int (s 6)]))
def R_ls_size  (lf : Nat → Int32)   (v : Int32) : Prop := (v = (lf 1)) ∨ False
def E_ls_clear0   (lf' : Nat → Int32)  : Nat → Nat → List Int32 → List Int64 → List (Option Nat) → List (Nat → Int32) → List Nat → (Nat → Int32) → Prop
  | 0, _, _, _, _, _, _, _ => False
  | k + 1, pc_, ls_, lw_, qs_, fs_, ad_, lf => (pc_ = 0 ∧ ∃ (z4 : Int32), (z4 = (lf 2) + (1 : Int32)) ∧ E_ls_clear0  lf' k 27 [(lf 1), (0 : Int32)] [] [] [] [] (upd (upd lf 1 0) 2 z4)) ∨ (pc_ = 27 ∧ ∃ (x27_2 : Int32), ∃ (x27_3 : Int32), ls_ = [x27_2, x27_3] ∧ lw_ = [] ∧ qs_ = [] ∧ fs_ = [] ∧ ad_ = [] ∧ (x27_2.toInt ≤ x27_3.toInt) ∧ lf' = lf) ∨ False
def R_ls_clear0   (lf : Nat → Int32) (lf' : Nat → Int32) : Prop := ∃ k, E_ls_clear0  lf'  k 0 [] [] [] [] [] lf
def K_ls_clear0_27   (lf : Nat → Int32) (lf_c : Nat → Int32) (x27_2 : Int32) (x27_3 : Int32) : Prop := ∀ (lf' : Nat → Int32) (k : Nat), E_ls_clear0  lf'  k 27 [x27_2, x27_3] [] [] [] [] lf_c → R_ls_clear0  lf lf'
def E_nm_find_T  (P : va_W) (lf : Nat → Int32) (lg : Nat → Option Nat) (p0 : Int32)  (v : Option Nat)  : Nat → Nat → List Int32 → List Int64 → List (Option Nat) → List (Nat → Int32) → List Nat → Unit → Prop
  | 0, _, _, _, _, _, _, _ => False
  | k + 1, pc_, ls_, lw_, qs_, fs_, ad_, _ => (pc_ = 0 ∧ ∃ (v14 : Int32), (R_ls_size lf v14) ∧ ∃ (z17 : Int32), (z17 = v14 - (1 : Int32)) ∧ E_nm_find_T P lf lg p0  v k 10 [z17] [] [] [] [] ()) ∨ (pc_ = 10 ∧ ∃ (x10_2 : Int32), ls_ = [x10_2] ∧ lw_ = [] ∧ qs_ = [] ∧ fs_ = [] ∧ ad_ = [] ∧ (((x10_2.toInt < (0 : Int)) ∧ v = none) ∨ ((¬ (x10_2.toInt < (0 : Int))) ∧ ∃ (q6 : Nat), ((lg x10_2.toNatClampNeg) = some q6) ∧ ∃ (j7 : Nat), ∃ (s8 : Nat → Int32), (P[j7]? = some (syC q6 s8)) ∧ (((¬ ((s8 0).toInt = p0.toInt)) ∧ ∃ (z12 : Int32), (z12 = x10_2 + (-1)) ∧ E_nm_find_T P lf lg p0  v k 10 [z12] [] [] [] [] ()) ∨ (((s8 0).toInt = p0.toInt) ∧ v = (some q6)))))) ∨ False
def R_nm_find_T  (P : va_W) (lf : Nat → Int32) (lg : Nat → Option Nat) (p0 : Int32)   (v : Option Nat) : Prop := ∃ k, E_nm_find_T P lf lg p0  v  k 0 [] [] [] [] []  ()
def K_nm_find_T_10  (P : va_W) (lf : Nat → Int32) (lg : Nat → Option Nat) (p0 : Int32)   (x10_2 : Int32) : Prop := ∀  (v : Option Nat) (k : Nat), E_nm_find_T P lf lg p0  v  k 10 [x10_2] [] [] [] []  () → R_nm_find_T P lf lg p0   v
def E_nm_find_F  (lf : Nat → Int32) (p0 : Int32)  (v : Option Nat)  : Nat → Nat → List Int32 → List Int64 → List (Option Nat) → List (Nat → Int32) → List Nat → Unit → Prop
  | 0, _, _, _, _, _, _, _ => False
  | k + 1, pc_, ls_, lw_, qs_, fs_, ad_, _ => (pc_ = 0 ∧ ∃ (v4 : Int32), (R_ls_size lf v4) ∧ ∃ (z7 : Int32), (z7 = v4 - (1 : Int32)) ∧ E_nm_find_F lf p0  v k 10 [z7] [] [] [] [] ()) ∨ (pc_ = 10 ∧ ∃ (x10_2 : Int32), ls_ = [x10_2] ∧ lw_ = [] ∧ qs_ = [] ∧ fs_ = [] ∧ ad_ = [] ∧ (x10_2.toInt < (0 : Int)) ∧ v = none) ∨ False
def R_nm_find_F  (lf : Nat → Int32) (p0 : Int32)   (v : Option Nat) : Prop := ∃ k, E_nm_find_F lf p0  v  k 0 [] [] [] [] []  ()
def K_nm_find_F_10  (lf : Nat → Int32) (p0 : Int32)   (x10_2 : Int32) : Prop := ∀  (v : Option Nat) (k : Nat), E_nm_find_F lf p0  v  k 10 [x10_2] [] [] [] []  () → R_nm_find_F lf p0   v
def R_nm_find (own : Bool) (P : va_W) (lf : Nat → Int32) (lg : Nat → Option Nat) (p0 : Int32)  (v : Option Nat) : Prop := match own with
  | true => R_nm_find_T P lf lg p0 v
  | false => R_nm_find_F lf p0 v
def E_nm_isKnownHere_T  (P : va_W) (nf : Nat → Int32) (lf : Nat → Int32) (lg : Nat → Option Nat) (p0 : Int32)  (v : Int32)  : Nat → Nat → List Int32 → List Int64 → List (Option Nat) → List (Nat → Int32) → List Nat → Unit → Prop
  | 0, _, _, _, _, _, _, _ => False
  | k + 1, pc_, ls_, lw_, qs_, fs_, ad_, _ => (pc_ = 0 ∧ ∃ (v16 : Int32), (R_ls_size lf v16) ∧ ∃ (z19 : Int32), (z19 = v16 - (1 : Int32)) ∧ E_nm_isKnownHere_T P nf lf lg p0  v k 10 [z19] [] [] [] [] ()) ∨ (pc_ = 10 ∧ ∃ (x10_2 : Int32), ls_ = [x10_2] ∧ lw_ = [] ∧ qs_ = [] ∧ fs_ = [] ∧ ad_ = [] ∧ (((x10_2.toInt < (nf 4).toInt) ∧ v = 0) ∨ ((¬ (x10_2.toInt < (nf 4).toInt)) ∧ (((x10_2.toInt < (0 : Int)) ∧ v = 0) ∨ ((¬ (x10_2.toInt < (0 : Int))) ∧ ∃ (q8 : Nat), ((lg x10_2.toNatClampNeg) = some q8) ∧ ∃ (j9 : Nat), ∃ (s10 : Nat → Int32), (P[j9]? = some (syC q8 s10)) ∧ (((¬ ((s10 0).toInt = p0.toInt)) ∧ ∃ (z14 : Int32), (z14 = x10_2 + (-1)) ∧ E_nm_isKnownHere_T P nf lf lg p0  v k 10 [z14] [] [] [] [] ()) ∨ (((s10 0).toInt = p0.toInt) ∧ v = 1))))))) ∨ False
def R_nm_isKnownHere_T  (P : va_W) (nf : Nat → Int32) (lf : Nat → Int32) (lg : Nat → Option Nat) (p0 : Int32)   (v : Int32) : Prop := ∃ k, E_nm_isKnownHere_T P nf lf lg p0  v  k 0 [] [] [] [] []  ()
def K_nm_isKnownHere_T_10  (P : va_W) (nf : Nat → Int32) (lf : Nat → Int32) (lg : Nat → Option Nat) (p0 : Int32)   (x10_2 : Int32) : Prop := ∀  (v : Int32) (k : Nat), E_nm_isKnownHere_T P nf lf lg p0  v  k 10 [x10_2] [] [] [] []  () → R_nm_isKnownHere_T P nf lf lg p0   v
def E_nm_isKnownHere_F  (nf : Nat → Int32) (lf : Nat → Int32) (p0 : Int32)  (v : Int32)  : Nat → Nat → List Int32 → List Int64 → List (Option Nat) → List (Nat → Int32) → List Nat → Unit → Prop
  | 0, _, _, _, _, _, _, _ => False
  | k + 1, pc_, ls_, lw_, qs_, fs_, ad_, _ => (pc_ = 0 ∧ ∃ (v6 : Int32), (R_ls_size lf v6) ∧ ∃ (z9 : Int32), (z9 = v6 - (1 : Int32)) ∧ E_nm_isKnownHere_F nf lf p0  v k 10 [z9] [] [] [] [] ()) ∨ (pc_ = 10 ∧ ∃ (x10_2 : Int32), ls_ = [x10_2] ∧ lw_ = [] ∧ qs_ = [] ∧ fs_ = [] ∧ ad_ = [] ∧ (((x10_2.toInt < (nf 4).toInt) ∧ v = 0) ∨ ((¬ (x10_2.toInt < (nf 4).toInt)) ∧ (x10_2.toInt < (0 : Int)) ∧ v = 0))) ∨ False
def R_nm_isKnownHere_F  (nf : Nat → Int32) (lf : Nat → Int32) (p0 : Int32)   (v : Int32) : Prop := ∃ k, E_nm_isKnownHere_F nf lf p0  v  k 0 [] [] [] [] []  ()
def K_nm_isKnownHere_F_10  (nf : Nat → Int32) (lf : Nat → Int32) (p0 : Int32)   (x10_2 : Int32) : Prop := ∀  (v : Int32) (k : Nat), E_nm_isKnownHere_F nf lf p0  v  k 10 [x10_2] [] [] [] []  () → R_nm_isKnownHere_F nf lf p0   v
def R_nm_isKnownHere (own : Bool) (P : va_W) (nf : Nat → Int32) (lf : Nat → Int32) (lg : Nat → Option Nat) (p0 : Int32)  (v : Int32) : Prop := match own with
  | true => R_nm_isKnownHere_T P nf lf lg p0 v
  | false => R_nm_isKnownHere_F nf lf p0 v
def E_nm_function  (P : va_W) (ff : Nat → Int32) (fg : Nat → Option Nat) (p0 : Int32)  (v : Option Nat)  : Nat → Nat → List Int32 → List Int64 → List (Option Nat) → List (Nat → Int32) → List Nat → Unit → Prop
  | 0, _, _, _, _, _, _, _ => False
  | k + 1, pc_, ls_, lw_, qs_, fs_, ad_, _ => (pc_ = 0 ∧ E_nm_function P ff fg p0  v k 2 [(0 : Int32)] [] [] [] [] ()) ∨ (pc_ = 2 ∧ ∃ (x2_2 : Int32), ls_ = [x2_2] ∧ lw_ = [] ∧ qs_ = [] ∧ fs_ = [] ∧ ad_ = [] ∧ ∃ (v2 : Int32), (R_ls_size ff v2) ∧ (((v2.toInt ≤ x2_2.toInt) ∧ v = none) ∨ ((¬ (v2.toInt ≤ x2_2.toInt)) ∧ ∃ (q10 : Nat), ((fg x2_2.toNatClampNeg) = some q10) ∧ ∃ (j11 : Nat), ∃ (s12 : Nat → Int32), (P[j11]? = some (syC q10 s12)) ∧ (((¬ ((s12 0).toInt = p0.toInt)) ∧ ∃ (z16 : Int32), (z16 = x2_2 + 1) ∧ E_nm_function P ff fg p0  v k 2 [z16] [] [] [] [] ()) ∨ (((s12 0).toInt = p0.toInt) ∧ v = (some q10)))))) ∨ False
def R_nm_function  (P : va_W) (ff : Nat → Int32) (fg : Nat → Option Nat) (p0 : Int32)   (v : Option Nat) : Prop := ∃ k, E_nm_function P ff fg p0  v  k 0 [] [] [] [] []  ()
def K_nm_function_2  (P : va_W) (ff : Nat → Int32) (fg : Nat → Option Nat) (p0 : Int32)   (x2_2 : Int32) : Prop := ∀  (v : Option Nat) (k : Nat), E_nm_function P ff fg p0  v  k 2 [x2_2] [] [] [] []  () → R_nm_function P ff fg p0   v
def R_nm_functionAt  (P : va_W) (ff : Nat → Int32) (fg : Nat → Option Nat) (p0 : Int32)   (v : Option Nat) : Prop := ((((p0.toInt < (0 : Int)) ∧ v = none) ∨ ((¬ (p0.toInt < (0 : Int))) ∧ ∃ (v4 : Int32), (R_ls_size ff v4) ∧ (((v4.toInt ≤ p0.toInt) ∧ v = none) ∨ ((¬ (v4.toInt ≤ p0.toInt)) ∧ ∃ (q12 : Nat), ((fg p0.toNatClampNeg) = some q12) ∧ ∃ (j13 : Nat), ∃ (s14 : Nat → Int32), (P[j13]? = some (syC q12 s14)) ∧ v = (some q12)))))) ∨ False
def R_nm_want_n  (p0 : Int32)   (v : Int32) : Prop := (v = 0) ∨ False
def R_nm_want_r  (na : Nat → Nat → Int32) (P : va_W) (fa : Nat) (p0 : Int32)   (v : Int32) : Prop := ((((p0.toInt < (0 : Int)) ∧ v = 0) ∨ ((¬ (p0.toInt < (0 : Int))) ∧ ∃ (j3 : Nat), ∃ (s4 : Nat → Int32), (P[j3]? = some (syC fa s4)) ∧ (((p0.toInt < (s4 4).toInt) ∧ ∃ (z9 : Int32), (z9 = (s4 3) + p0) ∧ (((z9.toInt < (0 : Int)) ∧ v = 0) ∨ ((¬ (z9.toInt < (0 : Int))) ∧ ((((2048 : Int) ≤ z9.toInt) ∧ v = 0) ∨ ((¬ ((2048 : Int) ≤ z9.toInt)) ∧ ∃ (z14 : Int32), (z14 = (na 2) z9.toNatClampNeg) ∧ v = z14))))) ∨ ((¬ (p0.toInt < (s4 4).toInt)) ∧ v = 0))))) ∨ False
def R_nm_want (na : Nat → Nat → Int32) (P : va_W) (fo : Option Nat) (p0 : Int32)  (v : Int32) : Prop := match fo with
  | none => R_nm_want_n p0 v
  | some fa => R_nm_want_r na P fa p0 v

