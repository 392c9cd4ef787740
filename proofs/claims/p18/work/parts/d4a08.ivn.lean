theorem iv_nm_find_T_0  {P : va_W} {lf : Nat → Int32} {lg : Nat → Option Nat} {p0 : Int32}   {v : Option Nat}   {k : Nat} (h : E_nm_find_T  P lf lg p0  v  k 0 [] [] [] [] [] ()) : ∃ k : Nat, ∃ (v14 : Int32), (R_ls_size lf v14) ∧ ∃ (z17 : Int32), (z17 = v14 - (1 : Int32)) ∧ E_nm_find_T  P lf lg p0  v  k 10 [z17] [] [] [] [] () := by
  cases k with
  | zero => exact h.elim
  | succ k =>
    rcases h with ⟨-, hb⟩ | ⟨e, -⟩ | h
    · exact ⟨k, hb⟩
    · exact absurd e (by decide)
    · exact h.elim
theorem iv_nm_find_T_10  {P : va_W} {lf : Nat → Int32} {lg : Nat → Option Nat} {p0 : Int32}   {v : Option Nat} {x10_2 : Int32}  {k : Nat} (h : E_nm_find_T  P lf lg p0  v  k 10 [x10_2] [] [] [] [] ()) : ∃ k : Nat, (((x10_2.toInt < (0 : Int)) ∧ v = none) ∨ ((¬ (x10_2.toInt < (0 : Int))) ∧ ∃ (q6 : Nat), ((lg x10_2.toNatClampNeg) = some q6) ∧ ∃ (j7 : Nat), ∃ (s8 : Nat → Int32), (P[j7]? = some (syC q6 s8)) ∧ (((¬ ((s8 0).toInt = p0.toInt)) ∧ ∃ (z12 : Int32), (z12 = x10_2 + (-1)) ∧ E_nm_find_T  P lf lg p0  v  k 10 [z12] [] [] [] [] ()) ∨ (((s8 0).toInt = p0.toInt) ∧ v = (some q6))))) := by
  cases k with
  | zero => exact h.elim
  | succ k =>
    rcases h with ⟨e, -⟩ | ⟨-, b0, e1, e2, e3, e4, e5, hb⟩ | h
    · exact absurd e (by decide)
    · cases e1; cases e2; cases e3; cases e4; cases e5; exact ⟨k, hb⟩
    · exact h.elim
theorem iv_nm_find_F_0  {lf : Nat → Int32} {p0 : Int32}   {v : Option Nat}   {k : Nat} (h : E_nm_find_F  lf p0  v  k 0 [] [] [] [] [] ()) : ∃ k : Nat, ∃ (v4 : Int32), (R_ls_size lf v4) ∧ ∃ (z7 : Int32), (z7 = v4 - (1 : Int32)) ∧ E_nm_find_F  lf p0  v  k 10 [z7] [] [] [] [] () := by
  cases k with
  | zero => exact h.elim
  | succ k =>
    rcases h with ⟨-, hb⟩ | ⟨e, -⟩ | h
    · exact ⟨k, hb⟩
    · exact absurd e (by decide)
    · exact h.elim
theorem iv_nm_find_F_10  {lf : Nat → Int32} {p0 : Int32}   {v : Option Nat} {x10_2 : Int32}  {k : Nat} (h : E_nm_find_F  lf p0  v  k 10 [x10_2] [] [] [] [] ()) : ∃ k : Nat, (x10_2.toInt < (0 : Int)) ∧ v = none := by
  cases k with
  | zero => exact h.elim
  | succ k =>
    rcases h with ⟨e, -⟩ | ⟨-, b0, e1, e2, e3, e4, e5, hb⟩ | h
    · exact absurd e (by decide)
    · cases e1; cases e2; cases e3; cases e4; cases e5; exact ⟨k, hb⟩
    · exact h.elim
theorem iv_nm_isKnownHere_T_0  {P : va_W} {nf : Nat → Int32} {lf : Nat → Int32} {lg : Nat → Option Nat} {p0 : Int32}   {v : Int32}   {k : Nat} (h : E_nm_isKnownHere_T  P nf lf lg p0  v  k 0 [] [] [] [] [] ()) : ∃ k : Nat, ∃ (v16 : Int32), (R_ls_size lf v16) ∧ ∃ (z19 : Int32), (z19 = v16 - (1 : Int32)) ∧ E_nm_isKnownHere_T  P nf lf lg p0  v  k 10 [z19] [] [] [] [] () := by
  cases k with
  | zero => exact h.elim
  | succ k =>
    rcases h with ⟨-, hb⟩ | ⟨e, -⟩ | h
    · exact ⟨k, hb⟩
    · exact absurd e (by decide)
    · exact h.elim
theorem iv_nm_isKnownHere_T_10  {P : va_W} {nf : Nat → Int32} {lf : Nat → Int32} {lg : Nat → Option Nat} {p0 : Int32}   {v : Int32} {x10_2 : Int32}  {k : Nat} (h : E_nm_isKnownHere_T  P nf lf lg p0  v  k 10 [x10_2] [] [] [] [] ()) : ∃ k : Nat, (((x10_2.toInt < (nf 4).toInt) ∧ v = 0) ∨ ((¬ (x10_2.toInt < (nf 4).toInt)) ∧ (((x10_2.toInt < (0 : Int)) ∧ v = 0) ∨ ((¬ (x10_2.toInt < (0 : Int))) ∧ ∃ (q8 : Nat), ((lg x10_2.toNatClampNeg) = some q8) ∧ ∃ (j9 : Nat), ∃ (s10 : Nat → Int32), (P[j9]? = some (syC q8 s10)) ∧ (((¬ ((s10 0).toInt = p0.toInt)) ∧ ∃ (z14 : Int32), (z14 = x10_2 + (-1)) ∧ E_nm_isKnownHere_T  P nf lf lg p0  v  k 10 [z14] [] [] [] [] ()) ∨ (((s10 0).toInt = p0.toInt) ∧ v = 1)))))) := by
  cases k with
  | zero => exact h.elim
  | succ k =>
    rcases h with ⟨e, -⟩ | ⟨-, b0, e1, e2, e3, e4, e5, hb⟩ | h
    · exact absurd e (by decide)
    · cases e1; cases e2; cases e3; cases e4; cases e5; exact ⟨k, hb⟩
    · exact h.elim
theorem iv_nm_isKnownHere_F_0  {nf : Nat → Int32} {lf : Nat → Int32} {p0 : Int32}   {v : Int32}   {k : Nat} (h : E_nm_isKnownHere_F  nf lf p0  v  k 0 [] [] [] [] [] ()) : ∃ k : Nat, ∃ (v6 : Int32), (R_ls_size lf v6) ∧ ∃ (z9 : Int32), (z9 = v6 - (1 : Int32)) ∧ E_nm_isKnownHere_F  nf lf p0  v  k 10 [z9] [] [] [] [] () := by
  cases k with
  | zero => exact h.elim
  | succ k =>
    rcases h with ⟨-, hb⟩ | ⟨e, -⟩ | h
    · exact ⟨k, hb⟩
    · exact absurd e (by decide)
    · exact h.elim
theorem iv_nm_isKnownHere_F_10  {nf : Nat → Int32} {lf : Nat → Int32} {p0 : Int32}   {v : Int32} {x10_2 : Int32}  {k : Nat} (h : E_nm_isKnownHere_F  nf lf p0  v  k 10 [x10_2] [] [] [] [] ()) : ∃ k : Nat, (((x10_2.toInt < (nf 4).toInt) ∧ v = 0) ∨ ((¬ (x10_2.toInt < (nf 4).toInt)) ∧ (x10_2.toInt < (0 : Int)) ∧ v = 0)) := by
  cases k with
  | zero => exact h.elim
  | succ k =>
    rcases h with ⟨e, -⟩ | ⟨-, b0, e1, e2, e3, e4, e5, hb⟩ | h
    · exact absurd e (by decide)
    · cases e1; cases e2; cases e3; cases e4; cases e5; exact ⟨k, hb⟩
    · exact h.elim
theorem iv_nm_function_0  {P : va_W} {ff : Nat → Int32} {fg : Nat → Option Nat} {p0 : Int32}   {v : Option Nat}   {k : Nat} (h : E_nm_function  P ff fg p0  v  k 0 [] [] [] [] [] ()) : ∃ k : Nat, E_nm_function  P ff fg p0  v  k 2 [(0 : Int32)] [] [] [] [] () := by
  cases k with
  | zero => exact h.elim
  | succ k =>
    rcases h with ⟨-, hb⟩ | ⟨e, -⟩ | h
    · exact ⟨k, hb⟩
    · exact absurd e (by decide)
    · exact h.elim
theorem iv_nm_function_2  {P : va_W} {ff : Nat → Int32} {fg : Nat → Option Nat} {p0 : Int32}   {v : Option Nat} {x2_2 : Int32}  {k : Nat} (h : E_nm_function  P ff fg p0  v  k 2 [x2_2] [] [] [] [] ()) : ∃ k : Nat, ∃ (v2 : Int32), (R_ls_size ff v2) ∧ (((v2.toInt ≤ x2_2.toInt) ∧ v = none) ∨ ((¬ (v2.toInt ≤ x2_2.toInt)) ∧ ∃ (q10 : Nat), ((fg x2_2.toNatClampNeg) = some q10) ∧ ∃ (j11 : Nat), ∃ (s12 : Nat → Int32), (P[j11]? = some (syC q10 s12)) ∧ (((¬ ((s12 0).toInt = p0.toInt)) ∧ ∃ (z16 : Int32), (z16 = x2_2 + 1) ∧ E_nm_function  P ff fg p0  v  k 2 [z16] [] [] [] [] ()) ∨ (((s12 0).toInt = p0.toInt) ∧ v = (some q10))))) := by
  cases k with
  | zero => exact h.elim
  | succ k =>
    rcases h with ⟨e, -⟩ | ⟨-, b0, e1, e2, e3, e4, e5, hb⟩ | h
    · exact absurd e (by decide)
    · cases e1; cases e2; cases e3; cases e4; cases e5; exact ⟨k, hb⟩
    · exact h.elim
theorem iv_nw_leave_T_0  {p0 : Int32}  {nf' : Nat → Int32} {lf' : Nat → Int32} {lg' : Nat → Option Nat}  {nf : Nat → Int32} {lf : Nat → Int32} {lg : Nat → Option Nat} {k : Nat} (h : E_nw_leave_T  p0 nf' lf' lg'  k 0 [] [] [] [] [] nf lf lg) : ∃ k : Nat, ∃ (v16 : Int32), (R_ls_size2 lf v16) ∧ ∃ (z19 : Int32), (z19 = v16 - (1 : Int32)) ∧ E_nw_leave_T  p0 nf' lf' lg'  k 10 [z19] [] [] [] [] nf lf lg := by
  cases k with
  | zero => exact h.elim
  | succ k =>
    rcases h with ⟨-, hb⟩ | ⟨e, -⟩ | h
    · exact ⟨k, hb⟩
    · exact absurd e (by decide)
    · exact h.elim
theorem iv_nw_leave_T_10  {p0 : Int32}  {nf' : Nat → Int32} {lf' : Nat → Int32} {lg' : Nat → Option Nat} {x10_2 : Int32} {nf : Nat → Int32} {lf : Nat → Int32} {lg : Nat → Option Nat} {k : Nat} (h : E_nw_leave_T  p0 nf' lf' lg'  k 10 [x10_2] [] [] [] [] nf lf lg) : ∃ k : Nat, (((x10_2.toInt < (nf 4).toInt) ∧ nf' = (upd nf 4 p0) ∧ lf' = lf ∧ lg' = lg) ∨ ((¬ (x10_2.toInt < (nf 4).toInt)) ∧ (((x10_2.toInt < (0 : Int)) ∧ nf' = (upd nf 4 p0) ∧ lf' = lf ∧ lg' = lg) ∨ ((¬ (x10_2.toInt < (0 : Int))) ∧ ∃ (lf7 : Nat → Int32), ∃ (lg8 : Nat → Option Nat), ∃ (v10 : Option Nat), (KeepL (lf7 1) lg lg8) ∧ ∃ (lf7 : Nat → Int32), ∃ (lg8 : Nat → Option Nat), ∃ (v10 : Option Nat), (R_lr_remove x10_2 lf lg lf7 lg8 v10) ∧ ∃ (z14 : Int32), (z14 = x10_2 + (-1)) ∧ E_nw_leave_T  p0 nf' lf' lg'  k 10 [z14] [] [] [] [] nf lf7 lg8)))) := by
  cases k with
  | zero => exact h.elim
  | succ k =>
    rcases h with ⟨e, -⟩ | ⟨-, b0, e1, e2, e3, e4, e5, hb⟩ | h
    · exact absurd e (by decide)
    · cases e1; cases e2; cases e3; cases e4; cases e5; exact ⟨k, hb⟩
    · exact h.elim
theorem iv_nw_forget_0    {nf' : Nat → Int32} {ff' : Nat → Int32} {fg' : Nat → Option Nat}  {nf : Nat → Int32} {ff : Nat → Int32} {fg : Nat → Option Nat} {k : Nat} (h : E_nw_forget   nf' ff' fg'  k 0 [] [] [] [] [] nf ff fg) : ∃ k : Nat, ∃ (v14 : Int32), (R_ls_size2 ff v14) ∧ ∃ (z17 : Int32), (z17 = v14 - (1 : Int32)) ∧ E_nw_forget   nf' ff' fg'  k 18 [z17] [] [] [] [] (upd nf 3 14) ff fg := by
  cases k with
  | zero => exact h.elim
  | succ k =>
    rcases h with ⟨-, hb⟩ | ⟨e, -⟩ | h
    · exact ⟨k, hb⟩
    · exact absurd e (by decide)
    · exact h.elim
theorem iv_nw_forget_18    {nf' : Nat → Int32} {ff' : Nat → Int32} {fg' : Nat → Option Nat} {x18_1 : Int32} {nf : Nat → Int32} {ff : Nat → Int32} {fg : Nat → Option Nat} {k : Nat} (h : E_nw_forget   nf' ff' fg'  k 18 [x18_1] [] [] [] [] nf ff fg) : ∃ k : Nat, (((x18_1.toInt < (10 : Int)) ∧ nf' = nf ∧ ff' = ff ∧ fg' = fg) ∨ ((¬ (x18_1.toInt < (10 : Int))) ∧ ∃ (lf5 : Nat → Int32), ∃ (lg6 : Nat → Option Nat), ∃ (v8 : Option Nat), (KeepL (lf5 1) fg lg6) ∧ ∃ (lf5 : Nat → Int32), ∃ (lg6 : Nat → Option Nat), ∃ (v8 : Option Nat), (R_lr_remove x18_1 ff fg lf5 lg6 v8) ∧ ∃ (z12 : Int32), (z12 = x18_1 + (-1)) ∧ E_nw_forget   nf' ff' fg'  k 18 [z12] [] [] [] [] nf lf5 lg6)) := by
  cases k with
  | zero => exact h.elim
  | succ k =>
    rcases h with ⟨e, -⟩ | ⟨-, b0, e1, e2, e3, e4, e5, hb⟩ | h
    · exact absurd e (by decide)
    · cases e1; cases e2; cases e3; cases e4; cases e5; exact ⟨k, hb⟩
    · exact h.elim
theorem iv_Lst_clear_0    {lf' : Nat → Int32} {lg' : Nat → Option Nat}  {lf : Nat → Int32} {lg : Nat → Option Nat} {k : Nat} (h : E_Lst_clear   lf' lg'  k 0 [] [] [] [] [] lf lg) : ∃ k : Nat, ∃ (z5 : Int32), (z5 = (lf 2) + (1 : Int32)) ∧ E_Lst_clear   lf' lg'  k 27 [(lf 1), (0 : Int32)] [] [] [] [] (upd (upd lf 1 0) 2 z5) lg := by
  cases k with
  | zero => exact h.elim
  | succ k =>
    rcases h with ⟨-, hb⟩ | ⟨e, -⟩ | h
    · exact ⟨k, hb⟩
    · exact absurd e (by decide)
    · exact h.elim
theorem iv_Lst_clear_27    {lf' : Nat → Int32} {lg' : Nat → Option Nat} {x27_2 : Int32} {x27_3 : Int32} {lf : Nat → Int32} {lg : Nat → Option Nat} {k : Nat} (h : E_Lst_clear   lf' lg'  k 27 [x27_2, x27_3] [] [] [] [] lf lg) : ∃ k : Nat, (((x27_2.toInt ≤ x27_3.toInt) ∧ lf' = lf ∧ lg' = lg) ∨ ((¬ (x27_2.toInt ≤ x27_3.toInt)) ∧ ∃ (z3 : Int32), (z3 = x27_3 + 1) ∧ E_Lst_clear   lf' lg'  k 27 [x27_2, z3] [] [] [] [] lf (va_up lg x27_3.toNatClampNeg none))) := by
  cases k with
  | zero => exact h.elim
  | succ k =>
    rcases h with ⟨e, -⟩ | ⟨-, b0, b1, e1, e2, e3, e4, e5, hb⟩ | h
    · exact absurd e (by decide)
    · cases e1; cases e2; cases e3; cases e4; cases e5; exact ⟨k, hb⟩
    · exact h.elim
theorem iv_ls_clear0_0    {lf' : Nat → Int32}  {lf : Nat → Int32} {k : Nat} (h : E_ls_clear0   lf'  k 0 [] [] [] [] [] lf) : ∃ k : Nat, ∃ (z4 : Int32), (z4 = (lf 2) + (1 : Int32)) ∧ E_ls_clear0   lf'  k 27 [(lf 1), (0 : Int32)] [] [] [] [] (upd (upd lf 1 0) 2 z4) := by
  cases k with
  | zero => exact h.elim
  | succ k =>
    rcases h with ⟨-, hb⟩ | ⟨e, -⟩ | h
    · exact ⟨k, hb⟩
    · exact absurd e (by decide)
    · exact h.elim
theorem iv_ls_clear0_27    {lf' : Nat → Int32} {x27_2 : Int32} {x27_3 : Int32} {lf : Nat → Int32} {k : Nat} (h : E_ls_clear0   lf'  k 27 [x27_2, x27_3] [] [] [] [] lf) : ∃ k : Nat, (x27_2.toInt ≤ x27_3.toInt) ∧ lf' = lf := by
  cases k with
  | zero => exact h.elim
  | succ k =>
    rcases h with ⟨e, -⟩ | ⟨-, b0, b1, e1, e2, e3, e4, e5, hb⟩ | h
    · exact absurd e (by decide)
    · cases e1; cases e2; cases e3; cases e4; cases e5; exact ⟨k, hb⟩
    · exact h.elim
