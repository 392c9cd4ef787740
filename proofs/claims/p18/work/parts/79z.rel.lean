def R_ar_copyI  (ic : Nat) (ig : Nat → Int32) (p0 : Int32)  (gn' : Nat → Int32) : Prop := ((((¬ (p0.toInt = (nI ic).toInt)) ∧ ∃ (z4 : Int32), (z4 = if p0 < (nI ic) then p0 else (nI ic)) ∧ gn' = (va_cpy ig (fun _ => 0) (0 : Int32).toNatClampNeg (0 : Int32).toNatClampNeg z4.toNatClampNeg)) ∨ ((p0.toInt = (nI ic).toInt) ∧ gn' = ig))) ∨ False

