def R_reset_TxpB   (f : Nat → Int32) (a : Nat → Nat → Int32) (f' : Nat → Int32) (a' : Nat → Nat → Int32) : Prop := (f' = (upd (upd (upd (upd (upd f 17 0) 18 (-2)) 19 0) 20 0) 21 0) ∧ a' = a) ∨ False

