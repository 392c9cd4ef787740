theorem cl_nat {x : Int32} (h : 0 ≤ x.toInt) : (x.toNatClampNeg : Int) = x.toInt := by
  show ((x.toInt.toNat : Nat) : Int) = x.toInt
  omega
theorem va_up_s {α : Type} {f : Nat → α} {k : Nat} {v : α} : va_up f k v k = v := by simp [va_up]
theorem va_up_n {α : Type} {f : Nat → α} {k j : Nat} {v : α} (h : j ≠ k) : va_up f k v j = f j := by simp [va_up, h]
def AddL (n : Int32) (g g' : Nat → Option Nat) (a : Nat) : Prop := (∀ j : Nat, (j : Int) < n.toInt → g' j = g j) ∧ ∀ j : Nat, (j : Int) = n.toInt → g' j = some a
def KeepL (n : Int32) (g g' : Nat → Option Nat) : Prop := ∀ j : Nat, (j : Int) < n.toInt → g' j = g j
theorem i_div4 {x z : Int32} (e : z = x / 4) (h : 0 ≤ x.toInt) : z.toInt = x.toInt / 4 := by
  subst e
  rw [Int32.toInt_div_of_ne_right _ _ (by decide)]
  rw [show (4 : Int32).toInt = 4 from rfl, Int.tdiv_eq_ediv_of_nonneg h]
def syC (a : Nat) (s : Nat → Int32) : Nat × va_E := (a, .inr (3, [.int (s 0), .int (s 1), .int (s 2), .int (s 3), .int (s 4), .int (s 5), .int (s 6)]))
