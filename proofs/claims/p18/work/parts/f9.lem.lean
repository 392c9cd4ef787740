/-! A RUN: at rest its numbers alone are sure -/
def PrN (QF : Nat → Nat → Int32) : Prop := ∀ i : Nat, i < 13 → PsB (QF i)
def PrZ (QF : Nat → Nat → Int32) (n : Int) : Prop := ∀ i : Nat, (i : Int) < n → (QF i 1).toInt = 0
def sumR (RR : Nat → Int) : Nat → Int
  | 0 => 0
  | n + 1 => sumR RR n + RR n
section RN9
variable {PG : Nat → Pgs} {RR : Nat → Int} {QO : Nat → Option Nat} {QF : Nat → Nat → Int32} {QA : Nat → Nat → Nat → Int32} {f : Nat → Int32} {a : Nat → Nat → Int32} {p : Nat} {x n n' : Int}
theorem PrN.up (h : PrN QF) (hb : PsB f) : PrN (va_up QF p f) := fun i hi => by
  by_cases e : i = p
  · subst e; rw [va_up_s]; exact hb
  · rw [va_up_n e]; exact h i hi
theorem PrA.nn (h : PrA PG RR QO QF QA) : PrN QF := fun i hi => (h.1 i hi).1
theorem PrZ.up (h : PrZ QF n) (e1 : (f 1).toInt = 0) (hp : (p : Int) = n) (hn : n' = n + 1) : PrZ (va_up QF p f) n' := fun i hi => by
  by_cases e : i = p
  · subst e; rw [va_up_s]; exact e1
  · rw [va_up_n e]; exact h i (by omega)
theorem pra_0 (h : PrN QF) (z : PrZ QF 13) : PrA PG (fun _ => RMX) QO QF QA := by
  have rm : RMX = 10000000000 := rfl
  refine ⟨fun i hi => ⟨h i hi, (show (0 : Int) ≤ RMX from by first | with_reducible rfl | with_reducible assumption | omega), fun _ => Int.le_refl _, fun q => ?_⟩, fun p k hk hp _ => z _ (by omega)⟩
  have := z i (by omega)
  omega
theorem tri_0 (z : PrZ QF 13) (e6 : (f 1).toInt = 1) : TrI (va_up QF 0 f) := fun q k hk hq _ => by
  rw [va_up_n (by omega)]; exact z _ (by omega)
theorem sum_le {n : Nat} : ∀ {m : Nat}, (∀ i : Nat, i < m → 0 ≤ RR i) → 0 ≤ sumR RR m
  | 0, _ => Int.le_refl _
  | m + 1, h => by
    have a := sum_le (m := m) (n := n) (fun i hi => h i (by omega))
    have b := h m (by omega)
    show 0 ≤ sumR RR m + RR m
    omega
theorem sum_n : ∀ {m : Nat}, m ≤ p → sumR (va_up RR p x) m = sumR RR m
  | 0, _ => rfl
  | m + 1, h => by
    show sumR (va_up RR p x) m + va_up RR p x m = sumR RR m + RR m
    rw [sum_n (m := m) (by omega), va_up_n (by omega)]
theorem sum_up : ∀ {m : Nat}, p < m → sumR (va_up RR p x) m = sumR RR m - RR p + x
  | 0, h => by omega
  | m + 1, h => by
    show sumR (va_up RR p x) m + va_up RR p x m = sumR RR m + RR m - RR p + x
    by_cases e : m = p
    · subst e; rw [sum_n (Nat.le_refl _), va_up_s]; omega
    · rw [sum_up (m := m) (by omega), va_up_n e]; omega
theorem PrA.sum (h : PrA PG RR QO QF QA) : 0 ≤ sumR RR 13 := sum_le (n := 0) (fun i hi => (h.1 i hi).2.1)
end RN9
