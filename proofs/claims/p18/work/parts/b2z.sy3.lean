/-! symbols that are no one's parameters -/
def Sy3 (ca : Nat → Nat → Int32) (a b : Int) : Prop := ∀ y : Nat, a ≤ (y : Int) → (y : Int) < b → (ca 49 y).toInt ≤ 3
theorem sy3_0 {ca : Nat → Nat → Int32} {a : Int} : Sy3 ca a a := fun y h k => absurd k (by first | with_reducible rfl | with_reducible assumption | omega)
theorem Sy3.eq {ca : Nat → Nat → Int32} {a b b' : Int} (h : Sy3 ca a b) (e : b = b') : Sy3 ca a b' := e ▸ h
theorem Sy3.cg {ca ca' : Nat → Nat → Int32} {a b kn ns : Int} (h : Sy3 ca a b) (g : CaG ca ca' kn ns) (h1 : b ≤ ns) : Sy3 ca' a b := fun y p q => by rw [(g.2.2 y (by first | with_reducible rfl | with_reducible assumption | omega)).1]; exact h y p q
theorem Sy3.ly {ca ca' : Nat → Nat → Int32} {a ns tx : Int} {y sort at_ size : Int32} (h : Sy3 ca a ns) (u : LyU ca ca' y sort at_ size tx) (e : y.toInt = ns) (h0 : 0 ≤ ns) (hs : 0 ≤ sort.toInt ∧ sort.toInt ≤ 3) : Sy3 ca' a (ns + 1) := fun z p q => by
  have hy := cl_nat (x := y) (by first | exact oz_016f458179 hy | omega)
  by_cases k : (z : Int) < ns
  · rw [u.1 49 z (by first | with_reducible rfl | with_reducible assumption | omega)]; exact h z p k
  · have : z = y.toNatClampNeg := by omega
    subst this
    rw [u.2.1 (by first | with_reducible rfl | with_reducible assumption | omega) (by first | with_reducible rfl | with_reducible assumption | omega)]; exact hs.2
