/-! WHAT LIFE NEEDS: the tape stays -/
def Md1 (a b : Nat → Nat → Int32) : Prop := b 1 = a 1
theorem Md1.tr {a b c : Nat → Nat → Int32} (h : Md1 a b) (k : Md1 b c) : Md1 a c := k.trans h
