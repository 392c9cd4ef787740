/-! THE GRAMMAR of expressions over the kinds of tokens (the class's numbers), as a function: a tree and where it ends, or none.
Trees, in the kit's terms (a number's token: arg; a name's: index; a call: elem; its arguments: add, null; an index: sub; a prefix: mul; a postfix: div; between two: rem; a choice: old; an assignment: length). -/
abbrev Ast := Term
def eNum (t : Nat) : Ast := .arg t
def eName (t : Nat) : Ast := .index t
def eCall (t : Nat) (as : Ast) : Ast := .elem (.arg t) as
def eCons (e r : Ast) : Ast := .add e r
def eNil : Ast := .null
def eIdx (t : Nat) (e : Ast) : Ast := .sub (.arg t) e
def ePre (t : Nat) (e : Ast) : Ast := .mul (.arg t) e
def ePost (t : Nat) (e : Ast) : Ast := .div (.arg t) e
def eBin (t : Nat) (x y : Ast) : Ast := .rem (.arg t) (.elem x y)
def eCnd (x y z : Ast) : Ast := .old (.elem x (.elem y z))
def eAsg (t : Nat) (x y : Ast) : Ast := .length (.elem (.arg t) (.elem x y))
/-- ranks of operators between two -/
def rkO (v : Int) : Int :=
  if v = 137 then 1 else if v = 136 then 2 else if v = 124 then 3 else if v = 94 then 4 else if v = 38 then 5 else if v = 130 ∨ v = 131 then 6
  else if v = 60 ∨ v = 62 ∨ v = 132 ∨ v = 133 then 7 else if v = 134 ∨ v = 135 then 8 else if v = 43 ∨ v = 45 then 9 else if v = 42 ∨ v = 47 ∨ v = 37 then 10 else 0
def isPre (v : Int) : Prop := v = 45 ∨ v = 43 ∨ v = 33 ∨ v = 126 ∨ v = 138 ∨ v = 139
/-- the rank of the operators that it is made of, 0 if it is no such chain -/
def rkT (k : Nat → Int) : Ast → Int
  | .mul (.arg t) e => if k t = 43 then rkT k e else 0
  | .rem (.arg t) _ => rkO (k t)
  | _ => 0
/-- its depth -/
def dpT (k : Nat → Int) : Ast → Int
  | .mul (.arg t) e => if k t = 43 then dpT k e else dpT k e + 1
  | .div (.arg _) e => dpT k e + 1
  | .sub (.arg _) e => dpT k e + 1
  | .elem (.arg _) as => max 1 (dpT k as)
  | .add e r => max (dpT k e + 1) (dpT k r)
  | .rem (.arg t) (.elem x y) => max (if rkT k x = rkO (k t) then dpT k x else dpT k x + 1) (dpT k y + 1)
  | .old (.elem x (.elem y z)) => max (dpT k x) (max (dpT k y) (dpT k z)) + 1
  | .length (.elem (.arg _) (.elem x y)) => max (dpT k x) (dpT k y) + 1
  | .arg _ => 1
  | .index _ => 1
  | _ => 0
/-- a parser: from a level, a token, what is open -/
abbrev PPT := Int → Nat → Int → Option (Ast × Nat)
abbrev POT := Nat → Int → Option (Ast × Nat)
def pArgs (P : PPT) (k : Nat → Int) (o : Int) : Nat → Nat → Option (Ast × Nat)
  | 0, _ => none
  | n + 1, t => match P (-1) t o with
    | none => none
    | some (e, t1) => if k t1 = 44 then (match pArgs P k o n (t1 + 1) with
        | none => none
        | some (r, t2) => some (eCons e r, t2)) else some (eCons e eNil, t1)
def pPrim (P : PPT) (k : Nat → Int) (t : Nat) (o : Int) : Option (Ast × Nat) :=
  if k t = 40 then (if o < 60 then (match P (-1) (t + 1) (o + 1) with
      | none => none
      | some (e, t1) => if k t1 = 41 then some (e, t1 + 1) else none) else none)
  else if k t = 16 then
    (if k (t + 1) = 40 then (if o < 60 then (if k (t + 2) = 41 then some (eCall t eNil, t + 3) else (match pArgs P k (o + 1) 2048 (t + 2) with
        | none => none
        | some (as, t1) => if k t1 = 41 then some (eCall t as, t1 + 1) else none)) else none)
     else if k (t + 1) = 91 then (if o < 60 then (match P (-1) (t + 2) (o + 1) with
        | none => none
        | some (e, t1) => if k t1 = 93 then some (eIdx t e, t1 + 1) else none) else none)
     else some (eName t, t + 1))
  else if k t = 17 then some (eNum t, t + 1) else none

def pOper (P : PPT) (O : POT) (k : Nat → Int) (t : Nat) (o : Int) : Option (Ast × Nat) :=
  if (k t = 45 ∨ k t = 43 ∨ k t = 33 ∨ k t = 126 ∨ k t = 138 ∨ k t = 139) then (if o < 60 then (match O (t + 1) (o + 1) with
      | none => none
      | some (e, t1) => some (ePre t e, t1)) else none)
  else (match pPrim P k t o with
      | none => none
      | some (e, t1) => if k t1 = 138 ∨ k t1 = 139 then (if o + dpT k e < 60 then some (ePost t1 e, t1 + 1) else none) else some (e, t1))
def pTail (P : PPT) (k : Nat → Int) (L : Int) (o : Int) : Nat → Ast → Nat → Option (Ast × Nat)
  | 0, x, t => some (x, t)
  | n + 1, x, t => if 0 < rkO (k t) ∧ L ≤ rkO (k t) then (if o + dpT k x < 60 then (match P (rkO (k t) + 1) (t + 1) (o + 1) with
        | none => none
        | some (y, t1) => pTail P k L o n (eBin t x y) t1) else none)
      else some (x, t)
def pWhole (P : PPT) (k : Nat → Int) (L : Int) (o : Int) (x : Ast) (t : Nat) : Option (Ast × Nat) :=
  if L = -1 ∧ 256 ≤ k t then (if o + dpT k x < 60 then (match P (-1) (t + 1) (o + 1) with
      | none => none
      | some (y, t1) => some (eAsg t x y, t1)) else none)
  else (match pTail P k L o 2048 x t with
      | none => none
      | some (x1, t1) => if L ≤ 0 ∧ k t1 = 63 then (if o + dpT k x1 < 60 then (match P (-1) (t1 + 1) (o + 1) with
            | none => none
            | some (y, t2) => if k t2 = 58 then (match P 0 (t2 + 1) (o + 1) with
                | none => none
                | some (z, t3) => some (eCnd x1 y z, t3)) else none) else none) else some (x1, t1))
def pBoth (k : Nat → Int) : Nat → PPT × POT
  | 0 => (fun _ _ _ => none, fun _ _ => none)
  | n + 1 => (fun L t o => match pOper (pBoth k n).1 (pBoth k n).2 k t o with
      | none => none
      | some (x, t1) => pWhole (pBoth k n).1 k L o x t1, fun t o => pOper (pBoth k n).1 (pBoth k n).2 k t o)
