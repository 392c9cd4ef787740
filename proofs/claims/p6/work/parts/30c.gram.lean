def sNd (g : Nat) (a b : Ast) : Ast := .elem (.arg g) (.elem a b)
def sRow1 (a : Ast) : Ast := .add a .null
def sRow2 (a b : Ast) : Ast := .add a (.add b .null)
def vSing (t : Nat) : Ast := .arg t
def vInit (t : Nat) (e : Ast) : Ast := .mul (.arg t) e
def vRow (t : Nat) (e : Ast) : Ast := .sub (.arg t) e
def vList (t : Nat) (e l : Ast) : Ast := .rem (.arg t) (.elem e l)
def vStr (t : Nat) (e : Ast) (u : Nat) : Ast := .div (.arg t) (.elem e (.arg u))
/-- expressions at the level at which texts are read -/
def pE (k : Nat → Int) : PPT := (pBoth k 62).1
/-- constants between braces -/
def pKs (k : Nat → Int) (o : Int) : Nat → Nat → Option (Ast × Nat)
  | 0, _ => none
  | n + 1, t => match pE k 0 t o with
    | none => none
    | some (e, t1) => if k t1 = 44 then (match pKs k o n (t1 + 1) with
        | none => none
        | some (r, t2) => some (.add e r, t2)) else some (.add e .null, t1)
def pVar (k : Nat → Int) (o : Int) (t : Nat) : Option (Ast × Nat) :=
  if k t = 16 then
    (if k (t + 1) = 91 then (if o < 60 then (match pE k 0 (t + 2) (o + 1) with
        | none => none
        | some (e, t1) => if k t1 = 93 then
            (if k (t1 + 1) = 256 then
              (if k (t1 + 2) = 18 then some (vStr t e (t1 + 2), t1 + 3)
               else if k (t1 + 2) = 123 ∧ o < 60 then (match pKs k (o + 1) 2048 (t1 + 3) with
                 | none => none
                 | some (l, t2) => if k t2 = 125 then some (vList t e l, t2 + 1) else none) else none)
             else some (vRow t e, t1 + 1)) else none) else none)
     else if k (t + 1) = 256 then (match pE k (-1) (t + 2) o with
        | none => none
        | some (e, t1) => some (vInit t e, t1))
     else some (vSing t, t + 1))
  else none
def pVars (k : Nat → Int) (o : Int) : Nat → Nat → Option (Ast × Nat)
  | 0, _ => none
  | n + 1, t => match pVar k o t with
    | none => none
    | some (v, t1) => if k t1 = 44 then (match pVars k o n (t1 + 1) with
        | none => none
        | some (r, t2) => some (.add v r, t2)) else some (.add v .null, t1)
/-- a condition in brackets -/
def pCo (k : Nat → Int) (t : Nat) (o : Int) : Option (Ast × Nat) :=
  if k t = 40 ∧ o < 60 then (match pE k (-1) (t + 1) (o + 1) with
    | none => none
    | some (e, t1) => if k t1 = 41 then some (e, t1 + 1) else none) else none
def pSts (S : POT) (k : Nat → Int) (o : Int) : Nat → Nat → Option (Ast × Nat)
  | 0, t => some (.null, t)
  | n + 1, t => if k t = 125 then some (.null, t) else (match S t o with
    | none => none
    | some (s, t1) => (match pSts S k o n t1 with
      | none => none
      | some (r, t2) => some (.add s r, t2)))
/-- what stands in a switch; b: whether something is labelled -/
def pSw (S : POT) (k : Nat → Int) (o : Int) : Nat → Bool → Nat → Option (Ast × Nat)
  | 0, _, t => some (.null, t)
  | n + 1, b, t => if k t = 125 then some (.null, t) else (match (
      if k t = 11 then (match pE k 0 (t + 1) o with
        | none => none
        | some (e, t1) => if k t1 = 58 then some (sNd 10 e (.arg t), t1 + 1) else none)
      else if k t = 12 then (if k (t + 1) = 58 then some (sNd 11 (.arg t) .null, t + 2) else none)
      else if b then S t o else none) with
    | none => none
    | some (s, t1) => (match pSw S k o n true t1 with
      | none => none
      | some (r, t2) => some (.add s r, t2)))
/-- what stands first in the brackets of for, and its ; -/
def pF1 (k : Nat → Int) (t : Nat) (o : Int) : Option (Ast × Nat) :=
  if k t = 1 ∨ k t = 2 then (match pVars k o 2048 (t + 1) with
    | none => none
    | some (vs, t1) => if k t1 = 59 then some (sRow1 (sNd 3 (.arg (k t).toNat) vs), t1 + 1) else none)
  else if k t = 59 then some (.null, t + 1)
  else (match pE k (-1) t o with
    | none => none
    | some (e, t1) => if k t1 = 59 then some (sRow1 (sNd 2 e .null), t1 + 1) else none)
/-- an expression, or nothing before v -/
def pOp (k : Nat → Int) (g : Nat) (v : Int) (t : Nat) (o : Int) : Option (Ast × Nat) :=
  if k t = v then some (.null, t) else (match pE k (-1) t o with
    | none => none
    | some (e, t1) => if k t1 = v then some (sRow1 (sNd g e .null), t1) else none)
def pStm (S : POT) (k : Nat → Int) (t : Nat) (o : Int) : Option (Ast × Nat) :=
  if k t = 123 then (if o < 60 then (match pSts S k (o + 1) 2049 (t + 1) with
      | none => none
      | some (l, t1) => if k t1 = 125 then some (sNd 0 l .null, t1 + 1) else none) else none)
  else if k t = 59 then some (sNd 1 .null .null, t + 1)
  else if k t = 1 ∨ k t = 2 then (match pVars k o 2048 (t + 1) with
      | none => none
      | some (vs, t1) => if k t1 = 59 then some (sNd 3 (.arg (k t).toNat) vs, t1 + 1) else none)
  else if k t = 5 then (if o < 60 then (match pCo k (t + 1) (o + 1) with
      | none => none
      | some (e, t1) => (match S t1 (o + 1) with
        | none => none
        | some (s, t2) => if k t2 = 6 then (match S (t2 + 1) (o + 1) with
            | none => none
            | some (s', t3) => some (sNd 4 e (sRow2 s s'), t3)) else some (sNd 4 e (sRow1 s), t2))) else none)
  else if k t = 7 then (if o < 60 then (match pCo k (t + 1) (o + 1) with
      | none => none
      | some (e, t1) => (match S t1 (o + 1) with
        | none => none
        | some (s, t2) => some (sNd 5 e (sRow1 s), t2))) else none)
  else if k t = 8 then (if o < 60 then (match S (t + 1) (o + 1) with
      | none => none
      | some (s, t1) => if k t1 = 7 then (match pCo k (t1 + 1) (o + 1) with
          | none => none
          | some (e, t2) => if k t2 = 59 then some (sNd 6 (sRow1 s) e, t2 + 1) else none) else none) else none)
  else if k t = 9 then (if k (t + 1) = 40 ∧ o < 59 then (match pF1 k (t + 2) (o + 2) with
      | none => none
      | some (a, t1) => (match pOp k 8 59 t1 (o + 2) with
        | none => none
        | some (b, t2) => (match pOp k 2 41 (t2 + 1) (o + 2) with
          | none => none
          | some (d, t3) => (match S (t3 + 1) (o + 1) with
            | none => none
            | some (s, t4) => some (sNd 7 (.add a (.add b (.add d .null))) (sRow1 s), t4))))) else none)
  else if k t = 10 then (if o < 60 then (match pCo k (t + 1) (o + 1) with
      | none => none
      | some (e, t1) => if k t1 = 123 ∧ o < 59 then (match pSw S k (o + 2) 2049 false (t1 + 1) with
          | none => none
          | some (l, t2) => if k t2 = 125 then some (sNd 9 e l, t2 + 1) else none) else none) else none)
  else if k t = 13 ∨ k t = 14 then (if k (t + 1) = 59 then some (sNd ((k t).toNat - 1) .null .null, t + 2) else none)
  else if k t = 15 then (if k (t + 1) = 59 then some (sNd 14 .null .null, t + 2) else (match pE k (-1) (t + 1) o with
      | none => none
      | some (e, t1) => if k t1 = 59 then some (sNd 15 e .null, t1 + 1) else none))
  else (match pE k (-1) t o with
      | none => none
      | some (e, t1) => if k t1 = 59 then some (sNd 2 e .null, t1 + 1) else none)
def pSt (k : Nat → Int) : Nat → POT
  | 0 => fun _ _ => none
  | n + 1 => fun t o => pStm (pSt k n) k t o

def pPar (k : Nat → Int) (o : Int) (t : Nat) : Option (Ast × Nat) := if (k t = 1 ∨ k t = 2) ∧ k (t + 1) = 16 then (if k (t + 2) = 91 then (if o < 60 ∧ k (t + 3) = 93 then some (.sub (.arg (k t).toNat) (.arg (t + 1)), t + 4) else none) else some (.mul (.arg (k t).toNat) (.arg (t + 1)), t + 2)) else none
def pPars (k : Nat → Int) (o : Int) : Nat → Nat → Option (Ast × Nat)
  | 0, _ => none
  | n + 1, t => match pPar k o t with
    | none => none
    | some (v, t1) => if k t1 = 44 then (match pPars k o n (t1 + 1) with
        | none => none
        | some (r, t2) => some (.add v r, t2)) else if k t1 = 41 then some (.add v .null, t1 + 1) else none
def pHead (k : Nat → Int) (t : Nat) (o : Int) : Option (Ast × Nat) := if o < 60 then (if k (t + 2) = 41 then some (.null, t + 3) else if k (t + 2) = 3 then (if k (t + 3) = 41 then some (.null, t + 4) else none) else pPars k (o + 1) 2048 (t + 2)) else none
def pEn (k : Nat → Int) (o : Int) (t : Nat) : Option (Ast × Nat) := if k t = 16 then (if k (t + 1) = 256 then (match pE k 0 (t + 2) o with
    | none => none
    | some (e, t1) => some (vInit t e, t1)) else some (vSing t, t + 1)) else none
def pEns (k : Nat → Int) (o : Int) : Nat → Nat → Option (Ast × Nat)
  | 0, _ => none
  | n + 1, t => match pEn k o t with
    | none => none
    | some (v, t1) => if k t1 = 44 then (match pEns k o n (t1 + 1) with
        | none => none
        | some (r, t2) => some (.add v r, t2)) else if k t1 = 125 ∧ k (t1 + 1) = 59 then some (.add v .null, t1 + 2) else none
def pEnum (k : Nat → Int) (t : Nat) (o : Int) : Option (Ast × Nat) := if k (t + 1) = 123 ∧ o < 60 then (match pEns k (o + 1) 2048 (t + 2) with
    | none => none
    | some (vs, t1) => some (sNd 20 vs .null, t1)) else none
def pItem (k : Nat → Int) (t : Nat) (o : Int) : Option (Ast × Nat) :=
  if k t = 4 then pEnum k t o
  else if k t = 1 ∨ k t = 2 ∨ k t = 3 then
    (if k (t + 1) = 16 ∧ k (t + 2) = 40 then (match pHead k (t + 1) o with
      | none => none
      | some (ps, t1) => if k t1 = 123 ∧ o < 60 then (match pSts (pSt k 61) k (o + 1) 2049 (t1 + 1) with
        | none => none
        | some (b, t2) => if k t2 = 125 then some (sNd 22 (.elem (.arg (k t).toNat) (.arg (t + 1))) (.elem ps b), t2 + 1) else none) else none)
     else if k t = 3 then none
     else (match pVars k o 2048 (t + 1) with
      | none => none
      | some (vs, t1) => if k t1 = 59 then some (sNd 21 (.arg (k t).toNat) vs, t1 + 1) else none))
  else none
def pItems (k : Nat → Int) : Nat → Nat → Option (Ast × Nat)
  | 0, _ => none
  | n + 1, t => if k t = 0 then some (.null, t) else (match pItem k t 0 with
    | none => none
    | some (it, t1) => (match pItems k n t1 with
      | none => none
      | some (r, t2) => some (.add it r, t2)))
