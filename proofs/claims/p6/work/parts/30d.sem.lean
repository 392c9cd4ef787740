/-! ATTRIBUTES of expressions: what an expression is (0 a number, 1 a variable, 2 a row of ints, 3 nothing, 4 an element, 5 a row of chars), what is known of it (0 its number, 2 it divides by 0, 3 it varies), its number, its height; none: something is wrong. -/
abbrev Ent := Int × Int32
abbrev Fnc := Bool × List Int
abbrev Atr := Int × Int × Int32 × Int
def aNum (a : Atr) : Option Atr := if a.1 = 2 ∨ a.1 = 3 ∨ a.1 = 5 then none else some (0, a.2)
def aTgt (a : Atr) : Option Atr := if a.1 = 1 ∨ a.1 = 4 then some a else none
def aIdx (g : Option Ent) : Option Unit := g.bind fun g => if g.1 = 2 ∨ g.1 = 3 then some () else none
def aNam (g : Ent) : Atr := if g.1 = 0 then (0, 0, g.2, 1) else (if g.1 = 1 then 1 else if g.1 = 2 then 2 else 5, 3, 0, 1)
def aArg (w : Int) (a : Atr) : Option Int := if w = 1 then (aNum a).map (fun _ => 1) else if (a.1 = 2 ∧ (w = 16 ∨ w = 17)) ∨ (a.1 = 5 ∧ (w = 16 ∨ w = 18)) then some 2 else none
def rku (v : Int) (a : Int32) : Int32 := if v = 45 then -a else if v = 33 then (if a.toInt = 0 then 1 else 0) else a ^^^ (-1 : Int32)
def rck (v : Int) (a b : Int32) : Int32 :=
  if v = 37 then (if b.toInt = 0 then 0 else a - a / b * b) else if v = 38 then a &&& b else if v = 42 then a * b else if v = 43 then a + b else if v = 45 then a - b
  else if v = 47 then (if b.toInt = 0 then 0 else a / b) else if v = 60 then (if b.toInt ≤ a.toInt then 0 else 1) else if v = 62 then (if a.toInt ≤ b.toInt then 0 else 1)
  else if v = 94 then a ^^^ b else if v = 124 then a ||| b else if v = 130 then (if a.toInt = b.toInt then 1 else 0) else if v = 132 then (if b.toInt < a.toInt then 0 else 1)
  else if v = 133 then (if a.toInt < b.toInt then 0 else 1) else if v = 134 then a <<< ((b &&& 31) &&& 31) else if v = 135 then a >>> ((b &&& 31) &&& 31) else (if a.toInt = b.toInt then 0 else 1)
def nz (v : Int32) : Int32 := if v.toInt = 0 then 0 else 1
def aLog (e : Int) (x y : Int × Int32) : Int × Int32 := if x.1 = 0 then (if x.2.toInt = 0 then (if e = 0 then (0, 0) else (y.1, nz y.2)) else (if e = 1 then (0, 1) else (y.1, nz y.2))) else x
def aFold (v : Int) (x y : Int × Int32) : Int × Int32 :=
  if x.1 = 3 ∨ y.1 = 3 then (3, x.2) else if v = 136 then aLog 0 x y else if v = 137 then aLog 1 x y
  else if x.1 = 2 ∨ y.1 = 2 ∨ (y.1 = 0 ∧ (v = 47 ∨ v = 37) ∧ y.2.toInt = 0) then (2, x.2) else (0, rck v x.2 y.2)
def aPre (v : Int) (a : Atr) : Option Atr := if v = 138 ∨ v = 139 then (aTgt a).bind (fun b => some (0, 3, 0, b.2.2.2)) else (aNum a).bind (fun b => some (0, b.2.1, if v = 43 then b.2.2.1 else rku v b.2.2.1, b.2.2.2))
def aBin (v : Int) (a b : Atr) : Atr := (0, (aFold v (a.2.1, a.2.2.1) (b.2.1, b.2.2.1)).1, (aFold v (a.2.1, a.2.2.1) (b.2.1, b.2.2.1)).2, max a.2.2.2 (b.2.2.2 + 1))
def aCnd (a b d : Atr) : Atr := (0, if b.2.1 = 3 ∨ d.2.1 = 3 then 3 else if a.2.1 = 0 then (if a.2.2.1.toInt = 0 then d.2.1 else b.2.1) else a.2.1, if a.2.2.1.toInt = 0 then d.2.2.1 else b.2.2.1, max a.2.2.2 (max b.2.2.2 d.2.2.2))
def aAsg (a b : Atr) : Atr := (0, 3, 0, if a.1 = 4 then max a.2.2.2 (b.2.2.2 + 1) else b.2.2.2)
/-- the function of a call, unless the name is another's -/
def aFun (g : Option Ent) (f : Option Fnc) : Option Fnc := match g with
  | some _ => none
  | none => f
/-- of a tree; for the arguments of a call: what is wanted of them, and how much is held before them -/
def att (k : Nat → Int) (vl : Nat → Int32) (G : Int32 → Option Ent) (F : Int32 → Option Fnc) : Ast → List Int → Int → Option Atr
  | .arg t, _, _ => some (0, 0, vl t, 1)
  | .index t, _, _ => (G (vl t)).bind fun g => some (aNam g)
  | .elem (.arg t) as, _, _ => (aFun (G (vl t)) (F (vl t))).bind fun f => (att k vl G F as f.2 0).bind fun b => some (if f.1 then 3 else 0, 3, 0, max 1 b.2.2.2)
  | .null, ws, _ => if ws = [] then some (0, 3, 0, 1) else none
  | .add e r, ws, hd => match ws with
    | [] => none
    | w :: ws => (att k vl G F e [] 0).bind fun a => (aArg w a).bind fun n => (att k vl G F r ws (hd + n)).bind fun b => some (0, 3, 0, max (hd + (if n = 2 then 2 else a.2.2.2)) b.2.2.2)
  | .sub (.arg t) e, _, _ => (aIdx (G (vl t))).bind fun _ => ((att k vl G F e [] 0).bind aNum).bind fun a => some (4, 3, 0, a.2.2.2)
  | .mul (.arg t) e, _, _ => (att k vl G F e [] 0).bind (aPre (k t))
  | .div (.arg _) e, _, _ => ((att k vl G F e [] 0).bind aTgt).bind fun a => some (0, 3, 0, a.2.2.2)
  | .rem (.arg t) (.elem x y), _, _ => ((att k vl G F x [] 0).bind aNum).bind fun a => ((att k vl G F y [] 0).bind aNum).bind fun b => some (aBin (k t) a b)
  | .old (.elem x (.elem y z)), _, _ => ((att k vl G F x [] 0).bind aNum).bind fun a => ((att k vl G F y [] 0).bind aNum).bind fun b => ((att k vl G F z [] 0).bind aNum).bind fun d => some (aCnd a b d)
  | .length (.elem (.arg _) (.elem x y)), _, _ => ((att k vl G F x [] 0).bind aTgt).bind fun a => ((att k vl G F y [] 0).bind aNum).bind fun b => some (aAsg a b)
  | _, _, _ => none
section ATT
variable {k : Nat → Int} {vl : Nat → Int32} {G : Int32 → Option Ent} {F : Int32 → Option Fnc} {t : Nat} {e r x y z : Ast} {ws : List Int} {w hd : Int}
theorem att_num : att k vl G F (eNum t) ws hd = some (0, 0, vl t, 1) := by first | rfl | simp [att, eNum]
theorem att_name : att k vl G F (eName t) ws hd = (G (vl t)).bind fun g => some (aNam g) := by first | rfl | simp [att, eName]
theorem att_call : att k vl G F (eCall t e) ws hd = (aFun (G (vl t)) (F (vl t))).bind fun f => (att k vl G F e f.2 0).bind fun b => some (if f.1 then 3 else 0, 3, 0, max 1 b.2.2.2) := by first | rfl | simp [att, eCall]
theorem att_nil : att k vl G F eNil ws hd = if ws = [] then some (0, 3, 0, 1) else none := by first | rfl | simp [att, eNil]
theorem att_cons0 : att k vl G F (eCons e r) [] hd = none := by first | rfl | simp [att, eCons]
theorem att_cons : att k vl G F (eCons e r) (w :: ws) hd = (att k vl G F e [] 0).bind fun a => (aArg w a).bind fun n => (att k vl G F r ws (hd + n)).bind fun b => some (0, 3, 0, max (hd + (if n = 2 then 2 else a.2.2.2)) b.2.2.2) := by first | rfl | simp [att, eCons]
theorem att_idx : att k vl G F (eIdx t e) ws hd = (aIdx (G (vl t))).bind fun _ => ((att k vl G F e [] 0).bind aNum).bind fun a => some (4, 3, 0, a.2.2.2) := by first | rfl | simp [att, eIdx]
theorem att_pre : att k vl G F (ePre t e) ws hd = (att k vl G F e [] 0).bind (aPre (k t)) := by first | rfl | simp [att, ePre]
theorem att_post : att k vl G F (ePost t e) ws hd = ((att k vl G F e [] 0).bind aTgt).bind fun a => some (0, 3, 0, a.2.2.2) := by first | rfl | simp [att, ePost]
theorem att_bin : att k vl G F (eBin t x y) ws hd = ((att k vl G F x [] 0).bind aNum).bind fun a => ((att k vl G F y [] 0).bind aNum).bind fun b => some (aBin (k t) a b) := by first | rfl | simp [att, eBin]
theorem att_cnd : att k vl G F (eCnd x y z) ws hd = ((att k vl G F x [] 0).bind aNum).bind fun a => ((att k vl G F y [] 0).bind aNum).bind fun b => ((att k vl G F z [] 0).bind aNum).bind fun d => some (aCnd a b d) := by first | rfl | simp [att, eCnd]
theorem att_asg : att k vl G F (eAsg t x y) ws hd = ((att k vl G F x [] 0).bind aTgt).bind fun a => ((att k vl G F y [] 0).bind aNum).bind fun b => some (aAsg a b) := by first | rfl | simp [att, eAsg]
end ATT

def lkN (L : List (Int32 × Ent)) (v : Int32) : Nat → Option Ent
  | 0 => none
  | n + 1 => match L[n]? with
    | none => none
    | some e => if e.1 = v then some e.2 else lkN L v n
def lkp (L : List (Int32 × Ent)) (v : Int32) : Option Ent := lkN L v L.length
def knN (L : List (Int32 × Ent)) (v : Int32) (sc : Nat) : Nat → Bool
  | 0 => false
  | n + 1 => if n < sc then false else match L[n]? with
    | none => false
    | some e => if e.1 = v then true else knN L v sc n
/-! what they mean -/
def aEff (a : Atr) : Option Atr := if a.1 = 2 ∨ a.1 = 5 then none else some a
def aKon (a : Atr) : Option Atr := (aNum a).bind fun b => if b.2.1 = 0 then some b else none
abbrev Nms := List (Int32 × Ent)
/-- names, words, height, the numbers of the cases so far, whether there was a default -/
abbrev Sg := Nms × Int × Int × List Int32 × Bool
def dcl (tp : Bool) (F : Int32 → Option Fnc) (sc : Nat) (L : Nms) (nm : Int32) (g : Ent) : Option Nms := if (tp = true ∧ (F nm).isSome = true) ∨ knN L nm sc L.length = true then none else some (L ++ [(nm, g)])
def semKs (k : Nat → Int) (vl : Nat → Int32) (G : Int32 → Option Ent) (F : Int32 → Option Fnc) : Ast → Option Int
  | .null => some 0
  | .add e r => ((att k vl G F e [] 0).bind aKon).bind fun _ => (semKs k vl G F r).bind fun n => some (n + 1)
  | _ => none
def semSz (k : Nat → Int) (vl : Nat → Int32) (G : Int32 → Option Ent) (F : Int32 → Option Fnc) (e : Ast) : Option Int := ((att k vl G F e [] 0).bind aKon).bind fun a => if 1 ≤ a.2.2.1.toInt ∧ a.2.2.1.toInt ≤ 4096 then some a.2.2.1.toInt else none
/-- words of a row -/
def wds (ch : Bool) (n : Int) : Int := if ch = true then (n + 3) / 4 else n
/-- one variable: tp: of the text, ch: of chars; ql: the length of a string -/
def semVar (k : Nat → Int) (vl : Nat → Int32) (ql : Nat → Int) (F : Int32 → Option Fnc) (tp ch : Bool) (sc : Nat) (v : Ast) (s : Sg) : Option Sg := match v with
  | .arg t => (dcl tp F sc s.1 (vl t) (1, 0)).bind fun L => some (L, s.2.1 + 1, s.2.2)
  | .mul (.arg t) e => ((att k vl (lkp s.1) F e [] 0).bind (if tp = true then aKon else aNum)).bind fun a => (dcl tp F sc s.1 (vl t) (1, 0)).bind fun L => some (L, s.2.1 + 1, if tp = true then s.2.2.1 else max s.2.2.1 a.2.2.2, s.2.2.2)
  | .sub (.arg t) e => (semSz k vl (lkp s.1) F e).bind fun n => (dcl tp F sc s.1 (vl t) (if ch = true then 3 else 2, 0)).bind fun L => some (L, s.2.1 + wds ch n, s.2.2)
  | .rem (.arg t) (.elem e l) => (semSz k vl (lkp s.1) F e).bind fun n => (semKs k vl (lkp s.1) F l).bind fun m => if m ≤ n then (dcl tp F sc s.1 (vl t) (if ch = true then 3 else 2, 0)).bind fun L => some (L, s.2.1 + wds ch n, s.2.2) else none
  | .div (.arg t) (.elem e (.arg u)) => (semSz k vl (lkp s.1) F e).bind fun n => if ch = true ∧ ql u < n then (dcl tp F sc s.1 (vl t) (3, 0)).bind fun L => some (L, s.2.1 + wds ch n, s.2.2) else none
  | _ => none
def semVars (k : Nat → Int) (vl : Nat → Int32) (ql : Nat → Int) (F : Int32 → Option Fnc) (tp ch : Bool) (sc : Nat) : Ast → Sg → Option Sg
  | .null, s => some s
  | .add v r, s => (semVar k vl ql F tp ch sc v s).bind (semVars k vl ql F tp ch sc r)
  | _, _ => none
/-- an expression: its height counts -/
def semE (k : Nat → Int) (vl : Nat → Int32) (F : Int32 → Option Fnc) (f : Atr → Option Atr) (e : Ast) (s : Sg) : Option Sg := ((att k vl (lkp s.1) F e [] 0).bind f).bind fun a => some (s.1, s.2.1, max s.2.2.1 a.2.2.2, s.2.2.2)
def isChr (a : Ast) : Bool := match a with
  | .arg n => decide (n = 2)
  | _ => false
/-- rt: the type of the function; lp, bk: whether a loop, a loop or a switch is around; sc: where the names of the innermost block begin -/
def sem (k : Nat → Int) (vl : Nat → Int32) (ql : Nat → Int) (F : Int32 → Option Fnc) (rt : Int) : Ast → Nat → Bool → Bool → Sg → Option Sg
  | .null, _, _, _, s => some s
  | .add a r, sc, lp, bk, s => (sem k vl ql F rt a sc lp bk s).bind fun s' => sem k vl ql F rt r sc lp bk s'
  | .elem (.arg g) (.elem a b), sc, lp, bk, s =>
    if g = 0 then (sem k vl ql F rt a s.1.length lp bk s).bind fun s' => some (s'.1.take s.1.length, s'.2)
    else if g = 1 then some s
    else if g = 2 then semE k vl F aEff a s
    else if g = 3 then semVars k vl ql F false (isChr a) sc b s
    else if g = 4 then (semE k vl F aNum a s).bind fun s' => sem k vl ql F rt b sc lp bk s'
    else if g = 5 then (semE k vl F aNum a s).bind fun s' => sem k vl ql F rt b sc true true s'
    else if g = 6 then (sem k vl ql F rt a sc true true s).bind fun s' => semE k vl F aNum b s'
    else if g = 7 then (sem k vl ql F rt a s.1.length lp bk s).bind fun s' => (sem k vl ql F rt b s.1.length true true s').bind fun s'' => some (s''.1.take s.1.length, s''.2)
    else if g = 8 then semE k vl F aNum a s
    else if g = 9 then (semE k vl F aNum a s).bind fun s' => (sem k vl ql F rt b s.1.length lp true (s'.1, s'.2.1, s'.2.2.1, [], false)).bind fun s'' => some (s''.1.take s.1.length, s''.2.1, s''.2.2.1, s.2.2.2)
    else if g = 10 then ((att k vl (lkp s.1) F a [] 0).bind aKon).bind fun x => if x.2.2.1 ∈ s.2.2.2.1 then none else some (s.1, s.2.1, s.2.2.1, s.2.2.2.1 ++ [x.2.2.1], s.2.2.2.2)
    else if g = 11 then (if s.2.2.2.2 = true then none else some (s.1, s.2.1, s.2.2.1, s.2.2.2.1, true))
    else if g = 12 then (if bk = true then some s else none)
    else if g = 13 then (if lp = true then some s else none)
    else if g = 14 then (if rt = 3 then some s else none)
    else if g = 15 then (if rt = 3 then none else semE k vl F aNum a s)
    else none
  | _, _, _, _, _ => none

def flk (v : Int32) : List (Int32 × Fnc) → Option Fnc
  | [] => none
  | e :: r => if e.1 = v then some e.2 else flk v r
def tokV (v : Ast) : Nat := match v with
  | .arg t => t
  | .mul (.arg t) _ => t
  | .sub (.arg t) _ => t
  | .rem (.arg t) (.elem _ _) => t
  | .div (.arg t) (.elem _ (.arg _)) => t
  | _ => 0
abbrev FnE := Int32 × Int × List Int
def wnT (w : Int) : Int := if w = 2 then 1 else w
def fnT (e : FnE) : Int32 × Fnc := (e.1, decide (e.2.1 = 3), e.2.2.map wnT)
def tokP (v : Ast) : Nat := match v with
  | .mul _ (.arg t) => t
  | .sub _ (.arg t) => t
  | _ => 0
def entP (v : Ast) : Ent := match v with
  | .sub (.arg ty) _ => (if ty = 2 then 3 else 2, 0)
  | _ => (1, 0)
def wdP (v : Ast) : Int := match v with
  | .sub _ _ => 2
  | _ => 1
def wnV (v : Ast) : Int := match v with
  | .sub (.arg ty) _ => 16 + (ty : Int)
  | .mul (.arg ty) _ => (ty : Int)
  | _ => 0
def wnX : Ast → List Int
  | .add v r => wnV v :: wnX r
  | _ => []
def semPars (vl : Nat → Int32) (F : Int32 → Option Fnc) (sc : Nat) : Ast → Nms → Int → Option (Nms × Int)
  | .null, L, w => some (L, w)
  | .add v r, L, w => (dcl false F sc L (vl (tokP v)) (entP v)).bind fun L' => semPars vl F sc r L' (w + wdP v)
  | _, _, _ => none
def semEn (k : Nat → Int) (vl : Nat → Int32) (G : Int32 → Option Ent) (F : Int32 → Option Fnc) (v : Ast) (n : Int32) : Option Int32 := match v with
  | .arg _ => some n
  | .mul (.arg _) e => ((att k vl G F e [] 0).bind aKon).bind fun a => some a.2.2.1
  | _ => none
def semEns (k : Nat → Int) (vl : Nat → Int32) (F : Int32 → Option Fnc) (sc : Nat) : Ast → Nms → Int32 → Option Nms
  | .null, L, _ => some L
  | .add v r, L, n => (semEn k vl (lkp L) F v n).bind fun x => (dcl true F sc L (vl (tokV v)) (0, x)).bind fun L' => semEns k vl F sc r L' (x + 1)
  | _, _, _ => none
def dupF (nm : Int32) (L : List FnE) : Bool := L.any (fun e => decide (e.1 = nm))
theorem dupF_t {nm : Int32} {L : List FnE} {n j : Nat} {e : FnE} (h : L[j]? = some e) (hj : j < n) (he : e.1 = nm) : dupF nm (L.take n) = true := by
  unfold dupF
  rw [List.any_eq_true]
  refine ⟨e, ?_, decide_eq_true he⟩
  refine List.mem_of_getElem? (i := j) ?_
  rw [List.getElem?_take_of_lt hj]
  exact h
theorem dupF_f {nm : Int32} {L : List FnE} {n : Nat} (h : ∀ (j : Nat) (e : FnE), j < n → L[j]? = some e → ¬ e.1 = nm) : dupF nm (L.take n) = false := by
  cases hd : dupF nm (L.take n) with
  | false => rfl
  | true =>
    exfalso
    unfold dupF at hd
    rw [List.any_eq_true] at hd
    obtain ⟨e, h1, h2⟩ := hd
    obtain ⟨j, h3⟩ := List.mem_iff_getElem?.mp h1
    have hj := (List.getElem?_eq_some_iff.mp h3).1
    rw [List.length_take] at hj
    rw [List.getElem?_take_of_lt (by omega)] at h3
    exact h j e (by omega) h3 (of_decide_eq_true h2)
def fnO (vl : Nat → Int32) : Ast → List FnE
  | .elem (.arg g) (.elem a b) => if g = 22 then (match a, b with
      | .elem (.arg ty) (.arg t), .elem ps _ => [(vl t, (ty : Int), wnX ps)]
      | _, _ => []) else []
  | _ => []
abbrev Tg := Nms × Int × Nat
def semFn (k : Nat → Int) (vl : Nat → Int32) (ql : Nat → Int) (LX : List FnE) (ty t : Nat) (ps bd : Ast) (s : Tg) : Option Tg := (if dupF (vl t) (LX.take s.2.2) = true then none else semPars vl (fun v => flk v (LX.map fnT)) s.1.length ps s.1 0).bind fun p => (sem k vl ql (fun v => flk v (LX.map fnT)) (ty : Int) bd s.1.length false false (p.1, p.2, 0, [], false)).bind fun s' => if 4 + s'.2.1 + s'.2.2.1 ≤ 8192 then some (s.1, s.2.1, s.2.2 + 1) else none
def semItem (k : Nat → Int) (vl : Nat → Int32) (ql : Nat → Int) (LX : List FnE) : Ast → Tg → Option Tg
  | .elem (.arg g) (.elem a b), s =>
    if g = 20 then (semEns k vl (fun v => flk v (LX.map fnT)) 0 a s.1 0).bind fun L => some (L, s.2)
    else if g = 21 then (semVars k vl ql (fun v => flk v (LX.map fnT)) true (isChr a) 0 b (s.1, s.2.1, 0, [], false)).bind fun s' => some (s'.1, s'.2.1, s.2.2)
    else if g = 22 then (match a, b with
      | .elem (.arg ty) (.arg t), .elem ps bd => semFn k vl ql LX ty t ps bd s
      | _, _ => none)
    else none
  | _, _ => none
def fnsO (vl : Nat → Int32) : Ast → List FnE
  | .add it r => fnO vl it ++ fnsO vl r
  | _ => []
def semItems (k : Nat → Int) (vl : Nat → Int32) (ql : Nat → Int) (LX : List FnE) : Ast → Tg → Option Tg
  | .null, s => some s
  | .add it r, s => (semItem k vl ql LX it s).bind fun s' => semItems k vl ql LX r s'
  | _, _ => none
def flkX (v : Int32) : List FnE → Option (Int × List Int)
  | [] => none
  | e :: r => if e.1 = v then some e.2 else flkX v r
def mainOk (LX : List FnE) : Bool := decide (flkX 25 LX = some (1, [1]))
def jdg (LX : List FnE) (m : Nat) (g : Int) : Option Unit := if mainOk LX = true ∧ m ≤ 200 ∧ g ≤ 8192 then some () else none
def accT (G0 : List FnE) (k : Nat → Int) (vl : Nat → Int32) (ql : Nat → Int) : Prop := ∃ (tree : Ast) (t2 : Nat) (s : Tg), pItems k 2050 0 = some (tree, t2) ∧ semItems k vl ql (G0 ++ fnsO vl tree) tree ([], 0, 10) = some s ∧ jdg (G0 ++ fnsO vl tree) (s.2.2 - 10) s.2.1 = some ()
def isL (c : Int) : Bool := decide ((97 ≤ c ∧ c ≤ 122) ∨ (65 ≤ c ∧ c ≤ 90) ∨ c = 95)
def isD (c : Int) : Bool := decide (48 ≤ c ∧ c ≤ 57)
def lnE (b : Nat → Int) : Nat → Nat → Nat
  | 0, i => i
  | d + 1, i => if b i = 10 then i else lnE b d (i + 1)
def cmE (b : Nat → Int) (p : Nat) : Nat → Nat → Nat
  | 0, _ => p
  | d + 1, i => if b i = 42 ∧ b (i + 1) = 47 then i + 2 else cmE b p d (i + 1)
def sk1 (b : Nat → Int) (n p : Nat) : Nat := if b p = 32 ∨ b p = 9 ∨ b p = 10 ∨ b p = 13 then p + 1 else if b p = 47 ∧ b (p + 1) = 47 then lnE b (n - p) p else if b p = 47 ∧ b (p + 1) = 42 then cmE b p (n - (p + 2)) (p + 2) else p
def skp (b : Nat → Int) (n : Nat) : Nat → Nat → Nat
  | 0, p => p
  | k + 1, p => if p < sk1 b n p then skp b n k (sk1 b n p) else p
theorem lnE_b {b : Nat → Int} : ∀ (d i : Nat), i ≤ lnE b d i ∧ lnE b d i ≤ i + d
  | 0, i => ⟨Nat.le_refl _, Nat.le_refl _⟩
  | d + 1, i => by
    unfold lnE
    by_cases h : b i = 10
    · rw [if_pos h]; omega
    · rw [if_neg h]
      have := lnE_b (b := b) d (i + 1)
      omega
theorem cmE_b {b : Nat → Int} {p : Nat} : ∀ (d i : Nat), p ≤ i → p ≤ cmE b p d i ∧ (cmE b p d i = p ∨ (i + 2 ≤ cmE b p d i ∧ cmE b p d i ≤ i + d + 1))
  | 0, i, h => ⟨Nat.le_refl _, Or.inl rfl⟩
  | d + 1, i, h => by
    unfold cmE
    by_cases q : b i = 42 ∧ b (i + 1) = 47
    · rw [if_pos q]; omega
    · rw [if_neg q]
      have := cmE_b (b := b) (p := p) d (i + 1) (by omega)
      omega
def fIx (w : List Int) : List (List Int) → Nat
  | [] => 0
  | x :: r => if x = w then 0 else fIx w r + 1
theorem fIx_le {w : List Int} : ∀ {NL : List (List Int)}, fIx w NL ≤ NL.length
  | [] => Nat.le_refl _
  | x :: r => by
    show (if x = w then 0 else fIx w r + 1) ≤ r.length + 1
    have := fIx_le (w := w) (NL := r)
    by_cases h : x = w
    · rw [if_pos h]; omega
    · rw [if_neg h]; omega
theorem fIx_at {w : List Int} : ∀ {NL : List (List Int)} {i : Nat}, NL[i]? = some w → (∀ (j : Nat) (x : List Int), j < i → NL[j]? = some x → ¬ x = w) → fIx w NL = i
  | [], i, h, _ => by simp at h
  | x :: r, 0, h, _ => by
    have e : x = w := by simpa using h
    show (if x = w then 0 else fIx w r + 1) = 0
    rw [if_pos e]
  | x :: r, i + 1, h, k => by
    show (if x = w then 0 else fIx w r + 1) = i + 1
    rw [if_neg (k 0 x (Nat.succ_pos _) rfl)]
    have := fIx_at (w := w) (NL := r) (i := i) (by simpa using h) (fun j y hj hy => k (j + 1) y (by omega) (by simpa using hy))
    omega
theorem fIx_no {w : List Int} : ∀ {NL : List (List Int)}, (∀ (j : Nat) (x : List Int), NL[j]? = some x → ¬ x = w) → fIx w NL = NL.length
  | [], _ => rfl
  | x :: r, k => by
    show (if x = w then 0 else fIx w r + 1) = r.length + 1
    rw [if_neg (k 0 x rfl)]
    have := fIx_no (w := w) (NL := r) (fun j y hy => k (j + 1) y (by simpa using hy))
    omega
theorem fIx_get {w : List Int} : ∀ {NL : List (List Int)}, fIx w NL < NL.length → NL[fIx w NL]? = some w
  | [], h => by simp at h
  | x :: r, h => by
    have e : fIx w (x :: r) = if x = w then 0 else fIx w r + 1 := rfl
    by_cases q : x = w
    · rw [e, if_pos q, q]; rfl
    · rw [e, if_neg q] at h ⊢
      have := fIx_get (w := w) (NL := r) (by simpa using h)
      simpa using this
def dgV (hx : Bool) (c : Int) : Int := if 48 ≤ c ∧ c ≤ 57 then c - 48 else if hx = true ∧ 97 ≤ c ∧ c ≤ 102 then c - 87 else if hx = true ∧ 65 ≤ c ∧ c ≤ 70 then c - 55 else -1
def dgN (b : Nat → Int) (hx : Bool) : Nat → Nat → Nat
  | 0, _ => 0
  | d + 1, i => if 0 ≤ dgV hx (b i) then dgN b hx d (i + 1) + 1 else 0
def dgS (b : Nat → Int) (hx : Bool) : Nat → Nat → Int → Int
  | 0, _, s => s
  | m + 1, i, s => dgS b hx m (i + 1) (s * (if hx = true then 16 else 10) + dgV hx (b i))
def hexB (b : Nat → Int) (p : Nat) : Bool := decide (b p = 48 ∧ b (p + 1) = 120)
def nFr (b : Nat → Int) (p : Nat) : Nat := if hexB b p = true then p + 2 else p
def nCt (b : Nat → Int) (n p : Nat) : Nat := dgN b (hexB b p) (n - nFr b p) (nFr b p)
def nSm (b : Nat → Int) (n p : Nat) : Int := dgS b (hexB b p) (nCt b n p) (nFr b p) 0
def nOk (b : Nat → Int) (n p : Nat) : Bool := decide (1 ≤ nCt b n p ∧ nCt b n p ≤ (if hexB b p = true then 8 else 10) ∧ nSm b n p ≤ 4294967295)
def nVl (s : Int) : Int32 := (Int64.ofInt s).toInt32
theorem dgV_b {hx : Bool} {c : Int} : -1 ≤ dgV hx c ∧ (0 ≤ dgV hx c → dgV hx c < (if hx = true then 16 else 10)) := by
  unfold dgV
  cases hx with
  | true =>
    simp only [true_and, if_true]
    split
    · omega
    · split
      · omega
      · split <;> omega
  | false =>
    simp only [Bool.false_eq_true, false_and, if_false]
    split <;> omega
theorem dgS_snoc {b : Nat → Int} {hx : Bool} : ∀ (m i : Nat) (s : Int), dgS b hx (m + 1) i s = dgS b hx m i s * (if hx = true then 16 else 10) + dgV hx (b (i + m))
  | 0, i, s => by first | rfl | simp [dgS]
  | m + 1, i, s => by
    have e : dgS b hx (m + 1 + 1) i s = dgS b hx (m + 1) (i + 1) (s * (if hx = true then 16 else 10) + dgV hx (b i)) := by first | rfl | simp [dgS]
    have e' : dgS b hx (m + 1) i s = dgS b hx m (i + 1) (s * (if hx = true then 16 else 10) + dgV hx (b i)) := by first | rfl | simp [dgS]
    rw [e, e', dgS_snoc m (i + 1), show i + 1 + m = i + (m + 1) by omega]
theorem dgS_b {b : Nat → Int} {hx : Bool} {i : Nat} : ∀ m : Nat, (∀ j : Nat, j < m → 0 ≤ dgV hx (b (i + j))) → 0 ≤ dgS b hx m i 0 ∧ dgS b hx m i 0 < ((16 ^ m : Nat) : Int)
  | 0, _ => by
    show (0 : Int) ≤ 0 ∧ (0 : Int) < ((1 : Nat) : Int)
    omega
  | m + 1, h => by
    have ih := dgS_b (b := b) (hx := hx) (i := i) m (fun j hj => h j (by omega))
    have v := h m (by omega)
    have vb := (dgV_b (hx := hx) (c := b (i + m))).2 v
    rw [dgS_snoc, Nat.pow_succ]
    cases hx with
    | true =>
      simp only [if_true] at vb ⊢
      omega
    | false =>
      simp only [Bool.false_eq_true, if_false] at vb ⊢
      omega
def qV (b : Nat → Int) (i : Nat) (q : Int) : Int := if b i = 92 then (if b (i + 1) = 110 then 10 else if b (i + 1) = 48 then 0 else if b (i + 1) = q ∨ b (i + 1) = 92 then b (i + 1) else -1) else if 32 ≤ b i ∧ b i ≤ 126 ∧ ¬ b i = q then b i else -1
def qW (b : Nat → Int) (i : Nat) : Nat := if b i = 92 then 2 else 1
def sC (b : Nat → Int) : Nat → Nat → Nat × Nat
  | 0, i => (0, i)
  | d + 1, i => if 0 ≤ qV b i 34 then ((sC b d (i + qW b i)).1 + 1, (sC b d (i + qW b i)).2) else (0, i)
def isMk (c : Int) : Bool := decide (c = 40 ∨ c = 41 ∨ c = 123 ∨ c = 125 ∨ c = 91 ∨ c = 93 ∨ c = 44 ∨ c = 59 ∨ c = 58 ∨ c = 63 ∨ c = 61 ∨ c = 124 ∨ c = 94 ∨ c = 38 ∨ c = 60 ∨ c = 62 ∨ c = 43 ∨ c = 45 ∨ c = 42 ∨ c = 47 ∨ c = 37 ∨ c = 33 ∨ c = 126)
def dblK (c : Int) : Int := if c = 38 then 136 else if c = 43 then 138 else if c = 45 then 139 else if c = 60 then 134 else if c = 62 then 135 else if c = 124 then 137 else 0
def weqK (k : Int) : Int := if k = 33 then 131 else if k = 60 then 132 else if k = 62 then 133 else if k = 256 then 130 else if k = 37 ∨ k = 38 ∨ k = 42 ∨ k = 43 ∨ k = 45 ∨ k = 47 ∨ k = 94 ∨ k = 124 ∨ k = 134 ∨ k = 135 then 256 + k else 0
def mkA (b : Nat → Int) (p : Nat) : Int := if b (p + 1) = b p then dblK (b p) else 0
def mk1 (b : Nat → Int) (p : Nat) : Int := if 0 < mkA b p then mkA b p else if b p = 61 then 256 else b p
def mkS (b : Nat → Int) (p : Nat) : Nat := if 0 < mkA b p then 2 else 1
def mkW (b : Nat → Int) (p : Nat) : Int := if b (p + mkS b p) = 61 then weqK (mk1 b p) else 0
def mkK (b : Nat → Int) (p : Nat) : Int := if 0 < mkW b p then mkW b p else mk1 b p
def mkE (b : Nat → Int) (p : Nat) : Nat := if 0 < mkW b p then p + mkS b p + 1 else p + mkS b p
def mkO (b : Nat → Int) (p : Nat) : Bool := isMk (b p) && !decide (b p = 47 ∧ b (p + 1) = 42)
theorem nar16 {x : Int32} (h0 : 0 ≤ x.toInt) (h1 : x.toInt ≤ 255) : (x.toUInt32 % 65536).toInt32 = x := by
  have hx : x.toBitVec.toNat < 65536 := by
    have e : x.toInt = x.toBitVec.toInt := rfl
    have lt := x.toBitVec.isLt
    rw [BitVec.toInt_eq_toNat_cond] at e
    split at e <;> omega
  apply Int32.toBitVec_inj.mp
  apply BitVec.eq_of_toNat_eq
  show (x.toUInt32 % 65536).toNat = x.toUInt32.toNat
  rw [UInt32.toNat_mod]
  exact Nat.mod_eq_of_lt hx
def nmE (b : Nat → Int) : Nat → Nat → Nat
  | 0, i => i
  | d + 1, i => if isL (b i) = true ∨ isD (b i) = true then nmE b d (i + 1) else i
def wdL (b : Nat → Int) (p e : Nat) : List Int := (List.range (e - p)).map (fun j => b (p + j))
theorem wdL_len {b : Nat → Int} {p e : Nat} : (wdL b p e).length = e - p := by
  unfold wdL
  rw [List.length_map, List.length_range]
theorem nmE_b {b : Nat → Int} : ∀ (d i : Nat), i ≤ nmE b d i ∧ nmE b d i ≤ i + d
  | 0, i => ⟨Nat.le_refl _, Nat.le_refl _⟩
  | d + 1, i => by
    have un : nmE b (d + 1) i = if isL (b i) = true ∨ isD (b i) = true then nmE b d (i + 1) else i := by first | rfl | simp [nmE]
    rw [un]
    by_cases h : isL (b i) = true ∨ isD (b i) = true
    · rw [if_pos h]
      have := nmE_b (b := b) d (i + 1)
      omega
    · rw [if_neg h]; omega
def kwK (KW : List (List Int)) (w : List Int) : Int := if fIx w KW < KW.length then ((fIx w KW + 1 : Nat) : Int) else 16
def lxK (KW : List (List Int)) (b : Nat → Int) (n p : Nat) : Int :=
  if isL (b p) = true then (if nmE b (n - p) p - p ≤ 24 then kwK KW (wdL b p (nmE b (n - p) p)) else 19)
  else if isD (b p) = true then (if nOk b n p = true then 17 else 19)
  else if b p = 39 then (if 0 ≤ qV b (p + 1) 39 ∧ b (p + 1 + qW b (p + 1)) = 39 then 17 else 19)
  else if b p = 34 then (if (sC b n (p + 1)).1 ≤ 200 ∧ b (sC b n (p + 1)).2 = 34 then 18 else 19)
  else if b p < 0 then 0 else (if mkO b p = true then mkK b p else 19)
def lxE (b : Nat → Int) (n p : Nat) : Nat :=
  if isL (b p) = true then nmE b (n - p) p
  else if isD (b p) = true then nFr b p + nCt b n p
  else if b p = 39 then p + 2 + qW b (p + 1)
  else if b p = 34 then (sC b n (p + 1)).2 + 1
  else if b p < 0 then p else mkE b p
def posN (b : Nat → Int) (n : Nat) : Nat → Nat
  | 0 => skp b n (n + 1) 0
  | i + 1 => skp b n (n + 1) (lxE b n (posN b n i))
