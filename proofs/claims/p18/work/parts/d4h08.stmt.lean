/-! STATEMENTS: their grammar over the kinds of tokens, and what they mean. Trees: a node is elem (arg which) (elem a b); a row is add, null.
which: 0 a block (a its row), 1 empty, 2 an expression alone, 3 variables (a the type, b their row), 4 if (a the condition, b one or two statements), 5 while, 6 do (a its row, b the condition), 7 for (a the row of what stands in its brackets, b its body), 8 an expression as a number, 9 switch, 10 case, 11 default, 12 break, 13 continue, 14 return, 15 return with a value.
Variables: arg: alone; mul: with a value; sub: a row; rem: a row with values; div: a row with a string. -/
def sNd (g : Nat) (a b : Ast) : Ast := .elem (.arg g) (.elem a b)
def sRow1 (a : Ast) : Ast := .add a .null
def sRow2 (a b : Ast) : Ast := .add a (.add b .null)
def vSing (t : Nat) : Ast := .arg t
def vInit (t : Nat) (e : Ast) : Ast := .mul (.arg t) e
def vRow (t : Nat) (e : Ast) : Ast := .sub (.arg t) e
def vList (t : Nat) (e l : Ast) : Ast := .rem (.arg t) (.elem e l)
def vStr (t : Nat) (e : Ast) (u : Nat) : Ast := .div (.arg t) (.elem e (.arg u))
/-- expressions at the level at which texts are read -/
def pE (k : Nat → Int) : PPT := (pBoth k 62).1
/-- constants between braces -/
def pKs (k : Nat → Int) (o : Int) : Nat → Nat → Option (Ast × Nat)
  | 0, _ => none
  | n + 1, t => match pE k 0 t o with
    | none => none
    | some (e, t1) => if k t1 = 44 then (match pKs k o n (t1 + 1) with
        | none => none
        | some (r, t2) => some (.add e r, t2)) else some (.add e .null, t1)
def pVar (k : Nat → Int) (o : Int) (t : Nat) : Option (Ast × Nat) :=
  if k t = 16 then
    (if k (t + 1) = 91 then (if o < 60 then (match pE k 0 (t + 2) (o + 1) with
        | none => none
        | some (e, t1) => if k t1 = 93 then
            (if k (t1 + 1) = 256 then
              (if k (t1 + 2) = 18 then some (vStr t e (t1 + 2), t1 + 3)
               else if k (t1 + 2) = 123 ∧ o < 60 then (match pKs k (o + 1) 2048 (t1 + 3) with
                 | none => none
                 | some (l, t2) => if k t2 = 125 then some (vList t e l, t2 + 1) else none) else none)
             else some (vRow t e, t1 + 1)) else none) else none)
     else if k (t + 1) = 256 then (match pE k (-1) (t + 2) o with
        | none => none
        | some (e, t1) => some (vInit t e, t1))
     else some (vSing t, t + 1))
  else none
def pVars (k : Nat → Int) (o : Int) : Nat → Nat → Option (Ast × Nat)
  | 0, _ => none
  | n + 1, t => match pVar k o t with
    | none => none
    | some (v, t1) => if k t1 = 44 then (match pVars k o n (t1 + 1) with
        | none => none
        | some (r, t2) => some (.add v r, t2)) else some (.add v .null, t1)
/-- a condition in brackets -/
def pCo (k : Nat → Int) (t : Nat) (o : Int) : Option (Ast × Nat) :=
  if k t = 40 ∧ o < 60 then (match pE k (-1) (t + 1) (o + 1) with
    | none => none
    | some (e, t1) => if k t1 = 41 then some (e, t1 + 1) else none) else none
def pSts (S : POT) (k : Nat → Int) (o : Int) : Nat → Nat → Option (Ast × Nat)
  | 0, t => some (.null, t)
  | n + 1, t => if k t = 125 then some (.null, t) else (match S t o with
    | none => none
    | some (s, t1) => (match pSts S k o n t1 with
      | none => none
      | some (r, t2) => some (.add s r, t2)))
/-- what stands in a switch; b: whether something is labelled -/
def pSw (S : POT) (k : Nat → Int) (o : Int) : Nat → Bool → Nat → Option (Ast × Nat)
  | 0, _, t => some (.null, t)
  | n + 1, b, t => if k t = 125 then some (.null, t) else (match (
      if k t = 11 then (match pE k 0 (t + 1) o with
        | none => none
        | some (e, t1) => if k t1 = 58 then some (sNd 10 e (.arg t), t1 + 1) else none)
      else if k t = 12 then (if k (t + 1) = 58 then some (sNd 11 (.arg t) .null, t + 2) else none)
      else if b then S t o else none) with
    | none => none
    | some (s, t1) => (match pSw S k o n true t1 with
      | none => none
      | some (r, t2) => some (.add s r, t2)))
/-- what stands first in the brackets of for, and its ; -/
def pF1 (k : Nat → Int) (t : Nat) (o : Int) : Option (Ast × Nat) :=
  if k t = 1 ∨ k t = 2 then (match pVars k o 2048 (t + 1) with
    | none => none
    | some (vs, t1) => if k t1 = 59 then some (sRow1 (sNd 3 (.arg (k t).toNat) vs), t1 + 1) else none)
  else if k t = 59 then some (.null, t + 1)
  else (match pE k (-1) t o with
    | none => none
    | some (e, t1) => if k t1 = 59 then some (sRow1 (sNd 2 e .null), t1 + 1) else none)
/-- an expression, or nothing before v -/
def pOp (k : Nat → Int) (g : Nat) (v : Int) (t : Nat) (o : Int) : Option (Ast × Nat) :=
  if k t = v then some (.null, t) else (match pE k (-1) t o with
    | none => none
    | some (e, t1) => if k t1 = v then some (sRow1 (sNd g e .null), t1) else none)
def pStm (S : POT) (k : Nat → Int) (t : Nat) (o : Int) : Option (Ast × Nat) :=
  if k t = 123 then (if o < 60 then (match pSts S k (o + 1) 2049 (t + 1) with
      | none => none
      | some (l, t1) => if k t1 = 125 then some (sNd 0 l .null, t1 + 1) else none) else none)
  else if k t = 59 then some (sNd 1 .null .null, t + 1)
  else if k t = 1 ∨ k t = 2 then (match pVars k o 2048 (t + 1) with
      | none => none
      | some (vs, t1) => if k t1 = 59 then some (sNd 3 (.arg (k t).toNat) vs, t1 + 1) else none)
  else if k t = 5 then (if o < 60 then (match pCo k (t + 1) (o + 1) with
      | none => none
      | some (e, t1) => (match S t1 (o + 1) with
        | none => none
        | some (s, t2) => if k t2 = 6 then (match S (t2 + 1) (o + 1) with
            | none => none
            | some (s', t3) => some (sNd 4 e (sRow2 s s'), t3)) else some (sNd 4 e (sRow1 s), t2))) else none)
  else if k t = 7 then (if o < 60 then (match pCo k (t + 1) (o + 1) with
      | none => none
      | some (e, t1) => (match S t1 (o + 1) with
        | none => none
        | some (s, t2) => some (sNd 5 e (sRow1 s), t2))) else none)
  else if k t = 8 then (if o < 60 then (match S (t + 1) (o + 1) with
      | none => none
      | some (s, t1) => if k t1 = 7 then (match pCo k (t1 + 1) (o + 1) with
          | none => none
          | some (e, t2) => if k t2 = 59 then some (sNd 6 (sRow1 s) e, t2 + 1) else none) else none) else none)
  else if k t = 9 then (if k (t + 1) = 40 ∧ o < 59 then (match pF1 k (t + 2) (o + 2) with
      | none => none
      | some (a, t1) => (match pOp k 8 59 t1 (o + 2) with
        | none => none
        | some (b, t2) => (match pOp k 2 41 (t2 + 1) (o + 2) with
          | none => none
          | some (d, t3) => (match S (t3 + 1) (o + 1) with
            | none => none
            | some (s, t4) => some (sNd 7 (.add a (.add b (.add d .null))) (sRow1 s), t4))))) else none)
  else if k t = 10 then (if o < 60 then (match pCo k (t + 1) (o + 1) with
      | none => none
      | some (e, t1) => if k t1 = 123 ∧ o < 59 then (match pSw S k (o + 2) 2049 false (t1 + 1) with
          | none => none
          | some (l, t2) => if k t2 = 125 then some (sNd 9 e l, t2 + 1) else none) else none) else none)
  else if k t = 13 ∨ k t = 14 then (if k (t + 1) = 59 then some (sNd ((k t).toNat - 1) .null .null, t + 2) else none)
  else if k t = 15 then (if k (t + 1) = 59 then some (sNd 14 .null .null, t + 2) else (match pE k (-1) (t + 1) o with
      | none => none
      | some (e, t1) => if k t1 = 59 then some (sNd 15 e .null, t1 + 1) else none))
  else (match pE k (-1) t o with
      | none => none
      | some (e, t1) => if k t1 = 59 then some (sNd 2 e .null, t1 + 1) else none)
def pSt (k : Nat → Int) : Nat → POT
  | 0 => fun _ _ => none
  | n + 1 => fun t o => pStm (pSt k n) k t o
/-! what they mean -/
def aEff (a : Atr) : Option Atr := if a.1 = 2 ∨ a.1 = 5 then none else some a
def aKon (a : Atr) : Option Atr := (aNum a).bind fun b => if b.2.1 = 0 then some b else none
abbrev Nms := List (Int32 × Ent)
/-- names, words, height, the numbers of the cases so far, whether there was a default -/
abbrev Sg := Nms × Int × Int × List Int32 × Bool
def dcl (tp : Bool) (F : Int32 → Option Fnc) (sc : Nat) (L : Nms) (nm : Int32) (g : Ent) : Option Nms := if (tp = true ∧ (F nm).isSome = true) ∨ knN L nm sc L.length = true then none else some (L ++ [(nm, g)])
def semKs (k : Nat → Int) (vl : Nat → Int32) (G : Int32 → Option Ent) (F : Int32 → Option Fnc) : Ast → Option Int
  | .null => some 0
  | .add e r => ((att k vl G F e [] 0).bind aKon).bind fun _ => (semKs k vl G F r).bind fun n => some (n + 1)
  | _ => none
def semSz (k : Nat → Int) (vl : Nat → Int32) (G : Int32 → Option Ent) (F : Int32 → Option Fnc) (e : Ast) : Option Int := ((att k vl G F e [] 0).bind aKon).bind fun a => if 1 ≤ a.2.2.1.toInt ∧ a.2.2.1.toInt ≤ 4096 then some a.2.2.1.toInt else none
/-- words of a row -/
def wds (ch : Bool) (n : Int) : Int := if ch = true then (n + 3) / 4 else n
/-- one variable: tp: of the text, ch: of chars; ql: the length of a string -/
def semVar (k : Nat → Int) (vl : Nat → Int32) (ql : Nat → Int) (F : Int32 → Option Fnc) (tp ch : Bool) (sc : Nat) (v : Ast) (s : Sg) : Option Sg := match v with
  | .arg t => (dcl tp F sc s.1 (vl t) (1, 0)).bind fun L => some (L, s.2.1 + 1, s.2.2)
  | .mul (.arg t) e => ((att k vl (lkp s.1) F e [] 0).bind (if tp = true then aKon else aNum)).bind fun a => (dcl tp F sc s.1 (vl t) (1, 0)).bind fun L => some (L, s.2.1 + 1, if tp = true then s.2.2.1 else max s.2.2.1 a.2.2.2, s.2.2.2)
  | .sub (.arg t) e => (semSz k vl (lkp s.1) F e).bind fun n => (dcl tp F sc s.1 (vl t) (if ch = true then 3 else 2, 0)).bind fun L => some (L, s.2.1 + wds ch n, s.2.2)
  | .rem (.arg t) (.elem e l) => (semSz k vl (lkp s.1) F e).bind fun n => (semKs k vl (lkp s.1) F l).bind fun m => if m ≤ n then (dcl tp F sc s.1 (vl t) (if ch = true then 3 else 2, 0)).bind fun L => some (L, s.2.1 + wds ch n, s.2.2) else none
  | .div (.arg t) (.elem e (.arg u)) => (semSz k vl (lkp s.1) F e).bind fun n => if ch = true ∧ ql u < n then (dcl tp F sc s.1 (vl t) (3, 0)).bind fun L => some (L, s.2.1 + wds ch n, s.2.2) else none
  | _ => none
def semVars (k : Nat → Int) (vl : Nat → Int32) (ql : Nat → Int) (F : Int32 → Option Fnc) (tp ch : Bool) (sc : Nat) : Ast → Sg → Option Sg
  | .null, s => some s
  | .add v r, s => (semVar k vl ql F tp ch sc v s).bind (semVars k vl ql F tp ch sc r)
  | _, _ => none
/-- an expression: its height counts -/
def semE (k : Nat → Int) (vl : Nat → Int32) (F : Int32 → Option Fnc) (f : Atr → Option Atr) (e : Ast) (s : Sg) : Option Sg := ((att k vl (lkp s.1) F e [] 0).bind f).bind fun a => some (s.1, s.2.1, max s.2.2.1 a.2.2.2, s.2.2.2)
def isChr (a : Ast) : Bool := match a with
  | .arg n => decide (n = 2)
  | _ => false
/-- rt: the type of the function; lp, bk: whether a loop, a loop or a switch is around; sc: where the names of the innermost block begin -/
def sem (k : Nat → Int) (vl : Nat → Int32) (ql : Nat → Int) (F : Int32 → Option Fnc) (rt : Int) : Ast → Nat → Bool → Bool → Sg → Option Sg
  | .null, _, _, _, s => some s
  | .add a r, sc, lp, bk, s => (sem k vl ql F rt a sc lp bk s).bind fun s' => sem k vl ql F rt r sc lp bk s'
  | .elem (.arg g) (.elem a b), sc, lp, bk, s =>
    if g = 0 then (sem k vl ql F rt a s.1.length lp bk s).bind fun s' => some (s'.1.take s.1.length, s'.2)
    else if g = 1 then some s
    else if g = 2 then semE k vl F aEff a s
    else if g = 3 then semVars k vl ql F false (isChr a) sc b s
    else if g = 4 then (semE k vl F aNum a s).bind fun s' => sem k vl ql F rt b sc lp bk s'
    else if g = 5 then (semE k vl F aNum a s).bind fun s' => sem k vl ql F rt b sc true true s'
    else if g = 6 then (sem k vl ql F rt a sc true true s).bind fun s' => semE k vl F aNum b s'
    else if g = 7 then (sem k vl ql F rt a s.1.length lp bk s).bind fun s' => (sem k vl ql F rt b s.1.length true true s').bind fun s'' => some (s''.1.take s.1.length, s''.2)
    else if g = 8 then semE k vl F aNum a s
    else if g = 9 then (semE k vl F aNum a s).bind fun s' => (sem k vl ql F rt b s.1.length lp true (s'.1, s'.2.1, s'.2.2.1, [], false)).bind fun s'' => some (s''.1.take s.1.length, s''.2.1, s''.2.2.1, s.2.2.2)
    else if g = 10 then ((att k vl (lkp s.1) F a [] 0).bind aKon).bind fun x => if x.2.2.1 ∈ s.2.2.2.1 then none else some (s.1, s.2.1, s.2.2.1, s.2.2.2.1 ++ [x.2.2.1], s.2.2.2.2)
    else if g = 11 then (if s.2.2.2.2 = true then none else some (s.1, s.2.1, s.2.2.1, s.2.2.2.1, true))
    else if g = 12 then (if bk = true then some s else none)
    else if g = 13 then (if lp = true then some s else none)
    else if g = 14 then (if rt = 3 then some s else none)
    else if g = 15 then (if rt = 3 then none else semE k vl F aNum a s)
    else none
  | _, _, _, _, _ => none
/-! the class's small methods of statements -/
section S1
variable {ta : Nat → Nat → Int32} {cn : Nat} {na : Nat → Nat → Int32} {own : Bool} {P : va_W} {lf : Nat → Int32} {lg : Nat → Option Nat} {ff : Nat → Int32} {fg : Nat → Option Nat}
variable {tf fp cd tf' fp' cd' fx fx' cf cf' : Nat → Int32} {ox ox' : Option Nat} {c t : Nat} {o n : Int} {a : Atr}
variable {G : Int32 → Option Ent} {F : Int32 → Option Fnc}
theorem exP_ok (hG : EnvC own P lf lg G) (hF : FunC na P ff fg F) (hl : Lst0 ta c) {p0 : Int32} (h : R_ex_parse (RL_ex_parse 61) (RL_ex_operand 61) ta cn na own P lf lg ff fg p0 tf fp cd tf' fp' cd' ox' fx') (hc : Cur tf c t o) : OkX ta c P G F t o (pE (kd ta) p0.toInt t o) tf tf' ox' fx' :=
  par_ok (tkl_RLp 61) (tkl_RLo 61) (bkl_RLp 61) (bkl_RLo 61) (ex_all hG hF hl 61).1 (ex_all hG hF hl 61).2 hG hF h hc hl
theorem exP_tk {p0 : Int32} (h : R_ex_parse (RL_ex_parse 61) (RL_ex_operand 61) ta cn na own P lf lg ff fg p0 tf fp cd tf' fp' cd' ox' fx') : TK tf tf' := tkr_ex_parse (tkl_RLp 61) (tkl_RLo 61) h
theorem exP_bk {p0 : Int32} (h : R_ex_parse (RL_ex_parse 61) (RL_ex_operand 61) ta cn na own P lf lg ff fg p0 tf fp cd tf' fp' cd' ox' fx') : BK tf tf' := bkr_ex_parse (bkl_RLp 61) (bkl_RLo 61) h
theorem set_r {p0 : Int32} (h : R_ex_settle cn P ox p0 tf fp cd fx tf' fp' cd' fx') : SmB tf tf' ∧ fx' = upd fx 1 0 := by
  rcases h with ⟨tf5, fp6, cd7, fx8, h1, (⟨h2, tf26, h3, e0, e1, e2, e3⟩ | ⟨h2, (⟨h3, e0, e1, e2, e3⟩ | ⟨h3, tf37, h4, e0, e1, e2, e3⟩)⟩)⟩ | h
  · rw [e0, e3]; exact ⟨(num_r h1).1.tr (blame_b h3), (num_r h1).2⟩
  · rw [e0, e3]; exact ⟨(num_r h1).1, (num_r h1).2⟩
  · rw [e0, e3]; exact ⟨(num_r h1).1.tr (blame_b h4), (num_r h1).2⟩
  · exact h.elim
theorem set_bk {p0 : Int32} (h : R_ex_settle cn P ox p0 tf fp cd fx tf' fp' cd' fx') : BK tf tf' := by
  rcases h with ⟨tf5, fp6, cd7, fx8, h1, (⟨h2, tf26, h3, e0, e1, e2, e3⟩ | ⟨h2, (⟨h3, e0, e1, e2, e3⟩ | ⟨h3, tf37, h4, e0, e1, e2, e3⟩)⟩)⟩ | h
  · rw [e0]; exact BK.tr (bkr_ex_number h1) (bkr_tk_blame (by decide) h3)
  · rw [e0]; exact bkr_ex_number h1
  · rw [e0]; exact BK.tr (bkr_ex_number h1) (bkr_tk_blame (by decide) h4)
  · exact h.elim
theorem set_at {p0 : Int32} (h : R_ex_settle cn P ox p0 tf fp cd fx tf' fp' cd' fx') (hc : Cur tf c t o) (hm : MA P c n fx ox a) : AT tf tf' (aKon a) (fun b => MA P c n fx' ox b ∧ b.2.1 = 0) := by
  unfold aKon
  have h10 := hc.1
  rcases h with ⟨tf5, fp6, cd7, fx8, h1, (⟨h2, tf26, h3, e0, e1, e2, e3⟩ | ⟨h2, (⟨h3, e0, e1, e2, e3⟩ | ⟨h3, tf37, h4, e0, e1, e2, e3⟩)⟩)⟩ | h
  · rw [e0, e3]
    refine AT.bind (num_at h1 hc hm) (fun b hb => ?_) (bkr_tk_blame (by decide) h3)
    have q := hb.2.2.2.1
    rw [if_neg (by omega)]
    exact AT.bad h3 (by decide) (by rw [(num_r h1).1 10 (by decide) (by decide)]; have := hb.1; omega)
  · rw [e0, e3]
    refine AT.bind (num_at h1 hc hm) (fun b hb => ?_) BK.rf
    have q := hb.2.2.2.1
    have q' := hb.2.2.2.2.1
    rw [if_pos (by omega)]
    exact AT.ret ⟨hb, by omega⟩
  · rw [e0, e3]
    refine AT.bind (num_at h1 hc hm) (fun b hb => ?_) (bkr_tk_blame (by decide) h4)
    have q := hb.2.2.2.1
    rw [if_neg (by omega)]
    exact AT.bad h4 (by decide) (by rw [(num_r h1).1 10 (by decide) (by decide)]; have := hb.1; omega)
  · exact h.elim
theorem drp_r (h : R_ex_drop cn P ox tf fp cd fx tf' fp' cd' fx') : SmB tf tf' ∧ ∀ i : Nat, i ≠ 1 → fx' i = fx i := by
  rcases h with (⟨h1, fp5, cd6, v8, h2, e0, e1, e2, e3⟩ | ⟨h1, tf15, fp16, cd17, fx18, h2, fp36, cd37, v39, h3, e0, e1, e2, e3⟩) | h
  · rw [e0, e3]; exact ⟨SmB.rf, fun _ _ => rfl⟩
  · rw [e0, e3, (num_r h2).2]; exact ⟨(num_r h2).1, fun i q => pk_un q⟩
  · exact h.elim
theorem drp_at (h : R_ex_drop cn P ox tf fp cd fx tf' fp' cd' fx') (hc : Cur tf c t o) (hm : MA P c n fx ox a) : AT tf tf' (aEff a) (fun b => b.2.2.2 = a.2.2.2) := by
  have hs := srt_of hm.2.2.2.2.2.2.2
  have m3 := hm.2.2.1
  rcases h with (⟨h1, fp5, cd6, v8, h2, e0, e1, e2, e3⟩ | ⟨h1, tf15, fp16, cd17, fx18, h2, fp36, cd37, v39, h3, e0, e1, e2, e3⟩) | h
  · have e : aEff a = some a := if_neg (by omega)
    rw [e0, e]; exact AT.ret rfl
  · rw [e0]
    have na := num_at h2 hc hm
    by_cases q : a.1 = 2 ∨ a.1 = 5
    · have e : aEff a = none := if_pos q
      have e' : aNum a = none := if_pos (by omega)
      rw [e'] at na
      rw [e]
      exact fun u => na u
    · have e : aEff a = some a := if_neg q
      have e' : aNum a = some (0, a.2) := if_neg (by omega)
      rw [e'] at na
      rw [e]
      exact fun u => ⟨(na u).1, rfl⟩
  · exact h.elim
/-- an expression whose height counts -/
def OkH (ta : Nat → Nat → Int32) (c : Nat) (G : Int32 → Option Ent) (F : Int32 → Option Fnc) (t : Nat) (o : Int) (r : Option (Ast × Nat)) (f : Atr → Option Atr) (tf tf' cf cf' : Nat → Int32) : Prop := (∀ i : Nat, i ≠ 13 → cf' i = cf i) ∧ match r with
  | none => Flq tf'
  | some (e, t1) => Cur tf' c t1 o ∧ t < t1 ∧ AT tf tf' ((att (kd ta) (vd ta) G F e [] 0).bind f) (fun a => (cf' 13).toInt = max (cf 13).toInt a.2.2.2 ∧ 1 ≤ a.2.2.2 ∧ a.2.2.2 ≤ 2 * ((t1 : Int) - (t : Int)))
theorem eff_ok (hG : EnvC own P lf lg G) (hF : FunC na P ff fg F) (hl : Lst0 ta c) (h : R_tc_effect ta cn na own lf lg ff fg P cf tf fp cd cf' tf' fp' cd') (hc : Cur tf c t o) : OkH ta c G F t o (pE (kd ta) (-1) t o) aEff tf tf' cf cf' := by
  rcases h with ⟨tf4, fp5, cd6, hx7, ox8, fx9, h1, tf40, fp41, cd42, fx43, h2, z59, h3, e0, e1, e2, e3⟩ | h
  · rw [e0, e1]
    have h1' := exP_ok hG hF hl h1 hc
    rw [show ((-1 : Int32)).toInt = -1 from rfl] at h1'
    have r2 := drp_r h2
    refine ⟨fun i q => pk_un q, ?_⟩
    cases hr : pE (kd ta) (-1) t o with
    | none =>
      rw [hr] at h1'
      exact r2.1.fl h1'
    | some r =>
      obtain ⟨e, t1⟩ := r
      rw [hr] at h1'
      obtain ⟨a1, a2, a3, a4⟩ := h1'
      refine ⟨r2.1.cur a1, a2, AT.bind a4 (fun a ha => (drp_at h2 a1 ha).imp (fun b hb => ?_)) (bkr_ex_drop h2)⟩
      have m7 := ha.2.2.2.2.2.2.1
      rw [hb, pk_us, h3, mx_i, r2.2 6 (by decide), m7.1]
      exact ⟨rfl, m7.2.1, m7.2.2⟩
  · exact h.elim
theorem who_ok (hG : EnvC own P lf lg G) (hF : FunC na P ff fg F) (hl : Lst0 ta c) (h : R_tc_wholeNumber ta cn na own lf lg ff fg P cf tf fp cd cf' tf' fp' cd') (hc : Cur tf c t o) : OkH ta c G F t o (pE (kd ta) (-1) t o) aNum tf tf' cf cf' := by
  rcases h with ⟨tf4, fp5, cd6, hx7, ox8, fx9, h1, tf40, fp41, cd42, fx43, h2, z59, h3, e0, e1, e2, e3⟩ | h
  · rw [e0, e1]
    have h1' := exP_ok hG hF hl h1 hc
    rw [show ((-1 : Int32)).toInt = -1 from rfl] at h1'
    have r2 := num_r h2
    refine ⟨fun i q => pk_un q, ?_⟩
    cases hr : pE (kd ta) (-1) t o with
    | none =>
      rw [hr] at h1'
      exact r2.1.fl h1'
    | some r =>
      obtain ⟨e, t1⟩ := r
      rw [hr] at h1'
      obtain ⟨a1, a2, a3, a4⟩ := h1'
      refine ⟨r2.1.cur a1, a2, AT.bind a4 (fun a ha => (num_at h2 a1 ha).imp (fun b hb => ?_)) (bkr_ex_number h2)⟩
      have m7 := hb.2.2.2.2.2.2.1
      rw [pk_us, h3, mx_i, m7.1]
      exact ⟨rfl, m7.2.1, m7.2.2⟩
  · exact h.elim
theorem con_ok (hG : EnvC own P lf lg G) (hF : FunC na P ff fg F) (hl : Lst0 ta c) (h : R_tc_condition ta cn na own lf lg ff fg P cf tf fp cd cf' tf' fp' cd') (hc : Cur tf c t o) : OkH ta c G F t o (pCo (kd ta) t o) aNum tf tf' cf cf' := by
  have h0o := hc.2.2.2.2.2.2.1
  rcases h with ⟨tf1, h1, cf14, tf15, fp16, cd17, h2, tf44, h3, e0, e1, e2, e3⟩ | h
  · rw [e0, e1]
    unfold pCo
    rcases open_cur (p0 := 40) h1 hc hl (by decide) (by decide) with ⟨q1, q2, q3⟩ | ⟨q1, q2⟩
    · have hk : kd ta t = 40 := by unfold kd; rw [q1]; rfl
      rw [if_pos ⟨hk, q2⟩]
      obtain ⟨b0, b1⟩ := who_ok hG hF hl h2 q3
      refine ⟨b0, ?_⟩
      cases hr : pE (kd ta) (-1) (t + 1) (o + 1) with
      | none =>
        rw [hr] at b1
        exact (tkr_tk_close h3).2 b1
      | some r =>
        obtain ⟨e, t1⟩ := r
        rw [hr] at b1
        obtain ⟨a1, a2, a3⟩ := b1
        rcases close_cur (p0 := 41) h3 a1 (by omega) hl (by decide) (by decide) with ⟨p1, p2⟩ | ⟨p1, p2⟩
        · have hk1 : kd ta t1 = 41 := by unfold kd; rw [p1]; rfl
          simp only [hk1, if_true]
          refine ⟨by rw [show o = o + 1 - 1 by omega]; exact p2, by omega, (AT.ms (AT.sm (smr_tk_open h1) a3) (smr_tk_close h3)).imp (fun y hy => ⟨hy.1, hy.2.1, by have := hy.2.2; omega⟩)⟩
        · have hk1 : ¬ kd ta t1 = 41 := fun q => p1 (i_eq.mpr q)
          simp only [hk1, if_false]
          exact p2
    · have hk : ¬ (kd ta t = 40 ∧ o < 60) := fun q => q1 ⟨i_eq.mpr q.1, q.2⟩
      rw [if_neg hk]
      have q4 : TK tf1 tf15 := by
        rcases h2 with ⟨tf4, fp5, cd6, hx7, ox8, fx9, k1, tf40, fp41, cd42, fx43, k2, z59, k3, k4, k5, k6, k7⟩ | q
        · rw [k5]; exact TK.tr (exP_tk k1) (tkr_ex_number k2)
        · exact q.elim
      have b0 : ∀ i : Nat, i ≠ 13 → cf14 i = cf i := by
        rcases h2 with ⟨tf4, fp5, cd6, hx7, ox8, fx9, k1, tf40, fp41, cd42, fx43, k2, z59, k3, k4, k5, k6, k7⟩ | q
        · rw [k4]; exact fun i z => pk_un z
        · exact q.elim
      exact ⟨b0, (tkr_tk_close h3).2 (q4.2 q2)⟩
  · exact h.elim
theorem room_r {fo : Option Nat} {p0 v : Int32} (h : R_tc_room fo p0 cf cf' v) : (fo = none ∧ ∃ z : Int32, z = cf 11 + p0 ∧ cf' = upd cf 11 z ∧ v = cf 11) ∨ ((∃ q, fo = some q) ∧ ∃ z : Int32, z = cf 12 + p0 ∧ cf' = upd cf 12 z ∧ v = cf 12) := by
  rcases h with (⟨h1, z7, h2, e0, ev⟩ | ⟨q2, h1, z5, h2, e0, ev⟩) | h
  · exact Or.inl ⟨h1, z7, h2, e0, ev⟩
  · exact Or.inr ⟨⟨q2, h1⟩, z5, h2, e0, ev⟩
  · exact h.elim
end S1
