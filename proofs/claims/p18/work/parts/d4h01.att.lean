/-! ATTRIBUTES of expressions: what an expression is (0 a number, 1 a variable, 2 a row of ints, 3 nothing, 4 an element, 5 a row of chars), what is known of it (0 its number, 2 it divides by 0, 3 it varies), its number, its height; none: something is wrong. -/
abbrev Ent := Int × Int32
abbrev Fnc := Bool × List Int
abbrev Atr := Int × Int × Int32 × Int
def aNum (a : Atr) : Option Atr := if a.1 = 2 ∨ a.1 = 3 ∨ a.1 = 5 then none else some (0, a.2)
def aTgt (a : Atr) : Option Atr := if a.1 = 1 ∨ a.1 = 4 then some a else none
def aIdx (g : Option Ent) : Option Unit := g.bind fun g => if g.1 = 2 ∨ g.1 = 3 then some () else none
def aNam (g : Ent) : Atr := if g.1 = 0 then (0, 0, g.2, 1) else (if g.1 = 1 then 1 else if g.1 = 2 then 2 else 5, 3, 0, 1)
def aArg (w : Int) (a : Atr) : Option Int := if w = 1 then (aNum a).map (fun _ => 1) else if (a.1 = 2 ∧ (w = 16 ∨ w = 17)) ∨ (a.1 = 5 ∧ (w = 16 ∨ w = 18)) then some 2 else none
def rku (v : Int) (a : Int32) : Int32 := if v = 45 then -a else if v = 33 then (if a.toInt = 0 then 1 else 0) else a ^^^ (-1 : Int32)
def rck (v : Int) (a b : Int32) : Int32 :=
  if v = 37 then (if b.toInt = 0 then 0 else a - a / b * b) else if v = 38 then a &&& b else if v = 42 then a * b else if v = 43 then a + b else if v = 45 then a - b
  else if v = 47 then (if b.toInt = 0 then 0 else a / b) else if v = 60 then (if b.toInt ≤ a.toInt then 0 else 1) else if v = 62 then (if a.toInt ≤ b.toInt then 0 else 1)
  else if v = 94 then a ^^^ b else if v = 124 then a ||| b else if v = 130 then (if a.toInt = b.toInt then 1 else 0) else if v = 132 then (if b.toInt < a.toInt then 0 else 1)
  else if v = 133 then (if a.toInt < b.toInt then 0 else 1) else if v = 134 then a <<< ((b &&& 31) &&& 31) else if v = 135 then a >>> ((b &&& 31) &&& 31) else (if a.toInt = b.toInt then 0 else 1)
def nz (v : Int32) : Int32 := if v.toInt = 0 then 0 else 1
def aLog (e : Int) (x y : Int × Int32) : Int × Int32 := if x.1 = 0 then (if x.2.toInt = 0 then (if e = 0 then (0, 0) else (y.1, nz y.2)) else (if e = 1 then (0, 1) else (y.1, nz y.2))) else x
def aFold (v : Int) (x y : Int × Int32) : Int × Int32 :=
  if x.1 = 3 ∨ y.1 = 3 then (3, x.2) else if v = 136 then aLog 0 x y else if v = 137 then aLog 1 x y
  else if x.1 = 2 ∨ y.1 = 2 ∨ (y.1 = 0 ∧ (v = 47 ∨ v = 37) ∧ y.2.toInt = 0) then (2, x.2) else (0, rck v x.2 y.2)
def aPre (v : Int) (a : Atr) : Option Atr := if v = 138 ∨ v = 139 then (aTgt a).bind (fun b => some (0, 3, 0, b.2.2.2)) else (aNum a).bind (fun b => some (0, b.2.1, if v = 43 then b.2.2.1 else rku v b.2.2.1, b.2.2.2))
def aBin (v : Int) (a b : Atr) : Atr := (0, (aFold v (a.2.1, a.2.2.1) (b.2.1, b.2.2.1)).1, (aFold v (a.2.1, a.2.2.1) (b.2.1, b.2.2.1)).2, max a.2.2.2 (b.2.2.2 + 1))
def aCnd (a b d : Atr) : Atr := (0, if b.2.1 = 3 ∨ d.2.1 = 3 then 3 else if a.2.1 = 0 then (if a.2.2.1.toInt = 0 then d.2.1 else b.2.1) else a.2.1, if a.2.2.1.toInt = 0 then d.2.2.1 else b.2.2.1, max a.2.2.2 (max b.2.2.2 d.2.2.2))
def aAsg (a b : Atr) : Atr := (0, 3, 0, if a.1 = 4 then max a.2.2.2 (b.2.2.2 + 1) else b.2.2.2)
/-- the function of a call, unless the name is another's -/
def aFun (g : Option Ent) (f : Option Fnc) : Option Fnc := match g with
  | some _ => none
  | none => f
/-- of a tree; for the arguments of a call: what is wanted of them, and how much is held before them -/
def att (k : Nat → Int) (vl : Nat → Int32) (G : Int32 → Option Ent) (F : Int32 → Option Fnc) : Ast → List Int → Int → Option Atr
  | .arg t, _, _ => some (0, 0, vl t, 1)
  | .index t, _, _ => (G (vl t)).bind fun g => some (aNam g)
  | .elem (.arg t) as, _, _ => (aFun (G (vl t)) (F (vl t))).bind fun f => (att k vl G F as f.2 0).bind fun b => some (if f.1 then 3 else 0, 3, 0, max 1 b.2.2.2)
  | .null, ws, _ => if ws = [] then some (0, 3, 0, 1) else none
  | .add e r, ws, hd => match ws with
    | [] => none
    | w :: ws => (att k vl G F e [] 0).bind fun a => (aArg w a).bind fun n => (att k vl G F r ws (hd + n)).bind fun b => some (0, 3, 0, max (hd + (if n = 2 then 2 else a.2.2.2)) b.2.2.2)
  | .sub (.arg t) e, _, _ => (aIdx (G (vl t))).bind fun _ => ((att k vl G F e [] 0).bind aNum).bind fun a => some (4, 3, 0, a.2.2.2)
  | .mul (.arg t) e, _, _ => (att k vl G F e [] 0).bind (aPre (k t))
  | .div (.arg _) e, _, _ => ((att k vl G F e [] 0).bind aTgt).bind fun a => some (0, 3, 0, a.2.2.2)
  | .rem (.arg t) (.elem x y), _, _ => ((att k vl G F x [] 0).bind aNum).bind fun a => ((att k vl G F y [] 0).bind aNum).bind fun b => some (aBin (k t) a b)
  | .old (.elem x (.elem y z)), _, _ => ((att k vl G F x [] 0).bind aNum).bind fun a => ((att k vl G F y [] 0).bind aNum).bind fun b => ((att k vl G F z [] 0).bind aNum).bind fun d => some (aCnd a b d)
  | .length (.elem (.arg _) (.elem x y)), _, _ => ((att k vl G F x [] 0).bind aTgt).bind fun a => ((att k vl G F y [] 0).bind aNum).bind fun b => some (aAsg a b)
  | _, _, _ => none
section ATT
variable {k : Nat → Int} {vl : Nat → Int32} {G : Int32 → Option Ent} {F : Int32 → Option Fnc} {t : Nat} {e r x y z : Ast} {ws : List Int} {w hd : Int}
theorem att_num : att k vl G F (eNum t) ws hd = some (0, 0, vl t, 1) := by first | rfl | simp [att, eNum]
theorem att_name : att k vl G F (eName t) ws hd = (G (vl t)).bind fun g => some (aNam g) := by first | rfl | simp [att, eName]
theorem att_call : att k vl G F (eCall t e) ws hd = (aFun (G (vl t)) (F (vl t))).bind fun f => (att k vl G F e f.2 0).bind fun b => some (if f.1 then 3 else 0, 3, 0, max 1 b.2.2.2) := by first | rfl | simp [att, eCall]
theorem att_nil : att k vl G F eNil ws hd = if ws = [] then some (0, 3, 0, 1) else none := by first | rfl | simp [att, eNil]
theorem att_cons0 : att k vl G F (eCons e r) [] hd = none := by first | rfl | simp [att, eCons]
theorem att_cons : att k vl G F (eCons e r) (w :: ws) hd = (att k vl G F e [] 0).bind fun a => (aArg w a).bind fun n => (att k vl G F r ws (hd + n)).bind fun b => some (0, 3, 0, max (hd + (if n = 2 then 2 else a.2.2.2)) b.2.2.2) := by first | rfl | simp [att, eCons]
theorem att_idx : att k vl G F (eIdx t e) ws hd = (aIdx (G (vl t))).bind fun _ => ((att k vl G F e [] 0).bind aNum).bind fun a => some (4, 3, 0, a.2.2.2) := by first | rfl | simp [att, eIdx]
theorem att_pre : att k vl G F (ePre t e) ws hd = (att k vl G F e [] 0).bind (aPre (k t)) := by first | rfl | simp [att, ePre]
theorem att_post : att k vl G F (ePost t e) ws hd = ((att k vl G F e [] 0).bind aTgt).bind fun a => some (0, 3, 0, a.2.2.2) := by first | rfl | simp [att, ePost]
theorem att_bin : att k vl G F (eBin t x y) ws hd = ((att k vl G F x [] 0).bind aNum).bind fun a => ((att k vl G F y [] 0).bind aNum).bind fun b => some (aBin (k t) a b) := by first | rfl | simp [att, eBin]
theorem att_cnd : att k vl G F (eCnd x y z) ws hd = ((att k vl G F x [] 0).bind aNum).bind fun a => ((att k vl G F y [] 0).bind aNum).bind fun b => ((att k vl G F z [] 0).bind aNum).bind fun d => some (aCnd a b d) := by first | rfl | simp [att, eCnd]
theorem att_asg : att k vl G F (eAsg t x y) ws hd = ((att k vl G F x [] 0).bind aTgt).bind fun a => ((att k vl G F y [] 0).bind aNum).bind fun b => some (aAsg a b) := by first | rfl | simp [att, eAsg]
end ATT
/-- what the class keeps of a symbol, and what it is -/
def entC (s : Nat → Int32) : Ent := if (s 1).toInt = 0 then (0, s 5) else if (s 2 &&& 4).toInt = 0 then (1, 0) else if (s 2 &&& 2).toInt = 0 then (2, 0) else (3, 0)
def EntM (s : Nat → Int32) (g : Ent) : Prop := entC s = g ∧ ((s 1).toInt = 0 → (s 2 &&& 4).toInt = 0)
def EnvC (own : Bool) (P : va_W) (lf : Nat → Int32) (lg : Nat → Option Nat) (G : Int32 → Option Ent) : Prop := ∀ (v : Int32) (r : Option Nat), R_nm_find own P lf lg v r → (G v = none ∧ r = none) ∨ ∃ (g : Ent) (q : Nat), G v = some g ∧ r = some q ∧ ∀ (j : Nat) (s : Nat → Int32), P[j]? = some (syC q s) → EntM s g
def WnM (ws : List Int) (v : Int32) : Prop := match ws with
  | [] => v.toInt = 0
  | w :: _ => (w = 1 ∧ (v.toInt = 1 ∨ v.toInt = 2)) ∨ (w = v.toInt ∧ 16 ≤ w ∧ w ≤ 18)
def FnM (na : Nat → Nat → Int32) (P : va_W) (q : Nat) (f : Fnc) : Prop := (∀ (j : Nat) (s : Nat → Int32), P[j]? = some (syC q s) → ((s 6).toInt = 3 ↔ f.1 = true) ∧ (s 4).toInt = (f.2.length : Int)) ∧ ∀ (i : Nat) (p0 v : Int32), p0.toInt = (i : Int) → R_nm_want_r na P q p0 v → WnM (f.2.drop i) v
def FunC (na : Nat → Nat → Int32) (P : va_W) (ff : Nat → Int32) (fg : Nat → Option Nat) (F : Int32 → Option Fnc) : Prop := ∀ (v : Int32) (r : Option Nat), R_nm_function P ff fg v r → (F v = none ∧ r = none) ∨ ∃ (f : Fnc) (q : Nat), F v = some f ∧ r = some q ∧ FnM na P q f
def srt (v : Int) : Int := if v = 4 then 1 else if v = 5 then 2 else v
def PlM (P : va_W) (ox : Option Nat) (v : Int) : Prop := (v = 0 ∨ v = 3) ∨ ∃ (q : Nat) (g : Int), ox = some q ∧ (∀ (j : Nat) (s : Nat → Int32), P[j]? = some (syC q s) → (entC s).1 = g) ∧ ((v = 1 ∧ g = 1) ∨ (v = 2 ∧ g = 2) ∨ (v = 5 ∧ g = 3) ∨ (v = 4 ∧ (g = 2 ∨ g = 3)))
/-- an operand of the class, and its attributes; n bounds its height -/
def MA (P : va_W) (c : Nat) (n : Int) (fx : Nat → Int32) (ox : Option Nat) (a : Atr) : Prop :=
  (0 ≤ (fx 0).toInt ∧ (fx 0).toInt < (c : Int)) ∧ (0 ≤ (fx 3).toInt ∧ (fx 3).toInt < (c : Int)) ∧ (fx 1).toInt = srt a.1 ∧ (fx 2).toInt = a.2.1 ∧ (a.2.1 = 0 ∨ a.2.1 = 2 ∨ a.2.1 = 3) ∧ (a.2.1 = 0 → fx 8 = a.2.2.1) ∧ ((fx 6).toInt = a.2.2.2 ∧ 1 ≤ a.2.2.2 ∧ a.2.2.2 ≤ n) ∧ PlM P ox a.1
theorem srt_of {P : va_W} {ox : Option Nat} {v : Int} (h : PlM P ox v) : (v = 0 ∧ srt v = 0) ∨ (v = 3 ∧ srt v = 3) ∨ (v = 1 ∧ srt v = 1) ∨ (v = 2 ∧ srt v = 2) ∨ (v = 5 ∧ srt v = 2) ∨ (v = 4 ∧ srt v = 1) := by
  rcases h with (rfl | rfl) | ⟨q, g, -, -, h⟩
  · exact Or.inl ⟨rfl, rfl⟩
  · exact Or.inr (Or.inl ⟨rfl, rfl⟩)
  · rcases h with ⟨rfl, -⟩ | ⟨rfl, -⟩ | ⟨rfl, -⟩ | ⟨rfl, -⟩
    · exact Or.inr (Or.inr (Or.inl ⟨rfl, rfl⟩))
    · exact Or.inr (Or.inr (Or.inr (Or.inl ⟨rfl, rfl⟩)))
    · exact Or.inr (Or.inr (Or.inr (Or.inr (Or.inl ⟨rfl, rfl⟩))))
    · exact Or.inr (Or.inr (Or.inr (Or.inr (Or.inr ⟨rfl, rfl⟩))))
theorem mx_i {a b : Int32} : (if a < b then b else a).toInt = max a.toInt b.toInt := by
  by_cases h : a < b
  · rw [if_pos h]
    have := i_lt.mp h
    omega
  · rw [if_neg h]
    have : ¬ a.toInt < b.toInt := fun q => h (i_lt.mpr q)
    omega
section NUM
variable {cn : Nat} {P : va_W} {ox : Option Nat} {tf fp cd fx tf' fp' cd' fx' : Nat → Int32} {c t : Nat} {o n : Int} {a : Atr}
theorem num_r (h : R_ex_number cn P ox tf fp cd fx tf' fp' cd' fx') : SmB tf tf' ∧ fx' = upd fx 1 0 := by
  rcases h with (⟨h1, (⟨h2, (⟨h3, e0, e1, e2, e3⟩ | ⟨h3, (⟨h4, e0, e1, e2, e3⟩ | ⟨q8, h4, j10, s11, h5, fp15, cd16, v18, h6, e0, e1, e2, e3⟩)⟩)⟩ | ⟨h2, tf21, h3, e0, e1, e2, e3⟩)⟩ | ⟨h1, tf30, h2, e0, e1, e2, e3⟩) | h
  · rw [e0]; exact ⟨SmB.rf, e3⟩
  · rw [e0]; exact ⟨SmB.rf, e3⟩
  · rw [e0]; exact ⟨SmB.rf, e3⟩
  · rw [e0]; exact ⟨blame_b h3, e3⟩
  · rw [e0]; exact ⟨blame_b h2, e3⟩
  · exact h.elim
theorem ma_num (hm : MA P c n fx ox a) : MA P c n (upd fx 1 0) ox (0, a.2) := by
  obtain ⟨m1, m2, m3, m4, m5, m6, m7, m8⟩ := hm
  refine ⟨?_, ?_, ?_, ?_, m5, ?_, ?_, Or.inl (Or.inl rfl)⟩
  · rw [pk_un (by decide)]; exact m1
  · rw [pk_un (by decide)]; exact m2
  · rw [pk_us]; rfl
  · rw [pk_un (by decide)]; exact m4
  · rw [pk_un (by decide)]; exact m6
  · rw [pk_un (by decide)]; exact m7
theorem num_at (h : R_ex_number cn P ox tf fp cd fx tf' fp' cd' fx') (hc : Cur tf c t o) (hm : MA P c n fx ox a) : AT tf tf' (aNum a) (MA P c n fx' ox) := by
  have h10 := hc.1
  have hs := srt_of hm.2.2.2.2.2.2.2
  have h1' := hm.2.2.1
  have m0 := hm.1
  have m3 := hm.2.1
  have hn : ¬ (a.1 = 2 ∨ a.1 = 3 ∨ a.1 = 5) → aNum a = some (0, a.2) := fun q => if_neg q
  have hp : (a.1 = 2 ∨ a.1 = 3 ∨ a.1 = 5) → aNum a = none := fun q => if_pos q
  rcases h with (⟨h1, (⟨h2, (⟨h3, e0, e1, e2, e3⟩ | ⟨h3, (⟨h4, e0, e1, e2, e3⟩ | ⟨q8, h4, j10, s11, h5, fp15, cd16, v18, h6, e0, e1, e2, e3⟩)⟩)⟩ | ⟨h2, tf21, h3, e0, e1, e2, e3⟩)⟩ | ⟨h1, tf30, h2, e0, e1, e2, e3⟩) | h
  · rw [e0, e3, hn (by omega)]; exact AT.ret (ma_num hm)
  · rw [e0, e3, hn (by omega)]; exact AT.ret (ma_num hm)
  · rw [e0, e3, hn (by omega)]; exact AT.ret (ma_num hm)
  · rw [e0, hp (by omega)]; exact AT.bad h3 (by decide) (by omega)
  · rw [e0, hp (by omega)]; exact AT.bad h2 (by decide) (by omega)
  · exact h.elim
theorem tgt_51 {v : Int32} {k : Nat} (h : E_ex_isTarget ox fx tf' v k 51 [] [] [] [] [] tf) : tf' = tf ∧ ((¬ (fx 1).toInt = 1 ∧ v = 0) ∨ ((fx 1).toInt = 1 ∧ ((ox = none ∧ v = 0) ∨ ∃ q, ox = some q ∧ v = 1))) := by
  rcases iv_ex_isTarget_51 h with ⟨k, (⟨h1, e0, ev⟩ | ⟨h1, (⟨h2, e0, ev⟩ | ⟨q4, h2, e0, ev⟩)⟩)⟩
  · exact ⟨e0, Or.inl ⟨h1, ev⟩⟩
  · exact ⟨e0, Or.inr ⟨h1, Or.inl ⟨h2, ev⟩⟩⟩
  · exact ⟨e0, Or.inr ⟨h1, Or.inr ⟨q4, h2, ev⟩⟩⟩
theorem tgt_r {v : Int32} (h : R_ex_isTarget ox fx tf tf' v) : SmB tf tf' := by
  obtain ⟨k, h⟩ := h
  rcases iv_ex_isTarget_0 h with ⟨k, (⟨h1, (⟨h2, tf10, h3, hE⟩ | ⟨h2, (⟨h3, hE⟩ | ⟨h3, tf21, h4, hE⟩)⟩)⟩ | ⟨h1, tf30, h2, hE⟩)⟩
  · rw [(tgt_51 hE).1]; exact blame_b h3
  · rw [(tgt_51 hE).1]; exact SmB.rf
  · rw [(tgt_51 hE).1]; exact blame_b h4
  · rw [(tgt_51 hE).1]; exact blame_b h2
theorem tgt_at {v : Int32} (h : R_ex_isTarget ox fx tf tf' v) (hc : Cur tf c t o) (hm : MA P c n fx ox a) : AT tf tf' (aTgt a) (fun b => b = a ∧ v = 1 ∧ (a.1 = 1 ∨ a.1 = 4)) := by
  have h10 := hc.1
  have hs := srt_of hm.2.2.2.2.2.2.2
  have h1' := hm.2.2.1
  have m0 := hm.1
  have hn : ¬ (a.1 = 1 ∨ a.1 = 4) → aTgt a = none := fun q => if_neg q
  have hp : (a.1 = 1 ∨ a.1 = 4) → aTgt a = some a := fun q => if_pos q
  obtain ⟨k, h⟩ := h
  rcases iv_ex_isTarget_0 h with ⟨k, (⟨h1, (⟨h2, tf10, h3, hE⟩ | ⟨h2, (⟨h3, hE⟩ | ⟨h3, tf21, h4, hE⟩)⟩)⟩ | ⟨h1, tf30, h2, hE⟩)⟩
  · rw [hn (by omega), (tgt_51 hE).1]; exact AT.bad h3 (by decide) (by omega)
  · rw [hp (by omega), (tgt_51 hE).1]
    refine AT.ret ⟨rfl, ?_, by omega⟩
    rcases (tgt_51 hE).2 with q | ⟨-, q | q⟩
    · exfalso; omega
    · rcases hm.2.2.2.2.2.2.2 with p | ⟨q', g, p, -, -⟩
      · exfalso; omega
      · rw [q.1] at p; exact absurd p (by simp)
    · obtain ⟨_, _, q⟩ := q; exact q
  · rw [hn (by omega), (tgt_51 hE).1]; exact AT.bad h4 (by decide) (by omega)
  · rw [hn (by omega), (tgt_51 hE).1]; exact AT.bad h2 (by decide) (by omega)
theorem bec_r {p0 : Int32} (h : R_Opd_become p0 fx fx') : ∃ z : Int32, z = fx 5 + 1 ∧ fx' = upd (upd (upd (upd fx 1 0) 2 p0) 5 z) 7 0 := by
  rcases h with ⟨z2, h1, e0⟩ | h
  · exact ⟨z2, h1, e0⟩
  · exact h.elim
theorem inc_46 {p0 p1 : Int32} {k : Nat} (h : E_ex_increase cn P ox p0 p1 fp' cd' fx' k 46 [] [] [] [] [] fp cd fx) : R_Opd_become 3 fx fx' := by
  obtain ⟨k, fx1, h1, e0, e1, e2⟩ := iv_ex_increase_46 h
  rw [e2]; exact h1
theorem inc_r {p0 p1 : Int32} (h : R_ex_increase cn P ox p0 p1 fp cd fx fp' cd' fx') : R_Opd_become 3 fx fx' := by
  obtain ⟨k, h⟩ := h
  rcases iv_ex_increase_0 h with ⟨k, (⟨h1, hE⟩ | ⟨h1, (⟨h2, hE⟩ | ⟨q16, h2, z18, h3, z19, h4, j20, s21, h5, fp25, cd26, v28, h6, hE⟩)⟩)⟩
  · exact inc_46 hE
  · exact inc_46 hE
  · exact inc_46 hE
/-- what became a number -/
theorem ma_bec {p0 : Int32} {b : Atr} (h : R_Opd_become p0 fx fx') (hm : MA P c n fx ox a) (h0 : b.1 = 0) (h1 : b.2.1 = p0.toInt) (h2 : p0.toInt = 0 ∨ p0.toInt = 2 ∨ p0.toInt = 3) (h3 : p0.toInt = 0 → fx 8 = b.2.2.1) (h4 : b.2.2.2 = a.2.2.2) : MA P c n fx' ox b := by
  obtain ⟨z, -, e⟩ := bec_r h
  obtain ⟨m1, m2, m3, m4, m5, m6, m7, m8⟩ := hm
  rw [e]
  refine ⟨?_, ?_, ?_, ?_, by rw [h1]; exact h2, fun q => ?_, ?_, Or.inl (Or.inl h0)⟩
  · simpa [upd] using m1
  · simpa [upd] using m2
  · rw [h0]; simp [upd, srt]
  · rw [h1]; simp [upd]
  · rw [h1] at q; simpa [upd] using h3 q
  · rw [h4]; simpa [upd] using m7
end NUM
/-- folding -/
def StMq (x : Int × Int32) (fx : Nat → Int32) : Prop := (fx 2).toInt = x.1 ∧ (x.1 = 0 ∨ x.1 = 2 ∨ x.1 = 3) ∧ (x.1 = 0 → fx 8 = x.2)
theorem rck_r {p0 p1 p2 v : Int32} (h : R_Hs_reckon p0 p1 p2 v) : v = rck p0.toInt p1 p2 := by
  unfold rck
  rcases h with (⟨h1, (⟨h2, ev⟩ | ⟨h2, ev⟩)⟩ | ⟨h1, (⟨h2, z7, h3, ev⟩ | ⟨h2, ev⟩)⟩ | ⟨h1, z8, h2, ev⟩ | ⟨h1, z9, h2, ev⟩ | ⟨h1, z10, h2, ev⟩ | ⟨h1, z11, h2, ev⟩ | ⟨h1, (⟨h2, z14, h3, ev⟩ | ⟨h2, ev⟩)⟩ | ⟨h1, (⟨h2, ev⟩ | ⟨h2, ev⟩)⟩ | ⟨h1, (⟨h2, ev⟩ | ⟨h2, ev⟩)⟩ | ⟨h1, z19, h2, ev⟩ | ⟨h1, z20, h2, ev⟩ | ⟨h1, (⟨h2, ev⟩ | ⟨h2, ev⟩)⟩ | ⟨h1, (⟨h2, ev⟩ | ⟨h2, ev⟩)⟩ | ⟨h1, (⟨h2, ev⟩ | ⟨h2, ev⟩)⟩ | ⟨h1, z27, h2, z28, h3, ev⟩ | ⟨h1, z29, h2, z30, h3, ev⟩) | h
  · rw [if_neg (h1 37 (by simp)), if_neg (h1 38 (by simp)), if_neg (h1 42 (by simp)), if_neg (h1 43 (by simp)), if_neg (h1 45 (by simp)), if_neg (h1 47 (by simp)), if_neg (h1 60 (by simp)), if_neg (h1 62 (by simp)), if_neg (h1 94 (by simp)), if_neg (h1 124 (by simp)), if_neg (h1 130 (by simp)), if_neg (h1 132 (by simp)), if_neg (h1 133 (by simp)), if_neg (h1 134 (by simp)), if_neg (h1 135 (by simp)), if_pos h2, ev]
  · rw [if_neg (h1 37 (by simp)), if_neg (h1 38 (by simp)), if_neg (h1 42 (by simp)), if_neg (h1 43 (by simp)), if_neg (h1 45 (by simp)), if_neg (h1 47 (by simp)), if_neg (h1 60 (by simp)), if_neg (h1 62 (by simp)), if_neg (h1 94 (by simp)), if_neg (h1 124 (by simp)), if_neg (h1 130 (by simp)), if_neg (h1 132 (by simp)), if_neg (h1 133 (by simp)), if_neg (h1 134 (by simp)), if_neg (h1 135 (by simp)), if_neg h2, ev]
  · rw [ev, h3, h1]; simp [h2]
  · rw [ev, h1]; simp [h2]
  · rw [ev, h2, h1]; first | rfl | simp
  · rw [ev, h2, h1]; first | rfl | simp
  · rw [ev, h2, h1]; first | rfl | simp
  · rw [ev, h2, h1]; first | rfl | simp
  · rw [ev, h3, h1]; simp [h2]
  · rw [ev, h1]; simp [h2]
  · rw [ev, h1]; simp [h2]
  · rw [ev, h1]; simp [h2]
  · rw [ev, h1]; simp [h2]
  · rw [ev, h1]; simp [h2]
  · rw [ev, h2, h1]; first | rfl | simp
  · rw [ev, h2, h1]; first | rfl | simp
  · rw [ev, h1]; simp [h2]
  · rw [ev, h1]; simp [h2]
  · rw [ev, h1]; simp [h2]
  · rw [ev, h1]; simp [h2]
  · rw [ev, h1]; simp [h2]
  · rw [ev, h1]; simp [h2]
  · rw [ev, h3, h2, h1]; first | rfl | simp
  · rw [ev, h3, h2, h1]; first | rfl | simp
  · exact h.elim
theorem byz_r {p0 p1 v : Int32} (h : R_Hs_byZero p0 p1 v) : (v.toInt = 0 ∧ ¬ ((p0.toInt = 47 ∨ p0.toInt = 37) ∧ p1.toInt = 0)) ∨ (v.toInt = 1 ∧ (p0.toInt = 47 ∨ p0.toInt = 37) ∧ p1.toInt = 0) := by
  rcases h with (⟨h1, (⟨h2, ev⟩ | ⟨h2, ev⟩)⟩ | ⟨h1, (⟨h2, ev⟩ | ⟨h2, (⟨h3, ev⟩ | ⟨h3, ev⟩)⟩)⟩) | h
  all_goals first
    | exact h.elim
    | (left; refine ⟨by rw [ev]; rfl, ?_⟩; omega)
    | (right; refine ⟨by rw [ev]; rfl, ?_⟩; omega)
theorem rku_r {p0 p1 v : Int32} (h : R_Hs_reckonUnary p0 p1 v) : v = rku p0.toInt p1 := by
  unfold rku
  rcases h with (⟨h1, z2, h2, ev⟩ | ⟨h1, (⟨h2, ev⟩ | ⟨h2, ev⟩)⟩ | ⟨h1, z6, h2, ev⟩) | h
  · have q1 := h1 33 (by simp)
    have q2 := h1 45 (by simp)
    rw [if_neg q2, if_neg q1, ev, h2]
  · rw [if_neg (by omega), if_pos h1, if_neg h2, ev]
  · rw [if_neg (by omega), if_pos h1, if_pos h2, ev]
  · rw [if_pos h1, ev, h2]
  · exact h.elim
theorem log_at {p0 : Int32} {fx fy fx' : Nat → Int32} {x y : Int × Int32} (h : R_ex_foldLogic fy p0 fx fx') (hp : p0.toInt = 0 ∨ p0.toInt = 1) (hx : StMq x fx) (hy : StMq y fy) :
    StMq (aLog p0.toInt x y) fx' ∧ ∀ i : Nat, i ≠ 2 → i ≠ 8 → fx' i = fx i := by
  obtain ⟨x1, x2, x3⟩ := hx
  obtain ⟨y1, y2, y3⟩ := hy
  have hu : ∀ (u v : Int32) (i : Nat), i ≠ 2 → i ≠ 8 → upd (upd fx 2 u) 8 v i = fx i := fun u v i q2 q8 => by rw [pk_un q8, pk_un q2]
  have hv : ∀ (v : Int32) (i : Nat), i ≠ 2 → i ≠ 8 → upd fx 8 v i = fx i := fun v i q2 q8 => by rw [pk_un q8]
  have hxn : ¬ (fx 2).toInt = 0 → StMq (aLog p0.toInt x y) fx := by
    intro q
    unfold aLog
    rw [if_neg (by omega)]
    exact ⟨x1, x2, x3⟩
  have key : ∀ (w : Int × Int32) (u : Int32), w = (y.1, nz y.2) → (y.1 = 0 → u = nz y.2) → StMq w (upd (upd fx 2 (fy 2)) 8 u) := by
    intro w u ew eu
    rw [ew]
    refine ⟨?_, y2, fun q => ?_⟩
    · rw [pk_un (by decide), pk_us]; exact y1
    · rw [pk_us]; exact eu q
  have known : ∀ (w : Int × Int32) (u : Int32), (fx 2).toInt = 0 → w = (0, u) → StMq w (upd fx 8 u) := by
    intro w u q ew
    rw [ew]
    refine ⟨?_, Or.inl rfl, fun _ => ?_⟩
    · rw [pk_un (by decide)]; exact q
    · rw [pk_us]
  have nzy : ∀ u : Int32, (((fy 8).toInt = 0 ∧ u = 0) ∨ (¬ (fy 8).toInt = 0 ∧ u = 1)) → y.1 = 0 → u = nz y.2 := by
    intro u hu q
    have e := y3 q
    unfold nz
    rw [← e]
    rcases hu with ⟨q1, q2⟩ | ⟨q1, q2⟩
    · rw [if_pos q1, q2]
    · rw [if_neg q1, q2]
  have l0 : (fx 2).toInt = 0 → (fx 8).toInt = 0 → aLog p0.toInt x y = if p0.toInt = 0 then (0, 0) else (y.1, nz y.2) := by
    intro q1 q2
    have e := x3 (by omega)
    unfold aLog
    rw [if_pos (by omega), ← e, if_pos q2]
  have l1 : (fx 2).toInt = 0 → ¬ (fx 8).toInt = 0 → aLog p0.toInt x y = if p0.toInt = 1 then (0, 1) else (y.1, nz y.2) := by
    intro q1 q2
    have e := x3 (by omega)
    unfold aLog
    rw [if_pos (by omega), ← e, if_neg q2]
  rcases h with (⟨h1, (⟨h2, (⟨h3, (⟨h4, e0⟩ | ⟨h4, e0⟩)⟩ | ⟨h3, (⟨h4, e0⟩ | ⟨h4, e0⟩)⟩)⟩ | ⟨h2, (⟨h3, (⟨h4, e0⟩ | ⟨h4, e0⟩)⟩ | ⟨h3, (⟨h4, e0⟩ | ⟨h4, e0⟩)⟩)⟩)⟩ | ⟨h1, e0⟩) | h
  · rw [e0]; exact ⟨key _ _ (by rw [l0 h1 h2, if_neg (by omega)]) (nzy _ (Or.inl ⟨h4, rfl⟩)), hu _ _⟩
  · rw [e0]; exact ⟨key _ _ (by rw [l0 h1 h2, if_neg (by omega)]) (nzy _ (Or.inr ⟨h4, rfl⟩)), hu _ _⟩
  · rw [e0]; exact ⟨known _ _ h1 (by rw [l0 h1 h2, if_pos (by omega)]), hv _⟩
  · exfalso; omega
  · rw [e0]; exact ⟨key _ _ (by rw [l1 h1 h2, if_neg (by omega)]) (nzy _ (Or.inl ⟨h4, rfl⟩)), hu _ _⟩
  · rw [e0]; exact ⟨key _ _ (by rw [l1 h1 h2, if_neg (by omega)]) (nzy _ (Or.inr ⟨h4, rfl⟩)), hu _ _⟩
  · exfalso; omega
  · rw [e0]; exact ⟨known _ _ h1 (by rw [l1 h1 h2, if_pos (by omega)]), hv _⟩
  · rw [e0]; exact ⟨hxn h1, fun _ _ _ => rfl⟩
  · exact h.elim
theorem fold_at {p0 : Int32} {fx fy fx' : Nat → Int32} {x y : Int × Int32} (h : R_ex_fold fy p0 fx fx') (hx : StMq x fx) (hy : StMq y fy) :
    StMq (aFold p0.toInt x y) fx' ∧ ∀ i : Nat, i ≠ 2 → i ≠ 8 → fx' i = fx i := by
  obtain ⟨k, h⟩ := h
  have x1 := hx.1
  have x2 := hx.2.1
  have x3 := hx.2.2
  have y1 := hy.1
  have y2 := hy.2.1
  have y3 := hy.2.2
  have e140 : ∀ {g : Nat → Int32} {k : Nat}, E_ex_fold fy p0 fx' k 140 [] [] [] [] [] g → fx' = g := by
    intro g k q
    obtain ⟨k, q⟩ := iv_ex_fold_140 q
    exact q
  have u2 : ∀ (v : Int32) (i : Nat), i ≠ 2 → i ≠ 8 → upd fx 2 v i = fx i := fun v i q2 q8 => by rw [pk_un q2]
  have u8 : ∀ (v : Int32) (i : Nat), i ≠ 2 → i ≠ 8 → upd fx 8 v i = fx i := fun v i q2 q8 => by rw [pk_un q8]
  have st : ∀ (w : Int × Int32) (v : Int32), w.1 = v.toInt → (v.toInt = 2 ∨ v.toInt = 3) → StMq w (upd fx 2 v) := by
    intro w v q1 q2
    refine ⟨by rw [pk_us]; exact q1.symm, by omega, fun q => by omega⟩
  have a3 : (x.1 = 3 ∨ y.1 = 3) → aFold p0.toInt x y = (3, x.2) := fun q => if_pos q
  have l3 : ¬ (x.1 = 3 ∨ y.1 = 3) → p0.toInt = 136 → aFold p0.toInt x y = aLog 0 x y := fun q r => by unfold aFold; rw [if_neg q, if_pos r]
  have l4 : ¬ (x.1 = 3 ∨ y.1 = 3) → p0.toInt = 137 → aFold p0.toInt x y = aLog 1 x y := fun q r => by unfold aFold; rw [if_neg q, if_neg (by omega), if_pos r]
  have d2 : ¬ (x.1 = 3 ∨ y.1 = 3) → ¬ p0.toInt = 136 → ¬ p0.toInt = 137 → (x.1 = 2 ∨ y.1 = 2 ∨ (y.1 = 0 ∧ (p0.toInt = 47 ∨ p0.toInt = 37) ∧ y.2.toInt = 0)) → aFold p0.toInt x y = (2, x.2) := fun q r r2 r3 => by
    unfold aFold; rw [if_neg q, if_neg r, if_neg r2, if_pos r3]
  have k0 : ¬ (x.1 = 3 ∨ y.1 = 3) → ¬ p0.toInt = 136 → ¬ p0.toInt = 137 → ¬ (x.1 = 2 ∨ y.1 = 2 ∨ (y.1 = 0 ∧ (p0.toInt = 47 ∨ p0.toInt = 37) ∧ y.2.toInt = 0)) → aFold p0.toInt x y = (0, rck p0.toInt x.2 y.2) := fun q r r2 r3 => by
    unfold aFold; rw [if_neg q, if_neg r, if_neg r2, if_neg r3]
  have k8 : ∀ {v : Int32}, R_Hs_reckon p0 (fx 8) (fy 8) v → x.1 = 0 → y.1 = 0 → StMq (0, rck p0.toInt x.2 y.2) (upd fx 8 v) := by
    intro v q q1 q2
    refine ⟨by rw [pk_un (by decide)]; omega, Or.inl rfl, fun _ => ?_⟩
    rw [pk_us, rck_r q, x3 q1, y3 q2]
  rcases iv_ex_fold_0 h with ⟨k, (⟨h1, hE⟩ | ⟨h1, (⟨h2, (⟨h3, (⟨h4, fx10, h5, hE⟩ | ⟨h4, fx18, h5, hE⟩)⟩ | ⟨h3, (⟨h4, (⟨h5, hE⟩ | ⟨h5, (⟨h6, hE⟩ | ⟨h6, (⟨h7, (⟨h8, hE⟩ | ⟨h8, (⟨h9, v38, h10, hE⟩ | ⟨h9, hE⟩)⟩)⟩ | ⟨h7, v41, h8, (⟨h9, (⟨h10, hE⟩ | ⟨h10, (⟨h11, v51, h12, hE⟩ | ⟨h11, hE⟩)⟩)⟩ | ⟨h9, hE⟩)⟩)⟩)⟩)⟩ | ⟨h4, (⟨h5, fx56, h6, hE⟩ | ⟨h5, fx64, h6, hE⟩)⟩)⟩)⟩ | ⟨h2, hE⟩)⟩)⟩
  · rw [e140 hE, a3 (by omega)]; exact ⟨st _ _ rfl (by decide), u2 _⟩
  · rw [e140 hE, l3 (by omega) (by omega)]; have q := log_at h5 (by decide) hx hy; rwa [show ((0 : Int32)).toInt = 0 from rfl] at q
  · exfalso; omega
  · rw [e140 hE, d2 (by omega) (by omega) (by omega) (by omega)]; exact ⟨st _ _ rfl (by decide), u2 _⟩
  · rw [e140 hE, d2 (by omega) (by omega) (by omega) (by omega)]; exact ⟨st _ _ rfl (by decide), u2 _⟩
  · exfalso; omega
  · exfalso; omega
  · exfalso; omega
  · exfalso; omega
  · have z := byz_r h8
    have e := y3 (by omega)
    rw [e] at z
    rw [e140 hE, k0 (by omega) (by omega) (by omega) (by omega)]; exact ⟨k8 h12 (by omega) (by omega), u8 _⟩
  · exfalso; omega
  · have z := byz_r h8
    have e := y3 (by omega)
    rw [e] at z
    rw [e140 hE, d2 (by omega) (by omega) (by omega) (by omega)]; exact ⟨st _ _ rfl (by decide), u2 _⟩
  · exfalso; omega
  · rw [e140 hE, l4 (by omega) (by omega)]; have q := log_at h6 (by decide) hx hy; rwa [show ((1 : Int32)).toInt = 1 from rfl] at q
  · rw [e140 hE, a3 (by omega)]; exact ⟨st _ _ rfl (by decide), u2 _⟩
theorem log_o {p0 : Int32} {fx fy fx' : Nat → Int32} (h : R_ex_foldLogic fy p0 fx fx') : ∀ i : Nat, i ≠ 2 → i ≠ 8 → fx' i = fx i := by
  intro i q2 q8
  rcases h with (⟨h1, (⟨h2, (⟨h3, (⟨h4, e0⟩ | ⟨h4, e0⟩)⟩ | ⟨h3, (⟨h4, e0⟩ | ⟨h4, e0⟩)⟩)⟩ | ⟨h2, (⟨h3, (⟨h4, e0⟩ | ⟨h4, e0⟩)⟩ | ⟨h3, (⟨h4, e0⟩ | ⟨h4, e0⟩)⟩)⟩)⟩ | ⟨h1, e0⟩) | h
  all_goals first
    | exact h.elim
    | (rw [e0, pk_un q8, pk_un q2]; done)
    | (rw [e0, pk_un q8]; done)
    | (rw [e0]; done)
theorem fold_o {p0 : Int32} {fx fy fx' : Nat → Int32} (h : R_ex_fold fy p0 fx fx') : ∀ i : Nat, i ≠ 2 → i ≠ 8 → fx' i = fx i := by
  intro i q2 q8
  obtain ⟨k, h⟩ := h
  have e140 : ∀ {g : Nat → Int32} {k : Nat}, E_ex_fold fy p0 fx' k 140 [] [] [] [] [] g → fx' = g := by
    intro g k q
    obtain ⟨k, q⟩ := iv_ex_fold_140 q
    exact q
  rcases iv_ex_fold_0 h with ⟨k, (⟨h1, hE⟩ | ⟨h1, (⟨h2, (⟨h3, (⟨h4, fx10, h5, hE⟩ | ⟨h4, fx18, h5, hE⟩)⟩ | ⟨h3, (⟨h4, (⟨h5, hE⟩ | ⟨h5, (⟨h6, hE⟩ | ⟨h6, (⟨h7, (⟨h8, hE⟩ | ⟨h8, (⟨h9, v38, h10, hE⟩ | ⟨h9, hE⟩)⟩)⟩ | ⟨h7, v41, h8, (⟨h9, (⟨h10, hE⟩ | ⟨h10, (⟨h11, v51, h12, hE⟩ | ⟨h11, hE⟩)⟩)⟩ | ⟨h9, hE⟩)⟩)⟩)⟩)⟩ | ⟨h4, (⟨h5, fx56, h6, hE⟩ | ⟨h5, fx64, h6, hE⟩)⟩)⟩)⟩ | ⟨h2, hE⟩)⟩)⟩
  all_goals rw [e140 hE]
  all_goals first
    | (rw [pk_un q2]; done)
    | (rw [pk_un q8]; done)
    | exact log_o (by assumption) i q2 q8
