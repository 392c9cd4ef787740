/-! THE REFERENCE's checker: what is wanted of a whole, chains, places -/
theorem AC.mp {α β : Type} {a b : Nat → Int32} {x : Option α} {f : α → β} {P : α → Prop} {N : β → Prop} (h : AC a b x P) (g : ∀ y, P y → N (f y)) : AC a b (x.bind fun y => some (f y)) N := by
  refine AC.of h.1 (fun u => ?_)
  cases x with
  | none => exact Or.inl ⟨rfl, h.n u rfl⟩
  | some y =>
    have q := h.y u rfl
    exact Or.inr ⟨f y, rfl, q.1, g y q.2⟩
section RA2
variable {k : Nat → Int} {vl M : Nat → Int32} {c : Nat} {na ca ma ma1 : Nat → Nat → Int32} {G : Int32 → Option Ent} {F : Int32 → Option Fnc} {e : Ast} {b : Bool} {n v : Int} {lo hi : Nat} {cf cf1 cf2 : Nat → Int32}
/-- a check whose answer is not looked at yet -/
def Ok0 (k : Nat → Int) (vl : Nat → Int32) (G : Int32 → Option Ent) (F : Int32 → Option Fnc) (na ca : Nat → Nat → Int32) (M : Nat → Int32) (e : Ast) (n : Int) (lo hi : Nat) (ma : Nat → Nat → Int32) (cf : Nat → Int32) (ma' : Nat → Nat → Int32) (cf' : Nat → Int32) (v : Int) : Prop := SmK cf cf' ∧ FrM ma ma' lo hi ∧ AgKr na ma ma' lo hi ∧ AC cf cf' (att k vl G F e [] 0) (fun a => IsV v a.1) ∧ (Uc cf' → ∀ d : Nat, NtN na ca vl M F ma' d n)
theorem Ok0.f (O : Ok0 k vl G F na ca M e n lo hi ma cf ma1 cf1 v) : OkC k vl G F na ca M e false n lo hi ma cf ma1 cf1 v := by
  obtain ⟨o1, o2, o3, o4, o5⟩ := O
  refine ⟨o1, o2, o3, ?_, o5⟩
  have y : (att k vl G F e [] 0).bind (fun a => if false = true then aNum a else some a) = att k vl G F e [] 0 := by
    cases att k vl G F e [] 0 <;> rfl
  rw [y]; exact o4
theorem Ok0.y (O : Ok0 k vl G F na ca M e n lo hi ma cf ma1 cf1 v) (h2 : ¬ v = 2) (h3 : ¬ v = 3) (h4 : ¬ v = 4) : OkC k vl G F na ca M e true n lo hi ma cf ma1 cf1 v := by
  obtain ⟨o1, o2, o3, o4, o5⟩ := O
  refine ⟨o1, o2, o3, AC.of o4.1 (fun u => ?_), o5⟩
  cases g : att k vl G F e [] 0 with
  | none => exact Or.inl ⟨rfl, o4.n u g⟩
  | some a =>
    have q := o4.y u g
    have q2 := q.2
    unfold IsV at q2
    have y : aNum a = some (0, a.2) := by unfold aNum; rw [if_neg (by omega)]
    exact Or.inr ⟨(0, a.2), y, q.1, Or.inl ⟨by omega, Or.inl rfl⟩⟩
theorem Ok0.bd (O : Ok0 k vl G F na ca M e n lo hi ma cf ma1 cf1 v) {x y : Int32} (hb : R_mp_bad x y cf1 cf2) (hx : ¬ x.toInt = 0) (h : v = 2 ∨ v = 3 ∨ v = 4) : OkC k vl G F na ca M e true n lo hi ma cf ma1 cf2 v := by
  obtain ⟨o1, o2, o3, o4, o5⟩ := O
  have r := bad_r hb hx
  refine ⟨o1.tr r.2, o2, o3, AC.of (fun _ => r.1) (fun u => Or.inl ⟨?_, r.1⟩), fun u => absurd u r.1⟩
  cases g : att k vl G F e [] 0 with
  | none => rfl
  | some a =>
    have q2 := (o4.y u g).2
    unfold IsV at q2
    have y : aNum a = none := by unfold aNum; rw [if_pos (by omega)]
    exact y
theorem Ok0.cn (O : Ok0 k vl G F na ca M e n lo hi ma cf ma1 cf1 1) : OkC k vl G F na ca M e b n lo hi ma cf ma1 cf1 1 := by
  cases b
  · exact O.f
  · exact O.y (by decide) (by decide) (by decide)
theorem OkC.t (O : OkC k vl G F na ca M e true n lo hi ma cf ma1 cf1 v) : AC cf cf1 ((att k vl G F e [] 0).bind aNum) (fun a => IsV v a.1) := by
  have y : (att k vl G F e [] 0).bind (fun a => if true = true then aNum a else some a) = (att k vl G F e [] 0).bind aNum := by
    cases att k vl G F e [] 0 <;> rfl
  have o4 := O.2.2.2.1
  rw [y] at o4
  exact o4
theorem OkC.u (O : OkC k vl G F na ca M e false n lo hi ma cf ma1 cf1 v) : AC cf cf1 (att k vl G F e [] 0) (fun a => IsV v a.1) := by
  have y : (att k vl G F e [] 0).bind (fun a => if false = true then aNum a else some a) = att k vl G F e [] 0 := by
    cases att k vl G F e [] 0 <;> rfl
  have o4 := O.2.2.2.1
  rw [y] at o4
  exact o4
/-- every operand of a row is a number -/
def okL (k : Nat → Int) (vl : Nat → Int32) (G : Int32 → Option Ent) (F : Int32 → Option Fnc) : List (Option Nat × Ast) → Option Unit
  | [] => some ()
  | (_, e) :: r => ((att k vl G F e [] 0).bind aNum).bind fun _ => okL k vl G F r
theorem okL_ap : ∀ (l : List (Option Nat × Ast)) (o : Option Nat) (y : Ast), okL k vl G F (l ++ [(o, y)]) = (okL k vl G F l).bind fun _ => ((att k vl G F y [] 0).bind aNum).bind fun _ => some () := by
  intro l
  induction l with
  | nil => intro o y; rfl
  | cons a l ih =>
    obtain ⟨o', e'⟩ := a
    intro o y
    show (((att k vl G F e' [] 0).bind aNum).bind fun _ => okL k vl G F (l ++ [(o, y)])) = (((att k vl G F e' [] 0).bind aNum).bind fun _ => okL k vl G F l).bind _
    rw [ih]
    cases (att k vl G F e' [] 0).bind aNum <;> rfl
theorem num_0 {a : Atr} (h : a.1 = 0) : aNum a = some (0, a.2) := by unfold aNum; rw [if_neg (by omega)]
theorem num_f {a b : Atr} (h : aNum a = some b) : b = (0, a.2) := by
  unfold aNum at h
  split at h
  · exact absurd h (by simp)
  · injection h with h
    exact h.symm
/-- a chain -/
def isCh (k : Nat → Int) : Ast → Prop
  | .mul (.arg t) e => k t = 43 ∧ isCh k e
  | .rem (.arg t) (.elem x _) => rkT k x = rkO (k t) → isCh k x
  | _ => False
theorem rep_ch (e : Ast) (md : Bool) (n b : Int) (lo hi : Nat) : Rep k c na ma e md n b lo hi → md = true → isCh k e := by
  fun_induction Rep k c na ma e md n b lo hi
  all_goals intro h hm
  case case11 =>
    subst hm
    rename_i t x y n b lo hi ih3 ih2 ih1
    obtain ⟨i, j, mid, l2, h2, a1, a2, a3, a4, a5, a6, a7, a8, a9, a10, a11, a12, a13⟩ := h
    have hid := fun (_ : True) => a13
    clear a13
    show rkT k x = rkO (k t) → isCh k x
    intro q
    rcases hid trivial with ⟨b1, b2, p, b3, b4, b5⟩ | ⟨b1, -⟩
    · exact ih2 mid p b4 rfl
    · exact absurd q b1
  case case12 =>
    rename_i s e n b lo hi ih
    exact ⟨h.1.1, ih h.2 rfl⟩
  case case13 => exact h.elim
  all_goals exact absurd hm (by decide)
theorem rep_c2 {t : Nat} {x y : Ast} (h : Rep k c na ma (.rem (.arg t) (.elem x y)) false n 0 lo hi) : isCh k (.rem (.arg t) (.elem x y)) := by
  show rkT k x = rkO (k t) → isCh k x
  intro q
  obtain ⟨i, j, mid, l2, h2, a1, a2, a3, a4, a5, a6, a7, a8, a9, a10, a11, a12, a13⟩ := h
  have hid := fun (_ : True) => a13
  clear a13
  rcases hid trivial with ⟨b1, b2, p, b3, b4, b5⟩ | ⟨b1, -⟩
  · exact rep_ch _ _ _ _ _ _ b4 rfl
  · exact absurd q b1
/-- a chain is right if its operands are numbers -/
theorem att_ops (e : Ast) : isCh k e → okL k vl G F (opsT k e) = (att k vl G F e [] 0).bind (fun _ => some ()) ∧ ∀ a : Atr, att k vl G F e [] 0 = some a → a.1 = 0 := by
  fun_induction opsT k e
  case case1 =>
    rename_i t e ih
    intro h
    have h43 : k t = 43 := h.1
    obtain ⟨i1, i2⟩ := ih h.2
    have at1 : att k vl G F (.mul (.arg t) e) [] 0 = (att k vl G F e [] 0).bind (aPre (k t)) := att_pre
    rw [at1, i1]
    cases g : att k vl G F e [] 0 with
    | none => exact ⟨rfl, fun a q => absurd q (by simp)⟩
    | some a =>
      have a0 := i2 a g
      have y : aPre (k t) a = some (0, a.2.1, a.2.2.1, a.2.2.2) := by
        unfold aPre
        rw [if_neg (by omega), num_0 a0]
        show some _ = _
        rw [if_pos h43]
      refine ⟨?_, fun a' q => ?_⟩
      · show some () = (aPre (k t) a).bind fun _ => some ()
        rw [y]; rfl
      · have q' : aPre (k t) a = some a' := q
        rw [y] at q'
        injection q' with q'
        rw [← q']
  case case2 =>
    rename_i t x y ih
    intro h
    have h' : rkT k x = rkO (k t) → isCh k x := h
    have at1 : att k vl G F (.rem (.arg t) (.elem x y)) [] 0 = ((att k vl G F x [] 0).bind aNum).bind fun a => ((att k vl G F y [] 0).bind aNum).bind fun b => some (aBin (k t) a b) := att_bin
    rw [okL_ap, at1]
    have lx : okL k vl G F (if rkT k x = rkO (k t) then opsT k x else [(none, x)]) = ((att k vl G F x [] 0).bind aNum).bind fun _ => some () := by
      by_cases q : rkT k x = rkO (k t)
      · rw [if_pos q]
        obtain ⟨i1, i2⟩ := ih (h' q)
        rw [i1]
        cases g : att k vl G F x [] 0 with
        | none => rfl
        | some a =>
          show some () = (aNum a).bind fun _ => some ()
          rw [num_0 (i2 a g)]; rfl
      · rw [if_neg q]; rfl
    rw [lx]
    cases (att k vl G F x [] 0).bind aNum with
    | none => exact ⟨rfl, fun a q => absurd q (by simp)⟩
    | some a =>
      cases (att k vl G F y [] 0).bind aNum with
      | none => exact ⟨rfl, fun a q => absurd q (by simp)⟩
      | some b =>
        refine ⟨rfl, fun a' q => ?_⟩
        have q' : some (aBin (k t) a b) = some a' := q
        injection q' with q'
        rw [← q']; rfl
  case case3 =>
    rename_i e h1 h2
    intro h
    exfalso
    unfold isCh at h
    split at h
    · exact h1 _ _ rfl
    · exact h2 _ _ _ rfl
    · exact h
end RA2
