section SI
variable {ta : Nat → Nat → Int32} {cn sn : Nat} {na : Nat → Nat → Int32} {ff : Nat → Int32} {fg : Nat → Option Nat} {c q0 : Nat} {rt : Int} {Flq' : List (Int32 × Fnc)}
/-- a statement at every level -/
theorem st_all (hl : Lst0 ta c) : ∀ n : Nat, HSx (RL_tc_statement n) ta cn na ff fg sn c Flq' q0 rt (pSt (kd ta) n) := by
  intro n
  induction n with
  | zero =>
    intro cf ca tf fp cd nf own lq lc lf lg P fs sd cf' ca' tf' fp' cd' nf' own' lq' lc' lf' lg' P' fs' sd' t o sc L h hN hst
    exact h.elim
  | succ n ih =>
    intro cf ca tf fp cd nf own lq lc lf lg P fs sd cf' ca' tf' fp' cd' nf' own' lq' lc' lf' lg' P' fs' sd' t o sc L h hN hst
    exact stm_ok hl ih (tkl_RLs n) (bkl_RLs n) (pxl_RLs n) (nfl_RLs n) hN h hst
end SI
