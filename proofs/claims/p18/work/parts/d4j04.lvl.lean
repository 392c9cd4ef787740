/-! LEVELS of the grammar: where so much is open that no more can be, a deeper level says the same -/
theorem dpT_nn (k : Nat → Int) (e : Ast) : 0 ≤ dpT k e := by
  fun_induction dpT k e <;> omega
section RA
variable {k : Nat → Int} {P P' : PPT} {O O' : POT} {o : Int}
theorem pArgs_c (h : ∀ (L : Int) (t : Nat), P L t o = P' L t o) : ∀ (n t : Nat), pArgs P k o n t = pArgs P' k o n t := by
  intro n
  induction n with
  | zero => intro t; rfl
  | succ n ih =>
    intro t
    have un : ∀ Q : PPT, pArgs Q k o (n + 1) t = (match Q (-1) t o with
      | none => none
      | some (e, t1) => if k t1 = 44 then (match pArgs Q k o n (t1 + 1) with
          | none => none
          | some (r, t2) => some (eCons e r, t2)) else some (eCons e eNil, t1)) := fun Q => by first | rfl | simp [pArgs]
    rw [un P, un P', h]
    simp only [ih]
theorem pPrim_c (h : o < 60 → ∀ (L : Int) (t : Nat), P L t (o + 1) = P' L t (o + 1)) (t : Nat) : pPrim P k t o = pPrim P' k t o := by
  unfold pPrim
  by_cases ho : o < 60
  · have e := h ho
    have ea : ∀ n t : Nat, pArgs P k (o + 1) n t = pArgs P' k (o + 1) n t := pArgs_c e
    simp only [e, ea]
  · simp only [ho, if_false]
theorem pOper_c (h : o < 60 → ∀ (L : Int) (t : Nat), P L t (o + 1) = P' L t (o + 1)) (hO : o < 60 → ∀ t : Nat, O t (o + 1) = O' t (o + 1)) (t : Nat) : pOper P O k t o = pOper P' O' k t o := by
  unfold pOper
  rw [pPrim_c h t]
  by_cases ho : o < 60
  · have e := hO ho
    simp only [e]
  · simp only [ho, if_false]
theorem pTail_c (h : o < 60 → ∀ (L : Int) (t : Nat), P L t (o + 1) = P' L t (o + 1)) {L : Int} : ∀ (n : Nat) (x : Ast) (t : Nat), pTail P k L o n x t = pTail P' k L o n x t := by
  intro n
  induction n with
  | zero => intro x t; rfl
  | succ n ih =>
    intro x t
    have un : ∀ Q : PPT, pTail Q k L o (n + 1) x t = if 0 < rkO (k t) ∧ L ≤ rkO (k t) then (if o + dpT k x < 60 then (match Q (rkO (k t) + 1) (t + 1) (o + 1) with
        | none => none
        | some (y, t1) => pTail Q k L o n (eBin t x y) t1) else none)
      else some (x, t) := fun Q => by first | rfl | simp [pTail]
    rw [un P, un P']
    by_cases ho : o + dpT k x < 60
    · have d := dpT_nn k x
      have e := h (by omega)
      rw [if_pos ho, if_pos ho, e]
      simp only [ih]
    · rw [if_neg ho, if_neg ho]
theorem pWhole_c (h : o < 60 → ∀ (L : Int) (t : Nat), P L t (o + 1) = P' L t (o + 1)) {L : Int} (x : Ast) (t : Nat) : pWhole P k L o x t = pWhole P' k L o x t := by
  unfold pWhole
  rw [pTail_c h]
  have dx := dpT_nn k x
  by_cases h1 : L = -1 ∧ 256 ≤ k t
  · rw [if_pos h1, if_pos h1]
    by_cases ho : o + dpT k x < 60
    · have e := h (by omega)
      rw [if_pos ho, if_pos ho, e]
    · rw [if_neg ho, if_neg ho]
  · rw [if_neg h1, if_neg h1]
    cases pTail P' k L o 2048 x t with
    | none => rfl
    | some r =>
      obtain ⟨x1, t1⟩ := r
      have d1 := dpT_nn k x1
      dsimp only
      by_cases h2 : L ≤ 0 ∧ k t1 = 63
      · rw [if_pos h2, if_pos h2]
        by_cases ho : o + dpT k x1 < 60
        · have e := h (by omega)
          rw [if_pos ho, if_pos ho]
          simp only [e]
        · rw [if_neg ho, if_neg ho]
      · rw [if_neg h2, if_neg h2]
end RA
theorem lvl_ok (k : Nat → Int) : ∀ (m : Nat) (o : Int), 60 ≤ o + m → (∀ (L : Int) (t : Nat), (pBoth k (m + 2)).1 L t o = (pBoth k (m + 1)).1 L t o) ∧ ∀ t : Nat, (pBoth k (m + 2)).2 t o = (pBoth k (m + 1)).2 t o := by
  intro m
  have un1 : ∀ (m : Nat) (L : Int) (t : Nat) (o : Int), (pBoth k (m + 1)).1 L t o = (match pOper (pBoth k m).1 (pBoth k m).2 k t o with
      | none => none
      | some (x, t1) => pWhole (pBoth k m).1 k L o x t1) := fun m L t o => rfl
  have un2 : ∀ (m : Nat) (t : Nat) (o : Int), (pBoth k (m + 1)).2 t o = pOper (pBoth k m).1 (pBoth k m).2 k t o := fun m t o => rfl
  have main : ∀ (m : Nat) (o : Int), (o < 60 → (∀ (L : Int) (t : Nat), (pBoth k (m + 1)).1 L t (o + 1) = (pBoth k m).1 L t (o + 1)) ∧ ∀ t : Nat, (pBoth k (m + 1)).2 t (o + 1) = (pBoth k m).2 t (o + 1)) → (∀ (L : Int) (t : Nat), (pBoth k (m + 2)).1 L t o = (pBoth k (m + 1)).1 L t o) ∧ ∀ t : Nat, (pBoth k (m + 2)).2 t o = (pBoth k (m + 1)).2 t o := by
    intro m o h
    have ho : ∀ t : Nat, pOper (pBoth k (m + 1)).1 (pBoth k (m + 1)).2 k t o = pOper (pBoth k m).1 (pBoth k m).2 k t o := fun t => pOper_c (fun q => (h q).1) (fun q => (h q).2) t
    refine ⟨fun L t => ?_, fun t => ?_⟩
    · rw [un1 (m + 1), un1 m, ho]
      cases pOper (pBoth k m).1 (pBoth k m).2 k t o with
      | none => rfl
      | some r =>
        obtain ⟨x, t1⟩ := r
        exact pWhole_c (fun q => (h q).1) x t1
    · rw [un2 (m + 1), un2 m]
      exact ho t
  induction m with
  | zero =>
    intro o ho
    exact main 0 o (fun q => by exfalso; omega)
  | succ m ih =>
    intro o ho
    exact main (m + 1) o (fun _ => ih (o + 1) (by omega))
/-- the grammar at any o, as an equation of itself -/
theorem pE_eq (k : Nat → Int) {o : Int} (h : 0 ≤ o) : (∀ (L : Int) (t : Nat), (pBoth k 62).1 L t o = (match (pBoth k 62).2 t o with
      | none => none
      | some (x, t1) => pWhole (pBoth k 62).1 k L o x t1)) ∧ ∀ t : Nat, (pBoth k 62).2 t o = pOper (pBoth k 62).1 (pBoth k 62).2 k t o := by
  have e := lvl_ok k 61 o (by omega)
  refine ⟨fun L t => ?_, fun t => ?_⟩
  · rw [← e.1 L t, ← e.2 t]
    rfl
  · rw [← e.2 t]
    rfl
theorem tail_no {k : Nat → Int} {P : PPT} {L o : Int} {n : Nat} {x : Ast} {t : Nat} (h : ¬ (0 < rkO (k t) ∧ L ≤ rkO (k t))) : pTail P k L o n x t = some (x, t) := by
  cases n with
  | zero => rfl
  | succ n =>
    have un : pTail P k L o (n + 1) x t = if 0 < rkO (k t) ∧ L ≤ rkO (k t) then (if o + dpT k x < 60 then (match P (rkO (k t) + 1) (t + 1) (o + 1) with
        | none => none
        | some (y, t1) => pTail P k L o n (eBin t x y) t1) else none)
      else some (x, t) := by first | rfl | simp [pTail]
    rw [un, if_neg h]
/-! THE ROW OF WAITING OPERATORS against the levels: what waits, from the last one on: rank, token, left side, and how many operators its level may still have -/
abbrev Wts := List (Int × Nat × Ast × Nat)
/-- what comes of an operand x before token t, with W waiting, over what was open at first -/
def runW (k : Nat → Int) (o : Int) : Nat → Wts → Ast → Nat → Option (Ast × Nat)
  | f, [], x, t => pTail (pBoth k 62).1 k 1 o f x t
  | f, (r, tok, y, fl) :: W, x, t => match pTail (pBoth k 62).1 k (r + 1) (o + (W.length : Int) + 1) f x t with
    | none => none
    | some (z, t1) => runW k o fl W (eBin tok y z) t1
theorem runW_cons {k : Nat → Int} {o r : Int} {tok f fl : Nat} {y x : Ast} {W : Wts} {t : Nat} : runW k o f ((r, tok, y, fl) :: W) x t = (match pTail (pBoth k 62).1 k (r + 1) (o + (W.length : Int) + 1) f x t with
    | none => none
    | some (z, t1) => runW k o fl W (eBin tok y z) t1) := by first | rfl | simp [runW]
theorem runW_nil {k : Nat → Int} {o : Int} {f : Nat} {x : Ast} {t : Nat} : runW k o f [] x t = pTail (pBoth k 62).1 k 1 o f x t := by first | rfl | simp [runW]
/-- one that waits is settled -/
theorem run_pop {k : Nat → Int} {o r : Int} {tok f fl : Nat} {y x : Ast} {W : Wts} {t : Nat} (h : rkO (k t) ≤ r) : runW k o f ((r, tok, y, fl) :: W) x t = runW k o fl W (eBin tok y x) t := by
  rw [runW_cons, tail_no (by omega)]
theorem run_end {k : Nat → Int} {o : Int} {f : Nat} {x : Ast} {t : Nat} (h : ¬ 0 < rkO (k t)) : runW k o f [] x t = some (x, t) := by
  rw [runW_nil, tail_no (by omega)]
/-- the least rank that the level on top takes -/
def topR : Wts → Int
  | [] => 1
  | (r, _, _, _) :: _ => r + 1
/-- an operator is put there to wait -/
theorem run_push {k : Nat → Int} {o : Int} (h0 : 0 ≤ o) {f : Nat} {W : Wts} {x : Ast} {t : Nat} (h1 : 0 < rkO (k t)) (h2 : topR W ≤ rkO (k t)) : runW k o (f + 1) W x t = (if o + (W.length : Int) + dpT k x < 60 then (match (pBoth k 62).2 (t + 1) (o + (W.length : Int) + 1) with
    | none => none
    | some (u, t') => runW k o 2048 ((rkO (k t), t, x, f) :: W) u t') else none) := by
  have tl : ∀ (L o' : Int), L ≤ rkO (k t) → pTail (pBoth k 62).1 k L o' (f + 1) x t = (if o' + dpT k x < 60 then (match (pBoth k 62).1 (rkO (k t) + 1) (t + 1) (o' + 1) with
        | none => none
        | some (y, t1) => pTail (pBoth k 62).1 k L o' f (eBin t x y) t1) else none) := by
    intro L o' hL
    have un : pTail (pBoth k 62).1 k L o' (f + 1) x t = if 0 < rkO (k t) ∧ L ≤ rkO (k t) then (if o' + dpT k x < 60 then (match (pBoth k 62).1 (rkO (k t) + 1) (t + 1) (o' + 1) with
        | none => none
        | some (y, t1) => pTail (pBoth k 62).1 k L o' f (eBin t x y) t1) else none)
      else some (x, t) := by first | rfl | simp [pTail]
    rw [un, if_pos ⟨h1, hL⟩]
  /- the right side is read by the same grammar -/
  have rt : ∀ o' : Int, 0 ≤ o' → (pBoth k 62).1 (rkO (k t) + 1) (t + 1) (o' + 1) = (match (pBoth k 62).2 (t + 1) (o' + 1) with
      | none => none
      | some (u, t') => pTail (pBoth k 62).1 k (rkO (k t) + 1) (o' + 1) 2048 u t') := by
    intro o' ho
    rw [(pE_eq k (o := o' + 1) (by omega)).1]
    cases (pBoth k 62).2 (t + 1) (o' + 1) with
    | none => rfl
    | some r =>
      obtain ⟨u, t'⟩ := r
      dsimp only
      unfold pWhole
      rw [if_neg (by omega)]
      cases pTail (pBoth k 62).1 k (rkO (k t) + 1) (o' + 1) 2048 u t' with
      | none => rfl
      | some r2 =>
        obtain ⟨x1, t1⟩ := r2
        dsimp only
        rw [if_neg (by omega)]
  cases W with
  | nil =>
    rw [runW_nil, tl 1 o h2]
    show (if o + dpT k x < 60 then _ else none) = (if o + 0 + dpT k x < 60 then (match (pBoth k 62).2 (t + 1) (o + 0 + 1) with
      | none => none
      | some (u, t') => runW k o 2048 [(rkO (k t), t, x, f)] u t') else none)
    rw [Int.add_zero, rt o h0]
    by_cases hd : o + dpT k x < 60
    · rw [if_pos hd, if_pos hd]
      cases (pBoth k 62).2 (t + 1) (o + 1) with
      | none => rfl
      | some r =>
        obtain ⟨u, t'⟩ := r
        dsimp only
        rw [runW_cons]
        show _ = (match pTail (pBoth k 62).1 k (rkO (k t) + 1) (o + 0 + 1) 2048 u t' with
          | none => none
          | some (z, t1) => runW k o f [] (eBin t x z) t1)
        rw [Int.add_zero]
        cases pTail (pBoth k 62).1 k (rkO (k t) + 1) (o + 1) 2048 u t' with
        | none => rfl
        | some r2 =>
          obtain ⟨z, t1⟩ := r2
          dsimp only
          rw [runW_nil]
    · rw [if_neg hd, if_neg hd]
  | cons e W =>
    obtain ⟨r, tok, y, fl⟩ := e
    have hl : ((((r, tok, y, fl) :: W : Wts).length : Nat) : Int) = (W.length : Int) + 1 := by rw [List.length_cons]; omega
    rw [runW_cons, tl (r + 1) _ h2, hl, show o + ((W.length : Int) + 1) = o + (W.length : Int) + 1 by omega]
    rw [rt _ (by omega)]
    by_cases hd : o + (W.length : Int) + 1 + dpT k x < 60
    · rw [if_pos hd, if_pos hd]
      cases (pBoth k 62).2 (t + 1) (o + (W.length : Int) + 1 + 1) with
      | none => rfl
      | some r1 =>
        obtain ⟨u, t'⟩ := r1
        dsimp only
        rw [runW_cons, hl, show o + ((W.length : Int) + 1) + 1 = o + (W.length : Int) + 1 + 1 by omega]
        cases pTail (pBoth k 62).1 k (rkO (k t) + 1) (o + (W.length : Int) + 1 + 1) 2048 u t' with
        | none => rfl
        | some r2 =>
          obtain ⟨z, t1⟩ := r2
          dsimp only
          rw [runW_cons]
    · rw [if_neg hd, if_neg hd]
