/-! THE REFERENCE: a chain as the row of its operands -/
def opsT (k : Nat → Int) : Ast → List (Option Nat × Ast)
  | .mul (.arg _) e => opsT k e
  | .rem (.arg t) (.elem x y) => (if rkT k x = rkO (k t) then opsT k x else [(none, x)]) ++ [(some t, y)]
  | _ => []
def OpL (k : Nat → Int) (c : Nat) (na ma : Nat → Nat → Int32) : List (Option Nat × Ast) → Int → Nat → Nat → Prop
  | [], n, lo, hi => n < 0 ∧ lo ≤ hi
  | (o, e) :: r, n, lo, hi => ∃ j l h : Nat, n = (j : Int) ∧ (lo ≤ l ∧ l ≤ j ∧ j < h ∧ h ≤ hi) ∧ isEx e = true ∧ Rep k c na ma e false (j : Int) 0 l h ∧ (∀ t : Nat, o = some t → (ma 20 j).toInt = (t : Int) ∧ t < c ∧ 0 < rkO (k t)) ∧ OpL k c na ma r (na 21 j).toInt h hi
theorem opl_le {k : Nat → Int} {c : Nat} {na ma : Nat → Nat → Int32} : ∀ (r : List (Option Nat × Ast)) (n : Int) (lo hi : Nat), OpL k c na ma r n lo hi → lo ≤ hi := by
  intro r
  induction r with
  | nil => intro n lo hi h; exact h.2
  | cons a r ih =>
    obtain ⟨o, e⟩ := a
    intro n lo hi h
    obtain ⟨j, l, h', -, h2, -⟩ := h
    omega
theorem opl_lo {k : Nat → Int} {c : Nat} {na ma : Nat → Nat → Int32} (r : List (Option Nat × Ast)) (n : Int) (lo lo' hi : Nat) (h : OpL k c na ma r n lo hi) (hl : lo' ≤ lo) : OpL k c na ma r n lo' hi := by
  cases r with
  | nil => exact ⟨h.1, by have := h.2; omega⟩
  | cons a r =>
    obtain ⟨o, e⟩ := a
    obtain ⟨j, l, h', h1, h2, h3⟩ := h
    exact ⟨j, l, h', h1, by omega, h3⟩
theorem ops_r {k : Nat → Int} {t : Nat} {x y : Ast} : opsT k (.rem (.arg t) (.elem x y)) = (if rkT k x = rkO (k t) then opsT k x else [(none, x)]) ++ [(some t, y)] := by first | rfl | simp [opsT]
theorem ops_m {k : Nat → Int} {t : Nat} {x : Ast} : opsT k (.mul (.arg t) x) = opsT k x := by first | rfl | simp [opsT]
theorem ops_t {k : Nat → Int} {c : Nat} {na ma : Nat → Nat → Int32} (e : Ast) (md : Bool) (n b : Int) (lo hi : Nat) : Rep k c na ma e md n b lo hi → md = true → ∀ (i p : Nat) (rest : List (Option Nat × Ast)) (hi2 : Nat), n = (i : Int) → b = (p : Int) → OpL k c na ma rest (na 21 p).toInt hi hi2 → OpL k c na ma (opsT k e ++ rest) (na 17 i).toInt lo hi2 := by
  fun_induction Rep k c na ma e md n b lo hi
  all_goals intro h hm i' p' rest hi2 hn hb hR
  case case11 =>
    subst hm
    rename_i t x y n b lo hi ih3 ih2 ih1
    have hle := opl_le _ _ _ _ hR
    obtain ⟨i, j, mid, l2, h2, a1, a2, a3, a4, a5, a6, a7, a8, a9, a10, a11, a12, a13⟩ := h
    have hid := fun (_ : True) => a13
    clear a13
    have ei : i = i' := by omega
    have ep := a2 rfl
    have ej : j = p' := by omega
    subst ei
    subst ej
    have tail : ∀ {m : Int} {q : Nat}, m = (j : Int) → q ≤ l2 → OpL k c na ma ((some t, y) :: rest) m q hi2 := fun e1 e2 => ⟨j, l2, h2, e1, by omega, a8.2.1, a12, fun t' e => by injection e with e; rw [← e]; exact ⟨a11, a8.2.2.1, a8.2.2.2⟩, opl_lo _ _ _ _ _ hR (by omega)⟩
    rw [ops_r]
    rcases hid trivial with ⟨b1, b2, p, b3, b4, b5⟩ | ⟨b1, b2, a, b3, b4, b5, b6⟩
    · rw [if_pos b1, List.append_assoc]
      exact ih2 mid p b4 rfl i p _ hi2 hn rfl (tail b5 a5.2.1)
    · rw [if_neg b1]
      exact ⟨a, lo, mid, b4, by omega, a8.1, b5, fun t' e => absurd e (by simp), tail b6 a5.2.1⟩
  case case12 =>
    rename_i s e n b lo hi ih
    rw [ops_m]
    exact ih h.2 rfl i' p' rest hi2 hn hb hR
  case case13 => exact h.elim
  all_goals exact absurd hm (by decide)
/-- a chain's node, and its operands -/
theorem chain_r {k : Nat → Int} {c : Nat} {na ma : Nat → Nat → Int32} {t : Nat} {x y : Ast} {n : Int} {lo hi : Nat} (h : Rep k c na ma (.rem (.arg t) (.elem x y)) false n 0 lo hi) : ∃ i : Nat, n = (i : Int) ∧ (lo ≤ i ∧ i < hi) ∧ (na 14 i).toInt = 7 ∧ (ma 22 i).toInt = rkO (k t) ∧ OpL k c na ma (opsT k (.rem (.arg t) (.elem x y))) (na 17 i).toInt lo hi := by
  obtain ⟨i, j, mid, l2, h2, a1, a2, a3, a4, a5, a6, a7, a8, a9, a10, a11, a12, a13⟩ := h
  have hid := fun (_ : True) => a13
  clear a13
  have e3 := a3 rfl
  refine ⟨i, a1, a4, a9, a10, ?_⟩
  have q : Rep k c na ma (.rem (.arg t) (.elem x y)) true n (j : Int) lo hi := ⟨i, j, mid, l2, h2, a1, fun _ => rfl, fun w => absurd w (by decide), a4, a5, a6, a7, a8, a9, a10, a11, a12, hid trivial⟩
  have r := ops_t _ _ _ _ _ _ q rfl i j [] hi a1 rfl ⟨by omega, Nat.le_refl _⟩
  rw [List.append_nil] at r
  exact r
