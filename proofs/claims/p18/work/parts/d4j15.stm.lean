/-! THE REFERENCE's statements: how nodes represent them; constants, conditions, rows of constants -/
/-- an expression at node n, made of nodes of [lo, hi) -/
def OkE (k : Nat → Int) (c : Nat) (na ma : Nat → Nat → Int32) (e : Ast) (n : Int) (lo hi : Nat) : Prop := isEx e = true ∧ Rep k c na ma e false n 0 lo hi ∧ ∃ j : Nat, n = (j : Int) ∧ lo ≤ j ∧ j < hi
theorem OkE.kp {k : Nat → Int} {c : Nat} {na ma na' ma' : Nat → Nat → Int32} {e : Ast} {n : Int} {lo hi : Nat} {r : Int} (h : OkE k c na ma e n lo hi) (g : AgF na ma na' ma' lo hi r) (hr : r < (lo : Int) ∨ (hi : Int) ≤ r) : OkE k c na' ma' e n lo hi := ⟨h.1, rep_kp _ _ _ _ _ _ h.2.1 (fun _ => g.rt hr) (fun z => absurd z (by decide)), h.2.2⟩
/-- a row of nodes that hang behind each other, each the first of its own -/
def RowS (na : Nat → Nat → Int32) (R : Ast → Nat → Nat → Prop) : Ast → Int → Nat → Nat → Prop
  | .null, n, lo, hi => n < 0 ∧ lo ≤ hi
  | .add s r, n, lo, hi => ∃ mid : Nat, n = (lo : Int) ∧ (lo < mid ∧ mid ≤ hi) ∧ R s lo mid ∧ RowS na R r (na 21 lo).toInt mid hi
  | _, _, _, _ => False
theorem row_kp {na na' : Nat → Nat → Int32} {R R' : Ast → Nat → Nat → Prop} (e : Ast) (n : Int) (lo hi : Nat) : RowS na R e n lo hi → (∀ i : Nat, lo ≤ i → i < hi → na' 21 i = na 21 i) → (∀ (s : Ast) (l h : Nat), lo ≤ l → h ≤ hi → R s l h → R' s l h) → RowS na' R' e n lo hi := by
  fun_induction RowS na R e n lo hi
  all_goals intro h h1 h2
  case case1 => exact h
  case case2 =>
    rename_i s r n lo hi ih
    obtain ⟨mid, a1, a2, a3, a4⟩ := h
    refine ⟨mid, a1, a2, h2 s lo mid (Nat.le_refl _) a2.2 a3, ?_⟩
    rw [h1 lo (Nat.le_refl _) (by omega)]
    exact ih mid a4 (fun i q1 q2 => h1 i (by omega) q2) (fun s l h q1 q2 q3 => h2 s l h (by omega) q2 q3)
  case case3 => exact h.elim
/-- a variable, at node lo -/
def RepV (k : Nat → Int) (c : Nat) (na ma : Nat → Nat → Int32) (v : Ast) (lo hi : Nat) : Prop := lo < hi ∧ (na 14 lo).toInt = 40 ∧ ∃ t : Nat, ((na 15 lo).toInt = (t : Int) ∧ t < c ∧ k t = 16) ∧ ((v = vSing t ∧ (ma 22 lo).toInt = 0 ∧ (na 17 lo).toInt < 0) ∨ (∃ e : Ast, v = vInit t e ∧ (ma 22 lo).toInt = 1 ∧ (na 17 lo).toInt < 0 ∧ OkE k c na ma e (ma 18 lo).toInt (lo + 1) hi) ∨ (∃ e : Ast, v = vRow t e ∧ (ma 22 lo).toInt = 0 ∧ OkE k c na ma e (na 17 lo).toInt (lo + 1) hi) ∨ (∃ (e l : Ast) (m : Nat), v = vList t e l ∧ (ma 22 lo).toInt = 2 ∧ OkE k c na ma e (na 17 lo).toInt (lo + 1) m ∧ (isRw l = true ∧ lo + 1 ≤ m ∧ m ≤ hi) ∧ Rep k c na ma l false (ma 18 lo).toInt 0 m hi) ∨ (∃ (e : Ast) (u : Nat), v = vStr t e u ∧ (ma 22 lo).toInt = 3 ∧ OkE k c na ma e (na 17 lo).toInt (lo + 1) hi ∧ ((ma 19 lo).toInt = (u : Int) ∧ u < c ∧ k u = 18)))
theorem rpv_kp {k : Nat → Int} {c : Nat} {na ma na' ma' : Nat → Nat → Int32} {v : Ast} {lo hi : Nat} {r : Int} (h : RepV k c na ma v lo hi) (g : AgF na ma na' ma' lo hi r) (hr : r ≤ (lo : Int)) : RepV k c na' ma' v lo hi := by
  obtain ⟨h1, h2, t, h3, h4⟩ := h
  have hid := fun (_ : True) => h4
  clear h4
  obtain ⟨g1, g2, g3, g4, g5, g6, g7, g8⟩ := g lo (Nat.le_refl _) h1
  have gl : ∀ {m : Nat}, m ≤ hi → AgF na ma na' ma' (lo + 1) m r := fun hm => g.le (by omega) hm
  refine ⟨h1, by rw [g1]; exact h2, t, by rw [g2]; exact h3, ?_⟩
  rcases hid trivial with ⟨a1, a2, a3⟩ | ⟨e, a1, a2, a3, a4⟩ | ⟨e, a1, a2, a3⟩ | ⟨e, l, m, a1, a2, a3, a4, a5⟩ | ⟨e, u, a1, a2, a3, a4⟩
  · exact Or.inl ⟨a1, by rw [g6]; exact a2, by rw [g3]; exact a3⟩
  · exact Or.inr (Or.inl ⟨e, a1, by rw [g6]; exact a2, by rw [g3]; exact a3, by rw [g4]; exact a4.kp (gl (Nat.le_refl _)) (Or.inl (by omega))⟩)
  · exact Or.inr (Or.inr (Or.inl ⟨e, a1, by rw [g6]; exact a2, by rw [g3]; exact a3.kp (gl (Nat.le_refl _)) (Or.inl (by omega))⟩))
  · refine Or.inr (Or.inr (Or.inr (Or.inl ⟨e, l, m, a1, by rw [g6]; exact a2, by rw [g3]; exact a3.kp (gl a4.2.2) (Or.inl (by omega)), a4, ?_⟩)))
    rw [g4]
    exact rep_kp _ _ _ _ _ _ a5 (fun _ => (g.le (by omega) (Nat.le_refl _)).rt (Or.inl (by omega))) (fun z => absurd z (by decide))
  · exact Or.inr (Or.inr (Or.inr (Or.inr ⟨e, u, a1, by rw [g6]; exact a2, by rw [g3]; exact a3.kp (gl (Nat.le_refl _)) (Or.inl (by omega)), by rw [g5]; exact a4⟩)))
/-- an expression alone, variables: statements that hold no other -/
def RepX (k : Nat → Int) (c : Nat) (na ma : Nat → Nat → Int32) (s : Ast) (lo hi : Nat) : Prop := ∃ e : Ast, s = sNd 2 e .null ∧ (na 14 lo).toInt = 22 ∧ OkE k c na ma e (na 17 lo).toInt (lo + 1) hi
def RepD (k : Nat → Int) (c : Nat) (na ma : Nat → Nat → Int32) (s : Ast) (lo hi : Nat) : Prop := ∃ (n : Nat) (vs : Ast), s = sNd 3 (.arg n) vs ∧ (na 14 lo).toInt = 23 ∧ (n = 1 ∨ n = 2) ∧ (ma 22 lo).toInt = (n : Int) - 1 ∧ RowS na (RepV k c na ma) vs (na 17 lo).toInt (lo + 1) hi
/-- a case, a default -/
def RepL (k : Nat → Int) (c : Nat) (na ma : Nat → Nat → Int32) (s : Ast) (lo hi : Nat) : Prop := (∃ (e : Ast) (t : Nat), s = sNd 10 e (.arg t) ∧ (na 14 lo).toInt = 29 ∧ OkE k c na ma e (na 17 lo).toInt (lo + 1) hi) ∨ (∃ t : Nat, s = sNd 11 (.arg t) .null ∧ (na 14 lo).toInt = 30)
/-- an expression or none -/
def OkO (k : Nat → Int) (c : Nat) (na ma : Nat → Nat → Int32) (g : Nat) (a : Ast) (n : Int) (lo hi : Nat) : Prop := (a = .null ∧ n < 0 ∧ lo ≤ hi) ∨ (∃ e : Ast, a = sRow1 (sNd g e .null) ∧ OkE k c na ma e n lo hi)
def OkF (k : Nat → Int) (c : Nat) (na ma : Nat → Nat → Int32) (a : Ast) (n : Int) (lo hi : Nat) : Prop := (a = .null ∧ n < 0 ∧ lo ≤ hi) ∨ (∃ s : Ast, a = sRow1 s ∧ n = (lo : Int) ∧ lo < hi ∧ (RepX k c na ma s lo hi ∨ RepD k c na ma s lo hi))
/-- a statement at node lo, d levels deep at most -/
def RepS (k : Nat → Int) (c : Nat) (na ma : Nat → Nat → Int32) : Nat → Ast → Nat → Nat → Prop
  | 0 => fun _ _ _ => False
  | d + 1 => fun s lo hi => lo < hi ∧ (RepX k c na ma s lo hi ∨ RepD k c na ma s lo hi
    ∨ (∃ a : Ast, s = sNd 0 a .null ∧ (na 14 lo).toInt = 20 ∧ RowS na (RepS k c na ma d) a (na 17 lo).toInt (lo + 1) hi)
    ∨ (s = sNd 1 .null .null ∧ (na 14 lo).toInt = 21)
    ∨ (∃ (e s1 : Ast) (m : Nat), s = sNd 4 e (sRow1 s1) ∧ (na 14 lo).toInt = 24 ∧ OkE k c na ma e (na 17 lo).toInt (lo + 1) m ∧ (ma 18 lo).toInt = (m : Int) ∧ RepS k c na ma d s1 m hi ∧ (ma 19 lo).toInt < 0)
    ∨ (∃ (e s1 s2 : Ast) (m m2 : Nat), s = sNd 4 e (sRow2 s1 s2) ∧ (na 14 lo).toInt = 24 ∧ OkE k c na ma e (na 17 lo).toInt (lo + 1) m ∧ (ma 18 lo).toInt = (m : Int) ∧ RepS k c na ma d s1 m m2 ∧ (ma 19 lo).toInt = (m2 : Int) ∧ RepS k c na ma d s2 m2 hi)
    ∨ (∃ (e s1 : Ast) (m : Nat), s = sNd 5 e (sRow1 s1) ∧ (na 14 lo).toInt = 25 ∧ OkE k c na ma e (na 17 lo).toInt (lo + 1) m ∧ (ma 18 lo).toInt = (m : Int) ∧ RepS k c na ma d s1 m hi ∧ (ma 19 lo).toInt < 0)
    ∨ (∃ (e s1 : Ast) (m : Nat), s = sNd 6 (sRow1 s1) e ∧ (na 14 lo).toInt = 26 ∧ (ma 18 lo).toInt = ((lo + 1 : Nat) : Int) ∧ RepS k c na ma d s1 (lo + 1) m ∧ OkE k c na ma e (na 17 lo).toInt m hi ∧ (ma 19 lo).toInt < 0)
    ∨ (∃ (a b e s1 : Ast) (m1 m2 m3 : Nat), s = sNd 7 (.add a (.add b (.add e .null))) (sRow1 s1) ∧ (na 14 lo).toInt = 27 ∧ OkF k c na ma a (na 17 lo).toInt (lo + 1) m1 ∧ OkO k c na ma 8 b (ma 18 lo).toInt m1 m2 ∧ OkO k c na ma 2 e (ma 19 lo).toInt m2 m3 ∧ (ma 20 lo).toInt = (m3 : Int) ∧ RepS k c na ma d s1 m3 hi)
    ∨ (∃ (e b : Ast) (m : Nat), s = sNd 9 e b ∧ (na 14 lo).toInt = 28 ∧ OkE k c na ma e (na 17 lo).toInt (lo + 1) m ∧ RowS na (fun s l h => l < h ∧ (RepL k c na ma s l h ∨ RepS k c na ma d s l h)) b (ma 18 lo).toInt m hi)
    ∨ (s = sNd 12 .null .null ∧ (na 14 lo).toInt = 31) ∨ (s = sNd 13 .null .null ∧ (na 14 lo).toInt = 32)
    ∨ (s = sNd 14 .null .null ∧ (na 14 lo).toInt = 33 ∧ (na 17 lo).toInt < 0)
    ∨ (∃ e : Ast, s = sNd 15 e .null ∧ (na 14 lo).toInt = 33 ∧ OkE k c na ma e (na 17 lo).toInt (lo + 1) hi))
/-- all stays but what hangs behind r -/
def AgS (na ma na' ma' : Nat → Nat → Int32) (lo hi : Nat) (r : Int) : Prop := AgF na ma na' ma' lo hi r ∧ ∀ i : Nat, lo ≤ i → i < hi → ma' 20 i = ma 20 i
theorem AgS.le {na ma na' ma' : Nat → Nat → Int32} {lo hi lo' hi' : Nat} {r : Int} (h : AgS na ma na' ma' lo hi r) (h1 : lo ≤ lo') (h2 : hi' ≤ hi) : AgS na ma na' ma' lo' hi' r := ⟨h.1.le h1 h2, fun i a b => h.2 i (by omega) (by omega)⟩
theorem AgS.ot {na ma na' ma' : Nat → Nat → Int32} {lo hi : Nat} {r r' : Int} (h : AgS na ma na' ma' lo hi r) (h1 : r < (lo : Int) ∨ (hi : Int) ≤ r) : AgS na ma na' ma' lo hi r' := ⟨h.1.ot h1, h.2⟩
theorem AgS.tr {na ma na1 ma1 na2 ma2 : Nat → Nat → Int32} {lo hi : Nat} {r : Int} (h : AgS na ma na1 ma1 lo hi r) (g : AgS na1 ma1 na2 ma2 lo hi r) : AgS na ma na2 ma2 lo hi r := ⟨h.1.tr g.1, fun i a b => (g.2 i a b).trans (h.2 i a b)⟩
theorem AgF.s {na ma na' ma' : Nat → Nat → Int32} {lo hi : Nat} {r : Int} (h : AgF na ma na' ma' lo hi r) (hr : r < (lo : Int) ∨ (hi : Int) ≤ r) : AgS na ma na' ma' lo hi r := ⟨h, fun i a b => ((h i a b).2.2.2.2.2.2.2 (by omega)).2⟩
theorem rpx_kp {k : Nat → Int} {c : Nat} {na ma na' ma' : Nat → Nat → Int32} {s : Ast} {lo hi : Nat} {r : Int} (hl : lo < hi) (h : RepX k c na ma s lo hi) (g : AgF na ma na' ma' lo hi r) (hr : r ≤ (lo : Int)) : RepX k c na' ma' s lo hi := by
  obtain ⟨e, h1, h2, h3⟩ := h
  obtain ⟨g1, g2, g3, -⟩ := g lo (Nat.le_refl _) hl
  exact ⟨e, h1, by rw [g1]; exact h2, by rw [g3]; exact h3.kp (g.le (by omega) (Nat.le_refl _)) (Or.inl (by omega))⟩
theorem rpd_kp {k : Nat → Int} {c : Nat} {na ma na' ma' : Nat → Nat → Int32} {s : Ast} {lo hi : Nat} {r : Int} (hl : lo < hi) (h : RepD k c na ma s lo hi) (g : AgF na ma na' ma' lo hi r) (hr : r ≤ (lo : Int)) : RepD k c na' ma' s lo hi := by
  obtain ⟨n, vs, h1, h2, h3, h4, h5⟩ := h
  obtain ⟨g1, g2, g3, g4, g5, g6, -⟩ := g lo (Nat.le_refl _) hl
  refine ⟨n, vs, h1, by rw [g1]; exact h2, h3, by rw [g6]; exact h4, ?_⟩
  rw [g3]
  refine row_kp _ _ _ _ h5 (fun i q1 q2 => ((g i (by omega) q2).2.2.2.2.2.2.2 (by omega)).1) (fun s l h q1 q2 q3 => rpv_kp q3 (g.le (by omega) q2) (by omega))
theorem rpl_kp {k : Nat → Int} {c : Nat} {na ma na' ma' : Nat → Nat → Int32} {s : Ast} {lo hi : Nat} {r : Int} (hl : lo < hi) (h : RepL k c na ma s lo hi) (g : AgF na ma na' ma' lo hi r) (hr : r ≤ (lo : Int)) : RepL k c na' ma' s lo hi := by
  obtain ⟨g1, g2, g3, -⟩ := g lo (Nat.le_refl _) hl
  rcases h with ⟨e, t, h1, h2, h3⟩ | ⟨t, h1, h2⟩
  · exact Or.inl ⟨e, t, h1, by rw [g1]; exact h2, by rw [g3]; exact h3.kp (g.le (by omega) (Nat.le_refl _)) (Or.inl (by omega))⟩
  · exact Or.inr ⟨t, h1, by rw [g1]; exact h2⟩
theorem oko_kp {k : Nat → Int} {c : Nat} {na ma na' ma' : Nat → Nat → Int32} {a : Ast} {n r : Int} {g lo hi : Nat} (h : OkO k c na ma g a n lo hi) (ag : AgF na ma na' ma' lo hi r) (hr : r < (lo : Int)) : OkO k c na' ma' g a n lo hi := by
  rcases h with h | ⟨e, h1, h2⟩
  · exact Or.inl h
  · exact Or.inr ⟨e, h1, h2.kp ag (Or.inl hr)⟩
theorem okf_kp {k : Nat → Int} {c : Nat} {na ma na' ma' : Nat → Nat → Int32} {a : Ast} {n r : Int} {lo hi : Nat} (h : OkF k c na ma a n lo hi) (ag : AgF na ma na' ma' lo hi r) (hr : r < (lo : Int)) : OkF k c na' ma' a n lo hi := by
  rcases h with h | ⟨s, h1, h2, h3, h4⟩
  · exact Or.inl h
  · rcases h4 with h4 | h4
    · exact Or.inr ⟨s, h1, h2, h3, Or.inl (rpx_kp h3 h4 ag (by omega))⟩
    · exact Or.inr ⟨s, h1, h2, h3, Or.inr (rpd_kp h3 h4 ag (by omega))⟩
theorem oko_le {k : Nat → Int} {c : Nat} {na ma : Nat → Nat → Int32} {a : Ast} {n : Int} {g lo hi : Nat} (h : OkO k c na ma g a n lo hi) : lo ≤ hi := by
  rcases h with ⟨-, -, h⟩ | ⟨e, h1, h2⟩
  · exact h
  · obtain ⟨j, -, h4, h5⟩ := h2.2.2
    omega
theorem okf_le {k : Nat → Int} {c : Nat} {na ma : Nat → Nat → Int32} {a : Ast} {n : Int} {lo hi : Nat} (h : OkF k c na ma a n lo hi) : lo ≤ hi := by
  rcases h with ⟨-, -, h⟩ | ⟨s, h1, h2, h3, h4⟩
  · exact h
  · omega
theorem oke_le {k : Nat → Int} {c : Nat} {na ma : Nat → Nat → Int32} {e : Ast} {n : Int} {lo hi : Nat} (h : OkE k c na ma e n lo hi) : lo < hi := by
  obtain ⟨j, -, h4, h5⟩ := h.2.2
  omega
theorem rps_lt {k : Nat → Int} {c : Nat} {na ma : Nat → Nat → Int32} : ∀ {d : Nat} {s : Ast} {lo hi : Nat}, RepS k c na ma d s lo hi → lo < hi
  | 0, _, _, _, h => h.elim
  | _ + 1, _, _, _, h => h.1
theorem rps_kp {k : Nat → Int} {c : Nat} {na ma na' ma' : Nat → Nat → Int32} : ∀ (d : Nat) (s : Ast) (lo hi : Nat) (r : Int), RepS k c na ma d s lo hi → AgS na ma na' ma' lo hi r → r ≤ (lo : Int) → RepS k c na' ma' d s lo hi := by
  intro d
  induction d with
  | zero => intro s lo hi r h _ _; exact h.elim
  | succ d ih =>
    intro s lo hi r h g hr
    obtain ⟨hl, h⟩ := h
    obtain ⟨g1, g2, g3, g4, g5, g6, g7, g8⟩ := g.1 lo (Nat.le_refl _) hl
    have g20 := g.2 lo (Nat.le_refl _) hl
    have gl : ∀ {m m' : Nat}, lo < m → m' ≤ hi → AgF na ma na' ma' m m' r := fun h1 h2 => g.1.le (by omega) h2
    have gs : ∀ {m m' : Nat}, lo < m → m' ≤ hi → AgS na ma na' ma' m m' r := fun h1 h2 => g.le (by omega) h2
    refine ⟨hl, ?_⟩
    rcases h with h | h | ⟨a, a1, a2, a3⟩ | ⟨a1, a2⟩ | ⟨e, s1, m, a1, a2, a3, a4, a5, a6⟩ | ⟨e, s1, s2, m, m2, a1, a2, a3, a4, a5, a6, a7⟩ | ⟨e, s1, m, a1, a2, a3, a4, a5, a6⟩ | ⟨e, s1, m, a1, a2, a3, a4, a5, a6⟩ | ⟨a, b, e, s1, m1, m2, m3, a1, a2, a3, a4, a5, a6, a7⟩ | ⟨e, b, m, a1, a2, a3, a4⟩ | ⟨a1, a2⟩ | ⟨a1, a2⟩ | ⟨a1, a2, a3⟩ | ⟨e, a1, a2, a3⟩
    · exact Or.inl (rpx_kp hl h g.1 hr)
    · exact Or.inr (Or.inl (rpd_kp hl h g.1 hr))
    · refine Or.inr (Or.inr (Or.inl ⟨a, a1, by rw [g1]; exact a2, ?_⟩))
      rw [g3]
      exact row_kp _ _ _ _ a3 (fun i q1 q2 => ((g.1 i (by omega) q2).2.2.2.2.2.2.2 (by omega)).1) (fun s l h q1 q2 q3 => ih s l h r q3 (gs (by omega) q2) (by omega))
    · exact Or.inr (Or.inr (Or.inr (Or.inl ⟨a1, by rw [g1]; exact a2⟩)))
    · have l1 := oke_le a3
      have l2 := rps_lt a5
      exact Or.inr (Or.inr (Or.inr (Or.inr (Or.inl ⟨e, s1, m, a1, by rw [g1]; exact a2, by rw [g3]; exact a3.kp (gl (by omega) (by omega)) (Or.inl (by omega)), by rw [g4]; exact a4, ih s1 m hi r a5 (gs (by omega) (Nat.le_refl _)) (by omega), by rw [g5]; exact a6⟩))))
    · have l1 := oke_le a3
      have l2 := rps_lt a5
      have l3 := rps_lt a7
      exact Or.inr (Or.inr (Or.inr (Or.inr (Or.inr (Or.inl ⟨e, s1, s2, m, m2, a1, by rw [g1]; exact a2, by rw [g3]; exact a3.kp (gl (by omega) (by omega)) (Or.inl (by omega)), by rw [g4]; exact a4, ih s1 m m2 r a5 (gs (by omega) (by omega)) (by omega), by rw [g5]; exact a6, ih s2 m2 hi r a7 (gs (by omega) (Nat.le_refl _)) (by omega)⟩)))))
    · have l1 := oke_le a3
      have l2 := rps_lt a5
      exact Or.inr (Or.inr (Or.inr (Or.inr (Or.inr (Or.inr (Or.inl ⟨e, s1, m, a1, by rw [g1]; exact a2, by rw [g3]; exact a3.kp (gl (by omega) (by omega)) (Or.inl (by omega)), by rw [g4]; exact a4, ih s1 m hi r a5 (gs (by omega) (Nat.le_refl _)) (by omega), by rw [g5]; exact a6⟩))))))
    · have l1 := oke_le a5
      have l2 := rps_lt a4
      exact Or.inr (Or.inr (Or.inr (Or.inr (Or.inr (Or.inr (Or.inr (Or.inl ⟨e, s1, m, a1, by rw [g1]; exact a2, by rw [g4]; exact a3, ih s1 (lo + 1) m r a4 (gs (by omega) (by omega)) (by omega), by rw [g3]; exact a5.kp (gl (by omega) (by omega)) (Or.inl (by omega)), by rw [g5]; exact a6⟩)))))))
    · have l1 := okf_le a3
      have l2 := oko_le a4
      have l3 := oko_le a5
      have l4 := rps_lt a7
      exact Or.inr (Or.inr (Or.inr (Or.inr (Or.inr (Or.inr (Or.inr (Or.inr (Or.inl ⟨a, b, e, s1, m1, m2, m3, a1, by rw [g1]; exact a2, by rw [g3]; exact okf_kp a3 (gl (by omega) (by omega)) (by omega), by rw [g4]; exact oko_kp a4 (gl (by omega) (by omega)) (by omega), by rw [g5]; exact oko_kp a5 (gl (by omega) (by omega)) (by omega), by rw [g20]; exact a6, ih s1 m3 hi r a7 (gs (by omega) (Nat.le_refl _)) (by omega)⟩))))))))
    · have l1 := oke_le a3
      have l2 : m ≤ hi := by
        cases b with
        | null => exact a4.2
        | add x y => obtain ⟨mid, -, q, -⟩ := a4; omega
        | _ => exact a4.elim
      refine Or.inr (Or.inr (Or.inr (Or.inr (Or.inr (Or.inr (Or.inr (Or.inr (Or.inr (Or.inl ⟨e, b, m, a1, by rw [g1]; exact a2, by rw [g3]; exact a3.kp (gl (by omega) l2) (Or.inl (by omega)), ?_⟩)))))))))
      rw [g4]
      exact row_kp _ _ _ _ a4 (fun i q1 q2 => ((g.1 i (by omega) q2).2.2.2.2.2.2.2 (by omega)).1) (fun s l h q1 q2 q3 => ⟨q3.1, q3.2.elim (fun q => Or.inl (rpl_kp q3.1 q (gl (by omega) q2) (by omega))) (fun q => Or.inr (ih s l h r q (gs (by omega) q2) (by omega)))⟩)
    · exact Or.inr (Or.inr (Or.inr (Or.inr (Or.inr (Or.inr (Or.inr (Or.inr (Or.inr (Or.inr (Or.inl ⟨a1, by rw [g1]; exact a2⟩))))))))))
    · exact Or.inr (Or.inr (Or.inr (Or.inr (Or.inr (Or.inr (Or.inr (Or.inr (Or.inr (Or.inr (Or.inr (Or.inl ⟨a1, by rw [g1]; exact a2⟩)))))))))))
    · exact Or.inr (Or.inr (Or.inr (Or.inr (Or.inr (Or.inr (Or.inr (Or.inr (Or.inr (Or.inr (Or.inr (Or.inr (Or.inl ⟨a1, by rw [g1]; exact a2, by rw [g3]; exact a3⟩))))))))))))
    · exact Or.inr (Or.inr (Or.inr (Or.inr (Or.inr (Or.inr (Or.inr (Or.inr (Or.inr (Or.inr (Or.inr (Or.inr (Or.inr ⟨e, a1, by rw [g1]; exact a2, by rw [g3]; exact a3.kp (gl (by omega) (Nat.le_refl _)) (Or.inl (by omega))⟩))))))))))))
