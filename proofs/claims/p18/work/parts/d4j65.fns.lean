/-! THE REFERENCE's functions: those of the text, the ten that are given -/
/-- the ten: number, type, what they want -/
def GV : List FnE := [(15, 1, [16]), (16, 3, [1]), (17, 3, [1, 1]), (18, 1, [1]), (19, 1, [1]), (20, 1, [1, 1]), (21, 1, [1]), (22, 3, [1, 17]), (23, 3, [1, 17]), (24, 3, [1])]
def owW (j : Nat) : List Int := (List.range (olen j)).map (fun q => (oby j q).toInt)
theorem ow_b {j : Nat} (h : j < 10) : olen j ≤ 5 ∧ ∀ q : Nat, q < olen j → 0 ≤ (oby j q).toInt ∧ (oby j q).toInt < 128 := by
  have all : ∀ j : Nat, j < 10 → olen j ≤ 5 ∧ ∀ q : Nat, q < 5 → 0 ≤ (oby j q).toInt ∧ (oby j q).toInt < 128 := by decide
  exact ⟨(all j h).1, fun q hq => (all j h).2 q (by have := (all j h).1; omega)⟩
section TI
variable {tf : Nat → Int32} {ta na ca ma : Nat → Nat → Int32} {b : Nat → Int} {n c t : Nat} {vl : Nat → Int32} {k : Nat → Int} {p0 p1 v : Int32} {cf : Nat → Int32} {LF : List FnE} {n38 : Int32}
/-- a function of the text, as its node has it -/
def FnD (k : Nat → Int) (vl : Nat → Int32) (c : Nat) (na ma : Nat → Nat → Int32) (i : Nat) (e : FnE) : Prop := (na 14 i).toInt = 41 ∧ ∃ (t ty m : Nat) (ps : Ast), ((na 15 i).toInt = (t : Int) ∧ t < c ∧ k t = 16) ∧ (ty = 1 ∨ ty = 2 ∨ ty = 3) ∧ (ma 22 i).toInt = (ty : Int) - 1 ∧ RowS na (RepP k c na ma) ps (na 17 i).toInt (i + 1) m ∧ e = (vl t, (ty : Int), wnX ps)
theorem fn_at : ∀ (tree : Ast) (x : Int) (lo hi f : Nat), RowS na (RepI k c na ma) tree x lo hi → FnO na ca tree x f → ∀ (j : Nat) (e : FnE), (fnsO vl tree)[j]? = some e → ∃ i : Nat, (ca 39 (f + j)).toInt = (i : Int) ∧ FnD k vl c na ma i e := by
  intro tree
  induction tree with
  | null => intro x lo hi f _ _ j e he; exact absurd he (by simp [fnsO])
  | add it r ihi ihr =>
    intro x lo hi f h hF j e he
    obtain ⟨mid, h1, h2, h3, h4⟩ := h
    obtain ⟨i, i1, i2⟩ := hF
    have ei : i = lo := by omega
    subst ei
    rw [fns_a] at he
    rcases h3 with ⟨vs, a1, a2, -⟩ | ⟨n', vs, a1, a2, -⟩ | ⟨d, n', t, m, ps, b', a1, a2, a3, a4, a5, a6, -⟩
    · have eo : fnO vl it = [] := by rw [a1]; rfl
      rw [eo, List.nil_append] at he
      rcases i2 with ⟨w, -⟩ | ⟨-, w⟩
      · exfalso; omega
      · exact ihr _ mid hi f h4 w j e he
    · have eo : fnO vl it = [] := by rw [a1]; rfl
      rw [eo, List.nil_append] at he
      rcases i2 with ⟨w, -⟩ | ⟨-, w⟩
      · exfalso; omega
      · exact ihr _ mid hi f h4 w j e he
    · have eo : fnO vl it = [(vl t, (n' : Int), wnX ps)] := by rw [a1]; rfl
      rw [eo] at he
      rcases i2 with ⟨-, w1, w2⟩ | ⟨w, -⟩
      · cases j with
        | zero =>
          have he' : some (vl t, (n' : Int), wnX ps) = some e := he
          injection he' with he'
          exact ⟨i, by rw [Nat.add_zero]; exact w1, a2, t, n', m, ps, a5, a3, a4, a6, he'.symm⟩
        | succ j =>
          have he' : (fnsO vl r)[j]? = some e := by
            have h0 := he
            rw [List.singleton_append, List.getElem?_cons_succ] at h0
            exact h0
          obtain ⟨i', g1, g2⟩ := ihr _ mid hi (f + 1) h4 w2 j e he'
          exact ⟨i', by rw [show f + (j + 1) = f + 1 + j by omega]; exact g1, g2⟩
      · exact absurd a2 w
  | _ => intro x lo hi f h; exact h.elim
/-- the functions of the text as a list -/
def FnLr (k : Nat → Int) (vl : Nat → Int32) (c : Nat) (na ma ca : Nat → Nat → Int32) (n38 : Int32) (LF : List FnE) : Prop := n38.toInt = (LF.length : Int) ∧ LF.length ≤ 4000 ∧ ∀ (j : Nat) (e : FnE), LF[j]? = some e → ∃ i : Nat, (ca 39 j).toInt = (i : Int) ∧ FnD k vl c na ma i e
/-- the first of that name -/
def FfS (LF : List FnE) (x : Int32) (fn : Int) : Prop := (fn = -1 ∧ ∀ (j : Nat) (e : FnE), LF[j]? = some e → ¬ e.1 = x) ∨ ∃ (j : Nat) (e : FnE), fn = (j : Int) ∧ LF[j]? = some e ∧ e.1 = x ∧ ∀ (i : Nat) (e' : FnE), i < j → LF[i]? = some e' → ¬ e'.1 = x
theorem ff_s2 (hs : SmN ta k vl c) (hL : FnLr k vl c na ma ca n38 LF) (h38 : cf 38 = n38) (hp : p0.toInt = (t : Int)) (htc : t < c) (h16 : k t = 16) : ∀ (d m i : Nat) (x : Int32), E_mp_findFunction ta na cf ca p0 v m 2 [x] [] [] [] [] () → x.toInt = (i : Int) → i + d = LF.length → (∀ (j : Nat) (e : FnE), j < i → LF[j]? = some e → ¬ e.1 = vl t) → FfS LF (vl t) v.toInt := by
  obtain ⟨L1, L2, L3⟩ := hL
  intro d
  induction d with
  | zero =>
    intro m i x h hx hi hno
    rcases iv_mp_findFunction_2 h with ⟨m', (⟨h1, ev⟩ | ⟨h1, z3, h2, z4, h3, v6, h4, (⟨h5, z12, h6, hQ⟩ | ⟨h5, ev⟩)⟩)⟩
    · exact Or.inl ⟨by rw [ev]; rfl, fun j e he => hno j e (by have := (List.getElem?_eq_some_iff.mp he).1; omega) he⟩
    all_goals (exfalso; rw [h38] at h1; omega)
  | succ d ih =>
    intro m i x h hx hi hno
    have xi : x.toNatClampNeg = i := cn_of hx
    have hlt : i < LF.length := by omega
    have hg : LF[i]? = some LF[i] := List.getElem?_eq_getElem hlt
    obtain ⟨w, g1, g2, t', ty, m2, ps, g3, g4, g5, g6, g7⟩ := L3 i _ hg
    have e1 : LF[i].1 = vl t' := by rw [g7]
    have sn : ∀ {z3 z4 v6 : Int32}, z3 = ca 39 x.toNatClampNeg → z4 = na 15 z3.toNatClampNeg → R_mp_sameName ta z4 p0 v6 → (v6.toInt = 0 ∨ v6.toInt = 1) ∧ (v6.toInt = 1 ↔ LF[i].1 = vl t) := by
      intro z3 z4 v6 a1 a2 a3
      rw [xi] at a1
      have n3 : z3.toNatClampNeg = w := cn_of (by rw [a1]; exact g1)
      rw [n3] at a2
      rw [e1]
      exact hs t' t z4 p0 v6 g3.2.1 htc g3.2.2 h16 (by rw [a2]; exact g3.1) hp a3
    rcases iv_mp_findFunction_2 h with ⟨m', (⟨h1, ev⟩ | ⟨h1, z3, h2, z4, h3, v6, h4, (⟨h5, z12, h6, hQ⟩ | ⟨h5, ev⟩)⟩)⟩
    · exfalso; rw [h38] at h1; omega
    · have y := sn h2 h3 h4
      have z1 := ti_add h6 hx (show (1 : Int32).toInt = 1 from rfl) (by omega) (by omega)
      refine ih m' (i + 1) z12 hQ (by omega) (by omega) (fun j e hj he => ?_)
      by_cases q : j = i
      · rw [q, hg] at he
        injection he with he
        rw [← he]
        intro w2
        have := y.2.mpr w2
        omega
      · exact hno j e (by omega) he
    · have y := sn h2 h3 h4
      exact Or.inr ⟨i, LF[i], by rw [ev]; exact hx, hg, y.2.mp (by omega), hno⟩
theorem ff_s (hs : SmN ta k vl c) (hL : FnLr k vl c na ma ca n38 LF) (h38 : cf 38 = n38) (hp : p0.toInt = (t : Int)) (htc : t < c) (h16 : k t = 16) (h : R_mp_findFunction ta na cf ca p0 v) : FfS LF (vl t) v.toInt := by
  obtain ⟨m, h⟩ := h
  obtain ⟨m', h⟩ := iv_mp_findFunction_0 h
  exact ff_s2 hs hL h38 hp htc h16 LF.length m' 0 (0 : Int32) h rfl (Nat.zero_add _) (fun j e hj => absurd hj (Nat.not_lt_zero _))
theorem ff2_s2 (hs : SmN ta k vl c) (hL : FnLr k vl c na ma ca n38 LF) (h38 : cf 38 = n38) (hp : p0.toInt = (t : Int)) (htc : t < c) (h16 : k t = 16) : ∀ (d m i : Nat) (x : Int32), E_mp_findFunction2 ta na cf ca p0 v m 2 [x] [] [] [] [] () → x.toInt = (i : Int) → i + d = LF.length → (∀ (j : Nat) (e : FnE), j < i → LF[j]? = some e → ¬ e.1 = vl t) → FfS LF (vl t) v.toInt := by
  obtain ⟨L1, L2, L3⟩ := hL
  intro d
  induction d with
  | zero =>
    intro m i x h hx hi hno
    rcases iv_mp_findFunction2_2 h with ⟨m', (⟨h1, ev⟩ | ⟨h1, z3, h2, z4, h3, v6, h4, (⟨h5, z12, h6, hQ⟩ | ⟨h5, ev⟩)⟩)⟩
    · exact Or.inl ⟨by rw [ev]; rfl, fun j e he => hno j e (by have := (List.getElem?_eq_some_iff.mp he).1; omega) he⟩
    all_goals (exfalso; rw [h38] at h1; omega)
  | succ d ih =>
    intro m i x h hx hi hno
    have xi : x.toNatClampNeg = i := cn_of hx
    have hlt : i < LF.length := by omega
    have hg : LF[i]? = some LF[i] := List.getElem?_eq_getElem hlt
    obtain ⟨w, g1, g2, t', ty, m2, ps, g3, g4, g5, g6, g7⟩ := L3 i _ hg
    have e1 : LF[i].1 = vl t' := by rw [g7]
    have sn : ∀ {z3 z4 v6 : Int32}, z3 = ca 39 x.toNatClampNeg → z4 = na 15 z3.toNatClampNeg → R_mp_sameName ta z4 p0 v6 → (v6.toInt = 0 ∨ v6.toInt = 1) ∧ (v6.toInt = 1 ↔ LF[i].1 = vl t) := by
      intro z3 z4 v6 a1 a2 a3
      rw [xi] at a1
      have n3 : z3.toNatClampNeg = w := cn_of (by rw [a1]; exact g1)
      rw [n3] at a2
      rw [e1]
      exact hs t' t z4 p0 v6 g3.2.1 htc g3.2.2 h16 (by rw [a2]; exact g3.1) hp a3
    rcases iv_mp_findFunction2_2 h with ⟨m', (⟨h1, ev⟩ | ⟨h1, z3, h2, z4, h3, v6, h4, (⟨h5, z12, h6, hQ⟩ | ⟨h5, ev⟩)⟩)⟩
    · exfalso; rw [h38] at h1; omega
    · have y := sn h2 h3 h4
      have z1 := ti_add h6 hx (show (1 : Int32).toInt = 1 from rfl) (by omega) (by omega)
      refine ih m' (i + 1) z12 hQ (by omega) (by omega) (fun j e hj he => ?_)
      by_cases q : j = i
      · rw [q, hg] at he
        injection he with he
        rw [← he]
        intro w2
        have := y.2.mpr w2
        omega
      · exact hno j e (by omega) he
    · have y := sn h2 h3 h4
      exact Or.inr ⟨i, LF[i], by rw [ev]; exact hx, hg, y.2.mp (by omega), hno⟩
theorem ff2_s (hs : SmN ta k vl c) (hL : FnLr k vl c na ma ca n38 LF) (h38 : cf 38 = n38) (hp : p0.toInt = (t : Int)) (htc : t < c) (h16 : k t = 16) (h : R_mp_findFunction2 ta na cf ca p0 v) : FfS LF (vl t) v.toInt := by
  obtain ⟨m, h⟩ := h
  obtain ⟨m', h⟩ := iv_mp_findFunction2_0 h
  exact ff2_s2 hs hL h38 hp htc h16 LF.length m' 0 (0 : Int32) h rfl (Nat.zero_add _) (fun j e hj => absurd hj (Nat.not_lt_zero _))
/-! the ten -/
theorem own_n {j : Nat} (hT : RTx tf ta b n) (h : LxR b n tf ta c) (hp : p0.toInt = (t : Int)) (htc : t < c) (h16 : lxK KWL b n (posN b n t) = 16) (hj : j < 10) (hR : R_mp_isNamed (olen j) (oby j) tf ta p0 v) : (v.toInt = 0 ∨ v.toInt = 1) ∧ (v.toInt = 1 ↔ wdI b n t = owW j) := by
  have t2 := hT.2.1
  have ob := ow_b hj
  obtain ⟨a1, a2, a3, a4⟩ := lx_nm h htc h16
  have we : wdI b n t = owW j ↔ lxE b n (posN b n t) - posN b n t = olen j ∧ ∀ q : Nat, q < olen j → b (posN b n t + q) = (oby j q).toInt := by
    unfold wdI wdL owW
    rw [rg_eq]
    exact ⟨fun w => ⟨w.1, fun q hq => w.2 q (by omega)⟩, fun w => ⟨w.1, fun q hq => w.2 q (by omega)⟩⟩
  rw [we]
  rcases hR with ⟨z1, h1, v3, h2, (⟨h3, ev⟩ | ⟨h3, z8, h4, v10, h5, (⟨h6, ev⟩ | ⟨h6, ev⟩)⟩)⟩ | hR
  case inr => exact hR.elim
  all_goals
    rw [cn_of hp] at h1
    rw [h1] at h3
    have s1 := slen_r (by omega) h2
  · exact ⟨Or.inl (by rw [ev]; rfl), fun w => by rw [ev] at w; exact absurd w (by decide), fun w => by exfalso; have := w.1; omega⟩
  · rw [cn_of hp] at h4
    have s2 := stS_r hT (p := posN b n t) (by rw [h4]; exact a1) (by omega) (by omega) ob.2 h5
    exact ⟨Or.inl (by rw [ev]; rfl), fun w => by rw [ev] at w; exact absurd w (by decide), fun w => by exfalso; have := s2.2.mpr w.2; omega⟩
  · rw [cn_of hp] at h4
    have s2 := stS_r hT (p := posN b n t) (by rw [h4]; exact a1) (by omega) (by omega) ob.2 h5
    exact ⟨Or.inr (by rw [ev]; rfl), fun _ => ⟨by omega, s2.2.mp (by omega)⟩, fun _ => by rw [ev]; rfl⟩
theorem own_2 (hT : RTx tf ta b n) (h : LxR b n tf ta c) (hp : p0.toInt = (t : Int)) (htc : t < c) (h16 : lxK KWL b n (posN b n t) = 16) : ∀ (d m i : Nat) (x : Int32), E_mp_findOwn tf ta p0 v m 2 [x] [] [] [] [] () → x.toInt = (i : Int) → i + d = 10 → (∀ j : Nat, j < i → ¬ wdI b n t = owW j) → (v = -1 ∧ ∀ j : Nat, j < 10 → ¬ wdI b n t = owW j) ∨ ∃ j : Nat, j < 10 ∧ v.toInt = (j : Int) ∧ wdI b n t = owW j := by
  intro d
  induction d with
  | zero =>
    intro m i x h' hx hi hno
    rcases iv_mp_findOwn_2 h' with ⟨m', (⟨h1, ev⟩ | ⟨h1, v7, h2, (⟨h3, z12, h4, hQ⟩ | ⟨h3, ev⟩)⟩)⟩
    · exact Or.inl ⟨ev, fun j hj => hno j (by omega)⟩
    all_goals (exfalso; omega)
  | succ d ih =>
    intro m i x h' hx hi hno
    have xi : x.toNatClampNeg = i := cn_of hx
    rcases iv_mp_findOwn_2 h' with ⟨m', (⟨h1, ev⟩ | ⟨h1, v7, h2, (⟨h3, z12, h4, hQ⟩ | ⟨h3, ev⟩)⟩)⟩
    · exfalso; omega
    · rw [xi] at h2
      have y := own_n hT h hp htc h16 (by omega) h2
      have z1 := ti_add h4 hx (show (1 : Int32).toInt = 1 from rfl) (by omega) (by omega)
      refine ih m' (i + 1) z12 hQ (by omega) (by omega) (fun j hj => ?_)
      by_cases q : j = i
      · rw [q]
        intro w
        have := y.2.mpr w
        omega
      · exact hno j (by omega)
    · rw [xi] at h2
      have y := own_n hT h hp htc h16 (by omega) h2
      exact Or.inr ⟨i, by omega, by rw [ev]; exact hx, y.2.mp (by omega)⟩
theorem own_s (hT : RTx tf ta b n) (h : LxR b n tf ta c) (hp : p0.toInt = (t : Int)) (htc : t < c) (h16 : lxK KWL b n (posN b n t) = 16) (hR : R_mp_findOwn tf ta p0 v) : (v = -1 ∧ ∀ j : Nat, j < 10 → ¬ wdI b n t = owW j) ∨ ∃ j : Nat, j < 10 ∧ v.toInt = (j : Int) ∧ wdI b n t = owW j := by
  obtain ⟨m, hR⟩ := hR
  obtain ⟨m', hR⟩ := iv_mp_findOwn_0 hR
  exact own_2 hT h hp htc h16 10 m' 0 (0 : Int32) hR rfl (Nat.zero_add _) (fun j hj => absurd hj (Nat.not_lt_zero _))
end TI
