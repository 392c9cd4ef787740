/-! THE REFERENCE's functions: what a call wants, against the lists -/
theorem flk_ap {v : Int32} {A B : List (Int32 × Fnc)} (h : ∀ e : Int32 × Fnc, e ∈ A → ¬ e.1 = v) : flk v (A ++ B) = flk v B := by
  induction A with
  | nil => rfl
  | cons x r ih =>
    show (if x.1 = v then some x.2 else flk v (r ++ B)) = flk v B
    rw [if_neg (h x List.mem_cons_self)]
    exact ih (fun e he => h e (List.mem_cons_of_mem _ he))
theorem flk_in {v : Int32} {A B : List (Int32 × Fnc)} {f : Fnc} (h : flk v A = some f) : flk v (A ++ B) = some f := by
  induction A with
  | nil => exact absurd h (by simp [flk])
  | cons x r ih =>
    have h' : (if x.1 = v then some x.2 else flk v r) = some f := h
    show (if x.1 = v then some x.2 else flk v (r ++ B)) = some f
    by_cases q : x.1 = v
    · rw [if_pos q] at h' ⊢; exact h'
    · rw [if_neg q] at h' ⊢; exact ih h'
theorem flk_no {v : Int32} {A : List (Int32 × Fnc)} (h : ∀ e : Int32 × Fnc, e ∈ A → ¬ e.1 = v) : flk v A = none := by
  have := flk_ap (B := []) h
  rw [List.append_nil] at this
  exact this
theorem flk_at {v : Int32} : ∀ {A : List FnE} {j : Nat} {e : FnE}, A[j]? = some e → e.1 = v → (∀ (i : Nat) (e' : FnE), i < j → A[i]? = some e' → ¬ e'.1 = v) → flk v (A.map fnT) = some (fnT e).2
  | [], j, e, h, _, _ => absurd h (by simp)
  | x :: r, 0, e, h, he, _ => by
    have h' : some x = some e := h
    injection h' with h'
    show (if x.1 = v then some (fnT x).2 else flk v (r.map fnT)) = some (fnT e).2
    rw [h', if_pos he]
  | x :: r, j + 1, e, h, he, hn => by
    show (if x.1 = v then some (fnT x).2 else flk v (r.map fnT)) = some (fnT e).2
    rw [if_neg (hn 0 x (Nat.succ_pos _) rfl)]
    exact flk_at (A := r) (j := j) (by rw [List.getElem?_cons_succ] at h; exact h) he (fun i e' hi he' => hn (i + 1) e' (by omega) (by rw [List.getElem?_cons_succ]; exact he'))
theorem mem_fn {v : Int32} {A : List FnE} (h : ∀ (j : Nat) (e : FnE), A[j]? = some e → ¬ e.1 = v) : ∀ e : Int32 × Fnc, e ∈ A.map fnT → ¬ e.1 = v := by
  intro e he
  obtain ⟨x, x1, x2⟩ := List.mem_map.mp he
  obtain ⟨j, hj⟩ := List.getElem?_of_mem x1
  rw [← x2]
  exact h j x hj
/-- of the ten: what is found -/
theorem gv_at {j : Nat} {e : FnE} (h : GV[j]? = some e) : flk e.1 (GV.map fnT) = some (fnT e).2 ∧ j < 10 := by
  have hj : j < 10 := (List.getElem?_eq_some_iff.mp h).1
  have c : j = 0 ∨ j = 1 ∨ j = 2 ∨ j = 3 ∨ j = 4 ∨ j = 5 ∨ j = 6 ∨ j = 7 ∨ j = 8 ∨ j = 9 := by omega
  refine ⟨?_, hj⟩
  rcases c with rfl | rfl | rfl | rfl | rfl | rfl | rfl | rfl | rfl | rfl
  all_goals
    injection h with h
    rw [← h]
    rfl
theorem gv_get {j : Nat} (h : j < 10) : ∃ e : FnE, GV[j]? = some e := ⟨GV[j]'h, List.getElem?_eq_getElem h⟩
section TJ
variable {tf : Nat → Int32} {ta na ca ma : Nat → Nat → Int32} {b : Nat → Int} {n c t : Nat} {vl : Nat → Int32} {k : Nat → Int} {p0 p1 p2 v : Int32} {LF : List FnE} {n38 : Int32}
/-- parameters are of their kind -/
theorem prs_all : ∀ (ps : Ast) (x : Int) (lo hi : Nat), RowS na (RepP k c na ma) ps x lo hi → AllN na (fun p => (na 14 p.toNat).toInt = 42) x := by
  intro ps
  induction ps with
  | null => intro x lo hi h; exact AllN.nil h.1
  | add a r iha ihr =>
    intro x lo hi h
    obtain ⟨mid, h1, h2, h3, h4⟩ := h
    refine AllN.cons h1 ?_ (ihr _ mid hi h4)
    show (na 14 x.toNat).toInt = 42
    rw [h1, Int.toNat_natCast]
    exact h3.2.1
  | _ => intro x lo hi h; exact h.elim
theorem scl_r {sb : Nat → Int32} {j : Nat} (hj : p0.toInt = (j : Int)) (hb : 0 ≤ (sb j).toInt ∧ (sb j).toInt < 128) (h : R_sg_charAtL sb p0 v) : v.toInt = (sb j).toInt := by
  rcases h with ⟨v2, -, -, v8, h, ev⟩ | h
  · rcases h with ⟨z3, h3, z4, h4, z5, h5, ev8⟩ | h
    · rw [cn_of hj] at h3
      rw [ev, ev8, h5, h4, h3, and255 hb.1 (by omega), nar16 hb.1 (by omega)]
    · exact h.elim
  · exact h.elim
def wnB (ws : List Int) (v : Int) : Bool := match ws with
  | [] => decide (v = 32)
  | w :: _ => decide ((w = 1 ∧ v = 105) ∨ (w = 17 ∧ v = 115) ∨ (w = 18 ∧ v = 99) ∨ (w = 16 ∧ ¬ v = 32 ∧ ¬ v = 105 ∧ ¬ v = 107 ∧ ¬ v = 115 ∧ ¬ v = 99))
theorem wnB_r {ws : List Int} {x : Int} (h : wnB ws x = true) : WnRr ws x := by
  cases ws with
  | nil => exact (of_decide_eq_true (p := x = 32) h)
  | cons w r => exact (of_decide_eq_true (p := (w = 1 ∧ x = 105) ∨ (w = 17 ∧ x = 115) ∨ (w = 18 ∧ x = 99) ∨ (w = 16 ∧ ¬ x = 32 ∧ ¬ x = 105 ∧ ¬ x = 107 ∧ ¬ x = 115 ∧ ¬ x = 99)) h)
theorem wn_d {j i : Nat} {ws : List Int} {x : Int} (val : (i + 1 < tlen j ∧ x = (tby j (i + 1)).toInt) ∨ (tlen j ≤ i + 1 ∧ x = 32)) (h : wnB ws (if i + 1 < tlen j then (tby j (i + 1)).toInt else 32) = true) : WnRr ws x := by
  rcases val with ⟨v1, v2⟩ | ⟨v1, v2⟩
  · rw [if_pos v1, ← v2] at h
    exact wnB_r h
  · rw [if_neg (by omega), ← v2] at h
    exact wnB_r h
/-- what a parameter wants -/
theorem tk_w {M : Nat → Int32} {i : Nat} (hM : ma 22 = M) (hi : p2.toInt = (i : Int)) (hi2 : i < 100000) : ∀ (ps : Ast) (m j lo hi : Nat) (x4 x5 : Int32) (ma1 : Nat → Nat → Int32), ma1 22 = M → E_mp_taken na ma1 ca p0 p1 p2 v m 53 [x4, x5] [] [] [] [] () → RowS na (RepP k c na ma) ps x4.toInt lo hi → x5.toInt = (j : Int) → j ≤ i → WnRr (((wnX ps).map wnT).drop (i - j)) v.toInt := by
  intro ps
  induction ps with
  | null =>
    intro m j lo hi x4 x5 ma1 hm h hR hx hji
    have hR' : x4.toInt < 0 ∧ lo ≤ hi := hR
    have e : ((wnX .null).map wnT).drop (i - j) = [] := by simp [wnX]
    rw [e]
    rcases iv_mp_taken_53 h with ⟨m', (⟨h1, (⟨h2, z5, h3, (⟨h4, z8, h5, (⟨h6, ev⟩ | ⟨h6, ev⟩)⟩ | ⟨h4, ev⟩)⟩ | ⟨h2, ev⟩)⟩ | ⟨h1, (⟨h2, (⟨h3, z15, h4, (⟨h5, z18, h6, (⟨h7, ev⟩ | ⟨h7, ev⟩)⟩ | ⟨h5, ev⟩)⟩ | ⟨h3, ev⟩)⟩ | ⟨h2, z21, h3, z22, h4, hQ⟩)⟩)⟩
    · exfalso; omega
    · exfalso; omega
    · exfalso; omega
    · rw [ev]; rfl
    · exfalso; omega
    · exfalso; omega
    · exfalso; omega
    · rw [ev]; rfl
    · exfalso; omega
  | add a r iha ihr =>
    intro m j lo hi x4 x5 ma1 hm h hR hx hji
    obtain ⟨mid, r1, r2, r3, r4⟩ := hR
    obtain ⟨v1, v2, ty, t, v3, v4, v5⟩ := r3
    have hid := fun (_ : True) => v5
    clear v5
    have xi : x4.toNatClampNeg = lo := cn_of r1
    have ew : (wnX (.add a r)).map wnT = wnT (wnV a) :: (wnX r).map wnT := by simp [wnX]
    have now : i - j = 0 → ((wnX (.add a r)).map wnT).drop (i - j) = wnT (wnV a) :: (wnX r).map wnT := fun q => by rw [q, ew]; rfl
    have m22 : ma1 22 lo = ma 22 lo := by rw [hm, hM]
    rcases iv_mp_taken_53 h with ⟨m', (⟨h1, (⟨h2, z5, h3, (⟨h4, z8, h5, (⟨h6, ev⟩ | ⟨h6, ev⟩)⟩ | ⟨h4, ev⟩)⟩ | ⟨h2, ev⟩)⟩ | ⟨h1, (⟨h2, (⟨h3, z15, h4, (⟨h5, z18, h6, (⟨h7, ev⟩ | ⟨h7, ev⟩)⟩ | ⟨h5, ev⟩)⟩ | ⟨h3, ev⟩)⟩ | ⟨h2, z21, h3, z22, h4, hQ⟩)⟩)⟩
    · rw [xi] at h3 h5
      rw [h3] at h4
      rw [h5, m22] at h6
      rw [now (by omega), ev]
      rcases hid trivial with ⟨a1, a2⟩ | ⟨a1, a2⟩
      · exfalso; omega
      · have e : wnV a = 16 + (ty : Int) := by rw [a1]; rfl
        have y : ty = 2 := by omega
        have e2 : wnT (wnV a) = 18 := by rw [e, y]; rfl
        rw [e2]
        exact Or.inr (Or.inr (Or.inl ⟨rfl, rfl⟩))
    · rw [xi] at h3 h5
      rw [h3] at h4
      rw [h5, m22] at h6
      rw [now (by omega), ev]
      rcases hid trivial with ⟨a1, a2⟩ | ⟨a1, a2⟩
      · exfalso; omega
      · have e : wnV a = 16 + (ty : Int) := by rw [a1]; rfl
        have y : ty = 1 := by omega
        have e2 : wnT (wnV a) = 17 := by rw [e, y]; rfl
        rw [e2]
        exact Or.inr (Or.inl ⟨rfl, rfl⟩)
    · rw [xi] at h3
      rw [h3] at h4
      rw [now (by omega), ev]
      rcases hid trivial with ⟨a1, a2⟩ | ⟨a1, a2⟩
      · have e : wnV a = (ty : Int) := by rw [a1]; rfl
        have e2 : wnT (wnV a) = 1 := by
          rw [e]
          rcases v4.2 with y | y
          · rw [y]; rfl
          · rw [y]; rfl
        rw [e2]
        exact Or.inl ⟨rfl, rfl⟩
      · exact absurd a2 h4
    · exfalso; omega
    · exfalso; omega
    · exfalso; omega
    · exfalso; omega
    · exfalso; omega
    · rw [xi] at h3
      have z1 := ti_add h4 hx (show (1 : Int32).toInt = 1 from rfl) (by omega) (by omega)
      have q := ihr m' (j + 1) mid hi z21 z22 ma1 hm hQ (by rw [h3]; exact r4) (by omega) (by omega)
      have e : i - j = (i - (j + 1)) + 1 := by omega
      rw [ew, e]
      exact q
  | _ => intro m j lo hi x4 x5 ma1 hm h hR; exact hR.elim
/-- a function of the text, as a call takes it -/
theorem tkf_t {fn : Int32} {j i : Nat} {e : FnE} (hfn : fn.toInt = (j : Int)) (h39 : (ca 39 j).toInt = (i : Int)) (hD : FnD k vl c na ma i e) : TkFr na ca (ma 22) (-1) fn (fnT e).2 ∧ FnPl na ca fn := by
  obtain ⟨k14, t, ty, m, ps, k15, hty, k22, hps, he⟩ := hD
  have n1 : (ca 39 fn.toNatClampNeg).toNatClampNeg = i := by rw [cn_of hfn]; exact cn_of h39
  have e2 : (fnT e).2 = (decide ((ty : Int) = 3), (wnX ps).map wnT) := by rw [he]; rfl
  refine ⟨⟨fun ma1 i' q v hm hq hi' hR => ?_, fun _ => ?_, fun w => absurd w (by decide)⟩, ?_⟩
  · rw [e2]
    obtain ⟨m', hR⟩ := hR
    rcases iv_mp_taken_0 hR with ⟨m2, (⟨h1, z25, h2, z26, h3, hQ⟩ | ⟨h1, z27, h2, v31, h3, (⟨h4, ev⟩ | ⟨h4, z38, h5, v40, h6, ev⟩)⟩)⟩
    · rw [h2, n1] at h3
      have r := tk_w (k := k) (c := c) (ma := ma) rfl hq hi' ps m2 0 (i + 1) m z26 (0 : Int32) ma1 hm hQ (by rw [h3]; exact hps) rfl (Nat.zero_le _)
      rw [Nat.sub_zero] at r
      exact r
    · exfalso; omega
    · exfalso; omega
  · rw [n1, e2]
    show (ma 22 i).toInt = 2 ↔ decide ((ty : Int) = 3) = true
    rw [decide_eq_true_eq]
    omega
  · refine ⟨by rw [n1]; exact k14, ?_⟩
    rw [n1]
    exact prs_all ps _ _ _ hps
/-- one of the ten, as a call takes it -/
theorem tkf_o {own : Int32} {j : Nat} {e : FnE} {M : Nat → Int32} (ho : own.toInt = (j : Int)) (he : GV[j]? = some e) : TkFr na ca M own (-1) (fnT e).2 := by
  obtain ⟨-, hj⟩ := gv_at he
  have n1 : own.toNatClampNeg = j := cn_of ho
  have tl : tlen j ≤ 3 ∧ ∀ q : Nat, q < tlen j → 0 ≤ (tby j q).toInt ∧ (tby j q).toInt < 128 := by
    have all : ∀ j : Nat, j < 10 → tlen j ≤ 3 ∧ 1 ≤ tlen j ∧ ∀ q : Nat, q < 3 → 0 ≤ (tby j q).toInt ∧ (tby j q).toInt < 128 := by decide
    exact ⟨(all j hj).1, fun q hq => (all j hj).2.2 q (by have := (all j hj).1; omega)⟩
  have t0 : 0 < tlen j := by
    have all : ∀ j : Nat, j < 10 → 0 < tlen j := by decide
    exact all j hj
  refine ⟨fun ma1 i q v hm hq hi hR => ?_, fun w => by exfalso; omega, fun _ v hv => ?_⟩
  · have val : (i + 1 < tlen j ∧ v.toInt = (tby j (i + 1)).toInt) ∨ (tlen j ≤ i + 1 ∧ v.toInt = 32) := by
      obtain ⟨m', hR⟩ := hR
      rcases iv_mp_taken_0 hR with ⟨m2, (⟨h1, z25, h2, z26, h3, hQ⟩ | ⟨h1, z27, h2, v31, h3, (⟨h4, ev⟩ | ⟨h4, z38, h5, v40, h6, ev⟩)⟩)⟩
      · exact absurd h1 (by decide)
      · rw [n1] at h3
        have s1 := slen_r (by omega) h3
        have y := ti_add h2 hq (show (1 : Int32).toInt = 1 from rfl) (by omega) (by omega)
        exact Or.inr ⟨by omega, by rw [ev]; rfl⟩
      · rw [n1] at h3 h6
        have s1 := slen_r (by omega) h3
        have y := ti_add h2 hq (show (1 : Int32).toInt = 1 from rfl) (by omega) (by omega)
        have y2 := ti_add h5 hq (show (1 : Int32).toInt = 1 from rfl) (by omega) (by omega)
        refine Or.inl ⟨by omega, ?_⟩
        rw [ev]
        exact scl_r (j := i + 1) (by omega) (tl.2 (i + 1) (by omega)) h6
    have c : j = 0 ∨ j = 1 ∨ j = 2 ∨ j = 3 ∨ j = 4 ∨ j = 5 ∨ j = 6 ∨ j = 7 ∨ j = 8 ∨ j = 9 := by omega
    rcases c with rfl | rfl | rfl | rfl | rfl | rfl | rfl | rfl | rfl | rfl
    all_goals
      injection he with he
      subst he
      have ci : i = 0 ∨ i = 1 ∨ 2 ≤ i := by omega
      rcases ci with rfl | rfl | ci
    all_goals first
      | exact wn_d val (by decide)
      | (have h3 : v.toInt = 32 := by
           rcases val with ⟨w, -⟩ | ⟨-, w⟩
           · have l3 := tl.1
             exfalso; omega
           · exact w
         rw [List.drop_eq_nil_of_le (by first | (show 1 ≤ i; omega) | (show 2 ≤ i; omega))]
         exact h3)
  · rw [n1] at hv
    have y := sca_r (j := 0) rfl (tl.2 0 t0) hv
    rw [y]
    have c : j = 0 ∨ j = 1 ∨ j = 2 ∨ j = 3 ∨ j = 4 ∨ j = 5 ∨ j = 6 ∨ j = 7 ∨ j = 8 ∨ j = 9 := by omega
    rcases c with rfl | rfl | rfl | rfl | rfl | rfl | rfl | rfl | rfl | rfl
    all_goals
      injection he with he
      subst he
      decide
end TJ
