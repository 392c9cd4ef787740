/-! THE REFERENCE: main -/
def mnW : List Int := [109, 97, 105, 110]
section TL
variable {tf sb : Nat → Int32} {ta na ca ma : Nat → Nat → Int32} {b : Nat → Int} {n c p t : Nat} {vl : Nat → Int32} {k : Nat → Int} {LF : List FnE} {n38 : Int32} {p0 v : Int32} {cf : Nat → Int32}
theorem stM_5 (hT : RTx tf ta b n) (hp : p0.toInt = (p : Int)) (hpn : p ≤ 100000) (hsb : ∀ j : Nat, j < 4 → 0 ≤ (sb j).toInt ∧ (sb j).toInt < 128) : ∀ (d m i : Nat) (x3 x4 : Int32), E_mp_standsM sb tf ta p0 v m 5 [x3, x4] [] [] [] [] () → x4.toInt = (i : Int) → i + d = 4 → (x3.toInt = 0 → v.toInt = 0) ∧ (x3.toInt = 1 → (v.toInt = 0 ∨ v.toInt = 1) ∧ (v.toInt = 1 ↔ ∀ j : Nat, i ≤ j → j < 4 → b (p + j) = (sb j).toInt)) := by
  intro d
  induction d with
  | zero =>
    intro m i x3 x4 h hx hi
    rcases iv_mp_standsM_5 h with ⟨m', v2, h1, (⟨h2, ev⟩ | ⟨h2, (⟨h3, ev⟩ | ⟨h3, z9, h4, v11, h5, v16, h6, (⟨h7, z22, h8, hQ⟩ | ⟨h7, z23, h8, hQ⟩)⟩)⟩)⟩
    all_goals have s1 := slen_r (by decide) h1
    · rw [ev]
      exact ⟨id, fun q => ⟨Or.inr q, fun _ j j1 j2 => by exfalso; omega, fun _ => q⟩⟩
    all_goals (exfalso; omega)
  | succ d ih =>
    intro m i x3 x4 h hx hi
    rcases iv_mp_standsM_5 h with ⟨m', v2, h1, (⟨h2, ev⟩ | ⟨h2, (⟨h3, ev⟩ | ⟨h3, z9, h4, v11, h5, v16, h6, (⟨h7, z22, h8, hQ⟩ | ⟨h7, z23, h8, hQ⟩)⟩)⟩)⟩
    all_goals have s1 := slen_r (by decide) h1
    · exfalso; omega
    · rw [ev]
      exact ⟨id, fun q => by exfalso; omega⟩
    all_goals
      have z1 := ti_add h4 hp hx (by omega) (by omega)
      have b1 := byt_r hT (p := p + i) (by omega) h5
      unfold BtR at b1
      have hs := hsb i (by omega)
      have c1 := scl_r hx hs h6
      have z2 := ti_add h8 hx (show (1 : Int32).toInt = 1 from rfl) (by omega) (by omega)
    · obtain ⟨g1, -⟩ := ih m' (i + 1) (0 : Int32) z22 hQ (by omega) (by omega)
      have v0 := g1 rfl
      refine ⟨fun _ => v0, fun _ => ⟨Or.inl v0, fun q => by exfalso; omega, fun q => ?_⟩⟩
      have := q i (Nat.le_refl _) (by omega)
      exfalso; omega
    · obtain ⟨-, g2⟩ := ih m' (i + 1) (1 : Int32) z23 hQ (by omega) (by omega)
      obtain ⟨g3, g4⟩ := g2 rfl
      refine ⟨fun q => absurd q h3, fun _ => ⟨g3, ?_⟩⟩
      rw [g4]
      constructor
      · intro q j j1 j2
        by_cases w : j = i
        · rw [w]; omega
        · exact q j (by omega) j2
      · intro q j j1 j2
        exact q j (by omega) j2
theorem nmM_r (hT : RTx tf ta b n) (h : LxR b n tf ta c) (hsb : ∀ j : Nat, j < 4 → mnW[j]? = some (sb j).toInt) (hp : p0.toInt = (t : Int)) (htc : t < c) (h16 : lxK KWL b n (posN b n t) = 16) (hR : R_mp_isNamedM sb tf ta p0 v) : (v.toInt = 0 ∨ v.toInt = 1) ∧ (v.toInt = 1 ↔ wdI b n t = mnW) := by
  have t2 := hT.2.1
  obtain ⟨a1, a2, a3, a4⟩ := lx_nm h htc h16
  have l0 : (sb 0).toInt = 109 ∧ (sb 1).toInt = 97 ∧ (sb 2).toInt = 105 ∧ (sb 3).toInt = 110 := by
    have q0 := hsb 0 (by decide)
    have q1 := hsb 1 (by decide)
    have q2 := hsb 2 (by decide)
    have q3 := hsb 3 (by decide)
    injection q0 with q0
    injection q1 with q1
    injection q2 with q2
    injection q3 with q3
    exact ⟨q0.symm, q1.symm, q2.symm, q3.symm⟩
  have ob : ∀ j : Nat, j < 4 → 0 ≤ (sb j).toInt ∧ (sb j).toInt < 128 := fun j hj => by
    have cj : j = 0 ∨ j = 1 ∨ j = 2 ∨ j = 3 := by omega
    rcases cj with rfl | rfl | rfl | rfl <;> omega
  have mw : mnW = (List.range 4).map (fun q => (sb q).toInt) := by
    show [109, 97, 105, 110] = [(sb 0).toInt, (sb 1).toInt, (sb 2).toInt, (sb 3).toInt]
    rw [l0.1, l0.2.1, l0.2.2.1, l0.2.2.2]
  have we : wdI b n t = mnW ↔ lxE b n (posN b n t) - posN b n t = 4 ∧ ∀ q : Nat, q < 4 → b (posN b n t + q) = (sb q).toInt := by
    rw [mw]
    unfold wdI wdL
    rw [rg_eq]
    exact ⟨fun w => ⟨w.1, fun q hq => w.2 q (by omega)⟩, fun w => ⟨w.1, fun q hq => w.2 q (by omega)⟩⟩
  rw [we]
  have st : ∀ {z x : Int32}, z.toInt = (posN b n t : Int) → R_mp_standsM sb tf ta z x → (x.toInt = 0 ∨ x.toInt = 1) ∧ (x.toInt = 1 ↔ ∀ j : Nat, j < 4 → b (posN b n t + j) = (sb j).toInt) := by
    intro z x hz hx
    obtain ⟨m, hx⟩ := hx
    obtain ⟨m', hx⟩ := iv_mp_standsM_0 hx
    obtain ⟨g1, g2⟩ := (stM_5 hT hz (by omega) ob 4 m' 0 (1 : Int32) (0 : Int32) hx rfl rfl).2 rfl
    exact ⟨g1, g2.trans ⟨fun q j hj => q j (Nat.zero_le _) hj, fun q j _ hj => q j hj⟩⟩
  rcases hR with ⟨z1, h1, v3, h2, (⟨h3, ev⟩ | ⟨h3, z8, h4, v10, h5, (⟨h6, ev⟩ | ⟨h6, ev⟩)⟩)⟩ | hR
  case inr => exact hR.elim
  all_goals
    rw [cn_of hp] at h1
    rw [h1] at h3
    have s1 := slen_r (by decide) h2
  · exact ⟨Or.inl (by rw [ev]; rfl), fun w => by rw [ev] at w; exact absurd w (by decide), fun w => by exfalso; have := w.1; omega⟩
  · rw [cn_of hp] at h4
    have s2 := st (by rw [h4]; exact a1) h5
    exact ⟨Or.inl (by rw [ev]; rfl), fun w => by rw [ev] at w; exact absurd w (by decide), fun w => by exfalso; have := s2.2.mpr w.2; omega⟩
  · rw [cn_of hp] at h4
    have s2 := st (by rw [h4]; exact a1) h5
    exact ⟨Or.inr (by rw [ev]; rfl), fun _ => ⟨by omega, s2.2.mp (by omega)⟩, fun _ => by rw [ev]; rfl⟩
/-- one parameter, an int -/
theorem pr_1 {ps : Ast} {lo hi : Nat} {z : Int32} (h : RowS na (RepP k c na ma) ps z.toInt lo hi) : wnX ps = [1] ↔ (0 ≤ z.toInt ∧ (na 21 z.toNatClampNeg).toInt < 0 ∧ (na 17 z.toNatClampNeg).toInt < 0 ∧ (ma 22 z.toNatClampNeg).toInt = 0) := by
  cases ps with
  | null =>
    have h' : z.toInt < 0 ∧ lo ≤ hi := h
    exact ⟨fun q => absurd q (by simp [wnX]), fun q => by exfalso; omega⟩
  | add a r =>
    obtain ⟨mid, h1, h2, h3, h4⟩ := h
    obtain ⟨v1, v2, ty, t, v3, v4, v5⟩ := h3
    have xi : z.toNatClampNeg = lo := cn_of h1
    rw [xi]
    have ew : wnX (.add a r) = wnV a :: wnX r := by simp [wnX]
    have rn : wnX r = [] ↔ (na 21 lo).toInt < 0 := by
      cases r with
      | null => exact ⟨fun _ => h4.1, fun _ => by simp [wnX]⟩
      | add x y =>
        obtain ⟨m2, g1, -⟩ := h4
        exact ⟨fun q => absurd q (by simp [wnX]), fun q => by exfalso; omega⟩
      | _ => exact h4.elim
    have av : wnV a = 1 ↔ (na 17 lo).toInt < 0 ∧ (ma 22 lo).toInt = 0 := by
      rcases v5 with ⟨a1, a2⟩ | ⟨a1, a2⟩
      · have e : wnV a = (ty : Int) := by rw [a1]; rfl
        rw [e]
        have := v4.1
        constructor
        · intro q; exact ⟨a2, by omega⟩
        · intro q; omega
      · have e : wnV a = 16 + (ty : Int) := by rw [a1]; rfl
        rw [e]
        exact ⟨fun q => by exfalso; omega, fun q => by exfalso; omega⟩
    rw [ew]
    constructor
    · intro q
      injection q with q1 q2
      have y := av.mp q1
      exact ⟨by omega, rn.mp q2, y.1, y.2⟩
    · intro q
      rw [av.mpr ⟨q.2.2.1, q.2.2.2⟩, rn.mpr q.2.1]
  | _ => exact h.elim
theorem hm_2 (hT : RTx tf ta b n) (hx : LxR b n tf ta c) (hsb : ∀ j : Nat, j < 4 → mnW[j]? = some (sb j).toInt) (hMn : ∀ t : Nat, t < c → lxK KWL b n (posN b n t) = 16 → (vl t = 25 ↔ wdI b n t = mnW)) (hL : FnLr (fun i => lxK KWL b n (posN b n i)) vl c na ma ca n38 LF) (h38 : cf 38 = n38) : ∀ (d m j : Nat) (x : Int32), E_mp_hasMain sb tf ta na ma cf ca v m 2 [x] [] [] [] [] () → x.toInt = (j : Int) → j + d = LF.length → (∀ (i : Nat) (e : FnE), i < j → LF[i]? = some e → ¬ e = (25, 1, [1])) → (¬ v.toInt = 0 ↔ ∃ (i : Nat) (e : FnE), LF[i]? = some e ∧ e = (25, 1, [1])) := by
  have L1 := hL.1
  have L2 := hL.2.1
  intro d
  induction d with
  | zero =>
    intro m j x h hxj hj hno
    rcases iv_mp_hasMain_2 h with ⟨m', (⟨h1, ev⟩ | ⟨h1, z3, h2, z4, h3, (⟨h4, z7, h5, v9, h6, (⟨h7, z15, h8, hQ⟩ | ⟨h7, z16, h8, (⟨h9, z19, h10, hQ⟩ | ⟨h9, z21, h10, hQ⟩)⟩)⟩ | ⟨h4, z22, h5, z23, h6, (⟨h7, z26, h8, v28, h9, (⟨h10, z34, h11, hQ⟩ | ⟨h10, z35, h11, (⟨h12, z38, h13, hQ⟩ | ⟨h12, z40, h13, hQ⟩)⟩)⟩ | ⟨h7, z41, h8, z42, h9, (⟨h10, z45, h11, v47, h12, (⟨h13, z53, h14, hQ⟩ | ⟨h13, z54, h14, (⟨h15, z57, h16, hQ⟩ | ⟨h15, z59, h16, hQ⟩)⟩)⟩ | ⟨h10, z60, h11, z61, h12, (⟨h13, z64, h14, v66, h15, (⟨h16, z72, h17, hQ⟩ | ⟨h16, z73, h17, (⟨h18, z76, h19, hQ⟩ | ⟨h18, z78, h19, hQ⟩)⟩)⟩ | ⟨h13, z79, h14, v81, h15, (⟨h16, z87, h17, hQ⟩ | ⟨h16, z88, h17, (⟨h18, z91, h19, hQ⟩ | ⟨h18, ev⟩)⟩)⟩)⟩)⟩)⟩)⟩)⟩
    · refine ⟨fun q => absurd (by rw [ev]; rfl) q, fun ⟨i, e, g1, g2⟩ => absurd g2 (hno i e (by have := (List.getElem?_eq_some_iff.mp g1).1; omega) g1)⟩
    all_goals (exfalso; rw [h38] at h1; omega)
  | succ d ih =>
    intro m j x h hxj hj hno
    have xi : x.toNatClampNeg = j := cn_of hxj
    have hlt : j < LF.length := by omega
    have hg : LF[j]? = some LF[j] := List.getElem?_eq_getElem hlt
    obtain ⟨i, i1, i2, t, ty, m2, ps, i3, i4, i5, i6, i7⟩ := hL.2.2 j _ hg
    have i3' : lxK KWL b n (posN b n t) = 16 := i3.2.2
    have nx : ∀ {m' : Nat} {z : Int32}, z = x + 1 → E_mp_hasMain sb tf ta na ma cf ca v m' 2 [z] [] [] [] [] () → ¬ LF[j] = (25, 1, [1]) → (¬ v.toInt = 0 ↔ ∃ (i : Nat) (e : FnE), LF[i]? = some e ∧ e = (25, 1, [1])) := by
      intro m' z hz hE hn
      have z1 := ti_add hz hxj (show (1 : Int32).toInt = 1 from rfl) (by omega) (by omega)
      refine ih m' (j + 1) z hE (by omega) (by omega) (fun i e hi he => ?_)
      by_cases q : i = j
      · rw [q, hg] at he
        injection he with he
        rw [← he]; exact hn
      · exact hno i e (by omega) he
    have z3' : ∀ {z3 : Int32}, z3 = ca 39 x.toNatClampNeg → z3.toNatClampNeg = i := fun {z3} e => cn_of (by rw [e, xi]; exact i1)
    have e3 : LF[j] = (25, 1, [1]) ↔ vl t = 25 ∧ ty = 1 ∧ wnX ps = [1] := by
      rw [i7]
      constructor
      · intro q
        injection q with q1 q2
        injection q2 with q2 q3
        exact ⟨q1, by omega, q3⟩
      · intro q
        rw [q.1, q.2.1, q.2.2]
        rfl
    have nopar : ∀ {z4 : Int32}, z4 = na 17 i → ¬ (0 ≤ z4.toInt ∧ (na 21 z4.toNatClampNeg).toInt < 0 ∧ (na 17 z4.toNatClampNeg).toInt < 0 ∧ (ma 22 z4.toNatClampNeg).toInt = 0) → ¬ LF[j] = (25, 1, [1]) := fun {z4} e q w => by
      subst e
      exact q ((pr_1 i6).mp (e3.mp w).2.2)
    rcases iv_mp_hasMain_2 h with ⟨m', (⟨h1, ev⟩ | ⟨h1, z3, h2, z4, h3, (⟨h4, z7, h5, v9, h6, (⟨h7, z15, h8, hQ⟩ | ⟨h7, z16, h8, (⟨h9, z19, h10, hQ⟩ | ⟨h9, z21, h10, hQ⟩)⟩)⟩ | ⟨h4, z22, h5, z23, h6, (⟨h7, z26, h8, v28, h9, (⟨h10, z34, h11, hQ⟩ | ⟨h10, z35, h11, (⟨h12, z38, h13, hQ⟩ | ⟨h12, z40, h13, hQ⟩)⟩)⟩ | ⟨h7, z41, h8, z42, h9, (⟨h10, z45, h11, v47, h12, (⟨h13, z53, h14, hQ⟩ | ⟨h13, z54, h14, (⟨h15, z57, h16, hQ⟩ | ⟨h15, z59, h16, hQ⟩)⟩)⟩ | ⟨h10, z60, h11, z61, h12, (⟨h13, z64, h14, v66, h15, (⟨h16, z72, h17, hQ⟩ | ⟨h16, z73, h17, (⟨h18, z76, h19, hQ⟩ | ⟨h18, z78, h19, hQ⟩)⟩)⟩ | ⟨h13, z79, h14, v81, h15, (⟨h16, z87, h17, hQ⟩ | ⟨h16, z88, h17, (⟨h18, z91, h19, hQ⟩ | ⟨h18, ev⟩)⟩)⟩)⟩)⟩)⟩)⟩)⟩
    · exfalso; rw [h38] at h1; omega
    all_goals
      have n3 := z3' h2
      rw [n3] at h3
    · exact nx h8 hQ (nopar h3 (fun q => by omega))
    · exact nx h10 hQ (nopar h3 (fun q => by omega))
    · exact nx h10 hQ (nopar h3 (fun q => by omega))
    · exact nx h11 hQ (nopar h3 (fun q => by rw [h6] at h7; omega))
    · exact nx h13 hQ (nopar h3 (fun q => by rw [h6] at h7; omega))
    · exact nx h13 hQ (nopar h3 (fun q => by rw [h6] at h7; omega))
    · exact nx h14 hQ (nopar h3 (fun q => by rw [h9] at h10; omega))
    · exact nx h16 hQ (nopar h3 (fun q => by rw [h9] at h10; omega))
    · exact nx h16 hQ (nopar h3 (fun q => by rw [h9] at h10; omega))
    · exact nx h17 hQ (nopar h3 (fun q => by rw [h12] at h13; exact h13 q.2.2.2))
    · exact nx h19 hQ (nopar h3 (fun q => by rw [h12] at h13; exact h13 q.2.2.2))
    · exact nx h19 hQ (nopar h3 (fun q => by rw [h12] at h13; exact h13 q.2.2.2))
    · rw [n3] at h14
      have y := nmM_r hT hx hsb (p0 := z79) (by rw [h14]; exact i3.1) i3.2.1 i3' h15
      exact nx h17 hQ (fun w => by
        have y2 := y.2.mpr ((hMn t i3.2.1 i3').mp (e3.mp w).1)
        omega)
    · rw [n3] at h17
      rw [h17] at h18
      exact nx h19 hQ (fun w => by have := (e3.mp w).2.1; omega)
    · rw [n3] at h14 h17
      have y := nmM_r hT hx hsb (p0 := z79) (by rw [h14]; exact i3.1) i3.2.1 i3' h15
      rw [h6] at h7
      rw [h9] at h10
      rw [h12] at h13
      rw [h17] at h18
      have p1 := (pr_1 (z := z4) (by rw [h3]; exact i6)).mpr ⟨by omega, by omega, by omega, h13⟩
      refine ⟨fun _ => ⟨j, LF[j], hg, e3.mpr ⟨(hMn t i3.2.1 i3').mpr (y.2.mp (by omega)), by omega, p1⟩⟩, fun _ => by rw [ev]; decide⟩
theorem flkX_ap {x : Int32} {A B : List FnE} (h : ∀ (j : Nat) (e : FnE), A[j]? = some e → ¬ e.1 = x) : flkX x (A ++ B) = flkX x B := by
  induction A with
  | nil => rfl
  | cons y r ih =>
    show (if y.1 = x then some y.2 else flkX x (r ++ B)) = flkX x B
    rw [if_neg (h 0 y rfl)]
    exact ih (fun j e he => h (j + 1) e (by rw [List.getElem?_cons_succ]; exact he))
theorem flkX_at {x : Int32} : ∀ {A : List FnE} {j : Nat} {e : FnE}, A[j]? = some e → e.1 = x → (∀ (i : Nat) (e' : FnE), i < j → A[i]? = some e' → ¬ e'.1 = x) → flkX x A = some e.2
  | [], j, e, h, _, _ => absurd h (by simp)
  | y :: r, 0, e, h, he, _ => by
    have h' : some y = some e := h
    injection h' with h'
    show (if y.1 = x then some y.2 else flkX x r) = some e.2
    rw [h', if_pos he]
  | y :: r, j + 1, e, h, he, hn => by
    show (if y.1 = x then some y.2 else flkX x r) = some e.2
    rw [if_neg (hn 0 y (Nat.succ_pos _) rfl)]
    exact flkX_at (A := r) (j := j) (by rw [List.getElem?_cons_succ] at h; exact h) he (fun i e' hi he' => hn (i + 1) e' (by omega) (by rw [List.getElem?_cons_succ]; exact he'))
theorem flkX_m {x : Int32} : ∀ {A : List FnE} {q : Int × List Int}, flkX x A = some q → ∃ (j : Nat) (e : FnE), A[j]? = some e ∧ e.1 = x ∧ e.2 = q
  | [], q, h => absurd h (by simp [flkX])
  | y :: r, q, h => by
    have h' : (if y.1 = x then some y.2 else flkX x r) = some q := h
    by_cases w : y.1 = x
    · rw [if_pos w] at h'
      injection h' with h'
      exact ⟨0, y, rfl, w, h'⟩
    · rw [if_neg w] at h'
      obtain ⟨j, e, g1, g2⟩ := flkX_m h'
      exact ⟨j + 1, e, by rw [List.getElem?_cons_succ]; exact g1, g2⟩
theorem gv_25 : ∀ (j : Nat) (e : FnE), GV[j]? = some e → ¬ e.1 = 25 := by
  intro j e h
  have hj := (gv_at h).2
  have c : j = 0 ∨ j = 1 ∨ j = 2 ∨ j = 3 ∨ j = 4 ∨ j = 5 ∨ j = 6 ∨ j = 7 ∨ j = 8 ∨ j = 9 := by omega
  rcases c with rfl | rfl | rfl | rfl | rfl | rfl | rfl | rfl | rfl | rfl
  all_goals
    injection h with h
    rw [← h]
    decide
theorem hm_r (hT : RTx tf ta b n) (hx : LxR b n tf ta c) (hsb : ∀ j : Nat, j < 4 → mnW[j]? = some (sb j).toInt) (hMn : ∀ t : Nat, t < c → lxK KWL b n (posN b n t) = 16 → (vl t = 25 ↔ wdI b n t = mnW)) (hL : FnLr (fun i => lxK KWL b n (posN b n i)) vl c na ma ca n38 LF) (h38 : cf 38 = n38) (h : R_mp_hasMain sb tf ta na ma cf ca v) (nd : ∀ (j : Nat) (e : FnE), LF[j]? = some e → dupF e.1 ((GV ++ LF).take (10 + j)) = false) : ¬ v.toInt = 0 ↔ mainOk (GV ++ LF) = true := by
  obtain ⟨m, h⟩ := h
  obtain ⟨m', h⟩ := iv_mp_hasMain_0 h
  rw [hm_2 hT hx hsb hMn hL h38 LF.length m' 0 (0 : Int32) h rfl (Nat.zero_add _) (fun i e hi => absurd hi (Nat.not_lt_zero _))]
  unfold mainOk
  rw [decide_eq_true_eq, flkX_ap gv_25]
  have g10 : GV.length = 10 := rfl
  constructor
  · rintro ⟨i, e, g1, g2⟩
    have e1 : e.1 = 25 := by rw [g2]
    rw [flkX_at g1 e1 (fun i' e' hi he w => by
      have y := dupF_t (nm := e.1) (L := GV ++ LF) (n := 10 + i) (j := 10 + i') (e := e') (by rw [List.getElem?_append_right (by omega), show 10 + i' - GV.length = i' by omega]; exact he) (by omega) (w.trans e1.symm)
      rw [nd i e g1] at y
      exact absurd y (by decide)), g2]
  · intro q
    obtain ⟨j, e, g1, g2, g3⟩ := flkX_m q
    refine ⟨j, e, g1, ?_⟩
    show (e.1, e.2) = (25, 1, [1])
    rw [g2, g3]
end TL
