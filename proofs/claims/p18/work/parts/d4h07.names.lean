/-! The names of the class, as lists. -/
def SymAt (P : va_W) (q : Nat) (s : Nat → Int32) : Prop := ∃ j : Nat, P[j]? = some (syC q s)
/-- no address stands twice -/
def ND (P : va_W) : Prop := ∀ (j j' a : Nat) (x y : va_E), P[j]? = some (a, x) → P[j']? = some (a, y) → j = j'
theorem syC_inj {q : Nat} {s s' : Nat → Int32} (h : syC q s = syC q s') : s 0 = s' 0 ∧ s 1 = s' 1 ∧ s 2 = s' 2 ∧ s 3 = s' 3 ∧ s 4 = s' 4 ∧ s 5 = s' 5 ∧ s 6 = s' 6 := by
  unfold syC at h
  simp only [Prod.mk.injEq, Sum.inr.injEq, List.cons.injEq, Value.int.injEq, true_and, and_true] at h
  exact h
theorem ND.sym {P : va_W} {q : Nat} {s s' : Nat → Int32} (hn : ND P) (h : SymAt P q s) (h' : SymAt P q s') : s 0 = s' 0 ∧ s 1 = s' 1 ∧ s 2 = s' 2 ∧ s 3 = s' 3 ∧ s 4 = s' 4 ∧ s 5 = s' 5 ∧ s 6 = s' 6 := by
  obtain ⟨j, h⟩ := h
  obtain ⟨j', h'⟩ := h'
  have e : j = j' := hn j j' q _ _ h h'
  subst e
  rw [h] at h'
  exact syC_inj (Option.some.inj h')
theorem ND.ap {P X : va_W} (h : ND (P ++ X)) : ND P := by
  intro j j' a x y h1 h2
  refine h j j' a x y ?_ ?_
  · rw [List.getElem?_append_left]
    · exact h1
    · exact (List.getElem?_eq_some_iff.mp h1).1
  · rw [List.getElem?_append_left]
    · exact h2
    · exact (List.getElem?_eq_some_iff.mp h2).1
theorem SymAt.ap {P X : va_W} {q : Nat} {s : Nat → Int32} (h : SymAt P q s) : SymAt (P ++ X) q s := by
  obtain ⟨j, h⟩ := h
  refine ⟨j, ?_⟩
  rw [List.getElem?_append_left]
  · exact h
  · exact (List.getElem?_eq_some_iff.mp h).1
theorem SymAt.new {P : va_W} {q : Nat} {s : Nat → Int32} : SymAt (P ++ [syC q s]) q s := by
  refine ⟨P.length, ?_⟩
  rw [List.getElem?_append_right (Nat.le_refl _), Nat.sub_self]
  rfl
/-- the names that are known: what they are called and what they are -/
def EnvL (own : Bool) (P : va_W) (lf : Nat → Int32) (lg : Nat → Option Nat) (L : List (Int32 × Ent)) : Prop := (lf 1).toInt = (L.length : Int) ∧ (own = false → L = []) ∧ ∀ (i : Nat) (e : Int32 × Ent), L[i]? = some e → ∃ (q : Nat) (s : Nat → Int32), lg i = some q ∧ SymAt P q s ∧ s 0 = e.1 ∧ EntM s e.2 ∧ ¬ (s 1).toInt = 2
theorem EnvL.ap {own : Bool} {P X : va_W} {lf : Nat → Int32} {lg : Nat → Option Nat} {L : List (Int32 × Ent)} (h : EnvL own P lf lg L) : EnvL own (P ++ X) lf lg L := by
  refine ⟨h.1, h.2.1, fun i e hi => ?_⟩
  obtain ⟨q, s, h1, h2, h3⟩ := h.2.2 i e hi
  exact ⟨q, s, h1, h2.ap, h3⟩
/-- of names that are the same the last counts -/
def lkN (L : List (Int32 × Ent)) (v : Int32) : Nat → Option Ent
  | 0 => none
  | n + 1 => match L[n]? with
    | none => none
    | some e => if e.1 = v then some e.2 else lkN L v n
def lkp (L : List (Int32 × Ent)) (v : Int32) : Option Ent := lkN L v L.length
/-- whether one is known from sc on -/
def knN (L : List (Int32 × Ent)) (v : Int32) (sc : Nat) : Nat → Bool
  | 0 => false
  | n + 1 => if n < sc then false else match L[n]? with
    | none => false
    | some e => if e.1 = v then true else knN L v sc n
theorem EntM.co {s s' : Nat → Int32} {g : Ent} (h : EntM s g) (e1 : s 1 = s' 1) (e2 : s 2 = s' 2) (e5 : s 5 = s' 5) : EntM s' g := by
  unfold EntM entC at *
  rw [← e1, ← e2, ← e5]
  exact h
theorem find_T {P : va_W} {lf : Nat → Int32} {lg : Nat → Option Nat} {L : List (Int32 × Ent)} (hn : ND P) (hE : EnvL true P lf lg L) {v : Int32} {r : Option Nat} :
    ∀ (n : Nat) (x : Int32) (k : Nat), E_nm_find_T P lf lg v r k 10 [x] [] [] [] [] () → x.toInt = (n : Int) - 1 → n ≤ L.length → (lkN L v n = none ∧ r = none) ∨ ∃ (g : Ent) (q : Nat), lkN L v n = some g ∧ r = some q ∧ ∀ (j : Nat) (s : Nat → Int32), P[j]? = some (syC q s) → EntM s g := by
  intro n
  induction n with
  | zero =>
    intro x k h hx _
    rcases iv_nm_find_T_10 h with ⟨k, (⟨h1, ev⟩ | ⟨h1, q6, h2, j7, s8, h3, (⟨h4, z12, h5, hE_1⟩ | ⟨h4, ev⟩)⟩)⟩
    · exact Or.inl ⟨rfl, ev⟩
    · exfalso; omega
    · exfalso; omega
  | succ n ih =>
    intro x k h hx hL
    have hlt : n < L.length := hL
    have hg : L[n]? = some L[n] := List.getElem?_eq_getElem hlt
    obtain ⟨q, s, e1, e2, e3, e4, -⟩ := hE.2.2 n _ hg
    have hxn : x.toNatClampNeg = n := cn_of (by omega)
    have hl : lkN L v (n + 1) = if L[n].1 = v then some L[n].2 else lkN L v n := by
      show (match L[n]? with
        | none => none
        | some e => if e.1 = v then some e.2 else lkN L v n) = _
      rw [hg]
    rw [hl]
    rcases iv_nm_find_T_10 h with ⟨k, (⟨h1, ev⟩ | ⟨h1, q6, h2, j7, s8, h3, (⟨h4, z12, h5, hE_1⟩ | ⟨h4, ev⟩)⟩)⟩
    · exfalso; omega
    · rw [hxn, e1] at h2
      obtain rfl := Option.some.inj h2
      have hs := hn.sym e2 ⟨_, h3⟩
      rw [if_neg (fun z => h4 (by rw [← hs.1, e3, z]))]
      exact ih _ k hE_1 (by have := Int32.toInt_lt x; have := ti_add h5 hx (show ((-1 : Int32)).toInt = -1 from rfl) (by omega) (by omega); omega) (by omega)
    · rw [hxn, e1] at h2
      obtain rfl := Option.some.inj h2
      have hs := hn.sym e2 ⟨_, h3⟩
      rw [if_pos (i_eq.mpr (by rw [← e3, hs.1]; exact h4))]
      refine Or.inr ⟨_, _, rfl, ev, fun j s' hj => ?_⟩
      have hs' := hn.sym e2 ⟨_, hj⟩
      exact e4.co hs'.2.1 hs'.2.2.1 hs'.2.2.2.2.2.1
theorem find_all {own : Bool} {P : va_W} {lf : Nat → Int32} {lg : Nat → Option Nat} {L : List (Int32 × Ent)} (hn : ND P) (hE : EnvL own P lf lg L) : EnvC own P lf lg (lkp L) := by
  intro v r h
  have h1 := hE.1
  cases own with
  | true =>
    have h' : R_nm_find_T P lf lg v r := h
    obtain ⟨k, h'⟩ := h'
    obtain ⟨k, v14, h1_1, z17, h2, hE_1⟩ := iv_nm_find_T_0 h'
    have e : v14.toInt = (L.length : Int) := by
      rcases h1_1 with q | q
      · rw [q]; exact h1
      · exact q.elim
    exact find_T hn hE L.length _ k hE_1 (by have := Int32.toInt_lt v14; have := ti_sub h2 e (show (1 : Int32).toInt = 1 from rfl) (by omega) (by omega); omega) (Nat.le_refl _)
  | false =>
    have hL := hE.2.1 rfl
    subst hL
    have h' : R_nm_find_F lf v r := h
    obtain ⟨k, h'⟩ := h'
    obtain ⟨k, v4, h1_1, z7, h2, hE_1⟩ := iv_nm_find_F_0 h'
    obtain ⟨k, q1, q2⟩ := iv_nm_find_F_10 hE_1
    exact Or.inl ⟨rfl, q2⟩
theorem known_T {P : va_W} {nf lf : Nat → Int32} {lg : Nat → Option Nat} {L : List (Int32 × Ent)} {sc : Nat} (hn : ND P) (hE : EnvL true P lf lg L) (hs : (nf 4).toInt = (sc : Int)) {v r : Int32} :
    ∀ (n : Nat) (x : Int32) (k : Nat), E_nm_isKnownHere_T P nf lf lg v r k 10 [x] [] [] [] [] () → x.toInt = (n : Int) - 1 → n ≤ L.length → r.toInt = if knN L v sc n then 1 else 0 := by
  intro n
  induction n with
  | zero =>
    intro x k h hx _
    rcases iv_nm_isKnownHere_T_10 h with ⟨k, (⟨h1, ev⟩ | ⟨h1, (⟨h2, ev⟩ | ⟨h2, q8, h3, j9, s10, h4, (⟨h5, z14, h6, hE_1⟩ | ⟨h5, ev⟩)⟩)⟩)⟩
    · rw [ev]; rfl
    · rw [ev]; rfl
    · exfalso; omega
    · exfalso; omega
  | succ n ih =>
    intro x k h hx hL
    have hlt : n < L.length := hL
    have hg : L[n]? = some L[n] := List.getElem?_eq_getElem hlt
    obtain ⟨q, s, e1, e2, e3, e4, -⟩ := hE.2.2 n _ hg
    have hxn : x.toNatClampNeg = n := cn_of (by omega)
    have hl : knN L v sc (n + 1) = if n < sc then false else if L[n].1 = v then true else knN L v sc n := by
      show (if n < sc then false else match L[n]? with
        | none => false
        | some e => if e.1 = v then true else knN L v sc n) = _
      rw [hg]
    rcases iv_nm_isKnownHere_T_10 h with ⟨k, (⟨h1, ev⟩ | ⟨h1, (⟨h2, ev⟩ | ⟨h2, q8, h3, j9, s10, h4, (⟨h5, z14, h6, hE_1⟩ | ⟨h5, ev⟩)⟩)⟩)⟩
    · have hb : knN L v sc (n + 1) = false := by rw [hl, if_pos (by omega)]
      rw [hb, ev]; rfl
    · exfalso; omega
    · rw [hxn, e1] at h3
      obtain rfl := Option.some.inj h3
      have hs := hn.sym e2 ⟨_, h4⟩
      have hb : knN L v sc (n + 1) = knN L v sc n := by rw [hl, if_neg (by omega), if_neg (fun z => h5 (by rw [← hs.1, e3, z]))]
      rw [hb]
      exact ih _ k hE_1 (by have := Int32.toInt_lt x; have := ti_add h6 hx (show ((-1 : Int32)).toInt = -1 from rfl) (by omega) (by omega); omega) (by omega)
    · rw [hxn, e1] at h3
      obtain rfl := Option.some.inj h3
      have hs := hn.sym e2 ⟨_, h4⟩
      have hb : knN L v sc (n + 1) = true := by rw [hl, if_neg (by omega), if_pos (i_eq.mpr (by rw [← e3, hs.1]; exact h5))]
      rw [hb, ev]; rfl
theorem known_all {own : Bool} {P : va_W} {nf lf : Nat → Int32} {lg : Nat → Option Nat} {L : List (Int32 × Ent)} {sc : Nat} (hn : ND P) (hE : EnvL own P lf lg L) (hs : (nf 4).toInt = (sc : Int)) {v r : Int32} (h : R_nm_isKnownHere own P nf lf lg v r) : r.toInt = if knN L v sc L.length then 1 else 0 := by
  have h1 := hE.1
  cases own with
  | true =>
    have h' : R_nm_isKnownHere_T P nf lf lg v r := h
    obtain ⟨k, h'⟩ := h'
    obtain ⟨k, v16, h1_1, z19, h2, hE_1⟩ := iv_nm_isKnownHere_T_0 h'
    have e : v16.toInt = (L.length : Int) := by
      rcases h1_1 with q | q
      · rw [q]; exact h1
      · exact q.elim
    exact known_T hn hE hs L.length _ k hE_1 (by have := Int32.toInt_lt v16; have := ti_sub h2 e (show (1 : Int32).toInt = 1 from rfl) (by omega) (by omega); omega) (Nat.le_refl _)
  | false =>
    have hL := hE.2.1 rfl
    subst hL
    have h' : R_nm_isKnownHere_F nf lf v r := h
    obtain ⟨k, h'⟩ := h'
    obtain ⟨k, v6, h1_1, z9, h2, hE_1⟩ := iv_nm_isKnownHere_F_0 h'
    rcases iv_nm_isKnownHere_F_10 hE_1 with ⟨k, (⟨h1, ev⟩ | ⟨h1, h2, ev⟩)⟩
    · rw [ev]; rfl
    · rw [ev]; rfl
theorem add_env {own own' : Bool} {P : va_W} {lf lf' : Nat → Int32} {lg lg' : Nat → Option Nat} {lq lc lq' lc' fa : Nat} {L : List (Int32 × Ent)} {s : Nat → Int32} {g : Ent} (hE : EnvL own P lf lg L) (h : R_nw_add fa own lq lc lf lg own' lq' lc' lf' lg') (hs : SymAt P fa s) (hg : EntM s g) (h2 : ¬ (s 1).toInt = 2) : EnvL own' P lf' lg' (L ++ [(s 0, g)]) := by
  obtain ⟨hE1, hE2, hE3⟩ := hE
  have key : ∀ {lga : Nat → Option Nat}, own' = true → (lf' 1).toInt = (lf 1).toInt + 1 → AddL (lf 1) lga lg' fa → (∀ i : Nat, i < L.length → lga i = lg i) → EnvL own' P lf' lg' (L ++ [(s 0, g)]) := by
    intro lga q1 q2 q3 q4
    refine ⟨by rw [q2, hE1, List.length_append]; rfl, fun q => by rw [q1] at q; exact absurd q (by decide), fun i e hi => ?_⟩
    rcases Nat.lt_or_ge i L.length with hlt | hge
    · rw [List.getElem?_append_left hlt] at hi
      obtain ⟨q, s', e1, e2⟩ := hE3 i e hi
      exact ⟨q, s', by rw [q3.1 i (by omega), q4 i hlt]; exact e1, e2⟩
    · have hi' := (List.getElem?_eq_some_iff.mp hi).1
      rw [List.length_append] at hi'
      have hi2 : i = L.length := by simp at hi'; omega
      subst hi2
      rw [List.getElem?_append_right (Nat.le_refl _), Nat.sub_self] at hi
      have he : e = (s 0, g) := (Option.some.inj hi).symm
      subst he
      exact ⟨fa, s, q3.2 _ (by omega), hs, rfl, hg, h2⟩
  cases own with
  | true =>
    have h' : R_nw_add_T fa true lq lc lf lg own' lq' lc' lf' lg' := h
    rcases h' with ⟨lq1, lc2, lf3, lg4, v6, h1, h2_1, e0, e1, e2, e3, e4⟩ | h'
    · exact key e0 (by rw [e3]; exact h2_1) (by rw [e4]; exact h1) (fun _ _ => rfl)
    · exact h'.elim
  | false =>
    have hL := hE2 rfl
    have h' : R_nw_add_F fa false lq lc lf lg own' lq' lc' lf' lg' := h
    rcases h' with ⟨lq1, lc2, lf3, lg4, v6, h1, h2_1, e0, e1, e2, e3, e4⟩ | h'
    · exact key e0 (by rw [e3]; exact h2_1) (by rw [e4]; exact h1) (fun i hi => by rw [hL] at hi; exact absurd hi (Nat.not_lt_zero _))
    · exact h'.elim
theorem enter_r {nf lf nf' : Nat → Int32} {v : Int32} (h : R_nw_enter lf nf nf' v) : nf' = upd nf 4 (lf 1) ∧ v = nf 4 := by
  rcases h with ⟨v2, h1, e0, ev⟩ | h
  · rcases h1 with q | q
    · rw [e0, q]; exact ⟨rfl, ev⟩
    · exact q.elim
  · exact h.elim
theorem rem_r {p0 : Int32} {lf lf' : Nat → Int32} {lg lg' : Nat → Option Nat} {v : Option Nat} (h : R_lr_remove p0 lf lg lf' lg' v) : ∃ z z2 : Int32, z = lf 1 - 1 ∧ lf' = upd (upd lf 1 z) 2 z2 ∧ lg' = va_up lg z.toNatClampNeg none := by
  rcases h with ⟨v2, h1, lf6, lg7, h2, lf6, lg7, h3, e0, e1, ev⟩ | h
  · rcases h3 with ⟨z2, k1, z4, k2, k3, k4, k5⟩ | q
    · exact ⟨z4, z2, k2, by rw [e0, k4], by rw [e1, k5]⟩
    · exact q.elim
  · exact h.elim
theorem leave_T {P : va_W} {p0 : Int32} {nf nf' lf' : Nat → Int32} {lg' : Nat → Option Nat} {L : List (Int32 × Ent)} {sc : Nat} (hs : (nf 4).toInt = (sc : Int)) (hL : L.length ≤ 100000) :
    ∀ (d : Nat) (x : Int32) (k : Nat) (lf : Nat → Int32) (lg : Nat → Option Nat), E_nw_leave_T p0 nf' lf' lg' k 10 [x] [] [] [] [] nf lf lg → x.toInt = (sc : Int) + (d : Int) - 1 → sc + d ≤ L.length → EnvL true P lf lg (L.take (sc + d)) → EnvL true P lf' lg' (L.take sc) ∧ nf' = upd nf 4 p0 := by
  intro d
  induction d with
  | zero =>
    intro x k lf lg h hx hd hE
    rcases iv_nw_leave_T_10 h with ⟨k, (⟨h1, e0, e1, e2⟩ | ⟨h1, (⟨h2, e0, e1, e2⟩ | ⟨h2, lf7, lg8, v10, h3, lf7, lg8, v10, h4, z14, h5, hE_1⟩)⟩)⟩
    · rw [e0, e1, e2]; exact ⟨hE, rfl⟩
    · exfalso; omega
    · exfalso; omega
  | succ d ih =>
    intro x k lf lg h hx hd hE
    rcases iv_nw_leave_T_10 h with ⟨k, (⟨h1, e0, e1, e2⟩ | ⟨h1, (⟨h2, e0, e1, e2⟩ | ⟨h2, lf7, lg8, v10, h3, lf7, lg8, v10, h4, z14, h5, hE_1⟩)⟩)⟩
    · exfalso; omega
    · exfalso; omega
    · obtain ⟨z, z2, r1, r2, r3⟩ := rem_r h4
      obtain ⟨q1, q2, q3⟩ := hE
      rw [List.length_take, Nat.min_eq_left hd] at q1
      have hz := ti_sub r1 q1 (show (1 : Int32).toInt = 1 from rfl) (by omega) (by omega)
      have hx' := ti_add h5 hx (show ((-1 : Int32)).toInt = -1 from rfl) (by omega) (by omega)
      refine ih _ k _ _ hE_1 (by omega) (by omega) ⟨?_, fun q => absurd q (by decide), fun i e hi => ?_⟩
      · rw [r2, pk_un (by decide), pk_us, hz, List.length_take, Nat.min_eq_left (by omega)]; omega
      · have hil := (List.getElem?_eq_some_iff.mp hi).1
        rw [List.length_take] at hil
        have hi' : (L.take (sc + (d + 1)))[i]? = some e := by
          rw [List.getElem?_take_of_lt (by omega)] at hi ⊢
          exact hi
        obtain ⟨q, s, w1, w2⟩ := q3 i e hi'
        have hzn : z.toNatClampNeg = sc + d := cn_of (by omega)
        exact ⟨q, s, by rw [r3, va_up_n (by omega)]; exact w1, w2⟩
theorem leave_env {own : Bool} {P : va_W} {p0 : Int32} {nf nf' lf lf' : Nat → Int32} {lg lg' : Nat → Option Nat} {L : List (Int32 × Ent)} {sc : Nat} (hs : (nf 4).toInt = (sc : Int)) (hsc : sc ≤ L.length) (hE : EnvL own P lf lg L) (h : R_nw_leave own p0 nf lf lg nf' lf' lg') (hL : L.length ≤ 100000) : EnvL own P lf' lg' (L.take sc) ∧ nf' = upd nf 4 p0 := by
  have h1 := hE.1
  cases own with
  | true =>
    have h' : R_nw_leave_T p0 nf lf lg nf' lf' lg' := h
    obtain ⟨k, h'⟩ := h'
    obtain ⟨k, v16, k1, z19, k2, hE_1⟩ := iv_nw_leave_T_0 h'
    have e : v16.toInt = (L.length : Int) := by
      rcases k1 with q | q
      · rw [q]; exact h1
      · exact q.elim
    have hz := ti_sub k2 e (show (1 : Int32).toInt = 1 from rfl) (by omega) (by omega)
    refine leave_T hs hL (L.length - sc) _ k _ _ hE_1 (by omega) (by omega) ?_
    rw [show sc + (L.length - sc) = L.length by omega, List.take_length]
    exact hE
  | false =>
    have hl := hE.2.1 rfl
    have h' : R_nw_leave_F p0 nf lf lg nf' lf' lg' := h
    have : L.take sc = L := by rw [hl]; simp
    rw [this]
    rcases h' with ⟨v2, h1, z5, h2, (⟨h3, e0, e1, e2⟩ | ⟨h3, h4, e0, e1, e2⟩)⟩ | h'
    · rw [e0, e1, e2]; exact ⟨hE, rfl⟩
    · rw [e0, e1, e2]; exact ⟨hE, rfl⟩
    · exact h'.elim
theorem clear_27 {lf' : Nat → Int32} {lg' : Nat → Option Nat} {m : Nat} :
    ∀ (d : Nat) (x2 x3 : Int32) (k : Nat) (lf : Nat → Int32) (lg : Nat → Option Nat), E_Lst_clear lf' lg' k 27 [x2, x3] [] [] [] [] lf lg → x2.toInt = x3.toInt + (d : Int) → lf' = lf := by
  intro d
  induction d with
  | zero =>
    intro x2 x3 k lf lg h hx
    rcases iv_Lst_clear_27 h with ⟨k, (⟨h1, e0, e1⟩ | ⟨h1, z3, h2, hE⟩)⟩
    · exact e0
    · exfalso; omega
  | succ d ih =>
    intro x2 x3 k lf lg h hx
    rcases iv_Lst_clear_27 h with ⟨k, (⟨h1, e0, e1⟩ | ⟨h1, z3, h2, hE⟩)⟩
    · exact e0
    · have := Int32.toInt_lt x2
      have := Int32.le_toInt x3
      have hz := ti_add h2 (rfl : x3.toInt = x3.toInt) (show (1 : Int32).toInt = 1 from rfl) (by omega) (by omega)
      exact ih _ _ k _ _ hE (by omega)
theorem clear_env {own : Bool} {P : va_W} {nf nf' lf lf' : Nat → Int32} {lg lg' : Nat → Option Nat} (h0 : 0 ≤ (lf 1).toInt) (h : R_nw_clear own nf lf lg nf' lf' lg') : EnvL own P lf' lg' [] ∧ nf' = upd nf 4 0 := by
  have nil : ∀ {lfa : Nat → Int32} {lga : Nat → Option Nat}, (lfa 1).toInt = 0 → EnvL own P lfa lga [] := by
    intro lfa lga q
    exact ⟨q, fun _ => rfl, fun i e hi => by simp at hi⟩
  cases own with
  | true =>
    have h' : R_nw_clear_T nf lf lg nf' lf' lg' := h
    rcases h' with ⟨lf1, lg2, k1, e0, e1, e2⟩ | h'
    · rw [e0, e1]
      obtain ⟨k, k1⟩ := k1
      obtain ⟨k, z5, k2, hE⟩ := iv_Lst_clear_0 k1
      have := clear_27 (m := 0) (lf 1).toInt.toNat _ _ k _ _ hE (by have : (0 : Int32).toInt = 0 := rfl; omega)
      refine ⟨nil ?_, rfl⟩
      rw [this, pk_un (by decide), pk_us]; rfl
    · exact h'.elim
  | false =>
    have h' : R_nw_clear_F nf lf lg nf' lf' lg' := h
    rcases h' with ⟨lf1, k1, e0, e1, e2⟩ | h'
    · rw [e0, e1]
      obtain ⟨k, k1⟩ := k1
      obtain ⟨k, z4, k2, hE⟩ := iv_ls_clear0_0 k1
      obtain ⟨k, q1, q2⟩ := iv_ls_clear0_27 hE
      refine ⟨nil ?_, rfl⟩
      rw [q2, pk_un (by decide), pk_us]; rfl
    · exact h'.elim
/-- the functions -/
def wnS (v : Int32) (w : Int) : Prop := (w = 1 ∧ (v.toInt = 1 ∨ v.toInt = 2)) ∨ (w = v.toInt ∧ 16 ≤ w ∧ w ≤ 18)
def FnS (na : Nat → Nat → Int32) (s : Nat → Int32) (f : Fnc) : Prop := ((s 6).toInt = 3 ↔ f.1 = true) ∧ (s 4).toInt = (f.2.length : Int) ∧ 0 ≤ (s 3).toInt ∧ (s 3).toInt + (f.2.length : Int) ≤ 2048 ∧ ∀ (i : Nat) (w : Int), f.2[i]? = some w → wnS (na 2 ((s 3).toInt.toNat + i)) w
def FunL (na : Nat → Nat → Int32) (P : va_W) (ff : Nat → Int32) (fg : Nat → Option Nat) (L : List (Int32 × Fnc)) : Prop := (ff 1).toInt = (L.length : Int) ∧ L.length ≤ 100000 ∧ ∀ (i : Nat) (e : Int32 × Fnc), L[i]? = some e → ∃ (q : Nat) (s : Nat → Int32), fg i = some q ∧ SymAt P q s ∧ s 0 = e.1 ∧ (s 1).toInt = 2 ∧ FnS na s e.2
/-- the first of that name -/
def flk (v : Int32) : List (Int32 × Fnc) → Option Fnc
  | [] => none
  | e :: r => if e.1 = v then some e.2 else flk v r
theorem FunL.ap {na : Nat → Nat → Int32} {P X : va_W} {ff : Nat → Int32} {fg : Nat → Option Nat} {L : List (Int32 × Fnc)} (h : FunL na P ff fg L) : FunL na (P ++ X) ff fg L := by
  refine ⟨h.1, h.2.1, fun i e hi => ?_⟩
  obtain ⟨q, s, h1, h2, h3⟩ := h.2.2 i e hi
  exact ⟨q, s, h1, h2.ap, h3⟩
theorem fun_2 {na : Nat → Nat → Int32} {P : va_W} {ff : Nat → Int32} {fg : Nat → Option Nat} {L : List (Int32 × Fnc)} (hn : ND P) (hF : FunL na P ff fg L) {v : Int32} {r : Option Nat} :
    ∀ (d i : Nat) (x : Int32) (k : Nat), E_nm_function P ff fg v r k 2 [x] [] [] [] [] () → x.toInt = (i : Int) → i + d = L.length → ((∀ (j : Nat) (e : Int32 × Fnc), i ≤ j → L[j]? = some e → ¬ e.1 = v) ∧ r = none) ∨ ∃ (j : Nat) (e : Int32 × Fnc), i ≤ j ∧ L[j]? = some e ∧ e.1 = v ∧ (∀ (j' : Nat) (e' : Int32 × Fnc), i ≤ j' → j' < j → L[j']? = some e' → ¬ e'.1 = v) ∧ r = fg j := by
  have h1' := hF.1
  intro d
  induction d with
  | zero =>
    intro i x k h hx hd
    rcases iv_nm_function_2 h with ⟨k, v2, h1, (⟨h2, ev⟩ | ⟨h2, q10, h3, j11, s12, h4, (⟨h5, z16, h6, hE⟩ | ⟨h5, ev⟩)⟩)⟩
    · refine Or.inl ⟨fun j e hj he => ?_, ev⟩
      have := (List.getElem?_eq_some_iff.mp he).1
      omega
    · exfalso
      rcases h1 with q | q
      · rw [q] at h2; omega
      · exact q.elim
    · exfalso
      rcases h1 with q | q
      · rw [q] at h2; omega
      · exact q.elim
  | succ d ih =>
    intro i x k h hx hd
    have hlt : i < L.length := by omega
    have hg : L[i]? = some L[i] := List.getElem?_eq_getElem hlt
    obtain ⟨q, s, e1, e2, e3, -⟩ := hF.2.2 i _ hg
    have hxn : x.toNatClampNeg = i := cn_of hx
    rcases iv_nm_function_2 h with ⟨k, v2, h1, (⟨h2, ev⟩ | ⟨h2, q10, h3, j11, s12, h4, (⟨h5, z16, h6, hE⟩ | ⟨h5, ev⟩)⟩)⟩
    · exfalso
      rcases h1 with q | q
      · rw [q] at h2; omega
      · exact q.elim
    · rw [hxn, e1] at h3
      obtain rfl := Option.some.inj h3
      have hs := hn.sym e2 ⟨_, h4⟩
      have hne : ¬ L[i].1 = v := fun z => h5 (by rw [← hs.1, e3, z])
      have hl := hF.2.1
      have hz := ti_add h6 hx (show (1 : Int32).toInt = 1 from rfl) (by omega) (by omega)
      rcases ih (i + 1) _ k hE (by omega) (by omega) with ⟨p1, p2⟩ | ⟨j, e, p1, p2, p3, p4, p5⟩
      · refine Or.inl ⟨fun j e hj he => ?_, p2⟩
        rcases Nat.eq_or_lt_of_le hj with z | z
        · subst z
          rw [hg] at he
          obtain rfl := Option.some.inj he
          exact hne
        · exact p1 j e z he
      · refine Or.inr ⟨j, e, by omega, p2, p3, fun j' e' hj' hlt' he' => ?_, p5⟩
        rcases Nat.eq_or_lt_of_le hj' with z | z
        · subst z
          rw [hg] at he'
          obtain rfl := Option.some.inj he'
          exact hne
        · exact p4 j' e' z hlt' he'
    · rw [hxn, e1] at h3
      obtain rfl := Option.some.inj h3
      have hs := hn.sym e2 ⟨_, h4⟩
      exact Or.inr ⟨i, L[i], Nat.le_refl _, hg, i_eq.mpr (by rw [← e3, hs.1]; exact h5), fun j' e' a b _ => by omega, by rw [e1]; exact ev⟩
theorem fun_first {na : Nat → Nat → Int32} {P : va_W} {ff : Nat → Int32} {fg : Nat → Option Nat} {L : List (Int32 × Fnc)} (hn : ND P) (hF : FunL na P ff fg L) {v : Int32} {r : Option Nat} (h : R_nm_function P ff fg v r) :
    ((∀ (j : Nat) (e : Int32 × Fnc), L[j]? = some e → ¬ e.1 = v) ∧ r = none) ∨ ∃ (j : Nat) (e : Int32 × Fnc), L[j]? = some e ∧ e.1 = v ∧ (∀ (j' : Nat) (e' : Int32 × Fnc), j' < j → L[j']? = some e' → ¬ e'.1 = v) ∧ r = fg j := by
  obtain ⟨k, h⟩ := h
  obtain ⟨k, hE⟩ := iv_nm_function_0 h
  rcases fun_2 hn hF L.length 0 _ k hE (by rfl) (by omega) with ⟨p1, p2⟩ | ⟨j, e, p1, p2, p3, p4, p5⟩
  · exact Or.inl ⟨fun j e he => p1 j e (Nat.zero_le _) he, p2⟩
  · exact Or.inr ⟨j, e, p2, p3, fun j' e' a b => p4 j' e' (Nat.zero_le _) a b, p5⟩
theorem flk_none {v : Int32} : ∀ {L : List (Int32 × Fnc)}, (∀ (j : Nat) (e : Int32 × Fnc), L[j]? = some e → ¬ e.1 = v) → flk v L = none
  | [], _ => rfl
  | e :: r, h => by
    unfold flk
    rw [if_neg (h 0 e rfl)]
    exact flk_none (fun j e' he => h (j + 1) e' (by simpa using he))
theorem flk_some {v : Int32} : ∀ {L : List (Int32 × Fnc)} {j : Nat} {e : Int32 × Fnc}, L[j]? = some e → e.1 = v → (∀ (j' : Nat) (e' : Int32 × Fnc), j' < j → L[j']? = some e' → ¬ e'.1 = v) → flk v L = some e.2
  | [], j, e, h, _, _ => by simp at h
  | a :: r, 0, e, h, h1, _ => by
    have : a = e := by simpa using h
    subst this
    unfold flk
    rw [if_pos h1]
  | a :: r, j + 1, e, h, h1, h2 => by
    unfold flk
    rw [if_neg (h2 0 a (Nat.succ_pos _) rfl)]
    exact flk_some (by simpa using h) h1 (fun j' e' a' b => h2 (j' + 1) e' (by omega) (by simpa using b))
theorem want_fn {na : Nat → Nat → Int32} {P : va_W} {q : Nat} {s : Nat → Int32} {f : Fnc} (hn : ND P) (hq : SymAt P q s) (hf : FnS na s f) : FnM na P q f := by
  obtain ⟨f1, f2, f3, f4, f5⟩ := hf
  refine ⟨fun j s' hj => ?_, fun i p0 v hp h => ?_⟩
  · have hs := hn.sym hq ⟨_, hj⟩
    rw [← hs.2.2.2.2.2.2, ← hs.2.2.2.2.1]
    exact ⟨f1, f2⟩
  · have hge : ∀ {u : Int32}, f.2.length ≤ i → u = 0 → WnM (f.2.drop i) u := by
      intro u a b
      rw [List.drop_eq_nil_of_le a, b]
      rfl
    rcases h with (⟨h1, ev⟩ | ⟨h1, j3, s4, h2, (⟨h3, z9, h4, (⟨h5, ev⟩ | ⟨h5, (⟨h6, ev⟩ | ⟨h6, z14, h7, ev⟩)⟩)⟩ | ⟨h3, ev⟩)⟩) | h
    · exfalso; omega
    · have hs := hn.sym hq ⟨_, h2⟩
      exfalso
      have e4 : (s4 4).toInt = (f.2.length : Int) := by rw [← hs.2.2.2.2.1]; exact f2
      have e3 : (s4 3).toInt = (s 3).toInt := by rw [hs.2.2.2.1]
      have := ti_add h4 e3 hp (by omega) (by omega)
      omega
    · have hs := hn.sym hq ⟨_, h2⟩
      exfalso
      have e4 : (s4 4).toInt = (f.2.length : Int) := by rw [← hs.2.2.2.2.1]; exact f2
      have e3 : (s4 3).toInt = (s 3).toInt := by rw [hs.2.2.2.1]
      have := ti_add h4 e3 hp (by omega) (by omega)
      omega
    · have hs := hn.sym hq ⟨_, h2⟩
      have e4 : (s4 4).toInt = (f.2.length : Int) := by rw [← hs.2.2.2.2.1]; exact f2
      have e3 : (s4 3).toInt = (s 3).toInt := by rw [hs.2.2.2.1]
      have hz := ti_add h4 e3 hp (by omega) (by omega)
      have hlt : i < f.2.length := by omega
      have hzn : z9.toNatClampNeg = (s 3).toInt.toNat + i := cn_of (by omega)
      have := f5 i f.2[i] (List.getElem?_eq_getElem hlt)
      rw [List.drop_eq_getElem_cons hlt, ev, h7, hzn]
      exact this
    · have hs := hn.sym hq ⟨_, h2⟩
      have e4 : (s4 4).toInt = (f.2.length : Int) := by rw [← hs.2.2.2.2.1]; exact f2
      exact hge (by omega) ev
    · exact h.elim
theorem fun_all {na : Nat → Nat → Int32} {P : va_W} {ff : Nat → Int32} {fg : Nat → Option Nat} {L : List (Int32 × Fnc)} (hn : ND P) (hF : FunL na P ff fg L) : FunC na P ff fg (fun v => flk v L) := by
  intro v r h
  rcases fun_first hn hF h with ⟨p1, p2⟩ | ⟨j, e, p1, p2, p3, p4⟩
  · exact Or.inl ⟨flk_none p1, p2⟩
  · obtain ⟨q, s, e1, e2, e3, e4, e5⟩ := hF.2.2 j e p1
    exact Or.inr ⟨e.2, q, flk_some p1 p2 p3, by rw [p4, e1], want_fn hn e2 e5⟩
