/-! THE REFERENCE's checker: what is wrong, names that are known, functions -/
def Uc (a : Nat → Int32) : Prop := (a 30).toInt = 0
def Bc (a : Nat → Int32) : Prop := ¬ (a 30).toInt = 0
/-- all stays but what is wrong and where -/
def SmK (a b : Nat → Int32) : Prop := ∀ i : Nat, ¬ i = 30 → ¬ i = 31 → b i = a i
theorem SmK.rf {a : Nat → Int32} : SmK a a := fun _ _ _ => rfl
theorem SmK.tr {a b d : Nat → Int32} (h : SmK a b) (g : SmK b d) : SmK a d := fun i h1 h2 => (g i h1 h2).trans (h i h1 h2)
/-- a step of the checker whose meaning is x -/
def AC {α : Type} (a b : Nat → Int32) (x : Option α) (M : α → Prop) : Prop := (Bc a → Bc b) ∧ (Uc a → match x with
  | none => Bc b
  | some y => Uc b ∧ M y)
theorem AC.mo {α : Type} {a b : Nat → Int32} {x : Option α} {M : α → Prop} (h : AC a b x M) : Bc a → Bc b := h.1
theorem AC.bind {α β : Type} {a b d : Nat → Int32} {x : Option α} {f : α → Option β} {M : α → Prop} {N : β → Prop} (h : AC a b x M) (g : ∀ y, M y → AC b d (f y) N) (m : Bc b → Bc d) : AC a d (x.bind f) N := by
  refine ⟨fun q => m (h.1 q), fun u => ?_⟩
  have q := h.2 u
  cases x with
  | none => exact m q
  | some y => exact (g y q.2).2 q.1
theorem AC.imp {α : Type} {a b : Nat → Int32} {x : Option α} {M N : α → Prop} (h : AC a b x M) (g : ∀ y, M y → N y) : AC a b x N := by
  refine ⟨h.1, fun u => ?_⟩
  have q := h.2 u
  cases x with
  | none => exact q
  | some y => exact ⟨q.1, g y q.2⟩
theorem AC.ret {α : Type} {a : Nat → Int32} {y : α} {N : α → Prop} (h : N y) : AC a a (some y) N := ⟨id, fun u => ⟨u, h⟩⟩
theorem AC.of {α : Type} {a b : Nat → Int32} {x : Option α} {M : α → Prop} (h1 : Bc a → Bc b) (h : Uc a → (x = none ∧ Bc b) ∨ ∃ y, x = some y ∧ Uc b ∧ M y) : AC a b x M := by
  refine ⟨h1, fun u => ?_⟩
  rcases h u with ⟨e, q⟩ | ⟨y, e, q⟩
  · rw [e]; exact q
  · rw [e]; exact q
theorem AC.n {α : Type} {a b : Nat → Int32} {x : Option α} {M : α → Prop} (h : AC a b x M) (u : Uc a) (e : x = none) : Bc b := by
  have q := h.2 u
  rw [e] at q
  exact q
theorem AC.y {α : Type} {a b : Nat → Int32} {x : Option α} {M : α → Prop} (h : AC a b x M) (u : Uc a) {y : α} (e : x = some y) : Uc b ∧ M y := by
  have q := h.2 u
  rw [e] at q
  exact q
theorem bad_r {p0 p1 : Int32} {a b : Nat → Int32} (h : R_mp_bad p0 p1 a b) (hp : ¬ p0.toInt = 0) : Bc b ∧ SmK a b := by
  have up : Bc (upd (upd a 30 p0) 31 p1) ∧ SmK a (upd (upd a 30 p0) 31 p1) := ⟨by unfold Bc; rw [pk_un (by decide), pk_us]; exact hp, fun i h1 h2 => by rw [pk_un h2, pk_un h1]⟩
  rcases h with (⟨h1, e0⟩ | ⟨h1, (⟨h2, e0⟩ | ⟨h2, (⟨h3, e0⟩ | ⟨h3, (⟨h4, e0⟩ | ⟨h4, e0⟩)⟩)⟩)⟩) | h
  · rw [e0]; exact up
  · rw [e0]; exact up
  · rw [e0]; exact ⟨h1, SmK.rf⟩
  · rw [e0]; exact ⟨h1, SmK.rf⟩
  · rw [e0]; exact up
  · exact h.elim
theorem AC.bad {α : Type} {p0 p1 : Int32} {a b : Nat → Int32} {M : α → Prop} (h : R_mp_bad p0 p1 a b) (hp : ¬ p0.toInt = 0) : AC a b none M := ⟨fun _ => (bad_r h hp).1, fun _ => (bad_r h hp).1⟩
/-- two names are the same if they have the same number -/
def SmN (ta : Nat → Nat → Int32) (k : Nat → Int) (vl : Nat → Int32) (c : Nat) : Prop := ∀ (s t : Nat) (p q v : Int32), s < c → t < c → k s = 16 → k t = 16 → p.toInt = (s : Int) → q.toInt = (t : Int) → R_mp_sameName ta p q v → (v.toInt = 0 ∨ v.toInt = 1) ∧ (v.toInt = 1 ↔ vl s = vl t)
def entR (ca : Nat → Nat → Int32) (i : Nat) : Ent := if (ca 35 i).toInt = 4 then (0, ca 36 i) else ((ca 35 i).toInt, 0)
/-- the names that are known -/
def EnvR (k : Nat → Int) (vl : Nat → Int32) (c : Nat) (cf : Nat → Int32) (ca : Nat → Nat → Int32) (L : Nms) : Prop := (cf 33).toInt = (L.length : Int) ∧ L.length ≤ 100000 ∧ ∀ (i : Nat) (e : Int32 × Ent), L[i]? = some e → (∃ t : Nat, (ca 34 i).toInt = (t : Int) ∧ t < c ∧ k t = 16 ∧ vl t = e.1) ∧ entR ca i = e.2 ∧ (1 ≤ (ca 35 i).toInt ∧ (ca 35 i).toInt ≤ 4)
theorem EnvR.sm {k : Nat → Int} {vl : Nat → Int32} {c : Nat} {cf cf' : Nat → Int32} {ca : Nat → Nat → Int32} {L : Nms} (h : EnvR k vl c cf ca L) (g : cf' 33 = cf 33) : EnvR k vl c cf' ca L := by
  unfold EnvR
  rw [g]
  exact h
section RU
variable {ta : Nat → Nat → Int32} {k : Nat → Int} {vl : Nat → Int32} {c t : Nat} {cf : Nat → Int32} {ca : Nat → Nat → Int32} {L : Nms} {p0 p1 v : Int32}
theorem find_7 (hs : SmN ta k vl c) (hE : EnvR k vl c cf ca L) (hp : p0.toInt = (t : Int)) (htc : t < c) (h16 : k t = 16) {sc : Nat} (hsc : p1.toInt = (sc : Int)) : ∀ (n : Nat) (x : Int32) (m : Nat), E_mp_find ta cf ca p0 p1 v m 7 [x] [] [] [] [] () → x.toInt = (n : Int) - 1 → n ≤ L.length → (v.toInt = -1 ∧ knN L (vl t) sc n = false ∧ ∀ (j : Nat) (e : Int32 × Ent), sc ≤ j → j < n → L[j]? = some e → ¬ e.1 = vl t) ∨ ∃ (j : Nat) (e : Ent), v.toInt = (j : Int) ∧ (sc ≤ j ∧ j < n) ∧ L[j]? = some (vl t, e) ∧ knN L (vl t) sc n = true ∧ ∀ (i : Nat) (e : Int32 × Ent), j < i → i < n → L[i]? = some e → ¬ e.1 = vl t := by
  intro n
  induction n with
  | zero =>
    intro x m h hx _
    rcases iv_mp_find_7 h with ⟨m, (⟨h1, (⟨h2, ev⟩ | ⟨h2, ev⟩)⟩ | ⟨h1, z5, h2, v7, h3, (⟨h4, (⟨h5, ev⟩ | ⟨h5, ev⟩)⟩ | ⟨h4, z15, h5, hQ⟩)⟩)⟩
    · exact Or.inl ⟨by rw [ev]; rfl, rfl, fun j e _ h2 => absurd h2 (Nat.not_lt_zero _)⟩
    all_goals (exfalso; omega)
  | succ n ih =>
    intro x m h hx hL
    have hlt : n < L.length := hL
    have hg : L[n]? = some L[n] := List.getElem?_eq_getElem hlt
    obtain ⟨⟨s, e1, e2, e3, e4⟩, -⟩ := hE.2.2 n _ hg
    have hxn : x.toNatClampNeg = n := cn_of (by omega)
    have hl : knN L (vl t) sc (n + 1) = if n < sc then false else if L[n].1 = vl t then true else knN L (vl t) sc n := by
      show (if n < sc then false else match L[n]? with
        | none => false
        | some e => if e.1 = vl t then true else knN L (vl t) sc n) = _
      rw [hg]
    have lower : n < sc → v.toInt = -1 → (v.toInt = -1 ∧ knN L (vl t) sc (n + 1) = false ∧ ∀ (j : Nat) (e : Int32 × Ent), sc ≤ j → j < n + 1 → L[j]? = some e → ¬ e.1 = vl t) := fun q1 q2 => ⟨q2, by rw [hl, if_pos q1], fun j e h1 h2 => by exfalso; omega⟩
    have sn := fun {z w : Int32} (hz : z = ca 34 x.toNatClampNeg) (y : R_mp_sameName ta z p0 w) => hs s t z p0 w e2 htc e3 h16 (by rw [hz, hxn]; exact e1) hp y
    rcases iv_mp_find_7 h with ⟨m, (⟨h1, (⟨h2, ev⟩ | ⟨h2, ev⟩)⟩ | ⟨h1, z5, h2, v7, h3, (⟨h4, (⟨h5, ev⟩ | ⟨h5, ev⟩)⟩ | ⟨h4, z15, h5, hQ⟩)⟩)⟩
    · exact Or.inl (lower (by omega) (by rw [ev]; rfl))
    · exact absurd h1 h2
    · exfalso; omega
    · have y := sn h2 h3
      have ye : vl s = vl t := y.2.mp (by omega)
      rw [e4] at ye
      refine Or.inr ⟨n, L[n].2, by rw [ev]; omega, by omega, ?_, by rw [hl, if_neg (by omega), if_pos ye], fun i e i1 i2 => by exfalso; omega⟩
      rw [hg, ← ye]
    · have y := sn h2 h3
      have yn : ¬ L[n].1 = vl t := fun q => by
        rw [← e4] at q
        have := y.2.mpr q
        omega
      have z5 := ti_add h5 hx (show (-1 : Int32).toInt = -1 from rfl) (by omega) (by have := Int32.toInt_lt x; omega)
      rcases ih z15 m hQ (by omega) (by omega) with ⟨q1, q2, q3⟩ | ⟨j, e, q1, q2, q3, q4, q5⟩
      · refine Or.inl ⟨q1, by rw [hl, if_neg (by omega), if_neg yn]; exact q2, fun j e h1 h2 hj => ?_⟩
        rcases Nat.eq_or_lt_of_le (Nat.le_of_lt_succ h2) with w | w
        · subst w
          rw [hg] at hj
          injection hj with hj
          rw [← hj]; exact yn
        · exact q3 j e h1 w hj
      · refine Or.inr ⟨j, e, q1, by omega, q3, by rw [hl, if_neg (by omega), if_neg yn]; exact q4, fun i e' i1 i2 hi => ?_⟩
        rcases Nat.eq_or_lt_of_le (Nat.le_of_lt_succ i2) with w | w
        · subst w
          rw [hg] at hi
          injection hi with hi
          rw [← hi]; exact yn
        · exact q5 i e' i1 w hi
theorem find_s (hs : SmN ta k vl c) (hE : EnvR k vl c cf ca L) (hp : p0.toInt = (t : Int)) (htc : t < c) (h16 : k t = 16) {sc : Nat} (hsc : p1.toInt = (sc : Int)) (h : R_mp_find ta cf ca p0 p1 v) : (v.toInt = -1 ∧ knN L (vl t) sc L.length = false ∧ ∀ (j : Nat) (e : Int32 × Ent), sc ≤ j → L[j]? = some e → ¬ e.1 = vl t) ∨ ∃ (j : Nat) (e : Ent), v.toInt = (j : Int) ∧ sc ≤ j ∧ L[j]? = some (vl t, e) ∧ knN L (vl t) sc L.length = true ∧ ∀ (i : Nat) (e : Int32 × Ent), j < i → L[i]? = some e → ¬ e.1 = vl t := by
  obtain ⟨m, h⟩ := h
  obtain ⟨m, z17, h1, hE'⟩ := iv_mp_find_0 h
  have hl := hE.2.1
  have z1 := ti_sub h1 hE.1 (show (1 : Int32).toInt = 1 from rfl) (by omega) (by omega)
  rcases find_7 hs hE hp htc h16 hsc L.length z17 m hE' z1 (Nat.le_refl _) with ⟨q1, q2, q3⟩ | ⟨j, e, q1, q2, q3, q4, q5⟩
  · exact Or.inl ⟨q1, q2, fun j e h1 hj => q3 j e h1 (List.getElem?_eq_some_iff.mp hj).1 hj⟩
  · exact Or.inr ⟨j, e, q1, q2.1, q3, q4, fun i e' h1 hi => q5 i e' h1 (List.getElem?_eq_some_iff.mp hi).1 hi⟩
theorem lkN_no : ∀ n : Nat, (∀ (j : Nat) (e : Int32 × Ent), j < n → L[j]? = some e → ¬ e.1 = p0) → lkN L p0 n = none := by
  intro n
  induction n with
  | zero => intro _; rfl
  | succ n ih =>
    intro h
    show (match L[n]? with
      | none => none
      | some e => if e.1 = p0 then some e.2 else lkN L p0 n) = none
    cases hg : L[n]? with
    | none => rfl
    | some e =>
      show (if e.1 = p0 then some e.2 else lkN L p0 n) = none
      rw [if_neg (h n e (Nat.lt_succ_self n) hg)]
      exact ih (fun j e' hj => h j e' (by omega))
theorem lkN_at {j : Nat} {g : Ent} (hj : L[j]? = some (p0, g)) : ∀ n : Nat, j < n → n ≤ L.length → (∀ (i : Nat) (e : Int32 × Ent), j < i → i < n → L[i]? = some e → ¬ e.1 = p0) → lkN L p0 n = some g := by
  intro n
  induction n with
  | zero => intro h; exact absurd h (Nat.not_lt_zero _)
  | succ n ih =>
    intro h hn ha
    have hlt : n < L.length := hn
    have hg : L[n]? = some L[n] := List.getElem?_eq_getElem hlt
    show (match L[n]? with
      | none => none
      | some e => if e.1 = p0 then some e.2 else lkN L p0 n) = some g
    rw [hg]
    show (if L[n].1 = p0 then some L[n].2 else lkN L p0 n) = some g
    rcases Nat.eq_or_lt_of_le (Nat.le_of_lt_succ h) with w | w
    · subst w
      rw [hg] at hj
      injection hj with hj
      rw [hj, if_pos rfl]
    · rw [if_neg (ha n _ w (Nat.lt_succ_self n) hg)]
      exact ih w (by omega) (fun i e i1 i2 => ha i e i1 (by omega))
/-- looked up from the beginning on -/
theorem find_0 (hs : SmN ta k vl c) (hE : EnvR k vl c cf ca L) (hp : p0.toInt = (t : Int)) (htc : t < c) (h16 : k t = 16) (h : R_mp_find ta cf ca p0 (0 : Int32) v) : (v.toInt = -1 ∧ lkp L (vl t) = none) ∨ ∃ (j : Nat) (e : Ent), v.toInt = (j : Int) ∧ lkp L (vl t) = some e ∧ entR ca j = e ∧ (1 ≤ (ca 35 j).toInt ∧ (ca 35 j).toInt ≤ 4) := by
  rcases find_s hs hE hp htc h16 (sc := 0) rfl h with ⟨q1, -, q3⟩ | ⟨j, e, q1, -, q3, -, q5⟩
  · exact Or.inl ⟨q1, lkN_no _ (fun j e _ hj => q3 j e (Nat.zero_le _) hj)⟩
  · have hj := (List.getElem?_eq_some_iff.mp q3).1
    obtain ⟨-, r1, r2⟩ := hE.2.2 j _ q3
    exact Or.inr ⟨j, e, q1, lkN_at q3 _ hj (Nat.le_refl _) (fun i e' i1 _ hi => q5 i e' i1 hi), r1, r2⟩
end RU
