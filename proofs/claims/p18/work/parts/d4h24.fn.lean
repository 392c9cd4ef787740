/-! ITEMS: what a text is made of. Their grammar, what they mean, the functions as an exact list.
Items: sNd 20 a row of enumerators (arg: alone; mul: with a number), sNd 21 a type and variables, sNd 22 a function: (its type, the token of its name), (its parameters, its statements). Parameters: mul type token: a number; sub type token: a row. -/
theorem ND.pa {P Q : va_W} (h : PA P Q) (hn : ND Q) : ND P := by
  obtain ⟨Y, h⟩ := h
  intro j j' a x y h1 h2
  have key : ∀ {i : Nat} {z : va_E}, P[i]? = some (a, z) → ∃ w, Q[i]? = some (a, w) := by
    intro i z hi
    have e : (P.map (fun x => x.1))[i]? = some a := by rw [List.getElem?_map, hi]; rfl
    have hl : i < (P.map (fun x => x.1)).length := (List.getElem?_eq_some_iff.mp e).1
    have e2 : (Q.map (fun x => x.1))[i]? = some a := by rw [h, List.getElem?_append_left hl]; exact e
    rw [List.getElem?_map] at e2
    cases hq : Q[i]? with
    | none => rw [hq] at e2; exact absurd e2 (by simp)
    | some p =>
      obtain ⟨p1, p2⟩ := p
      rw [hq] at e2
      have e3 : p1 = a := Option.some.inj e2
      exact ⟨p2, by rw [e3]⟩
  obtain ⟨w1, k1⟩ := key h1
  obtain ⟨w2, k2⟩ := key h2
  exact hn j j' a w1 w2 k1 k2
theorem SymAt.st {P : va_W} {q j fa : Nat} {s s6 s7 : Nat → Int32} (h : SymAt P q s) (hj : P[j]? = some (syC fa s6)) (hne : ¬ q = fa) : SymAt (P.set j (syC fa s7)) q s := by
  obtain ⟨i, hi⟩ := h
  refine ⟨i, ?_⟩
  have ne : ¬ j = i := by
    intro e
    subst e
    rw [hj] at hi
    have := congrArg Prod.fst (Option.some.inj hi)
    exact hne this.symm
  rw [List.getElem?_set_ne ne]
  exact hi
theorem SymAt.ss {P : va_W} {j fa : Nat} {s6 s7 : Nat → Int32} (hj : P[j]? = some (syC fa s6)) : SymAt (P.set j (syC fa s7)) fa s7 := by
  have hl := (List.getElem?_eq_some_iff.mp hj).1
  refine ⟨j, ?_⟩
  rw [List.getElem?_set_self hl]
/-- what a function wants: 1 a number (int), 2 a number (char), 16 a row, 17 of ints, 18 of chars -/
def WnR (w : Int) : Prop := w = 1 ∨ w = 2 ∨ (16 ≤ w ∧ w ≤ 18)
abbrev FnE := Int32 × Int × List Int
def FnAq (na : Nat → Nat → Int32) (P : va_W) (fg : Nat → Option Nat) (i : Nat) (e : FnE) (q : Nat) (s : Nat → Int32) (b : Nat) : Prop := fg i = some q ∧ SymAt P q s ∧ s 0 = e.1 ∧ (s 1).toInt = 2 ∧ (s 6).toInt = e.2.1 ∧ (s 4).toInt = (e.2.2.length : Int) ∧ (s 3).toInt = (b : Int) ∧ ∀ (j : Nat) (w : Int), e.2.2[j]? = some w → (na 2 (b + j)).toInt = w ∧ WnR w
def FunE (na : Nat → Nat → Int32) (P : va_W) (fg : Nat → Option Nat) (W : Nat) (L : List FnE) : Prop := ∀ (i : Nat) (e : FnE), L[i]? = some e → ∃ (q : Nat) (s : Nat → Int32) (b : Nat), FnAq na P fg i e q s b ∧ b + e.2.2.length ≤ W
def FunX (na : Nat → Nat → Int32) (P : va_W) (ff : Nat → Int32) (fg : Nat → Option Nat) (W : Nat) (L : List FnE) : Prop := (ff 1).toInt = (L.length : Int) ∧ L.length ≤ 100000 ∧ W ≤ 2048 ∧ FunE na P fg W L ∧ ∀ i j : Nat, i < L.length → j < L.length → fg i = fg j → i = j
theorem FnAq.ap {na : Nat → Nat → Int32} {P X : va_W} {fg : Nat → Option Nat} {i : Nat} {e : FnE} {q : Nat} {s : Nat → Int32} {b : Nat} (h : FnAq na P fg i e q s b) : FnAq na (P ++ X) fg i e q s b := ⟨h.1, h.2.1.ap, h.2.2⟩
theorem FunE.ap {na : Nat → Nat → Int32} {P X : va_W} {fg : Nat → Option Nat} {W : Nat} {L : List FnE} (h : FunE na P fg W L) : FunE na (P ++ X) fg W L := fun i e he => by
  obtain ⟨q, s, b, h1, h2⟩ := h i e he
  exact ⟨q, s, b, h1.ap, h2⟩
theorem FunX.px {na : Nat → Nat → Int32} {P P' : va_W} {ff : Nat → Int32} {fg : Nat → Option Nat} {W : Nat} {L : List FnE} (h : FunX na P ff fg W L) (hp : PX P P') : FunX na P' ff fg W L := by
  obtain ⟨X, rfl⟩ := hp
  exact ⟨h.1, h.2.1, h.2.2.1, h.2.2.2.1.ap, h.2.2.2.2⟩
/-- what calls need of it -/
def wnT (w : Int) : Int := if w = 2 then 1 else w
def fnT (e : FnE) : Int32 × Fnc := (e.1, decide (e.2.1 = 3), e.2.2.map wnT)
theorem FunX.l {na : Nat → Nat → Int32} {P : va_W} {ff : Nat → Int32} {fg : Nat → Option Nat} {W : Nat} {L : List FnE} (h : FunX na P ff fg W L) : FunL na P ff fg (L.map fnT) := by
  obtain ⟨h1, h2, h3, h4, h5⟩ := h
  refine ⟨by rw [List.length_map]; exact h1, by rw [List.length_map]; exact h2, fun i e he => ?_⟩
  rw [List.getElem?_map] at he
  cases hi : L[i]? with
  | none => rw [hi] at he; exact absurd he (by simp)
  | some x =>
    rw [hi] at he
    have he' : fnT x = e := Option.some.inj he
    subst he'
    obtain ⟨q, s, b, ⟨a1, a2, a3, a4, a5, a6, a7, a8⟩, hb⟩ := h4 i x hi
    refine ⟨q, s, a1, a2, a3, a4, ?_, ?_, by omega, ?_, ?_⟩
    · show (s 6).toInt = 3 ↔ decide (x.2.1 = 3) = true
      rw [a5]
      exact (decide_eq_true_iff).symm
    · show (s 4).toInt = ((x.2.2.map wnT).length : Int)
      rw [List.length_map]; exact a6
    · show (s 3).toInt + ((x.2.2.map wnT).length : Int) ≤ 2048
      rw [List.length_map]; omega
    · intro j w hw
      have hw' : (x.2.2.map wnT)[j]? = some w := hw
      rw [List.getElem?_map] at hw'
      cases hj : x.2.2[j]? with
      | none => rw [hj] at hw'; exact absurd hw' (by simp)
      | some w0 =>
        rw [hj] at hw'
        have e0 : wnT w0 = w := Option.some.inj hw'
        obtain ⟨b1, b2⟩ := a8 j w0 hj
        have en : (s 3).toInt.toNat = b := by omega
        rw [en]
        unfold wnT at e0
        rcases b2 with b2 | b2 | b2
        · rw [if_neg (by omega)] at e0
          exact Or.inl ⟨by omega, Or.inl (by omega)⟩
        · rw [if_pos b2] at e0
          exact Or.inl ⟨by omega, Or.inr (by omega)⟩
        · rw [if_neg (by omega)] at e0
          exact Or.inr ⟨by omega, by omega, by omega⟩
/-- one more is wanted by the last function -/
theorem aw_ok {na na' : Nat → Nat → Int32} {P P' : va_W} {fg : Nat → Option Nat} {nf nf' : Nat → Int32} {q0 b W n : Nat} {w : Int32} {nm : Int32} {ty : Int} {ws : List Int} {L : List FnE} {s : Nat → Int32} (hn : ND P) (h : R_nw_addWant q0 w nf na P nf' na' P') (hE : FunE na P fg W L) (hA : FnAq na P fg n (nm, ty, ws) q0 s b) (hW : W ≤ b) (hf : (nf 3).toInt = ((b + ws.length : Nat) : Int)) (hb : b + ws.length < 2048) (hd : ∀ i : Nat, i < L.length → ¬ fg i = some q0) (hw : WnR w.toInt) :
    (∃ s', FnAq na' P' fg n (nm, ty, ws ++ [w.toInt]) q0 s' b) ∧ FunE na' P' fg W L ∧ (nf' 3).toInt = ((b + (ws ++ [w.toInt]).length : Nat) : Int) ∧ nf' 4 = nf 4 ∧ ∀ (q : Nat) (s1 : Nat → Int32), SymAt P q s1 → ¬ (s1 1).toInt = 2 → SymAt P' q s1 := by
  obtain ⟨a1, a2, a3, a4, a5, a6, a7, a8⟩ := hA
  rcases h with (⟨h1, e0, e1, e2⟩ | ⟨h1, z4, h2, j5, s6, h3, z9, h4, P10, h5, e0, e1, e2⟩) | h
  · exfalso; omega
  · have hs := hn.sym a2 ⟨_, h3⟩
    have z1 := ti_add h2 hf (show (1 : Int32).toInt = 1 from rfl) (by omega) (by omega)
    have z2 := ti_add h4 (show (s6 4).toInt = (ws.length : Int) by rw [← hs.2.2.2.2.1]; exact a6) (show (1 : Int32).toInt = 1 from rfl) (by omega) (by omega)
    have hk : (nf 3).toNatClampNeg = b + ws.length := cn_of hf
    have nl : ∀ i : Nat, ¬ i = b + ws.length → na' 2 i = na 2 i := by
      intro i hi
      rw [e1, va_up_s, hk, pk_un hi]
    have ns : na' 2 (b + ws.length) = w := by
      rw [e1, va_up_s, hk, pk_us]
    refine ⟨⟨upd s6 4 z9, a1, ?_, ?_, ?_, ?_, ?_, ?_, ?_⟩, ?_, ?_, ?_, ?_⟩
    · rw [e2, h5]; exact SymAt.ss h3
    · rw [pk_un (by decide), ← hs.1]; exact a3
    · rw [pk_un (by decide), ← hs.2.1]; exact a4
    · rw [pk_un (by decide), ← hs.2.2.2.2.2.2]; exact a5
    · rw [pk_us, z2]
      show _ = ((ws ++ [w.toInt]).length : Int)
      rw [List.length_append]; rfl
    · rw [pk_un (by decide), ← hs.2.2.2.1]; exact a7
    · intro j v hv
      have hv' : (ws ++ [w.toInt])[j]? = some v := hv
      rcases Nat.lt_or_ge j ws.length with hj | hj
      · rw [List.getElem?_append_left hj] at hv'
        rw [nl _ (by omega)]
        exact a8 j v hv'
      · have hj2 := (List.getElem?_eq_some_iff.mp hv').1
        rw [List.length_append] at hj2
        have hj3 : j = ws.length := by simp at hj2; omega
        subst hj3
        rw [List.getElem?_append_right (Nat.le_refl _), Nat.sub_self] at hv'
        have e9 : v = w.toInt := (Option.some.inj hv').symm
        rw [ns, e9]
        exact ⟨rfl, hw⟩
    · intro i e he
      obtain ⟨q, s1, b1, ⟨c1, c2, c3, c4, c5, c6, c7, c8⟩, cb⟩ := hE i e he
      have hi := (List.getElem?_eq_some_iff.mp he).1
      have hq : ¬ q = q0 := fun z => hd i hi (by rw [c1, z])
      refine ⟨q, s1, b1, ⟨c1, ?_, c3, c4, c5, c6, c7, fun j v hv => ?_⟩, cb⟩
      · rw [e2, h5]; exact c2.st h3 hq
      · have hj := (List.getElem?_eq_some_iff.mp hv).1
        rw [nl _ (by omega)]
        exact c8 j v hv
    · rw [e0, pk_us, z1, List.length_append]
      simp only [List.length_cons, List.length_nil]
      omega
    · rw [e0, pk_un (by decide)]
    · intro q s1 hq h2'
      rw [e2, h5]
      refine hq.st h3 (fun z => h2' ?_)
      subst z
      have := hn.sym a2 hq
      rw [← this.2.1]; exact a4
  · exact h.elim
theorem EnvL.mv {own : Bool} {P P' : va_W} {lf : Nat → Int32} {lg : Nat → Option Nat} {L : List (Int32 × Ent)} (h : EnvL own P lf lg L) (k : ∀ (q : Nat) (s1 : Nat → Int32), SymAt P q s1 → ¬ (s1 1).toInt = 2 → SymAt P' q s1) : EnvL own P' lf lg L := by
  refine ⟨h.1, h.2.1, fun i e hi => ?_⟩
  obtain ⟨q, s, h1, h2, h3, h4, h5⟩ := h.2.2 i e hi
  exact ⟨q, s, h1, k q s h2 h5, h3, h4, h5⟩
/-- a declaration within a function -/
theorem dec_s {own own' : Bool} {P : va_W} {nf lf lf' ff tf tf' : Nat → Int32} {lg lg' fg : Nat → Option Nat} {lq lc lq' lc' fa q0 c t sc : Nat} {o : Int} {L : Nms} (F : Int32 → Option Fnc) (hn : ND P) (hL : EnvL own P lf lg L) (hs4 : (nf 4).toInt = (sc : Int)) {p0 : Int32} {s : Nat → Int32} {g : Ent} (h : R_tc_declare (some q0) nf ff fg P fa p0 tf own lq lc lf lg tf' own' lq' lc' lf' lg') (hc : Cur tf c t o) (hp : p0.toInt < (c : Int)) (hS : SymAt P fa s) (hg : EntM s g) (h2' : ¬ (s 1).toInt = 2) :
    SmB tf tf' ∧ EnvL own' P lf' lg' (L ++ [(s 0, g)]) ∧ AT tf tf' (dcl false F sc L (s 0) g) (fun L' => L' = L ++ [(s 0, g)]) := by
  obtain ⟨k, h⟩ := h
  have h10 := hc.1
  have fin : ∀ {k : Nat} {tfa : Nat → Int32}, E_tc_declare (some q0) nf ff fg P fa p0 tf' own' lq' lc' lf' lg' k 54 [] [] [] [] [] tfa own lq lc lf lg → tf' = tfa ∧ EnvL own' P lf' lg' (L ++ [(s 0, g)]) := by
    intro k tfa q
    obtain ⟨k, own6, lq7, lc8, lf9, lg10, q1, e0, e1, e2, e3, e4, e5⟩ := iv_tc_declare_54 q
    rw [e1, e4, e5]
    exact ⟨e0, add_env hL q1 hS hg h2'⟩
  have no : knN L (s 0) sc L.length = true → dcl false F sc L (s 0) g = none := fun q => if_pos (Or.inr q)
  have yes : knN L (s 0) sc L.length = false → dcl false F sc L (s 0) g = some (L ++ [(s 0, g)]) := fun q => if_neg (by rw [q]; simp)
  have kn : ∀ {s' : Nat → Int32} {j : Nat} {v : Int32}, P[j]? = some (syC fa s') → R_nm_isKnownHere own P nf lf lg (s' 0) v → v.toInt = if knN L (s 0) sc L.length then 1 else 0 := by
    intro s' j v q1 q2
    rw [← (hn.sym hS ⟨_, q1⟩).1] at q2
    exact known_all hn hL hs4 q2
  rcases iv_tc_declare_0 h with ⟨k, (⟨h1, j49, s50, h2, v53, h3, (⟨h4, v61, h5, (⟨h6, hE⟩ | ⟨h6, tf66, h7, hE⟩)⟩ | ⟨q57, h4, tf76, h5, hE⟩)⟩ | ⟨q28, h1, j31, s32, h2, v35, h3, (⟨h4, hE⟩ | ⟨h4, tf40, h5, hE⟩)⟩)⟩
  · exact absurd h1 (by simp)
  · exact absurd h1 (by simp)
  · exact absurd h1 (by simp)
  · obtain ⟨q1, q2⟩ := fin hE
    rw [q1]
    have := kn h2 h3
    have hk : knN L (s 0) sc L.length = false := by
      cases hk : knN L (s 0) sc L.length with
      | false => rfl
      | true => rw [hk] at this; rw [h4] at this; exact absurd this (by decide)
    refine ⟨SmB.rf, q2, ?_⟩
    rw [yes hk]
    exact AT.ret rfl
  · obtain ⟨q1, q2⟩ := fin hE
    rw [q1]
    have := kn h2 h3
    have hk : knN L (s 0) sc L.length = true := by
      cases hk : knN L (s 0) sc L.length with
      | true => rfl
      | false => rw [hk] at this; exact absurd this h4
    refine ⟨blame_b h5, q2, ?_⟩
    rw [no hk]
    exact AT.bad h5 (by decide) (by omega)
