/-! THE REFERENCE's checker: functions and notes for other arrays; what stands between statements; new names -/
def MgO (na : Nat → Nat → Int32) (M M' : Nat → Int32) : Prop := ∀ i : Nat, ¬ (na 14 i).toInt = 29 → M' i = M i
theorem MgO.rf {na : Nat → Nat → Int32} {M : Nat → Int32} : MgO na M M := fun _ _ => rfl
theorem MgO.sy {na : Nat → Nat → Int32} {M M' : Nat → Int32} (h : MgO na M M') : MgO na M' M := fun i q => (h i q).symm
theorem MgO.tr {na : Nat → Nat → Int32} {M M' M2 : Nat → Int32} (h : MgO na M M') (g : MgO na M' M2) : MgO na M M2 := fun i q => (g i q).trans (h i q)
section SA
variable {tf : Nat → Int32} {ta na ca ca' ma ma' : Nat → Nat → Int32} {vl M M' : Nat → Int32} {k : Nat → Int} {c : Nat} {n38 : Int32} {F : Int32 → Option Fnc} {p0 p1 p2 v : Int32}
theorem FnPl.st {fn : Int32} (hc : ca' 39 = ca 39) (h : FnPl na ca fn) : FnPl na ca' fn := by
  unfold FnPl
  rw [hc]
  exact h
theorem tk_53 (hM : ∀ i : Nat, (na 14 i).toInt = 42 → ma 22 i = ma' 22 i) : ∀ (j : Nat) (x4 x5 : Int32), AllN na (fun p => (na 14 p.toNat).toInt = 42) x4.toInt → E_mp_taken na ma' ca' p0 p1 p2 v j 53 [x4, x5] [] [] [] [] () → E_mp_taken na ma ca p0 p1 p2 v j 53 [x4, x5] [] [] [] [] () := by
  intro j
  induction j with
  | zero => intro x4 x5 _ h; exact h.elim
  | succ j ih =>
    intro x4 x5 hA h
    rcases h with ⟨e, -⟩ | ⟨-, b0, b1, e1, -, -, -, -, h⟩ | h
    · exact absurd e (by decide)
    · cases e1
      refine Or.inr (Or.inl ⟨rfl, x4, x5, rfl, rfl, rfl, rfl, rfl, ?_⟩)
      have m22 : 0 ≤ x4.toInt → ma 22 x4.toNatClampNeg = ma' 22 x4.toNatClampNeg := fun q => by
        rcases hA.inv with w | ⟨i, w1, w2, -⟩
        · exfalso; omega
        · have e : x4.toNatClampNeg = i := cn_of w1
          rw [e]
          have w2' : (na 14 x4.toInt.toNat).toInt = 42 := w2
          rw [w1, Int.toNat_natCast] at w2'
          exact hM i w2'
      have nx : ¬ x4.toInt < 0 → AllN na (fun p => (na 14 p.toNat).toInt = 42) (na 21 x4.toNatClampNeg).toInt := fun q => by
        rcases hA.inv with w | ⟨i, w1, -, w3⟩
        · exact absurd w q
        · have e : x4.toNatClampNeg = i := cn_of w1
          rw [e]
          exact w3
      rcases h with ⟨h1, h⟩ | ⟨h1, h⟩
      · refine Or.inl ⟨h1, ?_⟩
        rcases h with ⟨h2, z5, h3, h⟩ | h
        · refine Or.inl ⟨h2, z5, h3, ?_⟩
          rcases h with ⟨h4, z8, h5, h⟩ | h
          · exact Or.inl ⟨h4, z8, h5.trans (m22 h2).symm, h⟩
          · exact Or.inr h
        · exact Or.inr h
      · refine Or.inr ⟨h1, ?_⟩
        rcases h with ⟨h2, h⟩ | ⟨h2, z21, h3, z22, h4, h⟩
        · refine Or.inl ⟨h2, ?_⟩
          rcases h with ⟨h3, -⟩ | h
          · exfalso; omega
          · exact Or.inr h
        · exact Or.inr ⟨h2, z21, h3, z22, h4, ih z21 z22 (by rw [h3]; exact nx h2) h⟩
    · exact h.elim
theorem tk_cg (hc : ca 39 = ca' 39) (hM : ∀ i : Nat, (na 14 i).toInt = 42 → ma 22 i = ma' 22 i) (hn : 0 ≤ p0.toInt → FnPl na ca p0) (h : R_mp_taken na ma' ca' p0 p1 p2 v) : R_mp_taken na ma ca p0 p1 p2 v := by
  obtain ⟨j, h⟩ := h
  cases j with
  | zero => exact h.elim
  | succ j =>
    refine ⟨j + 1, ?_⟩
    rcases h with ⟨-, h⟩ | ⟨e, -⟩ | h
    · refine Or.inl ⟨rfl, ?_⟩
      rcases h with ⟨h1, z25, h2, z26, h3, h⟩ | h
      · refine Or.inl ⟨h1, z25, by rw [hc]; exact h2, z26, h3, tk_53 hM j z26 (0 : Int32) ?_ h⟩
        rw [h3, h2, ← hc]
        exact (hn h1).2
      · exact Or.inr h
    · exact absurd e (by decide)
    · exact h.elim
theorem TkF.st {own fn : Int32} {f : Fnc} (hc : ca' 39 = ca 39) (hM : MgO na M M') (hn : 0 ≤ fn.toInt → FnPl na ca fn) (ho : own.toInt < 0 → 0 ≤ fn.toInt) (h : TkF na ca M own fn f) : TkF na ca' M' own fn f := by
  obtain ⟨h1, h2, h3⟩ := h
  refine ⟨fun ma i q v e hq hi hr => ?_, fun ho' => ?_, h3⟩
  · refine h1 (va_up ma 22 M) i q v va_up_s hq hi (tk_cg hc.symm (fun j hj => ?_) hn hr)
    rw [va_up_s, e, hM j (by omega)]
  · rw [hc]
    have w := h2 ho'
    have w4 := (hn (ho ho')).1
    rw [hM _ (by omega)]
    exact w
/-- notes, told of other arrays -/
theorem nt_cm (hc : ca' 39 = ca 39) (hM : MgO na M M') : ∀ (d : Nat) (n : Int), NtN na ca vl M F ma d n → NtN na ca' vl M' F ma d n := by
  intro d
  induction d with
  | zero => intro n h; trivial
  | succ d ih =>
    intro n h
    obtain ⟨i, h1, h3, h4, h7, h8, h9⟩ := h
    refine ⟨i, h1, fun q => ⟨?_, (h3 q).2.imp ih⟩, fun q => ih _ (h4 q), fun q => (h7 q).imp ih, fun q => ⟨ih _ (h8 q).1, ih _ (h8 q).2.1, ih _ (h8 q).2.2⟩, fun q => ⟨ih _ (h9 q).1, ih _ (h9 q).2⟩⟩
    obtain ⟨t, f, g1, g2, g3⟩ := (h3 q).1
    refine ⟨t, f, g1, g2, ?_⟩
    rcases g3 with ⟨g3, g4⟩ | ⟨fn, g3, g4, g5⟩
    · exact Or.inl ⟨g3, g4.st hc hM (fun w => absurd w (by decide)) (fun w => by omega)⟩
    · exact Or.inr ⟨fn, g3, ⟨g4.1, g4.2.1, g4.2.2.st hc⟩, g5.st hc hM (fun _ => g4.2.2) (fun _ => g4.1)⟩
theorem ff_2 {cf : Nat → Int32} (hc : ca 39 = ca' 39) : ∀ (j : Nat) (x : Int32), E_mp_findFunction ta na cf ca' p0 v j 2 [x] [] [] [] [] () → E_mp_findFunction ta na cf ca p0 v j 2 [x] [] [] [] [] () := by
  intro j
  induction j with
  | zero => intro x h; exact h.elim
  | succ j ih =>
    intro x h
    rcases h with ⟨e, -⟩ | ⟨-, b0, e1, -, -, -, -, h⟩ | h
    · exact absurd e (by decide)
    · cases e1
      refine Or.inr (Or.inl ⟨rfl, x, rfl, rfl, rfl, rfl, rfl, ?_⟩)
      rcases h with h | ⟨h1, z3, h2, z4, h3, v6, h4, h⟩
      · exact Or.inl h
      · refine Or.inr ⟨h1, z3, by rw [hc]; exact h2, z4, h3, v6, h4, ?_⟩
        rcases h with ⟨h5, z12, h6, h⟩ | h
        · exact Or.inl ⟨h5, z12, h6, ih z12 h⟩
        · exact Or.inr h
    · exact h.elim
theorem ff_cg {cf : Nat → Int32} (hc : ca 39 = ca' 39) (h : R_mp_findFunction ta na cf ca' p0 v) : R_mp_findFunction ta na cf ca p0 v := by
  obtain ⟨j, h⟩ := h
  cases j with
  | zero => exact h.elim
  | succ j =>
    refine ⟨j + 1, ?_⟩
    rcases h with ⟨-, h⟩ | ⟨e, -⟩ | h
    · exact Or.inl ⟨rfl, ff_2 hc j _ h⟩
    · exact absurd e (by decide)
    · exact h.elim
theorem FunR.st (hc : ca' 39 = ca 39) (hM : MgO na M M') (h : FunR tf ta na ca k vl c n38 M F) : FunR tf ta na ca' k vl c n38 M' F := by
  intro t z own h1 h2 h3 h4
  rcases h t z own h1 h2 h3 h4 with ⟨g1, f, g2, g3⟩ | ⟨g1, g2⟩
  · exact Or.inl ⟨g1, f, g2, g3.st hc hM (fun w => absurd w (by decide)) (fun w => by omega)⟩
  · refine Or.inr ⟨g1, fun cf fn e hr => ?_⟩
    rcases g2 cf fn e (ff_cg hc.symm hr) with g | ⟨g3, f, g4, g5⟩
    · exact Or.inl g
    · exact Or.inr ⟨⟨g3.1, g3.2.1, g3.2.2.st hc⟩, f, g4, g5.st hc hM (fun _ => g3.2.2) (fun _ => g3.1)⟩
/-- what is found among the functions of the text is one -/
def FunG (ta na ca : Nat → Nat → Int32) (k : Nat → Int) (vl : Nat → Int32) (c : Nat) (n38 : Int32) (F : Int32 → Option Fnc) : Prop := ∀ (t : Nat) (z fn : Int32) (cf : Nat → Int32), t < c → k t = 16 → z.toInt = (t : Int) → cf 38 = n38 → R_mp_findFunction ta na cf ca z fn → 0 ≤ fn.toInt → (F (vl t)).isSome = true
theorem FunG.st (hc : ca' 39 = ca 39) (h : FunG ta na ca k vl c n38 F) : FunG ta na ca' k vl c n38 F := fun t z fn cf h1 h2 h3 h4 h5 h6 => h t z fn cf h1 h2 h3 h4 (ff_cg hc.symm h5) h6
end SA
/-- what is known of the text, and stands fast -/
def TxH (tf : Nat → Int32) (ta na ca0 : Nat → Nat → Int32) (k : Nat → Int) (vl : Nat → Int32) (ql : Nat → Int) (c : Nat) (n38 : Int32) (M0 : Nat → Int32) (F : Int32 → Option Fnc) : Prop := RTk ta c ∧ (∀ i : Nat, i < c → rkd ta i = k i) ∧ SmN ta k vl c ∧ FunR tf ta na ca0 k vl c n38 M0 F ∧ FunG ta na ca0 k vl c n38 F ∧ PrL ta k c ∧ VlN ta k vl c ∧ ∀ u : Nat, u < c → k u = 18 → (ta 10 u).toInt = ql u ∧ 0 ≤ ql u ∧ ql u ≤ 100000
/-- between statements: the names L, those of the innermost block from sc on -/
def CkS (k : Nat → Int) (vl : Nat → Int32) (c : Nat) (na ca0 : Nat → Nat → Int32) (n38 : Int32) (M0 : Nat → Int32) (L : Nms) (sc : Nat) (cf : Nat → Int32) (ca ma : Nat → Nat → Int32) : Prop := EnvR k vl c cf ca L ∧ cf 38 = n38 ∧ ca 39 = ca0 39 ∧ MgO na M0 (ma 22) ∧ (cf 37).toInt = (sc : Int) ∧ sc ≤ L.length ∧ ca 40 = ca0 40
section SB
variable {tf : Nat → Int32} {ta na ca ca' ca0 ma ma' : Nat → Nat → Int32} {vl M0 : Nat → Int32} {k : Nat → Int} {ql : Nat → Int} {c sc lo hi t : Nat} {n38 : Int32} {F : Int32 → Option Fnc} {cf cf' : Nat → Int32} {L : Nms} {p0 p1 p2 p3 v : Int32} {e : Ast}
theorem CkS.ct (h : CkS k vl c na ca0 n38 M0 L sc cf ca ma) : CtR k vl c ca L n38 (ma 22) cf ma := ⟨h.1, h.2.1, rfl⟩
theorem CkS.fr (H : TxH tf ta na ca0 k vl ql c n38 M0 F) (h : CkS k vl c na ca0 n38 M0 L sc cf ca ma) : FunR tf ta na ca k vl c n38 (ma 22) F := H.2.2.2.1.st h.2.2.1 h.2.2.2.1
theorem CkS.sm (h : CkS k vl c na ca0 n38 M0 L sc cf ca ma) (e33 : cf' 33 = cf 33) (e37 : cf' 37 = cf 37) (e38 : cf' 38 = cf 38) (hM : MgO na M0 (ma' 22)) : CkS k vl c na ca0 n38 M0 L sc cf' ca ma' := ⟨h.1.sm e33, e38.trans h.2.1, h.2.2.1, hM, by rw [e37]; exact h.2.2.2.2.1, h.2.2.2.2.2⟩
theorem EnvR.ca (h : EnvR k vl c cf ca L) (g33 : cf' 33 = cf 33) (g34 : ca' 34 = ca 34) (g35 : ca' 35 = ca 35) (g36 : ca' 36 = ca 36) : EnvR k vl c cf' ca' L := by
  unfold EnvR entR at *
  rw [g33, g34, g35, g36]
  exact h
theorem EnvR.tk {n : Nat} (h : EnvR k vl c cf ca L) (hn : n ≤ L.length) (g : (cf' 33).toInt = (n : Int)) : EnvR k vl c cf' ca (L.take n) := by
  have hl : (L.take n).length = n := by rw [List.length_take]; omega
  refine ⟨by rw [hl]; exact g, by rw [hl]; have := h.2.1; omega, fun i e hi => ?_⟩
  have hin := (List.getElem?_eq_some_iff.mp hi).1
  rw [hl] at hin
  rw [List.getElem?_take_of_lt hin] at hi
  exact h.2.2 i e hi
/-- the array of kinds of values, where only notes were written -/
theorem m22_k (f : FrM ma ma' lo hi) (a : AgK na ma ma' lo hi) : ma' 22 = ma 22 := by
  funext i
  by_cases q : lo ≤ i ∧ i < hi
  · exact (a i q.1 q.2).2.2
  · exact f 22 i (by omega)
theorem bd_f {x : Option Atr} : (x.bind fun a => if (false = true) then aNum a else some a) = x := by
  cases x <;> simp
theorem bd_t {x : Option Atr} : (x.bind fun a => if (true = true) then aNum a else some a) = x.bind aNum := by
  cases x <;> simp
/-- an expression is checked; b: whether it must be a number -/
theorem ex_s (H : TxH tf ta na ca0 k vl ql c n38 M0 F) (S : CkS k vl c na ca0 n38 M0 L sc cf ca ma) (b : Bool) (hh : hi ≤ 100000) (hO : OkE k c na ma e p0.toInt lo hi) (hb : p1.toInt = (if b then 1 else 0)) (h : RX_mp_check tf ta na ca p0 p1 ma cf ma' cf' v) : SmK cf cf' ∧ FrM ma ma' lo hi ∧ AgK na ma ma' lo hi ∧ CkS k vl c na ca0 n38 M0 L sc cf' ca ma' ∧ AC cf cf' ((att k vl (lkp L) F e [] 0).bind (fun a => if b then aNum a else some a)) (fun a => IsV v.toInt a.1) ∧ (Uc cf' → ∀ d : Nat, NtN na ca0 vl M0 F ma' d p0.toInt) := by
  obtain ⟨o1, o2, o3, o4, o5⟩ := ck_x H.2.2.1 (S.fr H) H.2.2.2.2.2.1 e b p0 p1 lo hi ma ma' cf cf' v hO.1 hh hO.2.1 hb S.ct h
  exact ⟨o1, o2, o3, S.sm (o1 33 (by decide) (by decide)) (o1 37 (by decide) (by decide)) (o1 38 (by decide) (by decide)) (by rw [m22_k o2 o3]; exact S.2.2.2.1), o4, fun u d => nt_cm S.2.2.1.symm S.2.2.2.1.sy d _ (o5 u d)⟩
/-- an expression alone -/
theorem al_s (H : TxH tf ta na ca0 k vl ql c n38 M0 F) (S : CkS k vl c na ca0 n38 M0 L sc cf ca ma) (hh : hi ≤ 100000) (hO : OkE k c na ma e p0.toInt lo hi) (h : R_mp_checkAlone tf ta na ca p0 ma cf ma' cf') : SmK cf cf' ∧ FrM ma ma' lo hi ∧ AgK na ma ma' lo hi ∧ CkS k vl c na ca0 n38 M0 L sc cf' ca ma' ∧ AC cf cf' ((att k vl (lkp L) F e [] 0).bind aEff) (fun _ => True) ∧ (Uc cf' → ∀ d : Nat, NtN na ca0 vl M0 F ma' d p0.toInt) := by
  have bad : ∀ {ma1 : Nat → Nat → Int32} {cf1 cf2 : Nat → Int32} {v x y : Int32}, RX_mp_check tf ta na ca p0 (0 : Int32) ma cf ma1 cf1 v → (v.toInt = 2 ∨ v.toInt = 3) → R_mp_bad x y cf1 cf2 → ¬ x.toInt = 0 → SmK cf cf2 ∧ FrM ma ma1 lo hi ∧ AgK na ma ma1 lo hi ∧ CkS k vl c na ca0 n38 M0 L sc cf2 ca ma1 ∧ AC cf cf2 ((att k vl (lkp L) F e [] 0).bind aEff) (fun _ => True) ∧ (Uc cf2 → ∀ d : Nat, NtN na ca0 vl M0 F ma1 d p0.toInt) := by
    intro ma1 cf1 cf2 v x y hc hv hbd hx
    obtain ⟨o1, o2, o3, o4, o5, o6⟩ := ex_s H S false hh hO (by decide) hc
    have bb := bad_r hbd hx
    refine ⟨o1.tr bb.2, o2, o3, o4.sm (bb.2 33 (by decide) (by decide)) (bb.2 37 (by decide) (by decide)) (bb.2 38 (by decide) (by decide)) o4.2.2.2.1, AC.of (fun _ => bb.1) (fun u => Or.inl ⟨?_, bb.1⟩), fun u => absurd u bb.1⟩
    rw [bd_f] at o5
    cases ha : att k vl (lkp L) F e [] 0 with
    | none => rfl
    | some a =>
      have w := (o5.y u ha).2
      unfold IsV at w
      show aEff a = none
      exact if_pos (by omega)
  rcases h with ⟨ma3, cf4, v6, h1, (⟨h2, v26, h3, cf31, h4, e0, e1⟩ | ⟨h2, (⟨h3, e0, e1⟩ | ⟨h3, v57, h4, cf62, h5, e0, e1⟩)⟩)⟩ | h
  · rw [e0, e1]; exact bad h1 (Or.inl h2) h4 (by decide)
  · rw [e0, e1]
    obtain ⟨o1, o2, o3, o4, o5, o6⟩ := ex_s H S false hh hO (by decide) h1
    rw [bd_f] at o5
    refine ⟨o1, o2, o3, o4, AC.of o5.1 (fun u => ?_), o6⟩
    cases ha : att k vl (lkp L) F e [] 0 with
    | none => exact Or.inl ⟨rfl, o5.n u ha⟩
    | some a =>
      have w := o5.y u ha
      have w2 := w.2
      unfold IsV at w2
      exact Or.inr ⟨a, (show aEff a = some a from if_neg (by omega)), w.1, trivial⟩
  · rw [e0, e1]; exact bad h1 (Or.inr h3) h5 (by decide)
  · exact h.elim
/-- fields that constants leave alone -/
def D57 (a b : Nat → Int32) : Prop := ∀ j : Nat, ¬ j = 30 → ¬ j = 31 → ¬ j = 57 → b j = a j
theorem kn_s (H : TxH tf ta na ca0 k vl ql c n38 M0 F) (S : CkS k vl c na ca0 n38 M0 L sc cf ca ma) (hh : hi ≤ 100000) (hO : OkE k c na ma e p0.toInt lo hi) (h : R_mp_checkConstant tf ta na ca p0 ma cf ma' cf' v) : D57 cf cf' ∧ FrM ma ma' lo hi ∧ ma' 22 = ma 22 ∧ CkS k vl c na ca0 n38 M0 L sc cf' ca ma' ∧ AC cf cf' ((att k vl (lkp L) F e [] 0).bind aKon) (fun a => v.toInt = 1 ∧ cf' 57 = a.2.2.1) := by
  obtain ⟨hx, hR, i, hp, hi'⟩ := hO
  obtain ⟨o1, o2, ⟨ma3, o3, o4⟩, o5⟩ := kon_r H.1 H.2.1 H.2.2.1 (S.fr H) H.2.2.2.2.2.1 H.2.2.2.2.2.2.1 hx hh hR hp hi' S.ct h
  have e22 : ma' 22 = ma 22 := by
    funext j
    by_cases q : lo ≤ j ∧ j < hi
    · have w := (o3 j q.1 q.2).2.2
      rcases o4 with y | ⟨x, y⟩
      · rw [y]; exact w
      · rw [y, vu_p (by omega)]; exact w
    · exact o2 22 j (by omega)
  exact ⟨o1, o2, e22, S.sm (o1 33 (by decide) (by decide) (by decide)) (o1 37 (by decide) (by decide) (by decide)) (o1 38 (by decide) (by decide) (by decide)) (by rw [e22]; exact S.2.2.2.1), o5.imp (fun a w => ⟨w.1, w.2.1⟩)⟩
theorem dcl_n {tp : Bool} {nm : Int32} {g : Ent} (h : (tp = true ∧ (F nm).isSome = true) ∨ knN L nm sc L.length = true) : dcl tp F sc L nm g = none := if_pos h
theorem dcl_y {tp : Bool} {nm : Int32} {g : Ent} (h : ¬ ((tp = true ∧ (F nm).isSome = true) ∨ knN L nm sc L.length = true)) : dcl tp F sc L nm g = some (L ++ [(nm, g)]) := if_neg h
theorem isf_r (H : TxH tf ta na ca0 k vl ql c n38 M0 F) (S : CkS k vl c na ca0 n38 M0 L sc cf ca ma) (hp : p0.toInt = (t : Int)) (htc : t < c) (h16 : k t = 16) (h : R_mp_isFunction tf ta na cf ca p0 v) : (v.toInt = 0 ∧ F (vl t) = none) ∨ (v.toInt = 1 ∧ (F (vl t)).isSome = true) := by
  rcases h with ⟨v2, h1, (⟨h2, ev⟩ | ⟨h2, v9, h3, (⟨h4, ev⟩ | ⟨h4, ev⟩)⟩)⟩ | h
  · exact Or.inr ⟨by rw [ev]; rfl, (H.2.2.2.2.1.st S.2.2.1) t p0 v2 cf htc h16 hp S.2.1 h1 h2⟩
  · rcases (S.fr H) t p0 v9 htc h16 hp h3 with ⟨g1, -⟩ | ⟨-, g2⟩
    · exfalso; omega
    · rcases g2 cf v2 S.2.1 h1 with ⟨-, g⟩ | ⟨g3, -⟩
      · exact Or.inl ⟨by rw [ev]; rfl, g⟩
      · exfalso; omega
  · rcases (S.fr H) t p0 v9 htc h16 hp h3 with ⟨-, f, g2, -⟩ | ⟨g1, -⟩
    · exact Or.inr ⟨by rw [ev]; rfl, by rw [g2]; rfl⟩
    · rw [g1] at h4
      exact absurd h4 (by decide)
  · exact h.elim
theorem new_r (H : TxH tf ta na ca0 k vl ql c n38 M0 F) (S : CkS k vl c na ca0 n38 M0 L sc cf ca ma) (hp : p0.toInt = (t : Int)) (htc : t < c) (h16 : k t = 16) (tp : Bool) (htp : tp = true ↔ (cf 43).toInt < 0) (g : Ent) (h : R_mp_checkNew tf ta na ca p0 cf cf') : SmK cf cf' ∧ AC cf cf' (dcl tp F sc L (vl t) g) (fun L' => L' = L ++ [(vl t, g)]) := by
  have fs := fun {v : Int32} (y : R_mp_find ta cf ca p0 (cf 37) v) => find_s H.2.2.1 S.1 hp htc h16 S.2.2.2.2.1 y
  rcases h with ⟨v2, h1, (⟨h2, cf12, h3, e0⟩ | ⟨h2, (⟨h3, e0⟩ | ⟨h3, v39, h4, (⟨h5, e0⟩ | ⟨h5, cf47, h6, e0⟩)⟩)⟩)⟩ | h
  · rcases fs h1 with ⟨q1, -⟩ | ⟨j, e, -, -, -, q4, -⟩
    · exfalso; omega
    · rw [e0, dcl_n (Or.inr q4)]
      exact ⟨(bad_r h3 (by decide)).2, AC.bad h3 (by decide)⟩
  · rcases fs h1 with ⟨-, q2, -⟩ | ⟨j, e, q1, -⟩
    · have n : ¬ ((tp = true ∧ (F (vl t)).isSome = true) ∨ knN L (vl t) sc L.length = true) := by
        rintro (⟨w, -⟩ | w)
        · have := htp.mp w; omega
        · rw [q2] at w; exact absurd w (by decide)
      rw [e0, dcl_y n]
      exact ⟨SmK.rf, AC.ret rfl⟩
    · exfalso; omega
  · rcases fs h1 with ⟨-, q2, -⟩ | ⟨j, e, q1, -⟩
    · have n : ¬ ((tp = true ∧ (F (vl t)).isSome = true) ∨ knN L (vl t) sc L.length = true) := by
        rintro (⟨-, w⟩ | w)
        · rcases isf_r H S hp htc h16 h4 with ⟨-, y⟩ | ⟨y, -⟩
          · rw [y] at w; exact absurd w (by decide)
          · omega
        · rw [q2] at w; exact absurd w (by decide)
      rw [e0, dcl_y n]
      exact ⟨SmK.rf, AC.ret rfl⟩
    · exfalso; omega
  · have y : (tp = true ∧ (F (vl t)).isSome = true) := by
      refine ⟨htp.mpr (by omega), ?_⟩
      rcases isf_r H S hp htc h16 h4 with ⟨w, -⟩ | ⟨-, w⟩
      · exact absurd w h5
      · exact w
    rw [e0, dcl_n (Or.inl y)]
    exact ⟨(bad_r h6 (by decide)).2, AC.bad h6 (by decide)⟩
  · exact h.elim
theorem know_e (h : R_mp_know p0 p1 p2 p3 cf ca cf' ca') (hE : EnvR k vl c cf ca L) (hp : p0.toInt = (t : Int)) (htc : t < c) (h16 : k t = 16) (hw : 1 ≤ p1.toInt ∧ p1.toInt ≤ 4) (hl : L.length < 100000) : EnvR k vl c cf' ca' (L ++ [(vl t, if p1.toInt = 4 then ((0 : Int), p2) else (p1.toInt, (0 : Int32)))]) ∧ (∀ j : Nat, ¬ j = 33 → cf' j = cf j) ∧ ca' 39 = ca 39 ∧ ca' 40 = ca 40 := by
  rcases h with ⟨z2, h1, e0, e1⟩ | h
  · obtain ⟨E1, E2, E3⟩ := hE
    have hK : (cf 33).toNatClampNeg = L.length := cn_of E1
    have ec : ca' = vu (vu (vu (vu ca 53 L.length p3) 34 L.length p0) 35 L.length p1) 36 L.length p2 := by rw [e1, hK]; rfl
    have z := ti_add h1 E1 (show (1 : Int32).toInt = 1 from rfl) (by omega) (by omega)
    have x34 : ca' 34 L.length = p0 := by rw [ec, vu_p (by omega), vu_p (by omega), vu_s]
    have x35 : ca' 35 L.length = p1 := by rw [ec, vu_p (by omega), vu_s]
    have x36 : ca' 36 L.length = p2 := by rw [ec, vu_s]
    have xo : ∀ f i : Nat, ¬ i = L.length → ca' f i = ca f i := fun f i q => by rw [ec, vu_at q, vu_at q, vu_at q, vu_at q]
    refine ⟨⟨?_, ?_, fun i e hi => ?_⟩, fun j q => by rw [e0]; exact pk_un q, ?_, ?_⟩
    · rw [e0, pk_us, List.length_append]
      show z2.toInt = ((L.length + 1 : Nat) : Int)
      omega
    · rw [List.length_append]
      show L.length + 1 ≤ 100000
      omega
    · by_cases q : i = L.length
      · rw [q, List.getElem?_append_right (Nat.le_refl _), Nat.sub_self] at hi
        have hi' : some (vl t, if p1.toInt = 4 then ((0 : Int), p2) else (p1.toInt, (0 : Int32))) = some e := hi
        have ee := Option.some.inj hi'
        rw [q, ← ee]
        refine ⟨⟨t, by rw [x34]; exact hp, htc, h16, rfl⟩, ?_, by rw [x35]; exact hw⟩
        unfold entR
        rw [x35, x36]
      · have hlt : i < L.length := by
          have w := (List.getElem?_eq_some_iff.mp hi).1
          rw [List.length_append] at w
          have w' : i < L.length + 1 := w
          omega
        rw [List.getElem?_append_left hlt] at hi
        obtain ⟨⟨s, a1, a2⟩, a3, a4⟩ := E3 i e hi
        refine ⟨⟨s, by rw [xo 34 i q]; exact a1, a2⟩, ?_, by rw [xo 35 i q]; exact a4⟩
        unfold entR at a3 ⊢
        rw [xo 35 i q, xo 36 i q]
        exact a3
    · rw [ec]
      funext i
      rw [vu_p (by omega), vu_p (by omega), vu_p (by omega), vu_p (by omega)]
    · rw [ec]
      funext i
      rw [vu_p (by omega), vu_p (by omega), vu_p (by omega), vu_p (by omega)]
  · exact h.elim
theorem lay_r (h : R_mp_lay p0 p1 cf ca cf' ca' v) : (∀ j : Nat, ¬ j = 48 → ¬ j = 54 → cf' j = cf j) ∧ (∀ f : Nat, ¬ f = 49 → ¬ f = 50 → ¬ f = 51 → ¬ f = 52 → ca' f = ca f) := by
  rcases h with ⟨z1, h1, (⟨h2, (⟨h3, z7, h4, z9, h5, z10, h6, e0, e1, ev⟩ | ⟨h3, z12, h4, z14, h5, z15, h6, e0, e1, ev⟩)⟩ | ⟨h2, (⟨h3, z19, h4, z21, h5, z22, h6, e0, e1, ev⟩ | ⟨h3, z24, h4, z26, h5, z27, h6, e0, e1, ev⟩)⟩)⟩ | h
  case inr => exact h.elim
  all_goals
    rw [e0, e1]
    exact ⟨fun j q1 q2 => by rw [pk_un q2, pk_un q1], fun f q1 q2 q3 q4 => by rw [va_up_n q4, va_up_n q3, va_up_n q2, va_up_n q1]⟩
/-- a cell is laid, then the name is known -/
theorem layk {y0 y1 w : Int32} {cf1 cf2 : Nat → Int32} {ca1 : Nat → Nat → Int32} (S : CkS k vl c na ca0 n38 M0 L sc cf ca ma) (hL : R_mp_lay y0 y1 cf1 ca cf2 ca1 w) (e33 : cf1 33 = cf 33) (e37 : cf1 37 = cf 37) (e38 : cf1 38 = cf 38) (hM : MgO na M0 (ma' 22)) (hK : R_mp_know p0 p1 p2 p3 cf2 ca1 cf' ca') (hp : p0.toInt = (t : Int)) (htc : t < c) (h16 : k t = 16) (hw : 1 ≤ p1.toInt ∧ p1.toInt ≤ 4) (hl : L.length < 100000) : CkS k vl c na ca0 n38 M0 (L ++ [(vl t, if p1.toInt = 4 then ((0 : Int), p2) else (p1.toInt, (0 : Int32)))]) sc cf' ca' ma' ∧ ∀ j : Nat, ¬ j = 33 → ¬ j = 48 → ¬ j = 54 → cf' j = cf1 j := by
  obtain ⟨a1, a2⟩ := lay_r hL
  have E1 : EnvR k vl c cf2 ca1 L := S.1.ca ((a1 33 (by decide) (by decide)).trans e33) (a2 34 (by decide) (by decide) (by decide) (by decide)) (a2 35 (by decide) (by decide) (by decide) (by decide)) (a2 36 (by decide) (by decide) (by decide) (by decide))
  obtain ⟨b1, b2, b3, b4⟩ := know_e hK E1 hp htc h16 hw hl
  have fr : ∀ j : Nat, ¬ j = 33 → ¬ j = 48 → ¬ j = 54 → cf' j = cf1 j := fun j q1 q2 q3 => (b2 j q1).trans (a1 j q2 q3)
  refine ⟨⟨b1, ((fr 38 (by decide) (by decide) (by decide)).trans e38).trans S.2.1, (b3.trans (a2 39 (by decide) (by decide) (by decide) (by decide))).trans S.2.2.1, hM, ?_, ?_⟩, fr⟩
  · rw [fr 37 (by decide) (by decide) (by decide), e37]; exact S.2.2.2.2.1
  · exact ⟨by rw [List.length_append]; have := S.2.2.2.2.2.1; omega, (b4.trans (a2 40 (by decide) (by decide) (by decide) (by decide))).trans S.2.2.2.2.2.2⟩
end SB
/-! THE REFERENCE's checker: rows of variables (laid by gens3.py) -/
def semAr (k : Nat → Int) (vl : Nat → Int32) (ql : Nat → Int) (G : Int32 → Option Ent) (F : Int32 → Option Fnc) (ch : Bool) (w : Ast) : Option Int := match w with
  | .sub (.arg _) e => semSz k vl G F e
  | .rem (.arg _) (.elem e l) => (semSz k vl G F e).bind fun n => (semKs k vl G F l).bind fun m => if m ≤ n then some n else none
  | .div (.arg _) (.elem e (.arg u)) => (semSz k vl G F e).bind fun n => if ch = true ∧ ql u < n then some n else none
  | _ => none
theorem wds_f {n : Int} : wds false n = n := by simp [wds]
theorem wds_t {n : Int} : wds true n = (n + 3) / 4 := by simp [wds]
theorem dv4 {x y z : Int32} (h1 : y = x + (3 : Int32)) (h2 : z = y / (4 : Int32)) (hx : 0 ≤ x.toInt ∧ x.toInt ≤ 4096) : z.toInt = (x.toInt + 3) / 4 := by
  have a := ti_add h1 rfl (show (3 : Int32).toInt = 3 from rfl) (by omega) (by omega)
  rw [i_div4 h2 (by omega), a]
def D58 (a b : Nat → Int32) : Prop := ∀ j : Nat, ¬ j = 30 → ¬ j = 31 → ¬ j = 57 → ¬ j = 58 → b j = a j
section SC
variable {tf : Nat → Int32} {ta na ca ca0 ma ma' ma1 : Nat → Nat → Int32} {vl M0 : Nat → Int32} {k : Nat → Int} {ql : Nat → Int} {c sc lo hi t : Nat} {n38 : Int32} {F : Int32 → Option Fnc} {cf cf' cf1 cf2 : Nat → Int32} {L : Nms} {p0 p1 v s : Int32} {e : Ast} {ch : Bool} {X : Int}
/-- the size is known, or something is wrong -/
def SzT (k : Nat → Int) (vl : Nat → Int32) (c : Nat) (na ca0 : Nat → Nat → Int32) (n38 : Int32) (M0 : Nat → Int32) (F : Int32 → Option Fnc) (L : Nms) (sc : Nat) (e : Ast) (ca : Nat → Nat → Int32) (cf cf1 : Nat → Int32) (ma1 : Nat → Nat → Int32) (x : Int) : Prop := D57 cf cf1 ∧ CkS k vl c na ca0 n38 M0 L sc cf1 ca ma1 ∧ AC cf cf1 (semSz k vl (lkp L) F e) (fun n => n = x) ∧ (x < 0 → Bc cf1) ∧ (x = -1 ∨ (1 ≤ x ∧ x ≤ 4096))
theorem da_a (o : AC cf cf1 ((att k vl (lkp L) F e [] 0).bind aKon) (fun a => v.toInt = 1 ∧ cf1 57 = a.2.2.1)) (hv : v.toInt = 0) (d : D57 cf cf1) (S : CkS k vl c na ca0 n38 M0 L sc cf1 ca ma1) : SzT k vl c na ca0 n38 M0 F L sc e ca cf cf1 ma1 ((-1 : Int32).toInt) := by
  have n : Uc cf → (att k vl (lkp L) F e [] 0).bind aKon = none := fun u => by
    cases hz : (att k vl (lkp L) F e [] 0).bind aKon with
    | none => rfl
    | some a => have := (o.y u hz).2.1; exfalso; omega
  have B : Bc cf1 := by
    by_cases u : Uc cf
    · exact o.n u (n u)
    · exact o.1 u
  exact ⟨d, S, AC.of (fun _ => B) (fun u => Or.inl ⟨by unfold semSz; rw [n u]; rfl, B⟩), fun _ => B, Or.inl rfl⟩
theorem da_b (o : AC cf cf1 ((att k vl (lkp L) F e [] 0).bind aKon) (fun a => v.toInt = 1 ∧ cf1 57 = a.2.2.1)) (hr : 1 ≤ (cf1 57).toInt ∧ (cf1 57).toInt ≤ 4096) (d : D57 cf cf1) (S : CkS k vl c na ca0 n38 M0 L sc cf1 ca ma1) : SzT k vl c na ca0 n38 M0 F L sc e ca cf cf1 ma1 ((cf1 57).toInt) := by
  refine ⟨d, S, AC.of o.1 (fun u => ?_), fun w => by exfalso; omega, Or.inr hr⟩
  cases hz : (att k vl (lkp L) F e [] 0).bind aKon with
  | none => exact Or.inl ⟨by unfold semSz; rw [hz]; rfl, o.n u hz⟩
  | some a =>
    have w := o.y u hz
    refine Or.inr ⟨(cf1 57).toInt, ?_, w.1, rfl⟩
    unfold semSz
    rw [hz]
    show (if 1 ≤ a.2.2.1.toInt ∧ a.2.2.1.toInt ≤ 4096 then some a.2.2.1.toInt else none) = _
    rw [← w.2.2, if_pos hr]
theorem da_c {x y : Int32} (o : AC cf cf1 ((att k vl (lkp L) F e [] 0).bind aKon) (fun a => v.toInt = 1 ∧ cf1 57 = a.2.2.1)) (hr : ¬ (1 ≤ (cf1 57).toInt ∧ (cf1 57).toInt ≤ 4096)) (d : D57 cf cf1) (S : CkS k vl c na ca0 n38 M0 L sc cf1 ca ma1) (hb : R_mp_bad x y cf1 cf2) (hx : ¬ x.toInt = 0) : SzT k vl c na ca0 n38 M0 F L sc e ca cf cf2 ma1 ((4096 : Int32).toInt) := by
  have bb := bad_r hb hx
  refine ⟨fun j h1 h2 h3 => (bb.2 j h1 h2).trans (d j h1 h2 h3), S.sm (bb.2 33 (by decide) (by decide)) (bb.2 37 (by decide) (by decide)) (bb.2 38 (by decide) (by decide)) S.2.2.2.1, AC.of (fun _ => bb.1) (fun u => Or.inl ⟨?_, bb.1⟩), fun w => absurd w (by decide), Or.inr (by decide)⟩
  cases hz : (att k vl (lkp L) F e [] 0).bind aKon with
  | none => unfold semSz; rw [hz]; rfl
  | some a =>
    have w := o.y u hz
    unfold semSz
    rw [hz]
    show (if 1 ≤ a.2.2.1.toInt ∧ a.2.2.1.toInt ≤ 4096 then some a.2.2.1.toInt else none) = _
    rw [← w.2.2, if_neg hr]
/-- what declareArray gives -/
def DaQ (k : Nat → Int) (vl : Nat → Int32) (c : Nat) (na ca0 : Nat → Nat → Int32) (n38 : Int32) (M0 : Nat → Int32) (F : Int32 → Option Fnc) (ql : Nat → Int) (L : Nms) (sc : Nat) (ch : Bool) (w : Ast) (lo hi : Nat) (v : Int) (ca ma : Nat → Nat → Int32) (cf : Nat → Int32) (ma' : Nat → Nat → Int32) (cf' : Nat → Int32) : Prop := D58 cf cf' ∧ FrM ma ma' (lo + 1) hi ∧ ma' 22 = ma 22 ∧ CkS k vl c na ca0 n38 M0 L sc cf' ca ma' ∧ (0 ≤ v ∧ v ≤ 4096) ∧ AC cf cf' (semAr k vl ql (lkp L) F ch w) (fun n => v = wds ch n)
theorem da_fin {w : Ast} {ma2 : Nat → Nat → Int32} {f : Int → Option Int} {V : Int} (T : SzT k vl c na ca0 n38 M0 F L sc e ca cf cf1 ma1 X) (hw : semAr k vl ql (lkp L) F ch w = (semSz k vl (lkp L) F e).bind f) (fr : FrM ma ma2 (lo + 1) hi) (e22 : ma2 22 = ma 22) (S2 : CkS k vl c na ca0 n38 M0 L sc cf2 ca ma2) (d2 : D57 cf1 cf2) (mo : Bc cf1 → Bc cf2) (g : Uc cf1 → (f X = some X ∧ Uc cf2) ∨ (f X = none ∧ Bc cf2)) (hv : 0 ≤ X → V = wds ch X) (hn : X < 0 → V = 0) : DaQ k vl c na ca0 n38 M0 F ql L sc ch w lo hi V ca ma cf ma2 (upd cf2 58 s) := by
  obtain ⟨t1, t2, t3, t4, t5⟩ := T
  have e30 : (upd cf2 58 s) 30 = cf2 30 := pk_un (by decide)
  have B : Bc cf2 → Bc (upd cf2 58 s) := fun q => by unfold Bc; rw [e30]; exact q
  refine ⟨fun j h1 h2 h3 h4 => by rw [pk_un h4]; exact (d2 j h1 h2 h3).trans (t1 j h1 h2 h3), fr, e22, S2.sm (pk_un (by decide)) (pk_un (by decide)) (pk_un (by decide)) S2.2.2.2.1, ?_, ?_⟩
  · rcases t5 with y | y
    · have := hn (by omega); omega
    · have q := hv (by omega)
      rw [q]
      cases ch with
      | false => rw [wds_f]; omega
      | true => rw [wds_t]; omega
  · rw [hw]
    refine AC.of (fun q => B (mo (t3.1 q))) (fun u => ?_)
    cases hz : semSz k vl (lkp L) F e with
    | none => exact Or.inl ⟨rfl, B (mo (t3.n u hz))⟩
    | some n =>
      obtain ⟨u1, en⟩ := t3.y u hz
      have x0 : 0 ≤ X := by
        by_cases q : X < 0
        · exact absurd u1 (t4 q)
        · omega
      rcases g u1 with ⟨f1, u2⟩ | ⟨f1, b2⟩
      · exact Or.inr ⟨X, (show f n = some X by rw [en]; exact f1), by unfold Uc; rw [e30]; exact u2, hv x0⟩
      · exact Or.inl ⟨(show f n = none by rw [en]; exact f1), B b2⟩
theorem da_row {V : Int} (T : SzT k vl c na ca0 n38 M0 F L sc e ca cf cf1 ma1 X) (fr : FrM ma ma1 (lo + 1) hi) (e22 : ma1 22 = ma 22) (hv : 0 ≤ X → V = wds ch X) (hn : X < 0 → V = 0) : DaQ k vl c na ca0 n38 M0 F ql L sc ch (vRow t e) lo hi V ca ma cf ma1 (upd cf1 58 s) := by
  refine da_fin (f := some) T ?_ fr e22 T.2.1 (fun _ _ _ _ => rfl) id (fun u => Or.inl ⟨rfl, u⟩) hv hn
  show semSz k vl (lkp L) F e = (semSz k vl (lkp L) F e).bind some
  cases semSz k vl (lkp L) F e <;> rfl
theorem da_str {V : Int} {u : Nat} (T : SzT k vl c na ca0 n38 M0 F L sc e ca cf cf1 ma1 X) (fr : FrM ma ma1 (lo + 1) hi) (e22 : ma1 22 = ma 22) (sm : SmK cf1 cf2) (mo : Bc cf1 → Bc cf2) (g : Uc cf1 → ((ch = true ∧ ql u < X) ∧ Uc cf2) ∨ (¬ (ch = true ∧ ql u < X) ∧ Bc cf2)) (hv : 0 ≤ X → V = wds ch X) (hn : X < 0 → V = 0) : DaQ k vl c na ca0 n38 M0 F ql L sc ch (vStr t e u) lo hi V ca ma cf ma1 (upd cf2 58 s) := by
  refine da_fin (f := fun n => if ch = true ∧ ql u < n then some n else none) T rfl fr e22 (T.2.1.sm (sm 33 (by decide) (by decide)) (sm 37 (by decide) (by decide)) (sm 38 (by decide) (by decide)) T.2.1.2.2.2.1) (fun j h1 h2 _ => sm j h1 h2) mo (fun y => ?_) hv hn
  rcases g y with ⟨g1, g2⟩ | ⟨g1, g2⟩
  · exact Or.inl ⟨if_pos g1, g2⟩
  · exact Or.inr ⟨if_neg g1, g2⟩
/-- the length of a string, and its end -/
theorem str_l {u : Nat} {z1 z2 z3 : Int32} (H : TxH tf ta na ca0 k vl ql c n38 M0 F) (hp : p0.toInt = (lo : Int)) (hu : (ma 19 lo).toInt = (u : Int) ∧ u < c ∧ k u = 18) {m : Nat} (fr : FrM ma ma1 (lo + 1) m) (h1 : z1 = ma1 19 p0.toNatClampNeg) (h2 : z2 = ta 10 z1.toNatClampNeg) (h3 : z3 = z2 + (1 : Int32)) : z3.toInt = ql u + 1 := by
  rw [cn_of hp, fr 19 lo (by omega)] at h1
  have e1 : z1.toNatClampNeg = u := cn_of (by rw [h1]; exact hu.1)
  rw [e1] at h2
  obtain ⟨q1, q2, q3⟩ := H.2.2.2.2.2.2.2 u hu.2.1 hu.2.2
  exact ti_add h3 (show z2.toInt = ql u by rw [h2]; exact q1) (show (1 : Int32).toInt = 1 from rfl) (by omega) (by omega)
/-- the row of values -/
theorem da_73 {x3 : Int32} (H : TxH tf ta na ca0 k vl ql c n38 M0 F) (hc0 : p1.toInt = 0 → ch = false) (hc1 : ¬ p1.toInt = 0 → ch = true) (hx3 : x3.toInt = -1 ∨ (1 ≤ x3.toInt ∧ x3.toInt ≤ 4096)) : ∀ (l : Ast) (m : Nat) (x4 x5 : Int32) (lo hi n0 : Nat) (ma : Nat → Nat → Int32) (cf : Nat → Int32), E_mp_declareArray tf ta na ca p0 p1 ma' cf' v m 73 [x3, x4, x5] [] [] [] [] ma cf → isRw l = true → Rep k c na ma l false x5.toInt 0 lo hi → hi ≤ 100000 → CkS k vl c na ca0 n38 M0 L sc cf ca ma → x4.toInt = (n0 : Int) → n0 ≤ lo → lo ≤ hi → (x3.toInt < 0 → Bc cf) →
    ∃ (cf2 : Nat → Int32) (s : Int32), cf' = upd cf2 58 s ∧ D57 cf cf2 ∧ FrM ma ma' lo hi ∧ ma' 22 = ma 22 ∧ CkS k vl c na ca0 n38 M0 L sc cf2 ca ma' ∧ (Bc cf → Bc cf2) ∧ (Uc cf → (∃ q : Int, semKs k vl (lkp L) F l = some q ∧ (n0 : Int) + q ≤ x3.toInt ∧ Uc cf2) ∨ ((∀ q : Int, semKs k vl (lkp L) F l = some q → ¬ (n0 : Int) + q ≤ x3.toInt) ∧ Bc cf2)) ∧ (0 ≤ x3.toInt → v.toInt = wds ch x3.toInt) ∧ (x3.toInt < 0 → v.toInt = 0) := by
  intro l
  induction l with
  | null =>
    intro m x4 x5 lo hi n0 ma cf h _ hR hh S hx4 hn hlo hB
    have hneg : x5.toInt < 0 := by unfold Rep at hR; exact hR
    have ks : semKs k vl (lkp L) F .null = some 0 := by first | rfl | simp [semKs]
    rcases iv_mp_declareArray_73 h with ⟨m', (⟨h1, (⟨h2, (⟨h3, (⟨h4, e0, e1, ev⟩ | ⟨h4, z9, h5, z10, h6, e0, e1, ev⟩)⟩ | ⟨h3, (⟨h4, e0, e1, ev⟩ | ⟨h4, z13, h5, z14, h6, e0, e1, ev⟩)⟩)⟩ | ⟨h2, (⟨h3, (⟨h4, (⟨h5, e0, e1, ev⟩ | ⟨h5, z21, h6, z22, h7, e0, e1, ev⟩)⟩ | ⟨h4, (⟨h5, e0, e1, ev⟩ | ⟨h5, z25, h6, z26, h7, e0, e1, ev⟩)⟩)⟩ | ⟨h3, z27, h4, cf29, h5, (⟨h6, (⟨h7, e0, e1, ev⟩ | ⟨h7, z56, h8, z57, h9, e0, e1, ev⟩)⟩ | ⟨h6, (⟨h7, e0, e1, ev⟩ | ⟨h7, z60, h8, z61, h9, e0, e1, ev⟩)⟩)⟩)⟩)⟩ | ⟨h1, ma66, cf67, v69, h2, z82, h3, z83, h4, hQ⟩)⟩
    · exfalso; omega
    · exfalso; omega
    · rw [e0, e1, ev]
      exact ⟨cf, 0, rfl, fun _ _ _ _ => rfl, FrM.rf, rfl, S, id, fun u => absurd u (hB h2), fun w => by exfalso; omega, fun _ => rfl⟩
    · rw [e0, e1, ev]
      exact ⟨cf, 0, rfl, fun _ _ _ _ => rfl, FrM.rf, rfl, S, id, fun u => absurd u (hB h2), fun w => by exfalso; omega, fun _ => by rw [dv4 h5 h6 (by decide)]; rfl⟩
    · rw [e0, e1, ev]
      exact ⟨cf, x3, rfl, fun _ _ _ _ => rfl, FrM.rf, rfl, S, id, fun u => Or.inl ⟨0, ks, by omega, u⟩, fun _ => by rw [hc0 h5, wds_f], fun w => by exfalso; omega⟩
    · rw [e0, e1, ev]
      exact ⟨cf, x3, rfl, fun _ _ _ _ => rfl, FrM.rf, rfl, S, id, fun u => Or.inl ⟨0, ks, by omega, u⟩, fun _ => by rw [hc1 h5, wds_t]; exact dv4 h6 h7 (by omega), fun w => by exfalso; omega⟩
    · exfalso; omega
    · exfalso; omega
    · have bb := bad_r h5 (by decide)
      rw [e0, e1, ev]
      exact ⟨_, x3, rfl, fun j h1 h2 _ => bb.2 j h1 h2, FrM.rf, rfl, S.sm (bb.2 33 (by decide) (by decide)) (bb.2 37 (by decide) (by decide)) (bb.2 38 (by decide) (by decide)) S.2.2.2.1, fun _ => bb.1, fun _ => Or.inr ⟨fun q hq => by rw [ks] at hq; injection hq with hq; omega, bb.1⟩, fun _ => by rw [hc0 h7, wds_f], fun w => by exfalso; omega⟩
    · have bb := bad_r h5 (by decide)
      rw [e0, e1, ev]
      exact ⟨_, x3, rfl, fun j h1 h2 _ => bb.2 j h1 h2, FrM.rf, rfl, S.sm (bb.2 33 (by decide) (by decide)) (bb.2 37 (by decide) (by decide)) (bb.2 38 (by decide) (by decide)) S.2.2.2.1, fun _ => bb.1, fun _ => Or.inr ⟨fun q hq => by rw [ks] at hq; injection hq with hq; omega, bb.1⟩, fun _ => by rw [hc1 h7, wds_t]; exact dv4 h8 h9 (by omega), fun w => by exfalso; omega⟩
    · exfalso; omega
    · exfalso; omega
    · exfalso; omega
  | add e r ihe ihr =>
    intro m x4 x5 lo hi n0 ma cf h _ hR hh S hx4 hn hlo hB
    unfold Rep at hR
    obtain ⟨i, mid, r1, r2, rq, r3, r4⟩ := hR
    rcases iv_mp_declareArray_73 h with ⟨m', (⟨h1, (⟨h2, (⟨h3, (⟨h4, e0, e1, ev⟩ | ⟨h4, z9, h5, z10, h6, e0, e1, ev⟩)⟩ | ⟨h3, (⟨h4, e0, e1, ev⟩ | ⟨h4, z13, h5, z14, h6, e0, e1, ev⟩)⟩)⟩ | ⟨h2, (⟨h3, (⟨h4, (⟨h5, e0, e1, ev⟩ | ⟨h5, z21, h6, z22, h7, e0, e1, ev⟩)⟩ | ⟨h4, (⟨h5, e0, e1, ev⟩ | ⟨h5, z25, h6, z26, h7, e0, e1, ev⟩)⟩)⟩ | ⟨h3, z27, h4, cf29, h5, (⟨h6, (⟨h7, e0, e1, ev⟩ | ⟨h7, z56, h8, z57, h9, e0, e1, ev⟩)⟩ | ⟨h6, (⟨h7, e0, e1, ev⟩ | ⟨h7, z60, h8, z61, h9, e0, e1, ev⟩)⟩)⟩)⟩)⟩ | ⟨h1, ma66, cf67, v69, h2, z82, h3, z83, h4, hQ⟩)⟩
    · exfalso; omega
    · exfalso; omega
    · exfalso; omega
    · exfalso; omega
    · exfalso; omega
    · exfalso; omega
    · exfalso; omega
    · exfalso; omega
    · exfalso; omega
    · exfalso; omega
    · exfalso; omega
    · exfalso; omega
    · obtain ⟨o1, o2, o3, o4, o5⟩ := kn_s (hi := mid) H S (by omega) ⟨rq.1, r3, i, r1, r2.1, r2.2.1⟩ h2
      have z1 := ti_add h3 hx4 (show (1 : Int32).toInt = 1 from rfl) (by omega) (by omega)
      rw [cn_of r1] at h4
      have ks : semKs k vl (lkp L) F (.add e r) = ((att k vl (lkp L) F e [] 0).bind aKon).bind fun _ => (semKs k vl (lkp L) F r).bind fun n => some (n + 1) := by first | rfl | simp [semKs]
      obtain ⟨cf2, s, g1, g2, g3, g4, g5, g6, g7, g8, g9⟩ := ihr m' z82 z83 mid hi (n0 + 1) ma66 cf67 hQ rq.2 (by rw [h4]; exact rep_kp _ _ _ _ _ _ r4 (fun _ => (FrM.ag o2 (Or.inr (Nat.le_refl _)) : AgF na ma na ma66 mid hi (-1)).rt (Or.inl (by omega))) (fun z => absurd z (by decide))) hh o4 (by omega) (by omega) (by omega) (fun w => o5.1 (hB w))
      refine ⟨cf2, s, g1, fun j h1 h2 h3 => (g2 j h1 h2 h3).trans (o1 j h1 h2 h3), (o2.le (Nat.le_refl _) r2.2.2).tr (g3.le (by omega) (Nat.le_refl _)), g4.trans o3, g5, fun q => g6 (o5.1 q), fun u => ?_, g8, g9⟩
      rw [ks]
      cases hz : (att k vl (lkp L) F e [] 0).bind aKon with
      | none => exact Or.inr ⟨fun q hq => absurd hq (by simp), g6 (o5.n u hz)⟩
      | some a =>
        have u1 := (o5.y u hz).1
        rcases g7 u1 with ⟨q, q1, q2, q3⟩ | ⟨q1, q2⟩
        · exact Or.inl ⟨q + 1, by rw [q1]; rfl, by omega, q3⟩
        · refine Or.inr ⟨fun q hq => ?_, q2⟩
          cases hy : semKs k vl (lkp L) F r with
          | none => rw [hy] at hq; exact absurd hq (by simp)
          | some y =>
            rw [hy] at hq
            have hq' : some (y + 1) = some q := hq
            injection hq' with hq'
            have := q1 y hy
            omega
  | _ => intro m x4 x5 lo hi n0 ma cf h hw; exact absurd hw Bool.false_ne_true
theorem da_lst {V : Int} {l : Ast} {ma2 : Nat → Nat → Int32} (T : SzT k vl c na ca0 n38 M0 F L sc e ca cf cf1 ma1 X) (fr : FrM ma ma2 (lo + 1) hi) (e22 : ma2 22 = ma 22) (S2 : CkS k vl c na ca0 n38 M0 L sc cf2 ca ma2) (d2 : D57 cf1 cf2) (mo : Bc cf1 → Bc cf2) (g : Uc cf1 → (∃ q : Int, semKs k vl (lkp L) F l = some q ∧ ((0 : Nat) : Int) + q ≤ X ∧ Uc cf2) ∨ ((∀ q : Int, semKs k vl (lkp L) F l = some q → ¬ ((0 : Nat) : Int) + q ≤ X) ∧ Bc cf2)) (hv : 0 ≤ X → V = wds ch X) (hn : X < 0 → V = 0) : DaQ k vl c na ca0 n38 M0 F ql L sc ch (vList t e l) lo hi V ca ma cf ma2 (upd cf2 58 s) := by
  refine da_fin (f := fun n => (semKs k vl (lkp L) F l).bind fun m => if m ≤ n then some n else none) T rfl fr e22 S2 d2 mo (fun y => ?_) hv hn
  rcases g y with ⟨q, q1, q2, q3⟩ | ⟨q1, q2⟩
  · refine Or.inl ⟨?_, q3⟩
    show (semKs k vl (lkp L) F l).bind (fun m => if m ≤ X then some X else none) = some X
    rw [q1]
    show (if q ≤ X then some X else none) = some X
    exact if_pos (by omega)
  · refine Or.inr ⟨?_, q2⟩
    show (semKs k vl (lkp L) F l).bind (fun m => if m ≤ X then some X else none) = none
    cases hy : semKs k vl (lkp L) F l with
    | none => rfl
    | some q =>
      have := q1 q hy
      show (if q ≤ X then some X else none) = none
      exact if_neg (by omega)
/-- a row of variables, or of a string's letters -/
theorem da_r {w : Ast} {m : Nat} {O : Int} (H : TxH tf ta na ca0 k vl ql c n38 M0 F) (S : CkS k vl c na ca0 n38 M0 L sc cf ca ma) (hh : hi ≤ 100000) (hp : p0.toInt = (lo : Int)) (hc0 : p1.toInt = 0 → ch = false) (hc1 : ¬ p1.toInt = 0 → ch = true) (hO : (ma 22 lo).toInt = O) (hE : OkE k c na ma e (na 17 lo).toInt (lo + 1) m) (hm : m ≤ hi) (sR : O = 0 → w = vRow t e) (sS : O = 3 → ∃ u : Nat, w = vStr t e u ∧ ((ma 19 lo).toInt = (u : Int) ∧ u < c ∧ k u = 18)) (sL : O = 2 → ∃ l : Ast, w = vList t e l ∧ isRw l = true ∧ Rep k c na ma l false (ma 18 lo).toInt 0 m hi) (hOk : O = 0 ∨ O = 2 ∨ O = 3) (h : R_mp_declareArray tf ta na ca p0 p1 ma cf ma' cf' v) : DaQ k vl c na ca0 n38 M0 F ql L sc ch w lo hi v.toInt ca ma cf ma' cf' := by
  obtain ⟨m0, h⟩ := h
  have lem := oke_le hE
  rcases iv_mp_declareArray_0 h with ⟨m', z84, h1, ma87, cf88, v90, h2, (⟨h3, z105, h4, (⟨h5, z108, h6, (⟨h7, (⟨h8, e0, e1, ev⟩ | ⟨h8, z114, h9, z115, h10, e0, e1, ev⟩)⟩ | ⟨h7, z116, h8, z117, h9, z118, h10, (⟨h11, z121, h12, cf123, h13, (⟨h14, e0, e1, ev⟩ | ⟨h14, z149, h15, z150, h16, e0, e1, ev⟩)⟩ | ⟨h11, (⟨h12, e0, e1, ev⟩ | ⟨h12, z155, h13, z156, h14, e0, e1, ev⟩)⟩)⟩)⟩ | ⟨h5, z157, h6, hQ⟩)⟩ | ⟨h3, (⟨h4, z160, h5, v162, h6, cf167, h7, z190, h8, (⟨h9, z193, h10, (⟨h11, (⟨h12, e0, e1, ev⟩ | ⟨h12, z199, h13, z200, h14, e0, e1, ev⟩)⟩ | ⟨h11, z201, h12, z202, h13, z203, h14, (⟨h15, z206, h16, cf208, h17, (⟨h18, e0, e1, ev⟩ | ⟨h18, z234, h19, z235, h20, e0, e1, ev⟩)⟩ | ⟨h15, (⟨h16, (⟨h17, e0, e1, ev⟩ | ⟨h17, z242, h18, z243, h19, e0, e1, ev⟩)⟩ | ⟨h16, z244, h17, cf246, h18, (⟨h19, e0, e1, ev⟩ | ⟨h19, z272, h20, z273, h21, e0, e1, ev⟩)⟩)⟩)⟩)⟩ | ⟨h9, z274, h10, hQ⟩)⟩ | ⟨h4, (⟨h5, z277, h6, (⟨h7, z280, h8, (⟨h9, (⟨h10, (⟨h11, e0, e1, ev⟩ | ⟨h11, z288, h12, z289, h13, e0, e1, ev⟩)⟩ | ⟨h10, (⟨h11, e0, e1, ev⟩ | ⟨h11, z292, h12, z293, h13, e0, e1, ev⟩)⟩)⟩ | ⟨h9, z294, h10, z295, h11, z296, h12, (⟨h13, z299, h14, cf301, h15, (⟨h16, (⟨h17, e0, e1, ev⟩ | ⟨h17, z329, h18, z330, h19, e0, e1, ev⟩)⟩ | ⟨h16, (⟨h17, e0, e1, ev⟩ | ⟨h17, z333, h18, z334, h19, e0, e1, ev⟩)⟩)⟩ | ⟨h13, (⟨h14, (⟨h15, (⟨h16, e0, e1, ev⟩ | ⟨h16, z342, h17, z343, h18, e0, e1, ev⟩)⟩ | ⟨h15, (⟨h16, e0, e1, ev⟩ | ⟨h16, z346, h17, z347, h18, e0, e1, ev⟩)⟩)⟩ | ⟨h14, (⟨h15, (⟨h16, (⟨h17, e0, e1, ev⟩ | ⟨h17, z355, h18, z356, h19, e0, e1, ev⟩)⟩ | ⟨h16, (⟨h17, e0, e1, ev⟩ | ⟨h17, z359, h18, z360, h19, e0, e1, ev⟩)⟩)⟩ | ⟨h15, z361, h16, cf363, h17, (⟨h18, (⟨h19, e0, e1, ev⟩ | ⟨h19, z391, h20, z392, h21, e0, e1, ev⟩)⟩ | ⟨h18, (⟨h19, e0, e1, ev⟩ | ⟨h19, z395, h20, z396, h21, e0, e1, ev⟩)⟩)⟩)⟩)⟩)⟩)⟩ | ⟨h7, z397, h8, hQ⟩)⟩ | ⟨h5, z398, h6, v400, h7, cf405, h8, z428, h9, (⟨h10, z431, h11, (⟨h12, (⟨h13, e0, e1, ev⟩ | ⟨h13, z437, h14, z438, h15, e0, e1, ev⟩)⟩ | ⟨h12, z439, h13, z440, h14, z441, h15, (⟨h16, z444, h17, cf446, h18, (⟨h19, e0, e1, ev⟩ | ⟨h19, z472, h20, z473, h21, e0, e1, ev⟩)⟩ | ⟨h16, (⟨h17, (⟨h18, e0, e1, ev⟩ | ⟨h18, z480, h19, z481, h20, e0, e1, ev⟩)⟩ | ⟨h17, z482, h18, cf484, h19, (⟨h20, e0, e1, ev⟩ | ⟨h20, z510, h21, z511, h22, e0, e1, ev⟩)⟩)⟩)⟩)⟩ | ⟨h10, z512, h11, hQ⟩)⟩)⟩)⟩)⟩
  · obtain ⟨o1, o2, o3, o4, o5⟩ := kn_s (hi := m) H S (by omega) (by rw [h1, cn_of hp]; exact hE) h2
    have T := da_a o5 h3 o1 o4
    have y4 : z105.toInt = O := by rw [h4, cn_of hp, o3]; exact hO
    have y6 : z108.toInt = O := by rw [h6, cn_of hp, o3]; exact hO
    rw [sR (by omega), e0, e1, ev]
    exact da_row T (o2.le (Nat.le_refl _) hm) o3 (fun w => absurd w (by decide)) (fun _ => rfl)
  · obtain ⟨o1, o2, o3, o4, o5⟩ := kn_s (hi := m) H S (by omega) (by rw [h1, cn_of hp]; exact hE) h2
    have T := da_a o5 h3 o1 o4
    have y4 : z105.toInt = O := by rw [h4, cn_of hp, o3]; exact hO
    have y6 : z108.toInt = O := by rw [h6, cn_of hp, o3]; exact hO
    rw [sR (by omega), e0, e1, ev]
    exact da_row T (o2.le (Nat.le_refl _) hm) o3 (fun w => absurd w (by decide)) (fun _ => by rw [dv4 h9 h10 (by decide)]; rfl)
  · obtain ⟨o1, o2, o3, o4, o5⟩ := kn_s (hi := m) H S (by omega) (by rw [h1, cn_of hp]; exact hE) h2
    have T := da_a o5 h3 o1 o4
    have y4 : z105.toInt = O := by rw [h4, cn_of hp, o3]; exact hO
    have y6 : z108.toInt = O := by rw [h6, cn_of hp, o3]; exact hO
    obtain ⟨u, hw, hu⟩ := sS (by omega)
    have SL := str_l H hp hu o2 h8 h9 h10
    rw [hw, e0, e1, ev]
    exact da_str T (o2.le (Nat.le_refl _) hm) o3 (bad_r h13 (by decide)).2 (fun _ => (bad_r h13 (by decide)).1) (fun _ => Or.inr ⟨fun w => by rw [hc0 h11] at w; exact absurd w.1 (by decide), (bad_r h13 (by decide)).1⟩) (fun w => absurd w (by decide)) (fun _ => rfl)
  · exfalso; omega
  · exfalso; omega
  · obtain ⟨o1, o2, o3, o4, o5⟩ := kn_s (hi := m) H S (by omega) (by rw [h1, cn_of hp]; exact hE) h2
    have T := da_a o5 h3 o1 o4
    have y4 : z105.toInt = O := by rw [h4, cn_of hp, o3]; exact hO
    have y6 : z108.toInt = O := by rw [h6, cn_of hp, o3]; exact hO
    obtain ⟨u, hw, hu⟩ := sS (by omega)
    have SL := str_l H hp hu o2 h8 h9 h10
    rw [hw, e0, e1, ev]
    exact da_str T (o2.le (Nat.le_refl _) hm) o3 SmK.rf id (fun y => absurd y (T.2.2.2.1 (by decide))) (fun w => absurd w (by decide)) (fun _ => by rw [dv4 h13 h14 (by decide)]; rfl)
  · obtain ⟨o1, o2, o3, o4, o5⟩ := kn_s (hi := m) H S (by omega) (by rw [h1, cn_of hp]; exact hE) h2
    have T := da_a o5 h3 o1 o4
    have y4 : z105.toInt = O := by rw [h4, cn_of hp, o3]; exact hO
    obtain ⟨l, hw, hr, hl⟩ := sL (by omega)
    obtain ⟨cf2, s, g1, g2, g3, g4, g5, g6, g7, g8, g9⟩ := da_73 (x3 := (-1 : Int32)) (p0 := p0) (ma' := ma') (v := v) H hc0 hc1 T.2.2.2.2 l m' (0 : Int32) z157 m hi 0 ma87 cf88 hQ hr (by rw [h6, cn_of hp, o2 18 lo (by omega)]; exact rep_kp _ _ _ _ _ _ hl (fun _ => (FrM.ag o2 (Or.inr (Nat.le_refl _)) : AgF na ma na ma87 m hi (-1)).rt (Or.inl (by omega))) (fun z => absurd z (by decide))) hh T.2.1 rfl (by omega) hm T.2.2.2.1
    rw [hw, g1]
    exact da_lst T ((o2.le (Nat.le_refl _) hm).tr (g3.le (by omega) (Nat.le_refl _))) (g4.trans o3) g5 g2 g6 g7 g8 g9
  · obtain ⟨o1, o2, o3, o4, o5⟩ := kn_s (hi := m) H S (by omega) (by rw [h1, cn_of hp]; exact hE) h2
    have T := da_c o5 (by omega) o1 o4 h7 (by decide)
    have y8 : z190.toInt = O := by rw [h8, cn_of hp, o3]; exact hO
    have y10 : z193.toInt = O := by rw [h10, cn_of hp, o3]; exact hO
    rw [sR (by omega), e0, e1, ev]
    exact da_row T (o2.le (Nat.le_refl _) hm) o3 (fun _ => by rw [hc0 h12, wds_f]) (fun w => absurd w (by decide))
  · obtain ⟨o1, o2, o3, o4, o5⟩ := kn_s (hi := m) H S (by omega) (by rw [h1, cn_of hp]; exact hE) h2
    have T := da_c o5 (by omega) o1 o4 h7 (by decide)
    have y8 : z190.toInt = O := by rw [h8, cn_of hp, o3]; exact hO
    have y10 : z193.toInt = O := by rw [h10, cn_of hp, o3]; exact hO
    rw [sR (by omega), e0, e1, ev]
    exact da_row T (o2.le (Nat.le_refl _) hm) o3 (fun _ => by rw [hc1 h12, wds_t]; exact dv4 h13 h14 (by decide)) (fun w => absurd w (by decide))
  · obtain ⟨o1, o2, o3, o4, o5⟩ := kn_s (hi := m) H S (by omega) (by rw [h1, cn_of hp]; exact hE) h2
    have T := da_c o5 (by omega) o1 o4 h7 (by decide)
    have y8 : z190.toInt = O := by rw [h8, cn_of hp, o3]; exact hO
    have y10 : z193.toInt = O := by rw [h10, cn_of hp, o3]; exact hO
    obtain ⟨u, hw, hu⟩ := sS (by omega)
    have SL := str_l H hp hu o2 h12 h13 h14
    rw [hw, e0, e1, ev]
    exact da_str T (o2.le (Nat.le_refl _) hm) o3 (bad_r h17 (by decide)).2 (fun _ => (bad_r h17 (by decide)).1) (fun _ => Or.inr ⟨fun w => by rw [hc0 h15] at w; exact absurd w.1 (by decide), (bad_r h17 (by decide)).1⟩) (fun _ => by rw [hc0 h15, wds_f]) (fun w => absurd w (by decide))
  · exfalso; omega
  · exfalso; omega
  · obtain ⟨o1, o2, o3, o4, o5⟩ := kn_s (hi := m) H S (by omega) (by rw [h1, cn_of hp]; exact hE) h2
    have T := da_c o5 (by omega) o1 o4 h7 (by decide)
    have y8 : z190.toInt = O := by rw [h8, cn_of hp, o3]; exact hO
    have y10 : z193.toInt = O := by rw [h10, cn_of hp, o3]; exact hO
    obtain ⟨u, hw, hu⟩ := sS (by omega)
    have SL := str_l H hp hu o2 h12 h13 h14
    rw [hw, e0, e1, ev]
    exact da_str T (o2.le (Nat.le_refl _) hm) o3 SmK.rf id (fun y => Or.inl ⟨⟨hc1 h15, by have q4 : (4096 : Int32).toInt = 4096 := rfl; omega⟩, y⟩) (fun _ => by rw [hc1 h15, wds_t]; exact dv4 h18 h19 (by decide)) (fun w => absurd w (by decide))
  · exfalso; omega
  · obtain ⟨o1, o2, o3, o4, o5⟩ := kn_s (hi := m) H S (by omega) (by rw [h1, cn_of hp]; exact hE) h2
    have T := da_c o5 (by omega) o1 o4 h7 (by decide)
    have y8 : z190.toInt = O := by rw [h8, cn_of hp, o3]; exact hO
    have y10 : z193.toInt = O := by rw [h10, cn_of hp, o3]; exact hO
    obtain ⟨u, hw, hu⟩ := sS (by omega)
    have SL := str_l H hp hu o2 h12 h13 h14
    rw [hw, e0, e1, ev]
    exact da_str T (o2.le (Nat.le_refl _) hm) o3 (bad_r h18 (by decide)).2 (fun _ => (bad_r h18 (by decide)).1) (fun _ => Or.inr ⟨fun w => by have := w.2; have q4 : (4096 : Int32).toInt = 4096 := rfl; omega, (bad_r h18 (by decide)).1⟩) (fun _ => by rw [hc1 h15, wds_t]; exact dv4 h20 h21 (by decide)) (fun w => absurd w (by decide))
  · obtain ⟨o1, o2, o3, o4, o5⟩ := kn_s (hi := m) H S (by omega) (by rw [h1, cn_of hp]; exact hE) h2
    have T := da_c o5 (by omega) o1 o4 h7 (by decide)
    have y8 : z190.toInt = O := by rw [h8, cn_of hp, o3]; exact hO
    obtain ⟨l, hw, hr, hl⟩ := sL (by omega)
    obtain ⟨cf2, s, g1, g2, g3, g4, g5, g6, g7, g8, g9⟩ := da_73 (x3 := (4096 : Int32)) (p0 := p0) (ma' := ma') (v := v) H hc0 hc1 T.2.2.2.2 l m' (0 : Int32) z274 m hi 0 ma87 cf167 hQ hr (by rw [h10, cn_of hp, o2 18 lo (by omega)]; exact rep_kp _ _ _ _ _ _ hl (fun _ => (FrM.ag o2 (Or.inr (Nat.le_refl _)) : AgF na ma na ma87 m hi (-1)).rt (Or.inl (by omega))) (fun z => absurd z (by decide))) hh T.2.1 rfl (by omega) hm T.2.2.2.1
    rw [hw, g1]
    exact da_lst T ((o2.le (Nat.le_refl _) hm).tr (g3.le (by omega) (Nat.le_refl _))) (g4.trans o3) g5 g2 g6 g7 g8 g9
  · obtain ⟨o1, o2, o3, o4, o5⟩ := kn_s (hi := m) H S (by omega) (by rw [h1, cn_of hp]; exact hE) h2
    have T := da_b o5 ⟨by omega, h5⟩ o1 o4
    have y6 : z277.toInt = O := by rw [h6, cn_of hp, o3]; exact hO
    have y8 : z280.toInt = O := by rw [h8, cn_of hp, o3]; exact hO
    rw [sR (by omega), e0, e1, ev]
    exact da_row T (o2.le (Nat.le_refl _) hm) o3 (fun _ => by rw [hc0 h11, wds_f]) (fun w => by exfalso; omega)
  · obtain ⟨o1, o2, o3, o4, o5⟩ := kn_s (hi := m) H S (by omega) (by rw [h1, cn_of hp]; exact hE) h2
    have T := da_b o5 ⟨by omega, h5⟩ o1 o4
    have y6 : z277.toInt = O := by rw [h6, cn_of hp, o3]; exact hO
    have y8 : z280.toInt = O := by rw [h8, cn_of hp, o3]; exact hO
    rw [sR (by omega), e0, e1, ev]
    exact da_row T (o2.le (Nat.le_refl _) hm) o3 (fun _ => by rw [hc1 h11, wds_t]; exact dv4 h12 h13 ⟨by omega, by omega⟩) (fun w => by exfalso; omega)
  · exfalso; omega
  · exfalso; omega
  · obtain ⟨o1, o2, o3, o4, o5⟩ := kn_s (hi := m) H S (by omega) (by rw [h1, cn_of hp]; exact hE) h2
    have T := da_b o5 ⟨by omega, h5⟩ o1 o4
    have y6 : z277.toInt = O := by rw [h6, cn_of hp, o3]; exact hO
    have y8 : z280.toInt = O := by rw [h8, cn_of hp, o3]; exact hO
    obtain ⟨u, hw, hu⟩ := sS (by omega)
    have SL := str_l H hp hu o2 h10 h11 h12
    rw [hw, e0, e1, ev]
    exact da_str T (o2.le (Nat.le_refl _) hm) o3 (bad_r h15 (by decide)).2 (fun _ => (bad_r h15 (by decide)).1) (fun _ => Or.inr ⟨fun w => by rw [hc0 h13] at w; exact absurd w.1 (by decide), (bad_r h15 (by decide)).1⟩) (fun _ => by rw [hc0 h13, wds_f]) (fun w => by exfalso; omega)
  · exfalso; omega
  · exfalso; omega
  · exfalso; omega
  · exfalso; omega
  · exfalso; omega
  · exfalso; omega
  · exfalso; omega
  · exfalso; omega
  · obtain ⟨o1, o2, o3, o4, o5⟩ := kn_s (hi := m) H S (by omega) (by rw [h1, cn_of hp]; exact hE) h2
    have T := da_b o5 ⟨by omega, h5⟩ o1 o4
    have y6 : z277.toInt = O := by rw [h6, cn_of hp, o3]; exact hO
    have y8 : z280.toInt = O := by rw [h8, cn_of hp, o3]; exact hO
    obtain ⟨u, hw, hu⟩ := sS (by omega)
    have SL := str_l H hp hu o2 h10 h11 h12
    rw [hw, e0, e1, ev]
    exact da_str T (o2.le (Nat.le_refl _) hm) o3 SmK.rf id (fun y => Or.inl ⟨⟨hc1 h13, by omega⟩, y⟩) (fun _ => by rw [hc1 h13, wds_t]; exact dv4 h18 h19 ⟨by omega, by omega⟩) (fun w => by exfalso; omega)
  · exfalso; omega
  · exfalso; omega
  · exfalso; omega
  · obtain ⟨o1, o2, o3, o4, o5⟩ := kn_s (hi := m) H S (by omega) (by rw [h1, cn_of hp]; exact hE) h2
    have T := da_b o5 ⟨by omega, h5⟩ o1 o4
    have y6 : z277.toInt = O := by rw [h6, cn_of hp, o3]; exact hO
    have y8 : z280.toInt = O := by rw [h8, cn_of hp, o3]; exact hO
    obtain ⟨u, hw, hu⟩ := sS (by omega)
    have SL := str_l H hp hu o2 h10 h11 h12
    rw [hw, e0, e1, ev]
    exact da_str T (o2.le (Nat.le_refl _) hm) o3 (bad_r h17 (by decide)).2 (fun _ => (bad_r h17 (by decide)).1) (fun _ => Or.inr ⟨fun w => by have := w.2; skip; omega, (bad_r h17 (by decide)).1⟩) (fun _ => by rw [hc1 h13, wds_t]; exact dv4 h20 h21 ⟨by omega, by omega⟩) (fun w => by exfalso; omega)
  · exfalso; omega
  · exfalso; omega
  · obtain ⟨o1, o2, o3, o4, o5⟩ := kn_s (hi := m) H S (by omega) (by rw [h1, cn_of hp]; exact hE) h2
    have T := da_b o5 ⟨by omega, h5⟩ o1 o4
    have y6 : z277.toInt = O := by rw [h6, cn_of hp, o3]; exact hO
    obtain ⟨l, hw, hr, hl⟩ := sL (by omega)
    obtain ⟨cf2, s, g1, g2, g3, g4, g5, g6, g7, g8, g9⟩ := da_73 (x3 := (cf88 57)) (p0 := p0) (ma' := ma') (v := v) H hc0 hc1 T.2.2.2.2 l m' (0 : Int32) z397 m hi 0 ma87 cf88 hQ hr (by rw [h8, cn_of hp, o2 18 lo (by omega)]; exact rep_kp _ _ _ _ _ _ hl (fun _ => (FrM.ag o2 (Or.inr (Nat.le_refl _)) : AgF na ma na ma87 m hi (-1)).rt (Or.inl (by omega))) (fun z => absurd z (by decide))) hh T.2.1 rfl (by omega) hm T.2.2.2.1
    rw [hw, g1]
    exact da_lst T ((o2.le (Nat.le_refl _) hm).tr (g3.le (by omega) (Nat.le_refl _))) (g4.trans o3) g5 g2 g6 g7 g8 g9
  · obtain ⟨o1, o2, o3, o4, o5⟩ := kn_s (hi := m) H S (by omega) (by rw [h1, cn_of hp]; exact hE) h2
    have T := da_c o5 (by omega) o1 o4 h8 (by decide)
    have y9 : z428.toInt = O := by rw [h9, cn_of hp, o3]; exact hO
    have y11 : z431.toInt = O := by rw [h11, cn_of hp, o3]; exact hO
    rw [sR (by omega), e0, e1, ev]
    exact da_row T (o2.le (Nat.le_refl _) hm) o3 (fun _ => by rw [hc0 h13, wds_f]) (fun w => absurd w (by decide))
  · obtain ⟨o1, o2, o3, o4, o5⟩ := kn_s (hi := m) H S (by omega) (by rw [h1, cn_of hp]; exact hE) h2
    have T := da_c o5 (by omega) o1 o4 h8 (by decide)
    have y9 : z428.toInt = O := by rw [h9, cn_of hp, o3]; exact hO
    have y11 : z431.toInt = O := by rw [h11, cn_of hp, o3]; exact hO
    rw [sR (by omega), e0, e1, ev]
    exact da_row T (o2.le (Nat.le_refl _) hm) o3 (fun _ => by rw [hc1 h13, wds_t]; exact dv4 h14 h15 (by decide)) (fun w => absurd w (by decide))
  · obtain ⟨o1, o2, o3, o4, o5⟩ := kn_s (hi := m) H S (by omega) (by rw [h1, cn_of hp]; exact hE) h2
    have T := da_c o5 (by omega) o1 o4 h8 (by decide)
    have y9 : z428.toInt = O := by rw [h9, cn_of hp, o3]; exact hO
    have y11 : z431.toInt = O := by rw [h11, cn_of hp, o3]; exact hO
    obtain ⟨u, hw, hu⟩ := sS (by omega)
    have SL := str_l H hp hu o2 h13 h14 h15
    rw [hw, e0, e1, ev]
    exact da_str T (o2.le (Nat.le_refl _) hm) o3 (bad_r h18 (by decide)).2 (fun _ => (bad_r h18 (by decide)).1) (fun _ => Or.inr ⟨fun w => by rw [hc0 h16] at w; exact absurd w.1 (by decide), (bad_r h18 (by decide)).1⟩) (fun _ => by rw [hc0 h16, wds_f]) (fun w => absurd w (by decide))
  · exfalso; omega
  · exfalso; omega
  · obtain ⟨o1, o2, o3, o4, o5⟩ := kn_s (hi := m) H S (by omega) (by rw [h1, cn_of hp]; exact hE) h2
    have T := da_c o5 (by omega) o1 o4 h8 (by decide)
    have y9 : z428.toInt = O := by rw [h9, cn_of hp, o3]; exact hO
    have y11 : z431.toInt = O := by rw [h11, cn_of hp, o3]; exact hO
    obtain ⟨u, hw, hu⟩ := sS (by omega)
    have SL := str_l H hp hu o2 h13 h14 h15
    rw [hw, e0, e1, ev]
    exact da_str T (o2.le (Nat.le_refl _) hm) o3 SmK.rf id (fun y => Or.inl ⟨⟨hc1 h16, by have q4 : (4096 : Int32).toInt = 4096 := rfl; omega⟩, y⟩) (fun _ => by rw [hc1 h16, wds_t]; exact dv4 h19 h20 (by decide)) (fun w => absurd w (by decide))
  · exfalso; omega
  · obtain ⟨o1, o2, o3, o4, o5⟩ := kn_s (hi := m) H S (by omega) (by rw [h1, cn_of hp]; exact hE) h2
    have T := da_c o5 (by omega) o1 o4 h8 (by decide)
    have y9 : z428.toInt = O := by rw [h9, cn_of hp, o3]; exact hO
    have y11 : z431.toInt = O := by rw [h11, cn_of hp, o3]; exact hO
    obtain ⟨u, hw, hu⟩ := sS (by omega)
    have SL := str_l H hp hu o2 h13 h14 h15
    rw [hw, e0, e1, ev]
    exact da_str T (o2.le (Nat.le_refl _) hm) o3 (bad_r h19 (by decide)).2 (fun _ => (bad_r h19 (by decide)).1) (fun _ => Or.inr ⟨fun w => by have := w.2; have q4 : (4096 : Int32).toInt = 4096 := rfl; omega, (bad_r h19 (by decide)).1⟩) (fun _ => by rw [hc1 h16, wds_t]; exact dv4 h21 h22 (by decide)) (fun w => absurd w (by decide))
  · obtain ⟨o1, o2, o3, o4, o5⟩ := kn_s (hi := m) H S (by omega) (by rw [h1, cn_of hp]; exact hE) h2
    have T := da_c o5 (by omega) o1 o4 h8 (by decide)
    have y9 : z428.toInt = O := by rw [h9, cn_of hp, o3]; exact hO
    obtain ⟨l, hw, hr, hl⟩ := sL (by omega)
    obtain ⟨cf2, s, g1, g2, g3, g4, g5, g6, g7, g8, g9⟩ := da_73 (x3 := (4096 : Int32)) (p0 := p0) (ma' := ma') (v := v) H hc0 hc1 T.2.2.2.2 l m' (0 : Int32) z512 m hi 0 ma87 cf405 hQ hr (by rw [h11, cn_of hp, o2 18 lo (by omega)]; exact rep_kp _ _ _ _ _ _ hl (fun _ => (FrM.ag o2 (Or.inr (Nat.le_refl _)) : AgF na ma na ma87 m hi (-1)).rt (Or.inl (by omega))) (fun z => absurd z (by decide))) hh T.2.1 rfl (by omega) hm T.2.2.2.1
    rw [hw, g1]
    exact da_lst T ((o2.le (Nat.le_refl _) hm).tr (g3.le (by omega) (Nat.le_refl _))) (g4.trans o3) g5 g2 g6 g7 g8 g9
end SC
/-! THE REFERENCE's checker: heights told ahead; what a step over statements gives -/
/-- arrays of a later time, where nothing was written in [lo, hi) -/
def RgM (na ca0 : Nat → Nat → Int32) (M0 : Nat → Int32) (ma : Nat → Nat → Int32) (lo hi : Nat) (ca1 ma1 : Nat → Nat → Int32) : Prop := ca1 39 = ca0 39 ∧ MgO na M0 (ma1 22) ∧ ∀ f i : Nat, lo ≤ i → i < hi → ma1 f i = ma f i
theorem RgM.le {na ca0 ma ca1 ma1 : Nat → Nat → Int32} {M0 : Nat → Int32} {lo hi lo' hi' : Nat} (h : RgM na ca0 M0 ma lo hi ca1 ma1) (h1 : lo ≤ lo') (h2 : hi' ≤ hi) : RgM na ca0 M0 ma lo' hi' ca1 ma1 := ⟨h.1, h.2.1, fun f i a b => h.2.2 f i (by omega) (by omega)⟩
theorem RgM.fr {na ca0 ma ma' ca1 ma1 : Nat → Nat → Int32} {M0 : Nat → Int32} {lo hi l r : Nat} (h : RgM na ca0 M0 ma' lo hi ca1 ma1) (g : FrM ma ma' l r) (q : hi ≤ l ∨ r ≤ lo) : RgM na ca0 M0 ma lo hi ca1 ma1 := ⟨h.1, h.2.1, fun f i a b => (h.2.2 f i a b).trans (g f i (by omega))⟩
/-- the height is raised to h -/
def Ups (h : Int) (a b : Nat → Int32) : Prop := (∀ j : Nat, ¬ j = 59 → b j = a j) ∧ (b 59).toInt = max (a 59).toInt h
theorem Ups.tr {h g : Int} {a b d : Nat → Int32} (x : Ups h a b) (y : Ups g b d) : Ups (max h g) a d := ⟨fun j q => (y.1 j q).trans (x.1 j q), by rw [y.2, x.2]; omega⟩
theorem Ups.nn {h : Int} {a b : Nat → Int32} (x : Ups h a b) (h0 : 0 ≤ (a 59).toInt) : 0 ≤ (b 59).toInt := by rw [x.2]; omega
theorem Ups.rf {a : Nat → Int32} (h0 : 0 ≤ (a 59).toInt) : Ups 0 a a := ⟨fun _ _ => rfl, by omega⟩
/-- the height of an expression -/
def HtX (na ca0 : Nat → Nat → Int32) (M0 : Nat → Int32) (lo hi : Nat) (p0 : Int32) (h : Int) (ma : Nat → Nat → Int32) : Prop := (0 ≤ h ∧ h ≤ 300000) ∧ ∀ (ca1 ma1 : Nat → Nat → Int32) (v : Int32), RgM na ca0 M0 ma lo hi ca1 ma1 → RX_mp_height na ma1 ca1 p0 v → v.toInt = h
/-- of a statement at node p0 -/
def Ms (na ca0 : Nat → Nat → Int32) (M0 : Nat → Int32) (lo hi : Nat) (p0 : Int32) (h : Int) (ma : Nat → Nat → Int32) : Prop := (0 ≤ h ∧ h ≤ 300000) ∧ ∀ (ca1 ma1 : Nat → Nat → Int32) (cf cf' : Nat → Int32), RgM na ca0 M0 ma lo hi ca1 ma1 → 0 ≤ (cf 59).toInt → RX_mp_measureOne na ma1 ca1 p0 cf cf' → Ups h cf cf'
/-- of a row of statements -/
def MsR (na ca0 : Nat → Nat → Int32) (M0 : Nat → Int32) (lo hi : Nat) (n : Int) (h : Int) (ma : Nat → Nat → Int32) : Prop := (0 ≤ h ∧ h ≤ 300000) ∧ ∀ (RL : T_mp_measureOne) (ca1 ma1 : Nat → Nat → Int32) (m : Nat) (q x : Int32) (cf cf' : Nat → Int32), (∀ (p : Int32) (a b : Nat → Int32), RL na ma1 ca1 p a b → RX_mp_measureOne na ma1 ca1 p a b) → RgM na ca0 M0 ma lo hi ca1 ma1 → 0 ≤ (cf 59).toInt → x.toInt = n → E_mp_measure RL na ma1 ca1 q cf' m 2 [x] [] [] [] [] cf → Ups h cf cf'
/-- of a variable at node lo, of a row of them -/
def WV (na ca0 : Nat → Nat → Int32) (M0 : Nat → Int32) (lo hi : Nat) (h : Int) (ma : Nat → Nat → Int32) : Prop := (0 ≤ h ∧ h ≤ 300000) ∧ ∀ (ca1 ma1 : Nat → Nat → Int32) (cf cf' : Nat → Int32), RgM na ca0 M0 ma lo hi ca1 ma1 → 0 ≤ (cf 59).toInt → ((ma1 22 lo).toInt = 1 → R_mp_raise na ma1 ca1 (ma1 18 lo) cf cf') → (¬ (ma1 22 lo).toInt = 1 → R_mp_raise na ma1 ca1 (-1) cf cf') → Ups h cf cf'
def WVs (na ca0 : Nat → Nat → Int32) (M0 : Nat → Int32) (lo hi : Nat) (n : Int) (h : Int) (ma : Nat → Nat → Int32) : Prop := (0 ≤ h ∧ h ≤ 300000) ∧ ∀ (RL : T_mp_measureOne) (ca1 ma1 : Nat → Nat → Int32) (m : Nat) (q x : Int32) (cf cf' : Nat → Int32), RgM na ca0 M0 ma lo hi ca1 ma1 → 0 ≤ (cf 59).toInt → x.toInt = n → E_mp_measureOne RL na ma1 ca1 q cf' m 109 [x] [] [] [] [] cf → Ups h cf cf'
section SD
variable {tf : Nat → Int32} {ta na ca ca0 ca1 ma ma' ma1 : Nat → Nat → Int32} {vl M0 : Nat → Int32} {k : Nat → Int} {ql : Nat → Int} {c sc lo hi mid : Nat} {n38 : Int32} {F : Int32 → Option Fnc} {cf cf' cf1 : Nat → Int32} {L : Nms} {p0 p1 v : Int32} {e : Ast} {h0 h1 h2 : Int}
theorem raise_x (X : HtX na ca0 M0 lo hi p0 h0 ma) (g : RgM na ca0 M0 ma lo hi ca1 ma1) (hp : 0 ≤ p0.toInt) (h : R_mp_raise na ma1 ca1 p0 cf cf') : Ups h0 cf cf' := by
  rcases h with (⟨g1, v4, g2, (⟨g3, e0⟩ | ⟨g3, e0⟩)⟩ | ⟨g1, (⟨g2, e0⟩ | ⟨g2, e0⟩)⟩) | h
  · have y := X.2 ca1 ma1 v4 g g2
    rw [e0]
    exact ⟨fun j q => pk_un q, by rw [pk_us]; omega⟩
  · have y := X.2 ca1 ma1 v4 g g2
    rw [e0]
    exact ⟨fun j q => pk_un q, by rw [pk_us]; omega⟩
  · exact absurd hp g1
  · exact absurd hp g1
  · exact h.elim
theorem raise_n (hp : p0.toInt < 0) (hc : 0 ≤ (cf 59).toInt) (h : R_mp_raise na ma1 ca1 p0 cf cf') : Ups 0 cf cf' := by
  rcases h with (⟨g1, v4, g2, (⟨g3, e0⟩ | ⟨g3, e0⟩)⟩ | ⟨g1, (⟨g2, e0⟩ | ⟨g2, e0⟩)⟩) | h
  · exfalso; omega
  · exfalso; omega
  · rw [e0]
    exact ⟨fun j q => pk_un q, by rw [pk_us]; omega⟩
  · exact absurd hc g2
  · exact h.elim
theorem htx_r {a : Atr} (hO : OkE k c na ma e p0.toInt lo hi) (hh : hi ≤ 100000) (ag : AgK na ma ma' lo hi) (ha : att k vl (lkp L) F e [] 0 = some a) (nt : ∀ d : Nat, NtN na ca0 vl M0 F ma' d p0.toInt) : HtX na ca0 M0 lo hi p0 a.2.2.2 ma' := by
  have hle : lo ≤ hi := Nat.le_of_lt (oke_le hO)
  have hR' := rep_k2 _ _ _ _ _ _ hO.2.1 ag
  have bd := (att_bd e false _ 0 lo hi hR' hle).1 hO.1 a ha
  refine ⟨by omega, fun ca1 ma1 v g hr => ?_⟩
  obtain ⟨g1, g2, g3⟩ := g
  have hR1 : Rep k c na ma1 e false p0.toInt 0 lo hi := rep_k2 _ _ _ _ _ _ hR' (fun i x y => ⟨fun _ => ⟨g3 18 i x y, g3 19 i x y⟩, g3 20 i x y, g3 22 i x y⟩)
  exact ht_x (M := ma1 22) rfl e p0 v lo hi a hO.1 ⟨hle, hh⟩ hR1 ha (fun d => nt_cm g1 g2 d _ ((nt_kp (szA e) e false _ 0 lo hi (Nat.le_refl _) rfl rfl hR' g3).1 hO.1 d (nt d))) hr
theorem HtX.fr {l r : Nat} (h : HtX na ca0 M0 lo hi p0 h0 ma) (g : FrM ma ma' l r) (q : hi ≤ l ∨ r ≤ lo) : HtX na ca0 M0 lo hi p0 h0 ma' := ⟨h.1, fun ca1 ma1 v x => h.2 ca1 ma1 v (x.fr g q)⟩
theorem Ms.fr {l r : Nat} (h : Ms na ca0 M0 lo hi p0 h0 ma) (g : FrM ma ma' l r) (q : hi ≤ l ∨ r ≤ lo) : Ms na ca0 M0 lo hi p0 h0 ma' := ⟨h.1, fun ca1 ma1 a b x => h.2 ca1 ma1 a b (x.fr g q)⟩
theorem MsR.nil {n : Int} (hn : n < 0) : MsR na ca0 M0 lo hi n 0 ma := by
  refine ⟨by decide, fun RL ca1 ma1 m q x cf cf' hL hg hc hx h => ?_⟩
  rcases iv_mp_measure_2 h with ⟨m', (⟨g1, e0⟩ | ⟨g1, cf6, g2, z15, g3, hQ⟩)⟩
  · rw [e0]; exact Ups.rf hc
  · exfalso; omega
theorem MsR.cons {n : Int} {i : Nat} (hn : n = (i : Int)) (hp : p0.toInt = (i : Int)) (a : Ms na ca0 M0 lo mid p0 h1 ma) (b : MsR na ca0 M0 mid hi (na 21 i).toInt h2 ma) (hl : lo ≤ mid ∧ mid ≤ hi) : MsR na ca0 M0 lo hi n (max h1 h2) ma := by
  have a0 := a.1
  have b0 := b.1
  refine ⟨by omega, fun RL ca1 ma1 m q x cf cf' hL hg hc hx h => ?_⟩
  rcases iv_mp_measure_2 h with ⟨m', (⟨g1, e0⟩ | ⟨g1, cf6, g2, z15, g3, hQ⟩)⟩
  · exfalso; omega
  · have ex : x = p0 := Int32.toInt_inj.mp (by omega)
    have u1 := a.2 ca1 ma1 cf cf6 (hg.le (Nat.le_refl _) hl.2) hc (by rw [← ex]; exact hL x cf cf6 g2)
    have xi : x.toNatClampNeg = i := cn_of (by omega)
    rw [xi] at g3
    exact u1.tr (b.2 RL ca1 ma1 m' q z15 cf6 cf' hL (hg.le hl.1 (Nat.le_refl _)) (u1.nn hc) (by rw [g3]) hQ)
theorem MsR.fr {l r : Nat} {n : Int} (h : MsR na ca0 M0 lo hi n h0 ma) (g : FrM ma ma' l r) (q : hi ≤ l ∨ r ≤ lo) : MsR na ca0 M0 lo hi n h0 ma' := ⟨h.1, fun RL ca1 ma1 m q' x a b hL hx => h.2 RL ca1 ma1 m q' x a b hL (hx.fr g q)⟩
theorem WV.fr {l r : Nat} (h : WV na ca0 M0 lo hi h0 ma) (g : FrM ma ma' l r) (q : hi ≤ l ∨ r ≤ lo) : WV na ca0 M0 lo hi h0 ma' := ⟨h.1, fun ca1 ma1 a b x => h.2 ca1 ma1 a b (x.fr g q)⟩
theorem WVs.nil {n : Int} (hn : n < 0) : WVs na ca0 M0 lo hi n 0 ma := by
  refine ⟨by decide, fun RL ca1 ma1 m q x cf cf' hg hc hx h => ?_⟩
  rcases iv_mp_measureOne_109 h with ⟨m', (⟨g1, e0⟩ | ⟨g1, z5, g2, (⟨g3, cf9, g4, z18, g5, hQ⟩ | ⟨g3, z19, g4, cf21, g5, z30, g6, hQ⟩)⟩)⟩
  · rw [e0]; exact Ups.rf hc
  · exfalso; omega
  · exfalso; omega
theorem WVs.cons {n : Int} (hn : n = (lo : Int)) (a : WV na ca0 M0 lo mid h1 ma) (b : WVs na ca0 M0 mid hi (na 21 lo).toInt h2 ma) (hl : lo ≤ mid ∧ mid ≤ hi) : WVs na ca0 M0 lo hi n (max h1 h2) ma := by
  have a0 := a.1
  have b0 := b.1
  refine ⟨by omega, fun RL ca1 ma1 m q x cf cf' hg hc hx h => ?_⟩
  have xi : x.toNatClampNeg = lo := cn_of (by omega)
  rcases iv_mp_measureOne_109 h with ⟨m', (⟨g1, e0⟩ | ⟨g1, z5, g2, (⟨g3, cf9, g4, z18, g5, hQ⟩ | ⟨g3, z19, g4, cf21, g5, z30, g6, hQ⟩)⟩)⟩
  · exfalso; omega
  · rw [xi] at g2 g5
    rw [g2] at g3
    have u1 := a.2 ca1 ma1 cf cf9 (hg.le (Nat.le_refl _) hl.2) hc (fun w => absurd w g3) (fun _ => g4)
    exact u1.tr (b.2 RL ca1 ma1 m' q z18 cf9 cf' (hg.le hl.1 (Nat.le_refl _)) (u1.nn hc) (by rw [g5]) hQ)
  · rw [xi] at g2 g4 g6
    rw [g2] at g3
    rw [g4] at g5
    have u1 := a.2 ca1 ma1 cf cf21 (hg.le (Nat.le_refl _) hl.2) hc (fun _ => g5) (fun w => absurd g3 w)
    exact u1.tr (b.2 RL ca1 ma1 m' q z30 cf21 cf' (hg.le hl.1 (Nat.le_refl _)) (u1.nn hc) (by rw [g6]) hQ)
end SD
/-- fields that statements leave alone -/
def DfS (a b : Nat → Int32) : Prop := ∀ j : Nat, ¬ j = 30 → ¬ j = 31 → ¬ j = 33 → ¬ j = 42 → ¬ j = 48 → ¬ j = 54 → ¬ j = 57 → ¬ j = 58 → b j = a j
theorem DfS.rf {a : Nat → Int32} : DfS a a := fun _ _ _ _ _ _ _ _ _ => rfl
theorem DfS.tr {a b d : Nat → Int32} (h : DfS a b) (g : DfS b d) : DfS a d := fun j h1 h2 h3 h4 h5 h6 h7 h8 => (g j h1 h2 h3 h4 h5 h6 h7 h8).trans (h j h1 h2 h3 h4 h5 h6 h7 h8)
theorem SmK.df {a b : Nat → Int32} (h : SmK a b) : DfS a b := fun j h1 h2 _ _ _ _ _ _ => h j h1 h2
theorem D57.df {a b : Nat → Int32} (h : D57 a b) : DfS a b := fun j h1 h2 _ _ _ _ h7 _ => h j h1 h2 h7
/-- a step over [lo, hi) from the names L: its meaning x; W: the height that it adds -/
def OkZ (k : Nat → Int) (vl : Nat → Int32) (c : Nat) (na ca0 : Nat → Nat → Int32) (n38 : Int32) (M0 : Nat → Int32) (L : Nms) (sc lo hi : Nat) (W : Int → (Nat → Nat → Int32) → Prop) (tp : Bool) (x : Sg → Option Sg) (ma : Nat → Nat → Int32) (cf : Nat → Int32) (ma' : Nat → Nat → Int32) (cf' : Nat → Int32) (ca' : Nat → Nat → Int32) : Prop := ∃ X : Nms, CkS k vl c na ca0 n38 M0 (L ++ X) sc cf' ca' ma' ∧ (L ++ X).length ≤ hi ∧ FrM ma ma' lo hi ∧ DfS cf cf' ∧ (0 ≤ (cf' 42).toInt ∧ (cf' 42).toInt ≤ 5000 * (hi : Int)) ∧ ∀ s : Sg, s.1 = L → AC cf cf' (x s) (fun s' => s'.1 = L ++ X ∧ s'.2.1 = s.2.1 + ((cf' 42).toInt - (cf 42).toInt) ∧ s'.2.2.2 = s.2.2.2 ∧ (tp = false → 0 ≤ s.2.2.1 → ∃ h : Int, s'.2.2.1 = max s.2.2.1 h ∧ 0 ≤ h ∧ W h ma'))
section SE
variable {tf : Nat → Int32} {ta na ca ca0 ca1 ca' ma ma' ma1 : Nat → Nat → Int32} {vl M0 : Nat → Int32} {k : Nat → Int} {ql : Nat → Int} {c sc lo hi mid : Nat} {n38 : Int32} {F : Int32 → Option Fnc} {cf cf' cf1 : Nat → Int32} {L : Nms} {p0 p1 v : Int32} {e : Ast} {tp : Bool} {x f : Sg → Option Sg} {W W1 W2 : Int → (Nat → Nat → Int32) → Prop}
theorem OkZ.seq (a : OkZ k vl c na ca0 n38 M0 L sc lo mid W1 tp x ma cf ma1 cf1 ca1) (b : ∀ X1 : Nms, CkS k vl c na ca0 n38 M0 (L ++ X1) sc cf1 ca1 ma1 → (L ++ X1).length ≤ mid → (0 ≤ (cf1 42).toInt ∧ (cf1 42).toInt ≤ 5000 * (mid : Int)) → OkZ k vl c na ca0 n38 M0 (L ++ X1) sc mid hi W2 tp f ma1 cf1 ma' cf' ca') (hl : lo ≤ mid ∧ mid ≤ hi) (hW : ∀ h1 h2 : Int, 0 ≤ h1 → 0 ≤ h2 → FrM ma1 ma' mid hi → W1 h1 ma1 → W2 h2 ma' → W (max h1 h2) ma') : OkZ k vl c na ca0 n38 M0 L sc lo hi W tp (fun s => (x s).bind f) ma cf ma' cf' ca' := by
  obtain ⟨X1, a1, a2, a3, a4, a5, a6⟩ := a
  obtain ⟨X2, b1, b2, b3, b4, b5, b6⟩ := b X1 a1 a2 a5
  refine ⟨X1 ++ X2, by rw [← List.append_assoc]; exact b1, by rw [← List.append_assoc]; exact b2, (a3.le (Nat.le_refl _) hl.2).tr (b3.le hl.1 (Nat.le_refl _)), a4.tr b4, b5, fun s hs => ?_⟩
  refine AC.bind (a6 s hs) (fun s1 q => ?_) (b6 (L ++ X1, 0, 0, [], false) rfl).1
  obtain ⟨q1, q2, q3, q4⟩ := q
  refine (b6 s1 q1).imp (fun s2 r => ⟨by rw [r.1, List.append_assoc], by rw [r.2.1, q2]; omega, r.2.2.1.trans q3, fun ht h0 => ?_⟩)
  obtain ⟨h1, g1, g2, g3⟩ := q4 ht h0
  obtain ⟨h2, g4, g5, g6⟩ := r.2.2.2 ht (by omega)
  exact ⟨max h1 h2, by rw [g4, g1]; omega, by omega, hW h1 h2 g2 g5 b3 g3 g6⟩
theorem OkZ.mp {x' : Sg → Option Sg} {W' : Int → (Nat → Nat → Int32) → Prop} {lo' hi' : Nat} (a : OkZ k vl c na ca0 n38 M0 L sc lo hi W tp x ma cf ma' cf' ca') (hx : ∀ s : Sg, s.1 = L → x' s = x s) (hW : ∀ h : Int, 0 ≤ h → W h ma' → W' h ma') (h1 : lo' ≤ lo) (h2 : hi ≤ hi') : OkZ k vl c na ca0 n38 M0 L sc lo' hi' W' tp x' ma cf ma' cf' ca' := by
  obtain ⟨X, a1, a2, a3, a4, a5, a6⟩ := a
  refine ⟨X, a1, by omega, a3.le h1 h2, a4, by omega, fun s hs => ?_⟩
  rw [hx s hs]
  refine (a6 s hs).imp (fun s' r => ⟨r.1, r.2.1, r.2.2.1, fun ht h0 => ?_⟩)
  obtain ⟨h, g1, g2, g3⟩ := r.2.2.2 ht h0
  exact ⟨h, g1, g2, hW h g2 g3⟩
/-- nothing is done -/
theorem OkZ.nop (S : CkS k vl c na ca0 n38 M0 L sc cf ca ma) (hL : L.length ≤ hi) (hw : 0 ≤ (cf 42).toInt ∧ (cf 42).toInt ≤ 5000 * (hi : Int)) (hW : tp = false → W 0 ma) : OkZ k vl c na ca0 n38 M0 L sc lo hi W tp (fun s => some s) ma cf ma cf ca := by
  refine ⟨[], by rw [List.append_nil]; exact S, by rw [List.append_nil]; exact hL, FrM.rf, DfS.rf, hw, fun s hs => AC.ret ⟨by rw [List.append_nil]; exact hs, by omega, rfl, fun ht h0 => ⟨0, by omega, Int.le_refl _, hW ht⟩⟩⟩
/-- an expression, its height counts -/
theorem e_t {g : Atr → Option Atr} {N : Atr → Prop} (hg : ∀ a b : Atr, g a = some b → b.2.2.2 = a.2.2.2) (hO : OkE k c na ma e p0.toInt lo hi) (hh : hi ≤ 100000) (hL : L.length ≤ hi) (hw : 0 ≤ (cf 42).toInt ∧ (cf 42).toInt ≤ 5000 * (hi : Int)) (o1 : SmK cf cf') (o2 : FrM ma ma' lo hi) (o3 : AgK na ma ma' lo hi) (o4 : CkS k vl c na ca0 n38 M0 L sc cf' ca ma') (o5 : AC cf cf' ((att k vl (lkp L) F e [] 0).bind g) N) (o6 : Uc cf' → ∀ d : Nat, NtN na ca0 vl M0 F ma' d p0.toInt) : OkZ k vl c na ca0 n38 M0 L sc lo hi (HtX na ca0 M0 lo hi p0) tp (fun s => semE k vl F g e s) ma cf ma' cf' ca := by
  have e42 : cf' 42 = cf 42 := o1 42 (by decide) (by decide)
  refine ⟨[], by rw [List.append_nil]; exact o4, by rw [List.append_nil]; exact hL, o2, o1.df, by rw [e42]; exact hw, fun s hs => ?_⟩
  have es : semE k vl F g e s = ((att k vl (lkp L) F e [] 0).bind g).bind fun a => some (s.1, s.2.1, max s.2.2.1 a.2.2.2, s.2.2.2) := by unfold semE; rw [hs]
  show AC cf cf' (semE k vl F g e s) _
  rw [es]
  refine AC.of o5.1 (fun u => ?_)
  cases hz : (att k vl (lkp L) F e [] 0).bind g with
  | none => exact Or.inl ⟨rfl, o5.n u hz⟩
  | some b =>
    have w := o5.y u hz
    refine Or.inr ⟨(s.1, s.2.1, max s.2.2.1 b.2.2.2, s.2.2.2), rfl, w.1, by rw [List.append_nil]; exact hs, by rw [e42]; show s.2.1 = _; omega, rfl, fun _ _ => ⟨b.2.2.2, rfl, ?_⟩⟩
    cases ha : att k vl (lkp L) F e [] 0 with
    | none => rw [ha] at hz; exact absurd hz (by simp)
    | some a =>
      rw [ha] at hz
      have hb := hg a b hz
      have y := htx_r hO hh o3 ha (o6 w.1)
      rw [← hb] at y
      exact ⟨y.1.1, y⟩
theorem num_e (a b : Atr) (h : aNum a = some b) : b.2.2.2 = a.2.2.2 := num_h h
theorem eff_e (a b : Atr) (h : aEff a = some b) : b.2.2.2 = a.2.2.2 := by
  unfold aEff at h
  split at h
  · exact absurd h (by simp)
  · injection h with h; rw [h]
theorem nu_t (H : TxH tf ta na ca0 k vl ql c n38 M0 F) (S : CkS k vl c na ca0 n38 M0 L sc cf ca ma) (hO : OkE k c na ma e p0.toInt lo hi) (hh : hi ≤ 100000) (hL : L.length ≤ hi) (hw : 0 ≤ (cf 42).toInt ∧ (cf 42).toInt ≤ 5000 * (hi : Int)) (h : RX_mp_check tf ta na ca p0 (1 : Int32) ma cf ma' cf' v) : OkZ k vl c na ca0 n38 M0 L sc lo hi (HtX na ca0 M0 lo hi p0) tp (fun s => semE k vl F aNum e s) ma cf ma' cf' ca := by
  obtain ⟨o1, o2, o3, o4, o5, o6⟩ := ex_s H S true hh hO (by decide) h
  rw [bd_t] at o5
  exact e_t num_e hO hh hL hw o1 o2 o3 o4 o5 o6
theorem al_t (H : TxH tf ta na ca0 k vl ql c n38 M0 F) (S : CkS k vl c na ca0 n38 M0 L sc cf ca ma) (hO : OkE k c na ma e p0.toInt lo hi) (hh : hi ≤ 100000) (hL : L.length ≤ hi) (hw : 0 ≤ (cf 42).toInt ∧ (cf 42).toInt ≤ 5000 * (hi : Int)) (h : R_mp_checkAlone tf ta na ca p0 ma cf ma' cf') : OkZ k vl c na ca0 n38 M0 L sc lo hi (HtX na ca0 M0 lo hi p0) tp (fun s => semE k vl F aEff e s) ma cf ma' cf' ca := by
  obtain ⟨o1, o2, o3, o4, o5, o6⟩ := al_s H S hh hO h
  exact e_t eff_e hO hh hL hw o1 o2 o3 o4 o5 o6
end SE
/-! THE REFERENCE's checker: variables -/
theorem opt_c {α : Type} (y : Option α) : y = none ∨ ∃ n : α, y = some n := by
  cases y with
  | none => exact Or.inl rfl
  | some n => exact Or.inr ⟨n, rfl⟩
theorem bnd_sw {α β γ : Type} {x : Option α} {y : Option β} {f : α → β → Option γ} : (x.bind fun a => y.bind fun b => f a b) = (y.bind fun b => x.bind fun a => f a b) := by
  cases x <;> cases y <;> rfl
theorem ac_h {a b : Nat → Int32} {x : Option Atr} {g : Atr → Option Atr} {M : Atr → Prop} (h : AC a b (x.bind g) M) (hg : ∀ a b : Atr, g a = some b → b.2.2.2 = a.2.2.2) : AC a b (x.bind g) (fun y => ∃ z : Atr, x = some z ∧ y.2.2.2 = z.2.2.2) := by
  refine AC.of h.1 (fun u => ?_)
  rcases opt_c (x.bind g) with hy | ⟨n, hy⟩
  · exact Or.inl ⟨hy, h.n u hy⟩
  · refine Or.inr ⟨n, hy, (h.y u hy).1, ?_⟩
    rcases opt_c x with hx | ⟨z, hx⟩
    · rw [hx] at hy; exact absurd hy (by simp)
    · rw [hx] at hy
      exact ⟨z, hx, hg z n hy⟩
section SF
variable {tf : Nat → Int32} {ta na ca ca0 ca' ma ma' : Nat → Nat → Int32} {vl M0 : Nat → Int32} {k : Nat → Int} {ql : Nat → Int} {c sc lo hi mid t : Nat} {n38 : Int32} {F : Int32 → Option Fnc} {cf cf' : Nat → Int32} {L : Nms} {p0 p1 v : Int32} {e : Ast} {tp ch : Bool}
theorem sv_s {s : Sg} : semVar k vl ql F tp ch sc (vSing t) s = (dcl tp F sc s.1 (vl t) (1, 0)).bind fun L => some (L, s.2.1 + 1, s.2.2) := by first | rfl | simp [semVar, vSing]
theorem sv_i {s : Sg} : semVar k vl ql F tp ch sc (vInit t e) s = ((att k vl (lkp s.1) F e [] 0).bind (if tp = true then aKon else aNum)).bind fun a => (dcl tp F sc s.1 (vl t) (1, 0)).bind fun L => some (L, s.2.1 + 1, if tp = true then s.2.2.1 else max s.2.2.1 a.2.2.2, s.2.2.2) := by first | rfl | simp [semVar, vInit]
theorem sv_r {s : Sg} : semVar k vl ql F tp ch sc (vRow t e) s = (dcl tp F sc s.1 (vl t) (if ch = true then 3 else 2, 0)).bind fun L => (semAr k vl ql (lkp s.1) F ch (vRow t e)).bind fun n => some (L, s.2.1 + wds ch n, s.2.2) := by
  rw [← bnd_sw]
  first | rfl | simp [semVar, vRow, semAr]
theorem sv_l {s : Sg} {l : Ast} : semVar k vl ql F tp ch sc (vList t e l) s = (dcl tp F sc s.1 (vl t) (if ch = true then 3 else 2, 0)).bind fun L => (semAr k vl ql (lkp s.1) F ch (vList t e l)).bind fun n => some (L, s.2.1 + wds ch n, s.2.2) := by
  have e1 : semVar k vl ql F tp ch sc (vList t e l) s = (semSz k vl (lkp s.1) F e).bind fun n => (semKs k vl (lkp s.1) F l).bind fun m => if m ≤ n then (dcl tp F sc s.1 (vl t) (if ch = true then 3 else 2, 0)).bind fun L => some (L, s.2.1 + wds ch n, s.2.2) else none := by first | rfl | simp [semVar, vList]
  have e2 : semAr k vl ql (lkp s.1) F ch (vList t e l) = (semSz k vl (lkp s.1) F e).bind fun n => (semKs k vl (lkp s.1) F l).bind fun m => if m ≤ n then some n else none := by first | rfl | simp [semAr, vList]
  rw [← bnd_sw, e1, e2]
  cases semSz k vl (lkp s.1) F e with
  | none => rfl
  | some n =>
    cases semKs k vl (lkp s.1) F l with
    | none => rfl
    | some m =>
      show (if m ≤ n then _ else none) = (if m ≤ n then some n else none).bind _
      by_cases q : m ≤ n
      · rw [if_pos q, if_pos q]; rfl
      · rw [if_neg q, if_neg q]; rfl
theorem sv_t {s : Sg} {u : Nat} : semVar k vl ql F tp ch sc (vStr t e u) s = (dcl tp F sc s.1 (vl t) (if ch = true then 3 else 2, 0)).bind fun L => (semAr k vl ql (lkp s.1) F ch (vStr t e u)).bind fun n => some (L, s.2.1 + wds ch n, s.2.2) := by
  have e1 : semVar k vl ql F tp ch sc (vStr t e u) s = (semSz k vl (lkp s.1) F e).bind fun n => if ch = true ∧ ql u < n then (dcl tp F sc s.1 (vl t) (3, 0)).bind fun L => some (L, s.2.1 + wds ch n, s.2.2) else none := by first | rfl | simp [semVar, vStr]
  have e2 : semAr k vl ql (lkp s.1) F ch (vStr t e u) = (semSz k vl (lkp s.1) F e).bind fun n => if ch = true ∧ ql u < n then some n else none := by first | rfl | simp [semAr, vStr]
  rw [← bnd_sw, e1, e2]
  cases semSz k vl (lkp s.1) F e with
  | none => rfl
  | some n =>
    show (if ch = true ∧ ql u < n then _ else none) = (if ch = true ∧ ql u < n then some n else none).bind _
    by_cases q : ch = true ∧ ql u < n
    · rw [if_pos q, if_pos q, if_pos q.1]; rfl
    · rw [if_neg q, if_neg q]; rfl
theorem wv_0 (hl : lo < mid) (hn : ¬ (ma 22 lo).toInt = 1) : WV na ca0 M0 lo mid 0 ma := ⟨by decide, fun ca1 ma1 cf cf' g hc _ h2 => raise_n (by decide) hc (h2 (by rw [g.2.2 22 lo (Nat.le_refl _) hl]; exact hn))⟩
/-- a variable: the name is new, y is checked, w words are taken -/
theorem v1g {α : Type} {y : Option α} {N : α → Prop} {cf7 cf8 cf9 : Nat → Int32} {ma8 ca9 : Nat → Nat → Int32} {w : Int} {g : Ent} {y0 y1 kd z5 z39 v48 : Int32} {wf : α → Int} {hf : Sg → α → Int} {x : Sg → Option Sg} (hl : lo < mid) (hm : mid ≤ 100000) (hL : L.length ≤ lo) (hw0 : 0 ≤ (cf 42).toInt ∧ (cf 42).toInt ≤ 5000 * (lo : Int)) (sm : SmK cf cf7) (d : AC cf cf7 (dcl tp F sc L (vl t) g) (fun L' => L' = L ++ [(vl t, g)])) (a : AC cf7 cf8 y N) (d8 : D58 cf7 cf8) (f8 : FrM ma ma8 (lo + 1) mid) (S8 : CkS k vl c na ca0 n38 M0 L sc cf8 ca ma8) (hz : z39.toInt = (cf8 42).toInt + w) (hw : 0 ≤ w ∧ w ≤ 4096) (hLay : R_mp_lay y0 y1 (upd cf8 42 z39) ca cf9 ca9 v48) (hKn : R_mp_know z5 kd (0 : Int32) v48 cf9 ca9 cf' ca') (ht : z5.toInt = (t : Int)) (htc : t < c) (h16 : k t = 16) (hkd : 1 ≤ kd.toInt ∧ kd.toInt ≤ 3) (hg : g = (kd.toInt, 0)) (hma : ma' = vu ma8 20 lo v48) (hx : ∀ s : Sg, s.1 = L → x s = (dcl tp F sc L (vl t) g).bind fun L' => y.bind fun n => some (L', s.2.1 + wf n, hf s n, s.2.2.2)) (hN : ∀ n : α, N n → wf n = w) (hW : ∀ (s : Sg) (n : α), N n → Uc cf8 → tp = false → 0 ≤ s.2.2.1 → ∃ h : Int, hf s n = max s.2.2.1 h ∧ 0 ≤ h ∧ WV na ca0 M0 lo mid h ma') : OkZ k vl c na ca0 n38 M0 L sc lo mid (WV na ca0 M0 lo mid) tp x ma cf ma' cf' ca' := by
  have hM : MgO na M0 (ma' 22) := fun i q => by rw [hma, vu_p (by omega)]; exact S8.2.2.2.1 i q
  obtain ⟨b1, b2⟩ := layk S8 hLay (pk_un (by decide)) (pk_un (by decide)) (pk_un (by decide)) hM hKn ht htc h16 ⟨hkd.1, by omega⟩ (by omega)
  rw [if_neg (by omega), ← hg] at b1
  have e30 : cf' 30 = cf8 30 := (b2 30 (by decide) (by decide) (by decide)).trans (pk_un (by decide))
  have e42 : cf' 42 = z39 := (b2 42 (by decide) (by decide) (by decide)).trans pk_us
  have e8 : cf8 42 = cf 42 := (d8 42 (by decide) (by decide) (by decide) (by decide)).trans (sm 42 (by decide) (by decide))
  rw [e8] at hz
  have B : Bc cf8 → Bc cf' := fun q => by unfold Bc; rw [e30]; exact q
  have U : Uc cf8 → Uc cf' := fun q => by unfold Uc; rw [e30]; exact q
  refine ⟨[(vl t, g)], b1, by rw [List.length_append]; show L.length + 1 ≤ mid; omega, fun f i q => by rw [hma, vu_at (by omega)]; exact f8 f i (by omega), fun j h1 h2 h3 h4 h5 h6 h7 h8 => ((b2 j h3 h5 h6).trans (pk_un h4)).trans ((d8 j h1 h2 h7 h8).trans (sm j h1 h2)), by rw [e42]; omega, fun s hs => ?_⟩
  rw [hx s hs]
  have a' : ∀ L' : Nms, L' = L ++ [(vl t, g)] → AC cf7 cf' (y.bind fun n => some (L', s.2.1 + wf n, hf s n, s.2.2.2)) (fun s' => s'.1 = L ++ [(vl t, g)] ∧ s'.2.1 = s.2.1 + ((cf' 42).toInt - (cf 42).toInt) ∧ s'.2.2.2 = s.2.2.2 ∧ (tp = false → 0 ≤ s.2.2.1 → ∃ h : Int, s'.2.2.1 = max s.2.2.1 h ∧ 0 ≤ h ∧ WV na ca0 M0 lo mid h ma')) := by
    intro L' q
    refine AC.of (fun b => B (a.1 b)) (fun u => ?_)
    rcases opt_c y with hy | ⟨n, hy⟩
    · exact Or.inl ⟨by rw [hy]; rfl, B (a.n u hy)⟩
    · have r := a.y u hy
      refine Or.inr ⟨(L', s.2.1 + wf n, hf s n, s.2.2.2), by rw [hy]; rfl, U r.1, q, ?_, rfl, fun ht h0 => hW s n r.2 r.1 ht h0⟩
      show s.2.1 + wf n = _
      rw [hN n r.2, e42]
      omega
  exact AC.bind d a' (a' _ rfl).1
/-- one without a value -/
theorem v1_s {cf7 cf9 : Nat → Int32} {ca9 : Nat → Nat → Int32} {y0 z5 z39 v48 : Int32} (H : TxH tf ta na ca0 k vl ql c n38 M0 F) (S : CkS k vl c na ca0 n38 M0 L sc cf ca ma) (hl : lo < mid) (hm : mid ≤ 100000) (hL : L.length ≤ lo) (hw0 : 0 ≤ (cf 42).toInt ∧ (cf 42).toInt ≤ 5000 * (lo : Int)) (htp : tp = true ↔ (cf 43).toInt < 0) (ht : z5.toInt = (t : Int)) (htc : t < c) (h16 : k t = 16) (ho : (ma 22 lo).toInt = 0) (h3 : R_mp_checkNew tf ta na ca z5 cf cf7) (hz : z39 = cf7 42 + (1 : Int32)) (hLay : R_mp_lay y0 (1 : Int32) (upd cf7 42 z39) ca cf9 ca9 v48) (hma : ma' = vu ma 20 lo v48) (hKn : R_mp_know z5 (1 : Int32) (0 : Int32) v48 cf9 ca9 cf' ca') : OkZ k vl c na ca0 n38 M0 L sc lo mid (WV na ca0 M0 lo mid) tp (fun s => semVar k vl ql F tp ch sc (vSing t) s) ma cf ma' cf' ca' := by
  obtain ⟨n1, n2⟩ := new_r H S ht htc h16 tp htp (1, 0) h3
  have e7 : cf7 42 = cf 42 := n1 42 (by decide) (by decide)
  have z1 := ti_add hz rfl (show (1 : Int32).toInt = 1 from rfl) (by rw [e7]; omega) (by rw [e7]; omega)
  refine v1g (y := some ()) (N := fun _ => True) (w := 1) (wf := fun _ => 1) (hf := fun s _ => s.2.2.1) hl hm hL hw0 n1 n2 (AC.ret trivial) (fun _ _ _ _ _ => rfl) FrM.rf (S.sm (n1 33 (by decide) (by decide)) (n1 37 (by decide) (by decide)) (n1 38 (by decide) (by decide)) S.2.2.2.1) z1 (by decide) hLay hKn ht htc h16 (by decide) rfl hma (fun s hs => ?_) (fun _ _ => rfl) (fun s n _ _ _ h0 => ⟨0, by omega, Int.le_refl _, wv_0 hl (by rw [hma, vu_p (by omega)]; omega)⟩)
  show semVar k vl ql F tp ch sc (vSing t) s = _
  rw [sv_s, hs]
  rfl
/-- one with a value -/
theorem v1_i {cf7 cf8 cf9 : Nat → Int32} {ca9 ma8 : Nat → Nat → Int32} {y0 z5 z6 z39 v48 w8 : Int32} (H : TxH tf ta na ca0 k vl ql c n38 M0 F) (S : CkS k vl c na ca0 n38 M0 L sc cf ca ma) (hl : lo < mid) (hm : mid ≤ 100000) (hL : L.length ≤ lo) (hw0 : 0 ≤ (cf 42).toInt ∧ (cf 42).toInt ≤ 5000 * (lo : Int)) (htp : tp = true ↔ (cf 43).toInt < 0) (ht : z5.toInt = (t : Int)) (htc : t < c) (h16 : k t = 16) (ho : (ma 22 lo).toInt = 1) (hO : OkE k c na ma e (ma 18 lo).toInt (lo + 1) mid) (h3 : R_mp_checkNew tf ta na ca z5 cf cf7) (hz6 : z6 = ma 18 lo) (hck : (tp = false ∧ RX_mp_check tf ta na ca z6 (1 : Int32) ma cf7 ma8 cf8 w8) ∨ (tp = true ∧ R_mp_checkConstant tf ta na ca z6 ma cf7 ma8 cf8 w8)) (hz : z39 = cf8 42 + (1 : Int32)) (hLay : R_mp_lay y0 (1 : Int32) (upd cf8 42 z39) ca cf9 ca9 v48) (hma : ma' = vu ma8 20 lo v48) (hKn : R_mp_know z5 (1 : Int32) (0 : Int32) v48 cf9 ca9 cf' ca') : OkZ k vl c na ca0 n38 M0 L sc lo mid (WV na ca0 M0 lo mid) tp (fun s => semVar k vl ql F tp ch sc (vInit t e) s) ma cf ma' cf' ca' := by
  obtain ⟨n1, n2⟩ := new_r H S ht htc h16 tp htp (1, 0) h3
  have S7 : CkS k vl c na ca0 n38 M0 L sc cf7 ca ma := S.sm (n1 33 (by decide) (by decide)) (n1 37 (by decide) (by decide)) (n1 38 (by decide) (by decide)) S.2.2.2.1
  have hO6 : OkE k c na ma e z6.toInt (lo + 1) mid := by rw [hz6]; exact hO
  have e7 : cf7 42 = cf 42 := n1 42 (by decide) (by decide)
  rcases hck with ⟨rfl, hck⟩ | ⟨rfl, hck⟩
  · obtain ⟨o1, o2, o3, o4, o5, o6⟩ := ex_s H S7 true hm hO6 (by decide) hck
    rw [bd_t] at o5
    have nm : ∀ s : Sg, s.1 = L → semVar k vl ql F false ch sc (vInit t e) s = (dcl false F sc L (vl t) (1, 0)).bind fun L' => ((att k vl (lkp L) F e [] 0).bind aNum).bind fun a => some (L', s.2.1 + 1, max s.2.2.1 a.2.2.2, s.2.2.2) := fun s hs => by
      rw [sv_i, hs, bnd_sw]
      first | rfl | simp
    have e8 : cf8 42 = cf7 42 := o1 42 (by decide) (by decide)
    have z1 := ti_add hz rfl (show (1 : Int32).toInt = 1 from rfl) (by rw [e8, e7]; omega) (by rw [e8, e7]; omega)
    refine v1g (w := 1) (wf := fun _ => 1) (hf := fun s a => max s.2.2.1 a.2.2.2) hl hm hL hw0 n1 n2 (ac_h o5 num_e) (fun j h1 h2 _ _ => o1 j h1 h2) o2 o4 z1 (by decide) hLay hKn ht htc h16 (by decide) rfl hma (fun s hs => nm s hs) (fun _ _ => rfl) (fun s n hn u _ h0 => ?_)
    obtain ⟨a, ha, hb⟩ := hn
    have y := htx_r hO6 hm o3 ha (o6 u)
    rw [← hb] at y
    have fr' : FrM ma8 ma' lo (lo + 1) := fun f i q => by rw [hma, vu_at (by omega)]
    have y' := y.fr fr' (Or.inr (Nat.le_refl _))
    have m22 : (ma' 22 lo).toInt = 1 := by rw [hma, vu_p (by omega), o2 22 lo (by omega)]; exact ho
    have m18 : ma' 18 lo = z6 := by rw [hma, vu_p (by omega), o2 18 lo (by omega), hz6]
    refine ⟨n.2.2.2, rfl, y.1.1, y.1, fun ca1 ma1 cfa cfb g hc r1 _ => ?_⟩
    have r := r1 (by rw [g.2.2 22 lo (Nat.le_refl _) hl]; exact m22)
    rw [g.2.2 18 lo (Nat.le_refl _) hl, m18] at r
    obtain ⟨j, j1, -⟩ := hO6.2.2
    exact raise_x y' (g.le (by omega) (Nat.le_refl _)) (by omega) r
  · obtain ⟨o1, o2, o3, o4, o5⟩ := kn_s H S7 hm hO6 hck
    have nm : ∀ s : Sg, s.1 = L → semVar k vl ql F true ch sc (vInit t e) s = (dcl true F sc L (vl t) (1, 0)).bind fun L' => ((att k vl (lkp L) F e [] 0).bind aKon).bind fun a => some (L', s.2.1 + 1, s.2.2.1, s.2.2.2) := fun s hs => by
      rw [sv_i, hs, bnd_sw]
      first | rfl | simp
    have e8 : cf8 42 = cf7 42 := o1 42 (by decide) (by decide) (by decide)
    have z1 := ti_add hz rfl (show (1 : Int32).toInt = 1 from rfl) (by rw [e8, e7]; omega) (by rw [e8, e7]; omega)
    exact v1g (w := 1) (wf := fun _ => 1) (hf := fun s _ => s.2.2.1) hl hm hL hw0 n1 n2 o5 (fun j h1 h2 h3 _ => o1 j h1 h2 h3) o2 o4 z1 (by decide) hLay hKn ht htc h16 (by decide) rfl hma (fun s hs => nm s hs) (fun _ _ => rfl) (fun s n hn u q h0 => absurd q (by decide))
/-- a row -/
theorem v1_a {m : Nat} {O : Int} {w : Ast} {cf7 cf8 cf9 : Nat → Int32} {ca9 ma8 : Nat → Nat → Int32} {x y0 y1 z5 z39 v48 w8 kd : Int32} (H : TxH tf ta na ca0 k vl ql c n38 M0 F) (S : CkS k vl c na ca0 n38 M0 L sc cf ca ma) (hl : lo < mid) (hm : mid ≤ 100000) (hL : L.length ≤ lo) (hw0 : 0 ≤ (cf 42).toInt ∧ (cf 42).toInt ≤ 5000 * (lo : Int)) (htp : tp = true ↔ (cf 43).toInt < 0) (ht : z5.toInt = (t : Int)) (htc : t < c) (h16 : k t = 16) (hxl : x.toInt = (lo : Int)) (hc0 : p1.toInt = 0 → ch = false) (hc1 : ¬ p1.toInt = 0 → ch = true) (hO : (ma 22 lo).toInt = O) (hE : OkE k c na ma e (na 17 lo).toInt (lo + 1) m) (hmm : m ≤ mid) (sR : O = 0 → w = vRow t e) (sS : O = 3 → ∃ u : Nat, w = vStr t e u ∧ ((ma 19 lo).toInt = (u : Int) ∧ u < c ∧ k u = 18)) (sL : O = 2 → ∃ l : Ast, w = vList t e l ∧ isRw l = true ∧ Rep k c na ma l false (ma 18 lo).toInt 0 m mid) (hOk : O = 0 ∨ O = 2 ∨ O = 3) (h3 : R_mp_checkNew tf ta na ca z5 cf cf7) (hda : R_mp_declareArray tf ta na ca x p1 ma cf7 ma8 cf8 w8) (hz : z39 = cf7 42 + w8) (hLay : R_mp_lay y0 y1 (upd cf8 42 z39) ca cf9 ca9 v48) (hma : ma' = vu ma8 20 lo v48) (hkd : kd.toInt = if ch = true then 3 else 2) (hKn : R_mp_know z5 kd (0 : Int32) v48 cf9 ca9 cf' ca') : OkZ k vl c na ca0 n38 M0 L sc lo mid (WV na ca0 M0 lo mid) tp (fun s => semVar k vl ql F tp ch sc w s) ma cf ma' cf' ca' := by
  obtain ⟨n1, n2⟩ := new_r H S ht htc h16 tp htp (if ch = true then 3 else 2, 0) h3
  have S7 : CkS k vl c na ca0 n38 M0 L sc cf7 ca ma := S.sm (n1 33 (by decide) (by decide)) (n1 37 (by decide) (by decide)) (n1 38 (by decide) (by decide)) S.2.2.2.1
  obtain ⟨o1, o2, o3, o4, o5, o6⟩ := da_r H S7 hm hxl hc0 hc1 hO hE hmm sR sS sL hOk hda
  have e7 : cf7 42 = cf 42 := n1 42 (by decide) (by decide)
  have e8 : cf8 42 = cf7 42 := o1 42 (by decide) (by decide) (by decide) (by decide)
  have z1 := ti_add hz rfl rfl (by rw [e7]; omega) (by rw [e7]; omega)
  rw [← e8] at z1
  have nm : ∀ s : Sg, s.1 = L → semVar k vl ql F tp ch sc w s = (dcl tp F sc L (vl t) (if ch = true then 3 else 2, 0)).bind fun L' => (semAr k vl ql (lkp L) F ch w).bind fun n => some (L', s.2.1 + wds ch n, s.2.2.1, s.2.2.2) := fun s hs => by
    rcases hOk with q | q | q
    · rw [sR q, sv_r, hs]
    · obtain ⟨l, hw, -⟩ := sL q
      rw [hw, sv_l, hs]
    · obtain ⟨u, hw, -⟩ := sS q
      rw [hw, sv_t, hs]
  have hk3 : 1 ≤ kd.toInt ∧ kd.toInt ≤ 3 := by
    rw [hkd]
    cases ch <;> decide
  refine v1g (w := w8.toInt) (wf := fun n => wds ch n) (hf := fun s _ => s.2.2.1) hl hm hL hw0 n1 n2 o6 o1 o2 o4 z1 o5 hLay hKn ht htc h16 hk3 (by rw [hkd]) hma nm (fun n q => q.symm) (fun s n _ _ _ h0 => ⟨0, by omega, Int.le_refl _, wv_0 hl ?_⟩)
  rw [hma, vu_p (by omega), o3, hO]
  omega
/-- a row of variables -/
theorem dc_7 {P : Nat} (H : TxH tf ta na ca0 k vl ql c n38 M0 F) (hp : p0.toInt = (P : Int)) (hp1 : tp = true ↔ ¬ p1.toInt = 0) : ∀ (vs : Ast) (m : Nat) (x : Int32) (lo hi : Nat) (ma : Nat → Nat → Int32) (cf : Nat → Int32) (ca : Nat → Nat → Int32) (L : Nms), E_mp_declare tf ta na p0 p1 ma' cf' ca' m 7 [x] [] [] [] [] ma cf ca → RowS na (RepV k c na ma) vs x.toInt lo hi → hi ≤ 100000 → P < lo → (ma 22 P).toInt = (if ch = true then 1 else 0) → CkS k vl c na ca0 n38 M0 L sc cf ca ma → L.length ≤ lo → (0 ≤ (cf 42).toInt ∧ (cf 42).toInt ≤ 5000 * (lo : Int)) → (tp = true ↔ (cf 43).toInt < 0) → OkZ k vl c na ca0 n38 M0 L sc lo hi (WVs na ca0 M0 lo hi x.toInt) tp (fun s => semVars k vl ql F tp ch sc vs s) ma cf ma' cf' ca' := by
  have c1 : (if ch = true then (1 : Int) else 0) = 1 → ch = true := by cases ch <;> simp
  have c0 : ¬ (if ch = true then (1 : Int) else 0) = 1 → ch = false := by cases ch <;> simp
  intro vs
  induction vs with
  | null =>
    intro m x lo hi ma cf ca L h hR hh hP hch S hL hw htp
    have hR' : x.toInt < 0 ∧ lo ≤ hi := hR
    rcases iv_mp_declare_7 h with ⟨m', (⟨h1, e0, e1, e2⟩ | ⟨h1, z5, h2, cf7, h3, z29, h4, (⟨h5, z32, h6, (⟨h7, z35, h8, h9, z39, h10, z40, h11, (⟨h12, cf45, ca46, v48, h13, ma73, h14, z74, h15, cf77, ca78, h16, z101, h17, hQ⟩ | ⟨h12, cf104, ca105, v107, h13, ma132, h14, z133, h15, cf136, ca137, h16, z160, h17, hQ⟩)⟩ | ⟨h7, (⟨h8, z163, h9, h10, z166, h11, ma169, cf170, v172, h12, z190, h13, z191, h14, (⟨h15, cf196, ca197, v199, h16, ma224, h17, z225, h18, cf228, ca229, h19, z252, h20, hQ⟩ | ⟨h15, cf255, ca256, v258, h16, ma283, h17, z284, h18, cf287, ca288, h19, z311, h20, hQ⟩)⟩ | ⟨h8, z312, h9, ma315, cf316, v318, h10, z332, h11, z333, h12, (⟨h13, cf338, ca339, v341, h14, ma366, h15, z367, h16, cf370, ca371, h17, z394, h18, hQ⟩ | ⟨h13, cf397, ca398, v400, h14, ma425, h15, z426, h16, cf429, ca430, h17, z453, h18, hQ⟩)⟩)⟩)⟩ | ⟨h5, z454, h6, (⟨h7, ma459, cf460, v462, h8, z489, h9, z490, h10, h11, cf495, ca496, v498, h12, ma523, h13, z524, h14, h15, z527, h16, cf530, ca531, h17, z554, h18, hQ⟩ | ⟨h7, ma557, cf558, v560, h8, z587, h9, z588, h10, h11, cf593, ca594, v596, h12, ma621, h13, z622, h14, h15, z625, h16, cf628, ca629, h17, z652, h18, hQ⟩)⟩)⟩)⟩
    · rw [e0, e1, e2]
      refine (OkZ.nop (W := WVs na ca0 M0 lo hi x.toInt) (lo := lo) (hi := hi) S (by omega) (by omega) (fun _ => WVs.nil hR'.1)).mp (fun s _ => ?_) (fun _ _ q => q) (Nat.le_refl _) (Nat.le_refl _)
      first | rfl | simp [semVars]
    all_goals (exfalso; omega)
  | add v r ihv ihr =>
    intro m x lo hi ma cf ca L h hR hh hP hch S hL hw htp
    obtain ⟨mid, r1, r2, r3, r4⟩ := hR
    obtain ⟨v1, v2, t, v3, v4⟩ := r3
    have hid := fun (_ : True) => v4
    clear v4
    have xi : x.toNatClampNeg = lo := cn_of r1
    have nxt : ∀ {ma1 : Nat → Nat → Int32} {cf1 : Nat → Int32} {ca1 : Nat → Nat → Int32} {z : Int32} {m' : Nat}, OkZ k vl c na ca0 n38 M0 L sc lo mid (WV na ca0 M0 lo mid) tp (fun s => semVar k vl ql F tp ch sc v s) ma cf ma1 cf1 ca1 → z = na 21 lo → E_mp_declare tf ta na p0 p1 ma' cf' ca' m' 7 [z] [] [] [] [] ma1 cf1 ca1 → OkZ k vl c na ca0 n38 M0 L sc lo hi (WVs na ca0 M0 lo hi x.toInt) tp (fun s => semVars k vl ql F tp ch sc (.add v r) s) ma cf ma' cf' ca' := by
      intro ma1 cf1 ca1 z m' one hz hE
      have fr : FrM ma ma1 lo mid := by obtain ⟨_, -, -, q, -⟩ := one; exact q
      have df : DfS cf cf1 := by obtain ⟨_, -, -, -, q, -⟩ := one; exact q
      have e43 : cf1 43 = cf 43 := df 43 (by decide) (by decide) (by decide) (by decide) (by decide) (by decide) (by decide) (by decide)
      refine (OkZ.seq (W := WVs na ca0 M0 lo hi x.toInt) one (fun X1 s1 s2 s3 => ihr m' z mid hi ma1 cf1 ca1 (L ++ X1) hE (by rw [hz]; exact row_kp _ _ _ _ r4 (fun _ _ _ => rfl) (fun s l h q1 q2 q3 => rpv_kp q3 (FrM.ag (r := -1) fr (Or.inr q1)) (by omega))) hh (by omega) (by rw [fr 22 P (by omega)]; exact hch) s1 s2 s3 (by rw [e43]; exact htp)) ⟨by omega, r2.2⟩ (fun h1 h2 _ _ f2 w1 w2 => ?_)).mp (fun s _ => ?_) (fun _ _ q => q) (Nat.le_refl _) (Nat.le_refl _)
      · rw [hz] at w2
        exact WVs.cons r1 (w1.fr f2 (Or.inl (Nat.le_refl _))) w2 ⟨by omega, r2.2⟩
      · first | rfl | simp [semVars]
    rcases iv_mp_declare_7 h with ⟨m', (⟨h1, e0, e1, e2⟩ | ⟨h1, z5, h2, cf7, h3, z29, h4, (⟨h5, z32, h6, (⟨h7, z35, h8, h9, z39, h10, z40, h11, (⟨h12, cf45, ca46, v48, h13, ma73, h14, z74, h15, cf77, ca78, h16, z101, h17, hQ⟩ | ⟨h12, cf104, ca105, v107, h13, ma132, h14, z133, h15, cf136, ca137, h16, z160, h17, hQ⟩)⟩ | ⟨h7, (⟨h8, z163, h9, h10, z166, h11, ma169, cf170, v172, h12, z190, h13, z191, h14, (⟨h15, cf196, ca197, v199, h16, ma224, h17, z225, h18, cf228, ca229, h19, z252, h20, hQ⟩ | ⟨h15, cf255, ca256, v258, h16, ma283, h17, z284, h18, cf287, ca288, h19, z311, h20, hQ⟩)⟩ | ⟨h8, z312, h9, ma315, cf316, v318, h10, z332, h11, z333, h12, (⟨h13, cf338, ca339, v341, h14, ma366, h15, z367, h16, cf370, ca371, h17, z394, h18, hQ⟩ | ⟨h13, cf397, ca398, v400, h14, ma425, h15, z426, h16, cf429, ca430, h17, z453, h18, hQ⟩)⟩)⟩)⟩ | ⟨h5, z454, h6, (⟨h7, ma459, cf460, v462, h8, z489, h9, z490, h10, h11, cf495, ca496, v498, h12, ma523, h13, z524, h14, h15, z527, h16, cf530, ca531, h17, z554, h18, hQ⟩ | ⟨h7, ma557, cf558, v560, h8, z587, h9, z588, h10, h11, cf593, ca594, v596, h12, ma621, h13, z622, h14, h15, z625, h16, cf628, ca629, h17, z652, h18, hQ⟩)⟩)⟩)⟩
    · exfalso; omega
    · rw [xi] at h2 h4 h6 h14 h17
      rw [h6] at h7
      rw [h4] at h5
      rcases hid trivial with ⟨a1, a2, a3⟩ | ⟨e, a1, a2, a3, a4⟩ | ⟨e, a1, a2, a3⟩ | ⟨e, l, q, a1, a2, a3, a4, a5⟩ | ⟨e, u, a1, a2, a3, a4⟩
      · subst a1
        exact nxt (v1_s H S v1 (by omega) hL hw htp (by rw [h2]; exact v3.1) v3.2.1 v3.2.2 a2 h3 h10 h13 h14 h16) h17 hQ
      · exact absurd a2 h7
      · exfalso; obtain ⟨j, j1, -⟩ := a3.2.2; omega
      · exfalso; obtain ⟨j, j1, -⟩ := a3.2.2; omega
      · exfalso; obtain ⟨j, j1, -⟩ := a3.2.2; omega
    · rw [xi] at h2 h4 h6 h14 h17
      rw [h6] at h7
      rw [h4] at h5
      rcases hid trivial with ⟨a1, a2, a3⟩ | ⟨e, a1, a2, a3, a4⟩ | ⟨e, a1, a2, a3⟩ | ⟨e, l, q, a1, a2, a3, a4, a5⟩ | ⟨e, u, a1, a2, a3, a4⟩
      · subst a1
        exact nxt (v1_s H S v1 (by omega) hL hw htp (by rw [h2]; exact v3.1) v3.2.1 v3.2.2 a2 h3 h10 h13 h14 h16) h17 hQ
      · exact absurd a2 h7
      · exfalso; obtain ⟨j, j1, -⟩ := a3.2.2; omega
      · exfalso; obtain ⟨j, j1, -⟩ := a3.2.2; omega
      · exfalso; obtain ⟨j, j1, -⟩ := a3.2.2; omega
    · rw [xi] at h2 h4 h6 h11 h17 h20
      rw [h6] at h7
      rw [h4] at h5
      rcases hid trivial with ⟨a1, a2, a3⟩ | ⟨e, a1, a2, a3, a4⟩ | ⟨e, a1, a2, a3⟩ | ⟨e, l, q, a1, a2, a3, a4, a5⟩ | ⟨e, u, a1, a2, a3, a4⟩
      · exfalso; omega
      · subst a1
        exact nxt (v1_i H S v1 (by omega) hL hw htp (by rw [h2]; exact v3.1) v3.2.1 v3.2.2 a2 a4 h3 h11 (Or.inl ⟨(by cases tp with | false => rfl | true => exact absurd h8 (hp1.mp rfl)), h12⟩) h13 h16 h17 h19) h20 hQ
      · exfalso; omega
      · exfalso; omega
      · exfalso; omega
    · rw [xi] at h2 h4 h6 h11 h17 h20
      rw [h6] at h7
      rw [h4] at h5
      rcases hid trivial with ⟨a1, a2, a3⟩ | ⟨e, a1, a2, a3, a4⟩ | ⟨e, a1, a2, a3⟩ | ⟨e, l, q, a1, a2, a3, a4, a5⟩ | ⟨e, u, a1, a2, a3, a4⟩
      · exfalso; omega
      · subst a1
        exact nxt (v1_i H S v1 (by omega) hL hw htp (by rw [h2]; exact v3.1) v3.2.1 v3.2.2 a2 a4 h3 h11 (Or.inl ⟨(by cases tp with | false => rfl | true => exact absurd h8 (hp1.mp rfl)), h12⟩) h13 h16 h17 h19) h20 hQ
      · exfalso; omega
      · exfalso; omega
      · exfalso; omega
    · rw [xi] at h2 h4 h6 h9 h15 h18
      rw [h6] at h7
      rw [h4] at h5
      rcases hid trivial with ⟨a1, a2, a3⟩ | ⟨e, a1, a2, a3, a4⟩ | ⟨e, a1, a2, a3⟩ | ⟨e, l, q, a1, a2, a3, a4, a5⟩ | ⟨e, u, a1, a2, a3, a4⟩
      · exfalso; omega
      · subst a1
        exact nxt (v1_i H S v1 (by omega) hL hw htp (by rw [h2]; exact v3.1) v3.2.1 v3.2.2 a2 a4 h3 h9 (Or.inr ⟨hp1.mpr h8, h10⟩) h11 h14 h15 h17) h18 hQ
      · exfalso; omega
      · exfalso; omega
      · exfalso; omega
    · rw [xi] at h2 h4 h6 h9 h15 h18
      rw [h6] at h7
      rw [h4] at h5
      rcases hid trivial with ⟨a1, a2, a3⟩ | ⟨e, a1, a2, a3, a4⟩ | ⟨e, a1, a2, a3⟩ | ⟨e, l, q, a1, a2, a3, a4, a5⟩ | ⟨e, u, a1, a2, a3, a4⟩
      · exfalso; omega
      · subst a1
        exact nxt (v1_i H S v1 (by omega) hL hw htp (by rw [h2]; exact v3.1) v3.2.1 v3.2.2 a2 a4 h3 h9 (Or.inr ⟨hp1.mpr h8, h10⟩) h11 h14 h15 h17) h18 hQ
      · exfalso; omega
      · exfalso; omega
      · exfalso; omega
    all_goals
      rw [xi] at h2 h4 h13 h18
      rw [h4] at h5
      rw [cn_of hp] at h6
      rw [h6, hch] at h7
    · have cc := c0 h7
      rcases hid trivial with ⟨a1, a2, a3⟩ | ⟨e, a1, a2, a3, a4⟩ | ⟨e, a1, a2, a3⟩ | ⟨e, l, q, a1, a2, a3, a4, a5⟩ | ⟨e, u, a1, a2, a3, a4⟩
      · exact absurd a3 h5
      · exact absurd a3 h5
      · exact nxt (v1_a H S v1 (by omega) hL hw htp (by rw [h2]; exact v3.1) v3.2.1 v3.2.2 r1 (fun _ => cc) (fun w => absurd rfl w) a2 a3 (Nat.le_refl _) (fun _ => a1) (fun w => by exfalso; omega) (fun w => by exfalso; omega) (Or.inl rfl) h3 h8 h9 h12 h13 (by rw [cc]; rfl) h17) h18 hQ
      · exact nxt (v1_a H S v1 (by omega) hL hw htp (by rw [h2]; exact v3.1) v3.2.1 v3.2.2 r1 (fun _ => cc) (fun w => absurd rfl w) a2 a3 a4.2.2 (fun w => by exfalso; omega) (fun w => by exfalso; omega) (fun _ => ⟨l, a1, a4.1, a5⟩) (Or.inr (Or.inl rfl)) h3 h8 h9 h12 h13 (by rw [cc]; rfl) h17) h18 hQ
      · exact nxt (v1_a H S v1 (by omega) hL hw htp (by rw [h2]; exact v3.1) v3.2.1 v3.2.2 r1 (fun _ => cc) (fun w => absurd rfl w) a2 a3 (Nat.le_refl _) (fun w => by exfalso; omega) (fun _ => ⟨u, a1, a4⟩) (fun w => by exfalso; omega) (Or.inr (Or.inr rfl)) h3 h8 h9 h12 h13 (by rw [cc]; rfl) h17) h18 hQ
    · have cc := c1 h7
      rcases hid trivial with ⟨a1, a2, a3⟩ | ⟨e, a1, a2, a3, a4⟩ | ⟨e, a1, a2, a3⟩ | ⟨e, l, q, a1, a2, a3, a4, a5⟩ | ⟨e, u, a1, a2, a3, a4⟩
      · exact absurd a3 h5
      · exact absurd a3 h5
      · exact nxt (v1_a H S v1 (by omega) hL hw htp (by rw [h2]; exact v3.1) v3.2.1 v3.2.2 r1 (fun w => absurd w (by decide)) (fun _ => cc) a2 a3 (Nat.le_refl _) (fun _ => a1) (fun w => by exfalso; omega) (fun w => by exfalso; omega) (Or.inl rfl) h3 h8 h9 h12 h13 (by rw [cc]; rfl) h17) h18 hQ
      · exact nxt (v1_a H S v1 (by omega) hL hw htp (by rw [h2]; exact v3.1) v3.2.1 v3.2.2 r1 (fun w => absurd w (by decide)) (fun _ => cc) a2 a3 a4.2.2 (fun w => by exfalso; omega) (fun w => by exfalso; omega) (fun _ => ⟨l, a1, a4.1, a5⟩) (Or.inr (Or.inl rfl)) h3 h8 h9 h12 h13 (by rw [cc]; rfl) h17) h18 hQ
      · exact nxt (v1_a H S v1 (by omega) hL hw htp (by rw [h2]; exact v3.1) v3.2.1 v3.2.2 r1 (fun w => absurd w (by decide)) (fun _ => cc) a2 a3 (Nat.le_refl _) (fun w => by exfalso; omega) (fun _ => ⟨u, a1, a4⟩) (fun w => by exfalso; omega) (Or.inr (Or.inr rfl)) h3 h8 h9 h12 h13 (by rw [cc]; rfl) h17) h18 hQ
  | _ => intro m x lo hi ma cf ca L h hR; exact hR.elim
theorem dc_r {P : Nat} {vs : Ast} (H : TxH tf ta na ca0 k vl ql c n38 M0 F) (hp : p0.toInt = (P : Int)) (hp1 : tp = true ↔ ¬ p1.toInt = 0) (hR : RowS na (RepV k c na ma) vs (na 17 P).toInt lo hi) (hh : hi ≤ 100000) (hP : P < lo) (hch : (ma 22 P).toInt = (if ch = true then 1 else 0)) (S : CkS k vl c na ca0 n38 M0 L sc cf ca ma) (hL : L.length ≤ lo) (hw : 0 ≤ (cf 42).toInt ∧ (cf 42).toInt ≤ 5000 * (lo : Int)) (htp : tp = true ↔ (cf 43).toInt < 0) (h : R_mp_declare tf ta na p0 p1 ma cf ca ma' cf' ca') : OkZ k vl c na ca0 n38 M0 L sc lo hi (WVs na ca0 M0 lo hi (na 17 P).toInt) tp (fun s => semVars k vl ql F tp ch sc vs s) ma cf ma' cf' ca' := by
  obtain ⟨m, h⟩ := h
  obtain ⟨m', z653, h1, hQ⟩ := iv_mp_declare_0 h
  rw [cn_of hp] at h1
  have r := dc_7 H hp hp1 vs m' z653 lo hi ma cf ca L hQ (by rw [h1]; exact hR) hh hP hch S hL hw htp
  rw [h1] at r
  exact r
end SF
/-! THE REFERENCE's checker: heights of statements, a kind at a time -/
section SG
variable {na ca0 ca1 ma ma1 : Nat → Nat → Int32} {M0 : Nat → Int32} {lo hi l r l2 r2 l3 r3 l4 r4 : Nat} {cf cf' : Nat → Int32} {p0 z : Int32} {g1 g2 g3 g4 : Int}
theorem mo_iv (h : RX_mp_measureOne na ma1 ca1 p0 cf cf') : ∃ (RL : T_mp_measureOne) (m : Nat), (∀ (p : Int32) (a b : Nat → Int32), RL na ma1 ca1 p a b → RX_mp_measureOne na ma1 ca1 p a b) ∧ E_mp_measureOne RL na ma1 ca1 p0 cf' m 0 [] [] [] [] [] cf := by
  obtain ⟨n, h⟩ := h
  cases n with
  | zero => exact False.elim h
  | succ n =>
    have h' : R_mp_measureOne (RL_mp_measureOne n) na ma1 ca1 p0 cf cf' := h
    obtain ⟨m, h'⟩ := h'
    exact ⟨RL_mp_measureOne n, m, fun p a b q => ⟨n, q⟩, h'⟩
theorem mr_r {RL : T_mp_measureOne} {n : Int} (X : MsR na ca0 M0 lo hi n g1 ma) (hL : ∀ (p : Int32) (a b : Nat → Int32), RL na ma1 ca1 p a b → RX_mp_measureOne na ma1 ca1 p a b) (hg : RgM na ca0 M0 ma lo hi ca1 ma1) (hc : 0 ≤ (cf 59).toInt) (hx : p0.toInt = n) (h : R_mp_measure RL na ma1 ca1 p0 cf cf') : Ups g1 cf cf' := by
  obtain ⟨m, h⟩ := h
  obtain ⟨m', h⟩ := iv_mp_measure_0 h
  exact X.2 RL ca1 ma1 m' p0 p0 cf cf' hL hg hc hx h
theorem ms_n (hp : p0.toInt = (lo : Int)) (h14 : (na 14 lo).toInt = 21 ∨ (29 ≤ (na 14 lo).toInt ∧ (na 14 lo).toInt ≤ 32)) : Ms na ca0 M0 lo hi p0 0 ma := by
  refine ⟨by decide, fun ca1 ma1 cf cf' hg hc h => ?_⟩
  obtain ⟨RL, m, hL, h⟩ := mo_iv h
  rcases iv_mp_measureOne_0 h with ⟨m', z31, h1, (⟨h2, e0⟩ | ⟨h2, z34, h3, cf36, h4, e0⟩ | ⟨h2, e0⟩ | ⟨h2, z45, h3, cf47, h4, e0⟩ | ⟨h2, z56, h3, hQ⟩ | ⟨h2, z57, h3, cf59, h4, z68, h5, cf70, h6, z79, h7, (⟨h8, e0⟩ | ⟨h8, z82, h9, cf84, h10, e0⟩)⟩ | ⟨h2, z93, h3, (⟨h4, z96, h5, cf98, h6, z107, h7, cf109, h8, z118, h9, cf120, h10, e0⟩ | ⟨h4, z129, h5, cf131, h6, z140, h7, cf142, h8, z151, h9, cf153, h10, z162, h11, cf164, h12, e0⟩)⟩ | ⟨h2, z173, h3, cf175, h4, z184, h5, cf186, h6, e0⟩)⟩
  all_goals have hk : z31.toInt = (na 14 lo).toInt := by rw [h1, cn_of hp]
  · rw [e0]; exact Ups.rf hc
  · exfalso; omega
  · rw [e0]; exact Ups.rf hc
  all_goals (exfalso; omega)
theorem ms_33n (hp : p0.toInt = (lo : Int)) (h14 : (na 14 lo).toInt = 33) (hn : (na 17 lo).toInt < 0) : Ms na ca0 M0 lo hi p0 0 ma := by
  refine ⟨by decide, fun ca1 ma1 cf cf' hg hc h => ?_⟩
  obtain ⟨RL, m, hL, h⟩ := mo_iv h
  rcases iv_mp_measureOne_0 h with ⟨m', z31, h1, (⟨h2, e0⟩ | ⟨h2, z34, h3, cf36, h4, e0⟩ | ⟨h2, e0⟩ | ⟨h2, z45, h3, cf47, h4, e0⟩ | ⟨h2, z56, h3, hQ⟩ | ⟨h2, z57, h3, cf59, h4, z68, h5, cf70, h6, z79, h7, (⟨h8, e0⟩ | ⟨h8, z82, h9, cf84, h10, e0⟩)⟩ | ⟨h2, z93, h3, (⟨h4, z96, h5, cf98, h6, z107, h7, cf109, h8, z118, h9, cf120, h10, e0⟩ | ⟨h4, z129, h5, cf131, h6, z140, h7, cf142, h8, z151, h9, cf153, h10, z162, h11, cf164, h12, e0⟩)⟩ | ⟨h2, z173, h3, cf175, h4, z184, h5, cf186, h6, e0⟩)⟩
  all_goals have hk : z31.toInt = (na 14 lo).toInt := by rw [h1, cn_of hp]
  · exfalso; omega
  · exfalso; omega
  · exfalso; omega
  · rw [cn_of hp] at h3
    rw [e0]
    exact raise_n (by rw [h3]; exact hn) hc h4
  all_goals (exfalso; omega)
theorem ms_22 (hp : p0.toInt = (lo : Int)) (h14 : (na 14 lo).toInt = 22 ∨ (na 14 lo).toInt = 33) (hz : z = na 17 lo) (hn : 0 ≤ z.toInt) (X : HtX na ca0 M0 l r z g1 ma) (hl : lo ≤ l ∧ r ≤ hi) : Ms na ca0 M0 lo hi p0 g1 ma := by
  refine ⟨X.1, fun ca1 ma1 cf cf' hg hc h => ?_⟩
  obtain ⟨RL, m, hL, h⟩ := mo_iv h
  rcases iv_mp_measureOne_0 h with ⟨m', z31, h1, (⟨h2, e0⟩ | ⟨h2, z34, h3, cf36, h4, e0⟩ | ⟨h2, e0⟩ | ⟨h2, z45, h3, cf47, h4, e0⟩ | ⟨h2, z56, h3, hQ⟩ | ⟨h2, z57, h3, cf59, h4, z68, h5, cf70, h6, z79, h7, (⟨h8, e0⟩ | ⟨h8, z82, h9, cf84, h10, e0⟩)⟩ | ⟨h2, z93, h3, (⟨h4, z96, h5, cf98, h6, z107, h7, cf109, h8, z118, h9, cf120, h10, e0⟩ | ⟨h4, z129, h5, cf131, h6, z140, h7, cf142, h8, z151, h9, cf153, h10, z162, h11, cf164, h12, e0⟩)⟩ | ⟨h2, z173, h3, cf175, h4, z184, h5, cf186, h6, e0⟩)⟩
  all_goals have hk : z31.toInt = (na 14 lo).toInt := by rw [h1, cn_of hp]
  · exfalso; omega
  · exfalso; omega
  · exfalso; omega
  · rw [cn_of hp, ← hz] at h3
    rw [e0]
    rw [h3] at h4
    exact raise_x X (hg.le hl.1 hl.2) hn h4
  all_goals (exfalso; omega)
theorem ms_20 {n : Int} (hp : p0.toInt = (lo : Int)) (h14 : (na 14 lo).toInt = 20) (hn : n = (na 17 lo).toInt) (X : MsR na ca0 M0 l r n g1 ma) (hl : lo ≤ l ∧ r ≤ hi) : Ms na ca0 M0 lo hi p0 g1 ma := by
  refine ⟨X.1, fun ca1 ma1 cf cf' hg hc h => ?_⟩
  obtain ⟨RL, m, hL, h⟩ := mo_iv h
  rcases iv_mp_measureOne_0 h with ⟨m', z31, h1, (⟨h2, e0⟩ | ⟨h2, z34, h3, cf36, h4, e0⟩ | ⟨h2, e0⟩ | ⟨h2, z45, h3, cf47, h4, e0⟩ | ⟨h2, z56, h3, hQ⟩ | ⟨h2, z57, h3, cf59, h4, z68, h5, cf70, h6, z79, h7, (⟨h8, e0⟩ | ⟨h8, z82, h9, cf84, h10, e0⟩)⟩ | ⟨h2, z93, h3, (⟨h4, z96, h5, cf98, h6, z107, h7, cf109, h8, z118, h9, cf120, h10, e0⟩ | ⟨h4, z129, h5, cf131, h6, z140, h7, cf142, h8, z151, h9, cf153, h10, z162, h11, cf164, h12, e0⟩)⟩ | ⟨h2, z173, h3, cf175, h4, z184, h5, cf186, h6, e0⟩)⟩
  all_goals have hk : z31.toInt = (na 14 lo).toInt := by rw [h1, cn_of hp]
  · exfalso; omega
  · rw [cn_of hp] at h3
    rw [e0]
    exact mr_r X hL (hg.le hl.1 hl.2) hc (by rw [h3, hn]) h4
  all_goals (exfalso; omega)
theorem ms_23 {n : Int} (hp : p0.toInt = (lo : Int)) (h14 : (na 14 lo).toInt = 23) (hn : n = (na 17 lo).toInt) (X : WVs na ca0 M0 l r n g1 ma) (hl : lo ≤ l ∧ r ≤ hi) : Ms na ca0 M0 lo hi p0 g1 ma := by
  refine ⟨X.1, fun ca1 ma1 cf cf' hg hc h => ?_⟩
  obtain ⟨RL, m, hL, h⟩ := mo_iv h
  rcases iv_mp_measureOne_0 h with ⟨m', z31, h1, (⟨h2, e0⟩ | ⟨h2, z34, h3, cf36, h4, e0⟩ | ⟨h2, e0⟩ | ⟨h2, z45, h3, cf47, h4, e0⟩ | ⟨h2, z56, h3, hQ⟩ | ⟨h2, z57, h3, cf59, h4, z68, h5, cf70, h6, z79, h7, (⟨h8, e0⟩ | ⟨h8, z82, h9, cf84, h10, e0⟩)⟩ | ⟨h2, z93, h3, (⟨h4, z96, h5, cf98, h6, z107, h7, cf109, h8, z118, h9, cf120, h10, e0⟩ | ⟨h4, z129, h5, cf131, h6, z140, h7, cf142, h8, z151, h9, cf153, h10, z162, h11, cf164, h12, e0⟩)⟩ | ⟨h2, z173, h3, cf175, h4, z184, h5, cf186, h6, e0⟩)⟩
  all_goals have hk : z31.toInt = (na 14 lo).toInt := by rw [h1, cn_of hp]
  · exfalso; omega
  · exfalso; omega
  · exfalso; omega
  · exfalso; omega
  · rw [cn_of hp] at h3
    exact X.2 RL ca1 ma1 m' p0 z56 cf cf' (hg.le hl.1 hl.2) hc (by rw [h3, hn]) hQ
  all_goals (exfalso; omega)
/-- if, while, do: a condition, a statement, perhaps another -/
theorem ms_24 {y w : Int32} (hp : p0.toInt = (lo : Int)) (hlh : lo < hi) (h14 : (na 14 lo).toInt = 24 ∨ (na 14 lo).toInt = 25 ∨ (na 14 lo).toInt = 26) (hz : z = na 17 lo) (hn : 0 ≤ z.toInt) (X : HtX na ca0 M0 l r z g1 ma) (hl : lo ≤ l ∧ r ≤ hi) (hy : (ma 18 lo).toInt = y.toInt) (Y : Ms na ca0 M0 l2 r2 y g2 ma) (hl2 : lo ≤ l2 ∧ r2 ≤ hi) (Z : ((ma 19 lo).toInt < 0 ∧ g3 = 0) ∨ ((ma 19 lo).toInt = w.toInt ∧ 0 ≤ w.toInt ∧ Ms na ca0 M0 l3 r3 w g3 ma ∧ lo ≤ l3 ∧ r3 ≤ hi)) : Ms na ca0 M0 lo hi p0 (max g1 (max g2 g3)) ma := by
  have x0 := X.1
  have y0 := Y.1
  have z0 : g3 ≤ 300000 := by
    rcases Z with ⟨-, q⟩ | ⟨-, -, q, -⟩
    · omega
    · exact q.1.2
  refine ⟨by omega, fun ca1 ma1 cf cf' hg hc h => ?_⟩
  obtain ⟨RL, m, hL, h⟩ := mo_iv h
  have m18 : ma1 18 lo = y := by rw [hg.2.2 18 lo (Nat.le_refl _) hlh]; exact Int32.toInt_inj.mp hy
  have m19 : ma1 19 lo = ma 19 lo := hg.2.2 19 lo (Nat.le_refl _) hlh
  rcases iv_mp_measureOne_0 h with ⟨m', z31, h1, (⟨h2, e0⟩ | ⟨h2, z34, h3, cf36, h4, e0⟩ | ⟨h2, e0⟩ | ⟨h2, z45, h3, cf47, h4, e0⟩ | ⟨h2, z56, h3, hQ⟩ | ⟨h2, z57, h3, cf59, h4, z68, h5, cf70, h6, z79, h7, (⟨h8, e0⟩ | ⟨h8, z82, h9, cf84, h10, e0⟩)⟩ | ⟨h2, z93, h3, (⟨h4, z96, h5, cf98, h6, z107, h7, cf109, h8, z118, h9, cf120, h10, e0⟩ | ⟨h4, z129, h5, cf131, h6, z140, h7, cf142, h8, z151, h9, cf153, h10, z162, h11, cf164, h12, e0⟩)⟩ | ⟨h2, z173, h3, cf175, h4, z184, h5, cf186, h6, e0⟩)⟩
  all_goals have hk : z31.toInt = (na 14 lo).toInt := by rw [h1, cn_of hp]
  · exfalso; omega
  · exfalso; omega
  · exfalso; omega
  · exfalso; omega
  · exfalso; omega
  · rw [cn_of hp, ← hz] at h3
    rw [cn_of hp, m18] at h5
    rw [cn_of hp, m19] at h7
    rw [h3] at h4
    rw [h5] at h6
    have u1 := raise_x X (hg.le hl.1 hl.2) hn h4
    have u2 := Y.2 ca1 ma1 cf59 cf70 (hg.le hl2.1 hl2.2) (u1.nn hc) (hL _ _ _ h6)
    rcases Z with ⟨w1, w2⟩ | ⟨w1, w2, -⟩
    · rw [e0, w2]
      have u3 := u2.tr (Ups.rf (u2.nn (u1.nn hc)))
      exact u1.tr u3
    · rw [h7, w1] at h8
      exfalso; omega
  · rw [cn_of hp, ← hz] at h3
    rw [cn_of hp, m18] at h5
    rw [cn_of hp, m19] at h7 h9
    rw [h3] at h4
    rw [h5] at h6
    have u1 := raise_x X (hg.le hl.1 hl.2) hn h4
    have u2 := Y.2 ca1 ma1 cf59 cf70 (hg.le hl2.1 hl2.2) (u1.nn hc) (hL _ _ _ h6)
    rcases Z with ⟨w1, w2⟩ | ⟨w1, w2, w3, w4, w5⟩
    · rw [h7] at h8
      exact absurd w1 h8
    · have e9 : z82 = w := by rw [h9]; exact Int32.toInt_inj.mp w1
      rw [e9] at h10
      rw [e0]
      exact u1.tr (u2.tr (w3.2 ca1 ma1 cf70 cf84 (hg.le w4 w5) (u2.nn (u1.nn hc)) (hL _ _ _ h10)))
  all_goals (exfalso; omega)
/-- a switch -/
theorem ms_28 {n : Int} (hp : p0.toInt = (lo : Int)) (hlh : lo < hi) (h14 : (na 14 lo).toInt = 28) (hz : z = na 17 lo) (hn : 0 ≤ z.toInt) (X : HtX na ca0 M0 l r z g1 ma) (hl : lo ≤ l ∧ r ≤ hi) (hy : n = (ma 18 lo).toInt) (Y : MsR na ca0 M0 l2 r2 n g2 ma) (hl2 : lo ≤ l2 ∧ r2 ≤ hi) : Ms na ca0 M0 lo hi p0 (max g1 g2) ma := by
  have x0 := X.1
  have y0 := Y.1
  refine ⟨by omega, fun ca1 ma1 cf cf' hg hc h => ?_⟩
  obtain ⟨RL, m, hL, h⟩ := mo_iv h
  have m18 : ma1 18 lo = ma 18 lo := hg.2.2 18 lo (Nat.le_refl _) hlh
  rcases iv_mp_measureOne_0 h with ⟨m', z31, h1, (⟨h2, e0⟩ | ⟨h2, z34, h3, cf36, h4, e0⟩ | ⟨h2, e0⟩ | ⟨h2, z45, h3, cf47, h4, e0⟩ | ⟨h2, z56, h3, hQ⟩ | ⟨h2, z57, h3, cf59, h4, z68, h5, cf70, h6, z79, h7, (⟨h8, e0⟩ | ⟨h8, z82, h9, cf84, h10, e0⟩)⟩ | ⟨h2, z93, h3, (⟨h4, z96, h5, cf98, h6, z107, h7, cf109, h8, z118, h9, cf120, h10, e0⟩ | ⟨h4, z129, h5, cf131, h6, z140, h7, cf142, h8, z151, h9, cf153, h10, z162, h11, cf164, h12, e0⟩)⟩ | ⟨h2, z173, h3, cf175, h4, z184, h5, cf186, h6, e0⟩)⟩
  all_goals have hk : z31.toInt = (na 14 lo).toInt := by rw [h1, cn_of hp]
  · exfalso; omega
  · exfalso; omega
  · exfalso; omega
  · exfalso; omega
  · exfalso; omega
  · exfalso; omega
  · exfalso; omega
  · exfalso; omega
  · exfalso; omega
  · rw [cn_of hp, ← hz] at h3
    rw [cn_of hp, m18] at h5
    rw [h3] at h4
    rw [e0]
    have u1 := raise_x X (hg.le hl.1 hl.2) hn h4
    exact u1.tr (mr_r Y hL (hg.le hl2.1 hl2.2) (u1.nn hc) (by rw [h5, hy]) h6)
/-- perhaps an expression -/
def HtO (na ca0 : Nat → Nat → Int32) (M0 : Nat → Int32) (l r : Nat) (z : Int32) (h : Int) (ma : Nat → Nat → Int32) : Prop := (z.toInt < 0 ∧ h = 0) ∨ (0 ≤ z.toInt ∧ HtX na ca0 M0 l r z h ma)
theorem hto_r (X : HtO na ca0 M0 l r z g1 ma) (hg : RgM na ca0 M0 ma l r ca1 ma1) (hc : 0 ≤ (cf 59).toInt) (h : R_mp_raise na ma1 ca1 z cf cf') : Ups g1 cf cf' := by
  rcases X with ⟨x1, x2⟩ | ⟨x1, x2⟩
  · rw [x2]; exact raise_n x1 hc h
  · exact raise_x x2 hg x1 h
theorem HtO.nn (X : HtO na ca0 M0 l r z g1 ma) : 0 ≤ g1 ∧ g1 ≤ 300000 := by
  rcases X with ⟨x1, x2⟩ | ⟨x1, x2⟩
  · omega
  · exact x2.1
/-- for -/
theorem ms_27 {x y w u : Int32} (hp : p0.toInt = (lo : Int)) (hlh : lo < hi) (h14 : (na 14 lo).toInt = 27) (hx : (na 17 lo).toInt = x.toInt) (X : (x.toInt < 0 ∧ g1 = 0) ∨ (0 ≤ x.toInt ∧ Ms na ca0 M0 l r x g1 ma)) (hl : lo ≤ l ∧ r ≤ hi) (hy : ma 18 lo = y) (Y : HtO na ca0 M0 l2 r2 y g2 ma) (hl2 : lo ≤ l2 ∧ r2 ≤ hi) (hw : ma 19 lo = w) (Z : HtO na ca0 M0 l3 r3 w g3 ma) (hl3 : lo ≤ l3 ∧ r3 ≤ hi) (hu : (ma 20 lo).toInt = u.toInt) (V : Ms na ca0 M0 l4 r4 u g4 ma) (hl4 : lo ≤ l4 ∧ r4 ≤ hi) : Ms na ca0 M0 lo hi p0 (max g1 (max g2 (max g3 g4))) ma := by
  have x0 := V.1
  have y0 := Y.nn
  have z0 := Z.nn
  have w0 : g1 ≤ 300000 := by
    rcases X with ⟨-, q⟩ | ⟨-, q⟩
    · omega
    · exact q.1.2
  refine ⟨by omega, fun ca1 ma1 cf cf' hg hc h => ?_⟩
  obtain ⟨RL, m, hL, h⟩ := mo_iv h
  have m18 : ma1 18 lo = y := (hg.2.2 18 lo (Nat.le_refl _) hlh).trans hy
  have m19 : ma1 19 lo = w := (hg.2.2 19 lo (Nat.le_refl _) hlh).trans hw
  have m20 : ma1 20 lo = u := by rw [hg.2.2 20 lo (Nat.le_refl _) hlh]; exact Int32.toInt_inj.mp hu
  rcases iv_mp_measureOne_0 h with ⟨m', z31, h1, (⟨h2, e0⟩ | ⟨h2, z34, h3, cf36, h4, e0⟩ | ⟨h2, e0⟩ | ⟨h2, z45, h3, cf47, h4, e0⟩ | ⟨h2, z56, h3, hQ⟩ | ⟨h2, z57, h3, cf59, h4, z68, h5, cf70, h6, z79, h7, (⟨h8, e0⟩ | ⟨h8, z82, h9, cf84, h10, e0⟩)⟩ | ⟨h2, z93, h3, (⟨h4, z96, h5, cf98, h6, z107, h7, cf109, h8, z118, h9, cf120, h10, e0⟩ | ⟨h4, z129, h5, cf131, h6, z140, h7, cf142, h8, z151, h9, cf153, h10, z162, h11, cf164, h12, e0⟩)⟩ | ⟨h2, z173, h3, cf175, h4, z184, h5, cf186, h6, e0⟩)⟩
  all_goals have hk : z31.toInt = (na 14 lo).toInt := by rw [h1, cn_of hp]
  · exfalso; omega
  · exfalso; omega
  · exfalso; omega
  · exfalso; omega
  · exfalso; omega
  · exfalso; omega
  · exfalso; omega
  · rw [cn_of hp] at h3
    rw [cn_of hp, m18] at h5
    rw [cn_of hp, m19] at h7
    rw [cn_of hp, m20] at h9
    rw [h5] at h6
    rw [h7] at h8
    rw [h9] at h10
    rw [h3, hx] at h4
    rcases X with ⟨x1, x2⟩ | ⟨x1, -⟩
    · have u2 := hto_r Y (hg.le hl2.1 hl2.2) hc h6
      have u3 := hto_r Z (hg.le hl3.1 hl3.2) (u2.nn hc) h8
      have u4 := V.2 ca1 ma1 cf109 cf120 (hg.le hl4.1 hl4.2) (u3.nn (u2.nn hc)) (hL _ _ _ h10)
      rw [e0, x2]
      exact (Ups.rf hc).tr (u2.tr (u3.tr u4))
    · exfalso; omega
  · rw [cn_of hp] at h3 h5
    rw [cn_of hp, m18] at h7
    rw [cn_of hp, m19] at h9
    rw [cn_of hp, m20] at h11
    have e5 : z129 = x := by rw [h5]; exact Int32.toInt_inj.mp hx
    rw [e5] at h6
    rw [h7] at h8
    rw [h9] at h10
    rw [h11] at h12
    rw [h3, hx] at h4
    rcases X with ⟨x1, x2⟩ | ⟨x1, x2⟩
    · exfalso; omega
    · have u1 := x2.2 ca1 ma1 cf cf131 (hg.le hl.1 hl.2) hc (hL _ _ _ h6)
      have u2 := hto_r Y (hg.le hl2.1 hl2.2) (u1.nn hc) h8
      have u3 := hto_r Z (hg.le hl3.1 hl3.2) (u2.nn (u1.nn hc)) h10
      have u4 := V.2 ca1 ma1 cf153 cf164 (hg.le hl4.1 hl4.2) (u3.nn (u2.nn (u1.nn hc))) (hL _ _ _ h12)
      rw [e0]
      exact u1.tr (u2.tr (u3.tr u4))
  · exfalso; omega
end SG
/-! THE REFERENCE's checker: statements (laid by gens7.py) -/
section SH
variable {tf : Nat → Int32} {ta na ca ca0 ca1 ca' ma ma' ma1 : Nat → Nat → Int32} {vl M0 : Nat → Int32} {k : Nat → Int} {ql : Nat → Int} {c sc lo hi mid d : Nat} {n38 : Int32} {F : Int32 → Option Fnc} {cf cf' cf1 cf0 cf6 cf7 : Nat → Int32} {L : Nms} {p0 p1 v : Int32} {e a b s : Ast} {tp lp bk : Bool} {x f : Sg → Option Sg} {W W1 W2 : Int → (Nat → Nat → Int32) → Prop} {rt : Int} {RL : T_mp_checkStatement}
theorem AC.e30 {α : Type} {a b a' b' : Nat → Int32} {x : Option α} {M : α → Prop} (h : AC a b x M) (ea : a' 30 = a 30) (eb : b' 30 = b 30) : AC a' b' x M := by
  refine ⟨fun q => ?_, fun u => ?_⟩
  · unfold Bc; rw [eb]
    exact h.1 (by unfold Bc at q; rw [ea] at q; exact q)
  · have w := h.2 (by unfold Uc at u; rw [ea] at u; exact u)
    cases x with
    | none => unfold Bc; rw [eb]; exact w
    | some y => exact ⟨by unfold Uc; rw [eb]; exact w.1, w.2⟩
theorem FrM.ags {l h : Nat} (g : FrM ma ma' lo hi) (q : hi ≤ l) : AgS na ma na ma' l h (-1) := ⟨FrM.ag g (Or.inr q), fun i a b => g 20 i (by omega)⟩
/-- a field that is put back -/
theorem OkZ.cj {J : Nat} (hJ : ¬ J = 30 ∧ ¬ J = 33 ∧ ¬ J = 37 ∧ ¬ J = 38 ∧ ¬ J = 42) (a : OkZ k vl c na ca0 n38 M0 L sc lo hi W tp x ma cf0 ma' cf7 ca') (h0 : ∀ j : Nat, ¬ j = J → cf0 j = cf j) (h7 : ∀ j : Nat, ¬ j = J → cf' j = cf7 j) (hj : cf' J = cf J) : OkZ k vl c na ca0 n38 M0 L sc lo hi W tp x ma cf ma' cf' ca' := by
  obtain ⟨X, a1, a2, a3, a4, a5, a6⟩ := a
  have e42 : cf' 42 = cf7 42 := h7 42 (by omega)
  have e42' : cf0 42 = cf 42 := h0 42 (by omega)
  refine ⟨X, a1.sm (h7 33 (by omega)) (h7 37 (by omega)) (h7 38 (by omega)) a1.2.2.2.1, a2, a3, fun j h1 h2 h3 h4 h5 h6 h7' h8 => ?_, by rw [e42]; exact a5, fun s hs => ?_⟩
  · by_cases q : j = J
    · rw [q]; exact hj
    · exact (h7 j q).trans ((a4 j h1 h2 h3 h4 h5 h6 h7' h8).trans (h0 j q))
  · rw [e42, ← e42']
    exact (a6 s hs).e30 (h0 30 (by omega)).symm (h7 30 (by omega))
/-- names of a block are left -/
theorem lv_t {p q : Int32} (S : CkS k vl c na ca0 n38 M0 L sc cf ca ma) (hLh : L.length ≤ hi) (a : OkZ k vl c na ca0 n38 M0 L L.length lo hi W tp x ma cf0 ma' cf6 ca') (hc0 : ∀ j : Nat, ¬ j = 37 → cf0 j = cf j) (h : R_mp_leave p q cf6 cf') (hp : p = cf 33) (hq : q = cf 37) : OkZ k vl c na ca0 n38 M0 L sc lo hi W tp (fun s => (x s).bind fun s' => some (s'.1.take s.1.length, s'.2)) ma cf ma' cf' ca' := by
  rcases h with e0 | h
  · obtain ⟨X, a1, a2, a3, a4, a5, a6⟩ := a
    have fr : ∀ j : Nat, ¬ j = 33 → ¬ j = 37 → cf' j = cf6 j := fun j q1 q2 => by rw [e0, pk_un q2, pk_un q1]
    have e33 : cf' 33 = cf 33 := by rw [e0, pk_un (by decide), pk_us, hp]
    have e37 : cf' 37 = cf 37 := by rw [e0, pk_us, hq]
    have e42 : cf' 42 = cf6 42 := fr 42 (by decide) (by decide)
    have e42' : cf0 42 = cf 42 := hc0 42 (by decide)
    have df := fun (j : Nat) (q : ¬ j = 37) => hc0 j q
    have E := a1.1.tk (n := L.length) (cf' := cf') (by rw [List.length_append]; omega) (by rw [e33]; exact S.1.1)
    rw [List.take_left] at E
    refine ⟨[], ?_, by rw [List.append_nil]; exact hLh, a3, fun j h1 h2 h3 h4 h5 h6 h7 h8 => ?_, by rw [e42]; exact a5, fun s hs => ?_⟩
    · rw [List.append_nil]
      exact ⟨E, (fr 38 (by decide) (by decide)).trans a1.2.1, a1.2.2.1, a1.2.2.2.1, by rw [e37]; exact S.2.2.2.2.1, S.2.2.2.2.2.1, a1.2.2.2.2.2.2⟩
    · by_cases q : j = 37
      · rw [q]; exact e37
      · exact (fr j h3 q).trans ((a4 j h1 h2 h3 h4 h5 h6 h7 h8).trans (hc0 j q))
    · have base := (a6 s hs).e30 (a' := cf) (b' := cf') (hc0 30 (by decide)).symm (fr 30 (by decide) (by decide))
      refine AC.bind base (fun s1 q => AC.ret ⟨?_, ?_, q.2.2.1, q.2.2.2⟩) id
      · show s1.1.take s.1.length = L ++ []
        rw [q.1, hs, List.take_left, List.append_nil]
      · show s1.2.1 = _
        rw [q.2.1, e42, e42']
  · exact h.elim
/-- loops and switches around, the function -/
def CtS (na : Nat → Nat → Int32) (M0 : Nat → Int32) (rt : Int) (lp bk : Bool) (lo : Nat) (cf : Nat → Int32) : Prop := (0 ≤ (cf 43).toInt ∧ ¬ (na 14 (cf 43).toNatClampNeg).toInt = 29 ∧ ((M0 (cf 43).toNatClampNeg).toInt = 2 ↔ rt = 3)) ∧ (0 ≤ (cf 44).toInt ∧ (cf 44).toInt ≤ (lo : Int) ∧ (lp = true ↔ 0 < (cf 44).toInt)) ∧ (0 ≤ (cf 45).toInt ∧ (cf 45).toInt ≤ (lo : Int) ∧ (bk = true ↔ 0 < (cf 44).toInt ∨ 0 < (cf 45).toInt))
theorem CtS.eq {lo' : Nat} (h : CtS na M0 rt lp bk lo cf) (e43 : cf' 43 = cf 43) (e44 : cf' 44 = cf 44) (e45 : cf' 45 = cf 45) (hl : lo ≤ lo') : CtS na M0 rt lp bk lo' cf' := by
  obtain ⟨h1, ⟨h2, h3, h4⟩, h5, h6, h7⟩ := h
  unfold CtS
  rw [e43, e44, e45]
  exact ⟨h1, ⟨h2, by omega, h4⟩, h5, by omega, h7⟩
theorem CtS.df {lo' : Nat} (h : CtS na M0 rt lp bk lo cf) (d : DfS cf cf') (hl : lo ≤ lo') : CtS na M0 rt lp bk lo' cf' := h.eq (d 43 (by decide) (by decide) (by decide) (by decide) (by decide) (by decide) (by decide) (by decide)) (d 44 (by decide) (by decide) (by decide) (by decide) (by decide) (by decide) (by decide) (by decide)) (d 45 (by decide) (by decide) (by decide) (by decide) (by decide) (by decide) (by decide) (by decide)) hl
/-- statements are checked as they mean -/
def HSz (tf : Nat → Int32) (ta na ca0 : Nat → Nat → Int32) (k : Nat → Int) (vl : Nat → Int32) (ql : Nat → Int) (c : Nat) (n38 : Int32) (M0 : Nat → Int32) (F : Int32 → Option Fnc) (rt : Int) (RL : T_mp_checkStatement) : Prop := ∀ (d : Nat) (s : Ast) (p0 : Int32) (lo hi sc : Nat) (L : Nms) (lp bk : Bool) (ma : Nat → Nat → Int32) (cf : Nat → Int32) (ca ma' : Nat → Nat → Int32) (cf' : Nat → Int32) (ca' : Nat → Nat → Int32), RepS k c na ma d s lo hi → hi ≤ 100000 → p0.toInt = (lo : Int) → CkS k vl c na ca0 n38 M0 L sc cf ca ma → L.length ≤ lo → (0 ≤ (cf 42).toInt ∧ (cf 42).toInt ≤ 5000 * (lo : Int)) → CtS na M0 rt lp bk lo cf → RL tf ta na p0 ma cf ca ma' cf' ca' → OkZ k vl c na ca0 n38 M0 L sc lo hi (Ms na ca0 M0 lo hi p0) false (fun z => sem k vl ql F rt s sc lp bk z) ma cf ma' cf' ca'

theorem sm_n {z : Sg} : sem k vl ql F rt .null sc lp bk z = some z := by first | rfl | simp [sem, sNd, sRow1, sRow2]
theorem sm_a {z : Sg} : sem k vl ql F rt (.add a b) sc lp bk z = (sem k vl ql F rt a sc lp bk z).bind fun z => sem k vl ql F rt b sc lp bk z := by first | rfl | simp [sem, sNd, sRow1, sRow2]
theorem sm_0 {z : Sg} : sem k vl ql F rt (sNd 0 a b) sc lp bk z = (sem k vl ql F rt a z.1.length lp bk z).bind fun z' => some (z'.1.take z.1.length, z'.2) := by first | rfl | simp [sem, sNd, sRow1, sRow2]
theorem sm_1 {z : Sg} : sem k vl ql F rt (sNd 1 a b) sc lp bk z = some z := by first | rfl | simp [sem, sNd, sRow1, sRow2]
theorem sm_2 {z : Sg} : sem k vl ql F rt (sNd 2 a b) sc lp bk z = semE k vl F aEff a z := by first | rfl | simp [sem, sNd, sRow1, sRow2]
theorem sm_3 {z : Sg} : sem k vl ql F rt (sNd 3 a b) sc lp bk z = semVars k vl ql F false (isChr a) sc b z := by first | rfl | simp [sem, sNd, sRow1, sRow2]
theorem sm_4 {z : Sg} : sem k vl ql F rt (sNd 4 a b) sc lp bk z = (semE k vl F aNum a z).bind fun z => sem k vl ql F rt b sc lp bk z := by first | rfl | simp [sem, sNd, sRow1, sRow2]
theorem sm_5 {z : Sg} : sem k vl ql F rt (sNd 5 a b) sc lp bk z = (semE k vl F aNum a z).bind fun z => sem k vl ql F rt b sc true true z := by first | rfl | simp [sem, sNd, sRow1, sRow2]
theorem sm_6 {z : Sg} : sem k vl ql F rt (sNd 6 a b) sc lp bk z = (sem k vl ql F rt a sc true true z).bind fun z => semE k vl F aNum b z := by first | rfl | simp [sem, sNd, sRow1, sRow2]
theorem sm_7 {z : Sg} : sem k vl ql F rt (sNd 7 a b) sc lp bk z = (sem k vl ql F rt a z.1.length lp bk z).bind fun z' => (sem k vl ql F rt b z.1.length true true z').bind fun z2 => some (z2.1.take z.1.length, z2.2) := by first | rfl | simp [sem, sNd, sRow1, sRow2]
theorem sm_8 {z : Sg} : sem k vl ql F rt (sNd 8 a b) sc lp bk z = semE k vl F aNum a z := by first | rfl | simp [sem, sNd, sRow1, sRow2]
theorem sm_9 {z : Sg} : sem k vl ql F rt (sNd 9 a b) sc lp bk z = (semE k vl F aNum a z).bind fun z' => (sem k vl ql F rt b z.1.length lp true (z'.1, z'.2.1, z'.2.2.1, [], false)).bind fun z2 => some (z2.1.take z.1.length, z2.2.1, z2.2.2.1, z.2.2.2) := by first | rfl | simp [sem, sNd, sRow1, sRow2]
theorem sm_10 {z : Sg} : sem k vl ql F rt (sNd 10 a b) sc lp bk z = ((att k vl (lkp z.1) F a [] 0).bind aKon).bind fun x => if x.2.2.1 ∈ z.2.2.2.1 then none else some (z.1, z.2.1, z.2.2.1, z.2.2.2.1 ++ [x.2.2.1], z.2.2.2.2) := by first | rfl | simp [sem, sNd, sRow1, sRow2]
theorem sm_11 {z : Sg} : sem k vl ql F rt (sNd 11 a b) sc lp bk z = if z.2.2.2.2 = true then none else some (z.1, z.2.1, z.2.2.1, z.2.2.2.1, true) := by first | rfl | simp [sem, sNd, sRow1, sRow2]
theorem sm_12 {z : Sg} : sem k vl ql F rt (sNd 12 a b) sc lp bk z = if bk = true then some z else none := by first | rfl | simp [sem, sNd, sRow1, sRow2]
theorem sm_13 {z : Sg} : sem k vl ql F rt (sNd 13 a b) sc lp bk z = if lp = true then some z else none := by first | rfl | simp [sem, sNd, sRow1, sRow2]
theorem sm_14 {z : Sg} : sem k vl ql F rt (sNd 14 a b) sc lp bk z = if rt = 3 then some z else none := by first | rfl | simp [sem, sNd, sRow1, sRow2]
theorem sm_15 {z : Sg} : sem k vl ql F rt (sNd 15 a b) sc lp bk z = if rt = 3 then none else semE k vl F aNum a z := by first | rfl | simp [sem, sNd, sRow1, sRow2]
theorem bnd_id {α : Type} {x : Option α} : (x.bind fun z => some z) = x := by cases x <;> rfl
theorem sm_r1 {z : Sg} : sem k vl ql F rt (sRow1 a) sc lp bk z = sem k vl ql F rt a sc lp bk z := by
  show sem k vl ql F rt (.add a .null) sc lp bk z = _
  rw [sm_a]
  show ((sem k vl ql F rt a sc lp bk z).bind fun z => some z) = _
  exact bnd_id
theorem sm_r2 {z : Sg} : sem k vl ql F rt (sRow2 a b) sc lp bk z = (sem k vl ql F rt a sc lp bk z).bind fun z => sem k vl ql F rt b sc lp bk z := by
  show sem k vl ql F rt (.add a (sRow1 b)) sc lp bk z = _
  rw [sm_a]
  congr 1
  funext z
  exact sm_r1
theorem sm_r3 {z : Sg} : sem k vl ql F rt (.add a (.add b (.add e .null))) sc lp bk z = ((sem k vl ql F rt a sc lp bk z).bind fun z => sem k vl ql F rt b sc lp bk z).bind fun z => sem k vl ql F rt e sc lp bk z := by
  rw [sm_a]
  rcases opt_c (sem k vl ql F rt a sc lp bk z) with h | ⟨y, h⟩
  · rw [h]; rfl
  · rw [h]
    show sem k vl ql F rt (.add b (sRow1 e)) sc lp bk y = (sem k vl ql F rt b sc lp bk y).bind fun z => sem k vl ql F rt e sc lp bk z
    exact sm_r2 (z := y)
/-- a row of statements -/
theorem st_2 {q0 : Int32} (HS : HSz tf ta na ca0 k vl ql c n38 M0 F rt RL) : ∀ (a : Ast) (m : Nat) (x : Int32) (lo hi : Nat) (ma : Nat → Nat → Int32) (cf : Nat → Int32) (ca : Nat → Nat → Int32) (L : Nms), E_mp_statements RL tf ta na q0 ma' cf' ca' m 2 [x] [] [] [] [] ma cf ca → RowS na (RepS k c na ma d) a x.toInt lo hi → hi ≤ 100000 → CkS k vl c na ca0 n38 M0 L sc cf ca ma → L.length ≤ lo → (0 ≤ (cf 42).toInt ∧ (cf 42).toInt ≤ 5000 * (lo : Int)) → CtS na M0 rt lp bk lo cf → OkZ k vl c na ca0 n38 M0 L sc lo hi (MsR na ca0 M0 lo hi x.toInt) false (fun z => sem k vl ql F rt a sc lp bk z) ma cf ma' cf' ca' := by
  intro a
  induction a with
  | null =>
    intro m x lo hi ma cf ca L h hR hh S hL hw hC
    have hR' : x.toInt < 0 ∧ lo ≤ hi := hR
    rcases iv_mp_statements_2 h with ⟨m', (⟨h1, e0, e1, e2⟩ | ⟨h1, ma8, cf9, ca10, h2, z42, h3, hQ⟩)⟩
    · rw [e0, e1, e2]
      exact (OkZ.nop (W := MsR na ca0 M0 lo hi x.toInt) (lo := lo) (hi := hi) S (by omega) (by omega) (fun _ => MsR.nil hR'.1)).mp (fun z _ => sm_n) (fun _ _ q => q) (Nat.le_refl _) (Nat.le_refl _)
    · exfalso; omega
  | add s r ihs ihr =>
    intro m x lo hi ma cf ca L h hR hh S hL hw hC
    obtain ⟨mid, r1, r2, r3, r4⟩ := hR
    have xi : x.toNatClampNeg = lo := cn_of r1
    rcases iv_mp_statements_2 h with ⟨m', (⟨h1, e0, e1, e2⟩ | ⟨h1, ma8, cf9, ca10, h2, z42, h3, hQ⟩)⟩
    · exfalso; omega
    · rw [xi] at h3
      have one := HS d s x lo mid sc L lp bk ma cf ca ma8 cf9 ca10 r3 (by omega) r1 S hL hw hC h2
      have fr : FrM ma ma8 lo mid := by obtain ⟨_, -, -, q, -⟩ := one; exact q
      have df : DfS cf cf9 := by obtain ⟨_, -, -, -, q, -⟩ := one; exact q
      refine (OkZ.seq (W := MsR na ca0 M0 lo hi x.toInt) one (fun X1 s1 s2 s3 => ihr m' z42 mid hi ma8 cf9 ca10 (L ++ X1) hQ (by rw [h3]; exact row_kp _ _ _ _ r4 (fun _ _ _ => rfl) (fun s l h q1 q2 q3 => rps_kp d s l h (-1) q3 (fr.ags q1) (by omega))) hh s1 s2 s3 (hC.df df (by omega))) ⟨by omega, r2.2⟩ (fun h1 h2 _ _ f2 w1 w2 => ?_)).mp (fun z _ => sm_a) (fun _ _ q => q) (Nat.le_refl _) (Nat.le_refl _)
      rw [h3] at w2
      exact MsR.cons r1 r1 (w1.fr f2 (Or.inl (Nat.le_refl _))) w2 ⟨by omega, r2.2⟩
  | _ => intro m x lo hi ma cf ca L h hR; exact hR.elim
theorem st_r (HS : HSz tf ta na ca0 k vl ql c n38 M0 F rt RL) (hR : RowS na (RepS k c na ma d) a p0.toInt lo hi) (hh : hi ≤ 100000) (S : CkS k vl c na ca0 n38 M0 L sc cf ca ma) (hL : L.length ≤ lo) (hw : 0 ≤ (cf 42).toInt ∧ (cf 42).toInt ≤ 5000 * (lo : Int)) (hC : CtS na M0 rt lp bk lo cf) (h : R_mp_statements RL tf ta na p0 ma cf ca ma' cf' ca') : OkZ k vl c na ca0 n38 M0 L sc lo hi (MsR na ca0 M0 lo hi p0.toInt) false (fun z => sem k vl ql F rt a sc lp bk z) ma cf ma' cf' ca' := by
  obtain ⟨m, h⟩ := h
  obtain ⟨m', h⟩ := iv_mp_statements_0 h
  exact st_2 HS a m' p0 lo hi ma cf ca L h hR hh S hL hw hC
/-- the body of a loop -/
theorem bo_t (HS : HSz tf ta na ca0 k vl ql c n38 M0 F rt RL) (hR : RepS k c na ma d s lo hi) (hh : hi ≤ 100000) (hp : p0.toInt = (lo : Int)) (S : CkS k vl c na ca0 n38 M0 L sc cf ca ma) (hL : L.length ≤ lo) (hw : 0 ≤ (cf 42).toInt ∧ (cf 42).toInt ≤ 5000 * (lo : Int)) {l0 : Nat} (hC : CtS na M0 rt lp bk l0 cf) (hl0 : l0 < lo) (h : R_mp_checkBody RL tf ta na p0 ma cf ca ma' cf' ca') : OkZ k vl c na ca0 n38 M0 L sc lo hi (Ms na ca0 M0 lo hi p0) false (fun z => sem k vl ql F rt s sc true true z) ma cf ma' cf' ca' := by
  have hl := rps_lt hR
  rcases h with ⟨z2, h1, ma6, cf7, ca8, h2, z41, h3, e0, e1, e2⟩ | h
  · obtain ⟨c1, ⟨c2, c3, c4⟩, c5, c6, c7⟩ := hC
    have z1 := ti_add h1 rfl (show (1 : Int32).toInt = 1 from rfl) (by omega) (by omega)
    have hC' : CtS na M0 rt true true lo (upd cf 44 z2) := by
      unfold CtS
      rw [pk_un (show (43 : Nat) ≠ 44 by decide), pk_us, pk_un (show (45 : Nat) ≠ 44 by decide)]
      exact ⟨c1, ⟨by omega, by omega, ⟨fun _ => by omega, fun _ => rfl⟩⟩, c5, by omega, ⟨fun _ => Or.inl (by omega), fun _ => rfl⟩⟩
    have one := HS d s p0 lo hi sc L true true ma (upd cf 44 z2) ca ma6 cf7 ca8 hR hh hp (S.sm (pk_un (by decide)) (pk_un (by decide)) (pk_un (by decide)) S.2.2.2.1) hL (by rw [pk_un (by decide)]; exact hw) hC' h2
    have df : DfS (upd cf 44 z2) cf7 := by obtain ⟨_, -, -, -, q, -⟩ := one; exact q
    have e44 : cf7 44 = z2 := (df 44 (by decide) (by decide) (by decide) (by decide) (by decide) (by decide) (by decide) (by decide)).trans pk_us
    rw [e44] at h3
    have z3 := ti_sub h3 z1 (show (1 : Int32).toInt = 1 from rfl) (by omega) (by omega)
    rw [e0, e1, e2]
    exact one.cj (J := 44) (by decide) (fun j q => pk_un q) (fun j q => pk_un q) (by rw [pk_us]; exact Int32.toInt_inj.mp (by omega))
  · exact h.elim

theorem k22_t (H : TxH tf ta na ca0 k vl ql c n38 M0 F) (HS : HSz tf ta na ca0 k vl ql c n38 M0 F rt RL) (hh : hi ≤ 100000) (hlh : lo < hi) (hp : p0.toInt = (lo : Int)) (S : CkS k vl c na ca0 n38 M0 L sc cf ca ma) (hL : L.length ≤ lo) (hw : 0 ≤ (cf 42).toInt ∧ (cf 42).toInt ≤ 5000 * (lo : Int)) (hC : CtS na M0 rt lp bk lo cf) (hR : RepX k c na ma s lo hi) {z0 : Int32} (hz : z0 = na 17 lo) (h : R_mp_checkAlone tf ta na ca z0 ma cf ma' cf') (hca : ca' = ca) : OkZ k vl c na ca0 n38 M0 L sc lo hi (Ms na ca0 M0 lo hi p0) false (fun z => sem k vl ql F rt s sc lp bk z) ma cf ma' cf' ca' := by
  obtain ⟨e, x1, x2, x3⟩ := hR
  obtain ⟨j, j1, j2⟩ := x3.2.2
  rw [← hz] at x3 j1
  rw [x1, hca]
  exact (al_t (tp := false) H S x3 hh (by omega) (by omega) h).mp (fun z _ => sm_2) (fun h0 _ q => ms_22 hp (Or.inl x2) hz (by omega) q ⟨by omega, Nat.le_refl _⟩) (by omega) (Nat.le_refl _)
theorem k23_t (H : TxH tf ta na ca0 k vl ql c n38 M0 F) (HS : HSz tf ta na ca0 k vl ql c n38 M0 F rt RL) (hh : hi ≤ 100000) (hlh : lo < hi) (hp : p0.toInt = (lo : Int)) (S : CkS k vl c na ca0 n38 M0 L sc cf ca ma) (hL : L.length ≤ lo) (hw : 0 ≤ (cf 42).toInt ∧ (cf 42).toInt ≤ 5000 * (lo : Int)) (hC : CtS na M0 rt lp bk lo cf) (hR : RepD k c na ma s lo hi) (h : R_mp_declare tf ta na p0 (0 : Int32) ma cf ca ma' cf' ca') : OkZ k vl c na ca0 n38 M0 L sc lo hi (Ms na ca0 M0 lo hi p0) false (fun z => sem k vl ql F rt s sc lp bk z) ma cf ma' cf' ca' := by
  obtain ⟨n, vs, x1, x2, x3, x4, x5⟩ := hR
  have c43 := hC.1.1
  rw [x1]
  have hch : (ma 22 lo).toInt = (if isChr (.arg n) = true then 1 else 0) := by
    rw [x4]
    rcases x3 with w | w
    · rw [w]; rfl
    · rw [w]; rfl
  exact (dc_r (tp := false) (ch := isChr (.arg n)) H hp ⟨fun w => absurd w (by decide), fun w => absurd rfl w⟩ x5 hh (by omega) hch S (by omega) (by omega) ⟨fun w => absurd w (by decide), fun w => by exfalso; omega⟩ h).mp (fun z _ => sm_3) (fun h0 _ q => ms_23 hp x2 rfl q ⟨by omega, Nat.le_refl _⟩) (by omega) (Nat.le_refl _)
theorem k20_t (H : TxH tf ta na ca0 k vl ql c n38 M0 F) (HS : HSz tf ta na ca0 k vl ql c n38 M0 F rt RL) (hh : hi ≤ 100000) (hlh : lo < hi) (hp : p0.toInt = (lo : Int)) (S : CkS k vl c na ca0 n38 M0 L sc cf ca ma) (hL : L.length ≤ lo) (hw : 0 ≤ (cf 42).toInt ∧ (cf 42).toInt ≤ 5000 * (lo : Int)) (hC : CtS na M0 rt lp bk lo cf) (hs : s = sNd 0 a .null) (h14 : (na 14 lo).toInt = 20) (hR : RowS na (RepS k c na ma d) a (na 17 lo).toInt (lo + 1) hi) (h : R_mp_checkBlock RL tf ta na p0 ma cf ca ma' cf' ca') : OkZ k vl c na ca0 n38 M0 L sc lo hi (Ms na ca0 M0 lo hi p0) false (fun z => sem k vl ql F rt s sc lp bk z) ma cf ma' cf' ca' := by
  rcases h with ⟨z1, h1, ma5, cf6, ca7, h2, cf40, h3, e0, e1, e2⟩ | h
  · rw [cn_of hp] at h1
    have S1 : CkS k vl c na ca0 n38 M0 L L.length (upd cf 37 (cf 33)) ca ma := ⟨S.1.sm (pk_un (by decide)), (pk_un (by decide)).trans S.2.1, S.2.2.1, S.2.2.2.1, by rw [pk_us]; exact S.1.1, Nat.le_refl _, S.2.2.2.2.2.2⟩
    have one := st_r (lp := lp) (bk := bk) HS (by rw [h1]; exact hR) hh S1 (by omega) (by rw [pk_un (by decide)]; omega) (hC.eq (pk_un (by decide)) (pk_un (by decide)) (pk_un (by decide)) (Nat.le_succ _)) h2
    rw [e0, e1, e2, hs]
    exact (lv_t S (by omega) one (fun j q => pk_un q) h3 rfl rfl).mp (fun z hz => by rw [← hz]; exact sm_0) (fun h0 _ q => ms_20 hp h14 (by rw [h1]) q ⟨by omega, Nat.le_refl _⟩) (by omega) (Nat.le_refl _)
  · exact h.elim
theorem k24_t (H : TxH tf ta na ca0 k vl ql c n38 M0 F) (HS : HSz tf ta na ca0 k vl ql c n38 M0 F rt RL) (hh : hi ≤ 100000) (hlh : lo < hi) (hp : p0.toInt = (lo : Int)) (S : CkS k vl c na ca0 n38 M0 L sc cf ca ma) (hL : L.length ≤ lo) (hw : 0 ≤ (cf 42).toInt ∧ (cf 42).toInt ≤ 5000 * (lo : Int)) (hC : CtS na M0 rt lp bk lo cf) {m : Nat} {b1 : Ast} {z1 z2 w1 : Int32} {ma2 : Nat → Nat → Int32} {cf2 : Nat → Int32} (hs : s = sNd 4 e (sRow1 b1)) (h14 : (na 14 lo).toInt = 24) (hE : OkE k c na ma e (na 17 lo).toInt (lo + 1) m) (h18 : (ma 18 lo).toInt = (m : Int)) (hR : RepS k c na ma d b1 m hi) (h19 : (ma 19 lo).toInt < 0) (hz1 : z1 = na 17 lo) (hc : RX_mp_check tf ta na ca z1 (1 : Int32) ma cf ma2 cf2 w1) (hz2 : z2 = ma2 18 lo) (hb : RL tf ta na z2 ma2 cf2 ca ma' cf' ca') : OkZ k vl c na ca0 n38 M0 L sc lo hi (Ms na ca0 M0 lo hi p0) false (fun z => sem k vl ql F rt s sc lp bk z) ma cf ma' cf' ca' := by
  have l1 := oke_le hE
  have l2 := rps_lt hR
  obtain ⟨j, j1, j2⟩ := hE.2.2
  rw [← hz1] at hE j1
  have one := nu_t (tp := false) H S hE (by omega) (by omega) (by omega) hc
  have fr : FrM ma ma2 (lo + 1) m := by obtain ⟨_, -, -, q, -⟩ := one; exact q
  have df : DfS cf cf2 := by obtain ⟨_, -, -, -, q, -⟩ := one; exact q
  rw [fr 18 lo (by omega)] at hz2
  have p2 : z2.toInt = (m : Int) := by rw [hz2]; exact h18
  rw [hs]
  refine (OkZ.seq (W := Ms na ca0 M0 lo hi p0) one (fun X1 s1 s2 s3 => HS d b1 z2 m hi sc (L ++ X1) lp bk ma2 cf2 ca ma' cf' ca' (rps_kp d b1 m hi (-1) hR (fr.ags (Nat.le_refl _)) (by omega)) hh p2 s1 s2 s3 (hC.df df (by omega)) hb) ⟨by omega, by omega⟩ (fun g1 g2 _ g0 f2 w1 w2 => ?_)).mp (fun z _ => ?_) (fun _ _ q => q) (by omega) (Nat.le_refl _)
  · have e18 : (ma' 18 lo).toInt = z2.toInt := by rw [f2 18 lo (by omega), fr 18 lo (by omega), hz2]
    have y := ms_24 (w := 0) (g3 := 0) (l3 := 0) (r3 := 0) hp hlh (Or.inl h14) hz1 (by omega) (w1.fr f2 (Or.inl (Nat.le_refl _))) ⟨by omega, by omega⟩ e18 w2 ⟨by omega, Nat.le_refl _⟩ (Or.inl ⟨by rw [f2 19 lo (by omega), fr 19 lo (by omega)]; exact h19, rfl⟩)
    rw [show max g1 (max g2 0) = max g1 g2 by omega] at y
    exact y
  · try dsimp only
    rw [sm_4]
    rcases opt_c (semE k vl F aNum e z) with h | ⟨y, h⟩
    · rw [h]; rfl
    · rw [h]
      exact sm_r1 (z := y)
theorem k24_n (H : TxH tf ta na ca0 k vl ql c n38 M0 F) (HS : HSz tf ta na ca0 k vl ql c n38 M0 F rt RL) (hh : hi ≤ 100000) (hlh : lo < hi) (hp : p0.toInt = (lo : Int)) (S : CkS k vl c na ca0 n38 M0 L sc cf ca ma) (hL : L.length ≤ lo) (hw : 0 ≤ (cf 42).toInt ∧ (cf 42).toInt ≤ 5000 * (lo : Int)) (hC : CtS na M0 rt lp bk lo cf) {m : Nat} {b1 : Ast} {z1 z2 w1 : Int32} {ma2 ma3 ca3 : Nat → Nat → Int32} {cf2 cf3 : Nat → Int32} (h14 : (na 14 lo).toInt = 24) (hE : OkE k c na ma e (na 17 lo).toInt (lo + 1) m) (h18 : (ma 18 lo).toInt = (m : Int)) (hR : RepS k c na ma d b1 m hi) (hz1 : z1 = na 17 lo) (hc : RX_mp_check tf ta na ca z1 (1 : Int32) ma cf ma2 cf2 w1) (hz2 : z2 = ma2 18 lo) (hb : RL tf ta na z2 ma2 cf2 ca ma3 cf3 ca3) : ma3 19 lo = ma 19 lo := by
  have l1 := oke_le hE
  have l2 := rps_lt hR
  rw [← hz1] at hE
  obtain ⟨X1, x1, x2, x3, x4, x5, x6⟩ := nu_t (tp := false) H S hE (by omega) (by omega) (by omega) hc
  rw [x3 18 lo (by omega)] at hz2
  obtain ⟨_, -, -, f2, -⟩ := HS d b1 z2 m hi sc (L ++ X1) lp bk ma2 cf2 ca ma3 cf3 ca3 (rps_kp d b1 m hi (-1) hR (x3.ags (Nat.le_refl _)) (by omega)) hh (by rw [hz2]; exact h18) x1 x2 x5 (hC.df x4 (by omega)) hb
  rw [f2 19 lo (by omega), x3 19 lo (by omega)]
theorem k24b_t (H : TxH tf ta na ca0 k vl ql c n38 M0 F) (HS : HSz tf ta na ca0 k vl ql c n38 M0 F rt RL) (hh : hi ≤ 100000) (hlh : lo < hi) (hp : p0.toInt = (lo : Int)) (S : CkS k vl c na ca0 n38 M0 L sc cf ca ma) (hL : L.length ≤ lo) (hw : 0 ≤ (cf 42).toInt ∧ (cf 42).toInt ≤ 5000 * (lo : Int)) (hC : CtS na M0 rt lp bk lo cf) {m m2 : Nat} {b1 b2 : Ast} {z1 z2 z3 w1 : Int32} {ma2 ma3 ca3 : Nat → Nat → Int32} {cf2 cf3 : Nat → Int32} (hs : s = sNd 4 e (sRow2 b1 b2)) (h14 : (na 14 lo).toInt = 24) (hE : OkE k c na ma e (na 17 lo).toInt (lo + 1) m) (h18 : (ma 18 lo).toInt = (m : Int)) (hR : RepS k c na ma d b1 m m2) (h19 : (ma 19 lo).toInt = (m2 : Int)) (hR2 : RepS k c na ma d b2 m2 hi) (hz1 : z1 = na 17 lo) (hc : RX_mp_check tf ta na ca z1 (1 : Int32) ma cf ma2 cf2 w1) (hz2 : z2 = ma2 18 lo) (hb : RL tf ta na z2 ma2 cf2 ca ma3 cf3 ca3) (hz3 : z3 = ma3 19 lo) (hb2 : RL tf ta na z3 ma3 cf3 ca3 ma' cf' ca') : OkZ k vl c na ca0 n38 M0 L sc lo hi (Ms na ca0 M0 lo hi p0) false (fun z => sem k vl ql F rt s sc lp bk z) ma cf ma' cf' ca' := by
  have l1 := oke_le hE
  have l2 := rps_lt hR
  have l3 := rps_lt hR2
  obtain ⟨j, j1, j2⟩ := hE.2.2
  rw [← hz1] at hE j1
  have one := nu_t (tp := false) H S hE (by omega) (by omega) (by omega) hc
  have fr : FrM ma ma2 (lo + 1) m := by obtain ⟨_, -, -, q, -⟩ := one; exact q
  have df : DfS cf cf2 := by obtain ⟨_, -, -, -, q, -⟩ := one; exact q
  rw [fr 18 lo (by omega)] at hz2
  have p2 : z2.toInt = (m : Int) := by rw [hz2]; exact h18
  have two := OkZ.seq (W := fun h ma => ∃ g1 g2 : Int, h = max g1 g2 ∧ HtX na ca0 M0 (lo + 1) m z1 g1 ma ∧ Ms na ca0 M0 m m2 z2 g2 ma) one (fun X1 s1 s2 s3 => HS d b1 z2 m m2 sc (L ++ X1) lp bk ma2 cf2 ca ma3 cf3 ca3 (rps_kp d b1 m m2 (-1) hR (fr.ags (Nat.le_refl _)) (by omega)) (by omega) p2 s1 s2 s3 (hC.df df (by omega)) hb) ⟨by omega, by omega⟩ (fun g1 g2 _ g0 f2 w1 w2 => ⟨g1, g2, rfl, w1.fr f2 (Or.inl (Nat.le_refl _)), w2⟩)
  have fr2 : FrM ma ma3 (lo + 1) m2 := by obtain ⟨_, -, -, q, -⟩ := two; exact q
  have df2 : DfS cf cf3 := by obtain ⟨_, -, -, -, q, -⟩ := two; exact q
  rw [fr2 19 lo (by omega)] at hz3
  have p3 : z3.toInt = (m2 : Int) := by rw [hz3]; exact h19
  rw [hs]
  refine (OkZ.seq (W := Ms na ca0 M0 lo hi p0) two (fun X1 s1 s2 s3 => HS d b2 z3 m2 hi sc (L ++ X1) lp bk ma3 cf3 ca3 ma' cf' ca' (rps_kp d b2 m2 hi (-1) hR2 (fr2.ags (Nat.le_refl _)) (by omega)) hh p3 s1 s2 s3 (hC.df df2 (by omega)) hb2) ⟨by omega, by omega⟩ (fun g g3 _ g0 f2 w1 w2 => ?_)).mp (fun z _ => ?_) (fun _ _ q => q) (by omega) (Nat.le_refl _)
  · obtain ⟨g1, g2, q1, q2, q3⟩ := w1
    have e18 : (ma' 18 lo).toInt = z2.toInt := by rw [f2 18 lo (by omega), fr2 18 lo (by omega), hz2]
    have y := ms_24 (w := z3) hp hlh (Or.inl h14) hz1 (by omega) (q2.fr f2 (Or.inl (by omega))) ⟨by omega, by omega⟩ e18 (q3.fr f2 (Or.inl (Nat.le_refl _))) ⟨by omega, by omega⟩ (Or.inr ⟨by rw [f2 19 lo (by omega), fr2 19 lo (by omega), hz3], by omega, w2, by omega, Nat.le_refl _⟩)
    rw [show max g1 (max g2 g3) = max g g3 by omega] at y
    exact y
  · try dsimp only
    rw [sm_4]
    rcases opt_c (semE k vl F aNum e z) with h | ⟨y, h⟩
    · rw [h]; rfl
    · rw [h]
      exact sm_r2 (z := y)
theorem k25_t (H : TxH tf ta na ca0 k vl ql c n38 M0 F) (HS : HSz tf ta na ca0 k vl ql c n38 M0 F rt RL) (hh : hi ≤ 100000) (hlh : lo < hi) (hp : p0.toInt = (lo : Int)) (S : CkS k vl c na ca0 n38 M0 L sc cf ca ma) (hL : L.length ≤ lo) (hw : 0 ≤ (cf 42).toInt ∧ (cf 42).toInt ≤ 5000 * (lo : Int)) (hC : CtS na M0 rt lp bk lo cf) {m : Nat} {b1 : Ast} {z1 z2 w1 : Int32} {ma2 : Nat → Nat → Int32} {cf2 : Nat → Int32} (hs : s = sNd 5 e (sRow1 b1)) (h14 : (na 14 lo).toInt = 25) (hE : OkE k c na ma e (na 17 lo).toInt (lo + 1) m) (h18 : (ma 18 lo).toInt = (m : Int)) (hR : RepS k c na ma d b1 m hi) (h19 : (ma 19 lo).toInt < 0) (hz1 : z1 = na 17 lo) (hc : RX_mp_check tf ta na ca z1 (1 : Int32) ma cf ma2 cf2 w1) (hz2 : z2 = ma2 18 lo) (hb : R_mp_checkBody RL tf ta na z2 ma2 cf2 ca ma' cf' ca') : OkZ k vl c na ca0 n38 M0 L sc lo hi (Ms na ca0 M0 lo hi p0) false (fun z => sem k vl ql F rt s sc lp bk z) ma cf ma' cf' ca' := by
  have l1 := oke_le hE
  have l2 := rps_lt hR
  obtain ⟨j, j1, j2⟩ := hE.2.2
  rw [← hz1] at hE j1
  have one := nu_t (tp := false) H S hE (by omega) (by omega) (by omega) hc
  have fr : FrM ma ma2 (lo + 1) m := by obtain ⟨_, -, -, q, -⟩ := one; exact q
  have df : DfS cf cf2 := by obtain ⟨_, -, -, -, q, -⟩ := one; exact q
  rw [fr 18 lo (by omega)] at hz2
  have p2 : z2.toInt = (m : Int) := by rw [hz2]; exact h18
  rw [hs]
  refine (OkZ.seq (W := Ms na ca0 M0 lo hi p0) one (fun X1 s1 s2 s3 => bo_t HS (rps_kp d b1 m hi (-1) hR (fr.ags (Nat.le_refl _)) (by omega)) hh p2 s1 s2 s3 (hC.df df (Nat.le_refl _)) (by omega) hb) ⟨by omega, by omega⟩ (fun g1 g2 _ g0 f2 w1 w2 => ?_)).mp (fun z _ => ?_) (fun _ _ q => q) (by omega) (Nat.le_refl _)
  · have e18 : (ma' 18 lo).toInt = z2.toInt := by rw [f2 18 lo (by omega), fr 18 lo (by omega), hz2]
    have y := ms_24 (w := 0) (g3 := 0) (l3 := 0) (r3 := 0) hp hlh (Or.inr (Or.inl h14)) hz1 (by omega) (w1.fr f2 (Or.inl (Nat.le_refl _))) ⟨by omega, by omega⟩ e18 w2 ⟨by omega, Nat.le_refl _⟩ (Or.inl ⟨by rw [f2 19 lo (by omega), fr 19 lo (by omega)]; exact h19, rfl⟩)
    rw [show max g1 (max g2 0) = max g1 g2 by omega] at y
    exact y
  · try dsimp only
    rw [sm_5]
    rcases opt_c (semE k vl F aNum e z) with h | ⟨y, h⟩
    · rw [h]; rfl
    · rw [h]
      exact sm_r1 (z := y)
theorem k26_t (H : TxH tf ta na ca0 k vl ql c n38 M0 F) (HS : HSz tf ta na ca0 k vl ql c n38 M0 F rt RL) (hh : hi ≤ 100000) (hlh : lo < hi) (hp : p0.toInt = (lo : Int)) (S : CkS k vl c na ca0 n38 M0 L sc cf ca ma) (hL : L.length ≤ lo) (hw : 0 ≤ (cf 42).toInt ∧ (cf 42).toInt ≤ 5000 * (lo : Int)) (hC : CtS na M0 rt lp bk lo cf) {m : Nat} {b1 : Ast} {z1 z2 w1 : Int32} {ma2 ca2 : Nat → Nat → Int32} {cf2 : Nat → Int32} (hs : s = sNd 6 (sRow1 b1) e) (h14 : (na 14 lo).toInt = 26) (h18 : (ma 18 lo).toInt = ((lo + 1 : Nat) : Int)) (hR : RepS k c na ma d b1 (lo + 1) m) (hE : OkE k c na ma e (na 17 lo).toInt m hi) (h19 : (ma 19 lo).toInt < 0) (hz2 : z2 = ma 18 lo) (hb : R_mp_checkBody RL tf ta na z2 ma cf ca ma2 cf2 ca2) (hz1 : z1 = na 17 lo) (hc : RX_mp_check tf ta na ca2 z1 (1 : Int32) ma2 cf2 ma' cf' w1) (hca : ca' = ca2) : OkZ k vl c na ca0 n38 M0 L sc lo hi (Ms na ca0 M0 lo hi p0) false (fun z => sem k vl ql F rt s sc lp bk z) ma cf ma' cf' ca' := by
  have l1 := oke_le hE
  have l2 := rps_lt hR
  obtain ⟨j, j1, j2⟩ := hE.2.2
  rw [← hz1] at hE j1
  have p2 : z2.toInt = ((lo + 1 : Nat) : Int) := by rw [hz2]; exact h18
  have one := bo_t HS hR (by omega) p2 S (by omega) (by omega) hC (Nat.lt_succ_self _) hb
  have fr : FrM ma ma2 (lo + 1) m := by obtain ⟨_, -, -, q, -⟩ := one; exact q
  rw [hs, hca]
  refine (OkZ.seq (W := Ms na ca0 M0 lo hi p0) one (fun X1 s1 s2 s3 => nu_t (tp := false) H s1 (hE.kp (FrM.ag (r := -1) fr (Or.inr (Nat.le_refl _))) (Or.inl (by omega))) hh (by omega) (by omega) hc) ⟨by omega, by omega⟩ (fun g2 g1 g0 _ f2 w2 w1 => ?_)).mp (fun z _ => ?_) (fun _ _ q => q) (by omega) (Nat.le_refl _)
  · have e18 : (ma' 18 lo).toInt = z2.toInt := by rw [f2 18 lo (by omega), fr 18 lo (by omega), hz2]
    have y := ms_24 (w := 0) (g3 := 0) (l3 := 0) (r3 := 0) hp hlh (Or.inr (Or.inr h14)) hz1 (by omega) w1 ⟨by omega, Nat.le_refl _⟩ e18 (w2.fr f2 (Or.inl (Nat.le_refl _))) ⟨by omega, by omega⟩ (Or.inl ⟨by rw [f2 19 lo (by omega), fr 19 lo (by omega)]; exact h19, rfl⟩)
    rw [show max g1 (max g2 0) = max g2 g1 by omega] at y
    exact y
  · try dsimp only
    rw [sm_6, sm_r1]
theorem kbad {x y : Int32} (S : CkS k vl c na ca0 n38 M0 L sc cf ca ma) (hL : L.length ≤ hi) (hw : 0 ≤ (cf 42).toInt ∧ (cf 42).toInt ≤ 5000 * (hi : Int)) (hb : R_mp_bad x y cf cf') (hx : ¬ x.toInt = 0) (hs : ∀ z : Sg, z.1 = L → f z = none) : OkZ k vl c na ca0 n38 M0 L sc lo hi W tp f ma cf ma cf' ca := by
  have bb := bad_r hb hx
  refine ⟨[], by rw [List.append_nil]; exact S.sm (bb.2 33 (by decide) (by decide)) (bb.2 37 (by decide) (by decide)) (bb.2 38 (by decide) (by decide)) S.2.2.2.1, by rw [List.append_nil]; exact hL, FrM.rf, bb.2.df, by rw [bb.2 42 (by decide) (by decide)]; exact hw, fun z hz => ?_⟩
  rw [hs z hz]
  exact AC.bad hb hx
theorem k33_t (H : TxH tf ta na ca0 k vl ql c n38 M0 F) (HS : HSz tf ta na ca0 k vl ql c n38 M0 F rt RL) (hh : hi ≤ 100000) (hlh : lo < hi) (hp : p0.toInt = (lo : Int)) (S : CkS k vl c na ca0 n38 M0 L sc cf ca ma) (hL : L.length ≤ lo) (hw : 0 ≤ (cf 42).toInt ∧ (cf 42).toInt ≤ 5000 * (lo : Int)) (hC : CtS na M0 rt lp bk lo cf) (h14 : (na 14 lo).toInt = 33) (hR : (s = sNd 14 .null .null ∧ (na 17 lo).toInt < 0) ∨ (∃ e : Ast, s = sNd 15 e .null ∧ OkE k c na ma e (na 17 lo).toInt (lo + 1) hi)) (h : R_mp_checkReturn RL tf ta na p0 ma cf ca ma' cf' ca') : OkZ k vl c na ca0 n38 M0 L sc lo hi (Ms na ca0 M0 lo hi p0) false (fun z => sem k vl ql F rt s sc lp bk z) ma cf ma' cf' ca' := by
  obtain ⟨c1, c2, c3⟩ := hC.1
  have m22 : ma 22 (cf 43).toNatClampNeg = M0 (cf 43).toNatClampNeg := S.2.2.2.1 _ c2
  have ck : ∀ {e : Ast} {z w : Int32} {ma1 : Nat → Nat → Int32} {cf1 cf2 : Nat → Int32}, OkE k c na ma e (na 17 lo).toInt (lo + 1) hi → z = na 17 lo → CkS k vl c na ca0 n38 M0 L sc cf2 ca ma → SmK cf cf2 → RX_mp_check tf ta na ca z (1 : Int32) ma cf2 ma1 cf1 w → OkZ k vl c na ca0 n38 M0 L sc lo hi (Ms na ca0 M0 lo hi p0) false (fun z => semE k vl F aNum e z) ma cf2 ma1 cf1 ca := by
    intro e z w ma1 cf1 cf2 hE hz S2 sm hc
    obtain ⟨j, j1, j2⟩ := hE.2.2
    rw [← hz] at hE j1
    exact (nu_t (tp := false) H S2 hE hh (by omega) (by rw [sm 42 (by decide) (by decide)]; omega) hc).mp (fun _ _ => rfl) (fun h0 _ q => ms_22 hp (Or.inr h14) hz (by omega) q ⟨by omega, Nat.le_refl _⟩) (by omega) (Nat.le_refl _)
  rcases h with ⟨z1, h1, (⟨h2, z4, h3, (⟨h4, z8, h5, cf10, h6, z33, h7, (⟨h8, e0, e1, e2⟩ | ⟨h8, z36, h9, ma39, cf40, v42, h10, e0, e1, e2⟩)⟩ | ⟨h4, z60, h5, (⟨h6, e0, e1, e2⟩ | ⟨h6, z63, h7, ma66, cf67, v69, h8, e0, e1, e2⟩)⟩)⟩ | ⟨h2, z86, h3, (⟨h4, z90, h5, (⟨h6, e0, e1, e2⟩ | ⟨h6, z93, h7, ma96, cf97, v99, h8, e0, e1, e2⟩)⟩ | ⟨h4, z117, h5, cf119, h6, z142, h7, (⟨h8, e0, e1, e2⟩ | ⟨h8, z145, h9, ma148, cf149, v151, h10, e0, e1, e2⟩)⟩)⟩)⟩ | h
  case inr => exact h.elim
  all_goals rw [m22] at h1
  all_goals rw [cn_of hp] at h3
  -- not void, no value
  · rcases hR with ⟨r1, r2⟩ | ⟨e, r1, r2⟩
    · rw [e0, e1, e2, r1]
      exact kbad S (by omega) (by omega) h6 (by decide) (fun z _ => by rw [sm_14, if_neg (fun w => h2 (by rw [h1]; exact c3.mpr w))])
    · exfalso; obtain ⟨j, j1, -⟩ := r2.2.2; rw [h3] at h4; omega
  · exfalso; rw [cn_of hp] at h7; rw [h3] at h4; rw [h7] at h8; omega
  · exfalso; rw [cn_of hp] at h5; rw [h3] at h4; rw [h5] at h6; omega
  · rcases hR with ⟨r1, r2⟩ | ⟨e, r1, r2⟩
    · exfalso; rw [h3] at h4; omega
    · rw [cn_of hp] at h7
      rw [e0, e1, e2, r1]
      exact (ck r2 h7 S SmK.rf h8).mp (fun z _ => by rw [sm_15, if_neg (fun w => h2 (by rw [h1]; exact c3.mpr w))]) (fun _ _ q => q) (Nat.le_refl _) (Nat.le_refl _)
  · rcases hR with ⟨r1, r2⟩ | ⟨e, r1, r2⟩
    · rw [e0, e1, e2, r1]
      exact (OkZ.nop (W := Ms na ca0 M0 lo hi p0) (lo := lo) (hi := hi) S (by omega) (by omega) (fun _ => ms_33n hp h14 r2)).mp (fun z _ => by rw [sm_14, if_pos (c3.mp (by rw [← h1]; exact h2))]) (fun _ _ q => q) (Nat.le_refl _) (Nat.le_refl _)
    · exfalso; obtain ⟨j, j1, -⟩ := r2.2.2; rw [h3] at h4; omega
  · exfalso; rw [cn_of hp] at h5; rw [h3] at h4; rw [h5] at h6; omega
  · exfalso; rw [cn_of hp] at h7; rw [h3] at h4; rw [h7] at h8; omega
  · rcases hR with ⟨r1, r2⟩ | ⟨e, r1, r2⟩
    · exfalso; rw [h3] at h4; omega
    · rw [cn_of hp] at h9
      have bb := bad_r h6 (by decide)
      have S2 := S.sm (bb.2 33 (by decide) (by decide)) (bb.2 37 (by decide) (by decide)) (bb.2 38 (by decide) (by decide)) S.2.2.2.1
      obtain ⟨X, a1, a2, a3, a4, a5, a6⟩ := ck r2 h9 S2 bb.2 h10
      rw [e0, e1, e2, r1]
      refine ⟨X, a1, a2, a3, bb.2.df.tr a4, a5, fun z hz => ?_⟩
      have B := (a6 z hz).1 bb.1
      exact AC.of (fun _ => B) (fun _ => Or.inl ⟨by rw [sm_15, if_pos (c3.mp (by rw [← h1]; exact h2))], B⟩)

end SH
/-! THE REFERENCE's checker: for, break, continue (laid by gens8.py) -/
section SI
variable {tf : Nat → Int32} {ta na ca ca0 ca1 ca' ma ma' ma1 : Nat → Nat → Int32} {vl M0 : Nat → Int32} {k : Nat → Int} {ql : Nat → Int} {c sc lo hi mid d : Nat} {n38 : Int32} {F : Int32 → Option Fnc} {cf cf' cf1 cf0 cf6 cf7 : Nat → Int32} {L : Nms} {p0 p1 v : Int32} {e a b s : Ast} {tp lp bk : Bool} {x f : Sg → Option Sg} {W W1 W2 : Int → (Nat → Nat → Int32) → Prop} {rt : Int} {RL : T_mp_checkStatement}
theorem HtO.fr {l r l2 r2 : Nat} {z : Int32} {g : Int} (h : HtO na ca0 M0 l r z g ma) (f : FrM ma ma' l2 r2) (q : r ≤ l2 ∨ r2 ≤ l) : HtO na ca0 M0 l r z g ma' := by
  rcases h with h | ⟨h1, h2⟩
  · exact Or.inl h
  · exact Or.inr ⟨h1, h2.fr f q⟩
/-- what stands first in the brackets -/
def WfA (na ca0 : Nat → Nat → Int32) (M0 : Nat → Int32) (l r : Nat) (x : Int32) (g : Int) (ma : Nat → Nat → Int32) : Prop := (x.toInt < 0 ∧ g = 0) ∨ (0 ≤ x.toInt ∧ Ms na ca0 M0 l r x g ma)
theorem WfA.fr {l r l2 r2 : Nat} {x : Int32} {g : Int} (h : WfA na ca0 M0 l r x g ma) (f : FrM ma ma' l2 r2) (q : r ≤ l2 ∨ r2 ≤ l) : WfA na ca0 M0 l r x g ma' := by
  rcases h with h | ⟨h1, h2⟩
  · exact Or.inl h
  · exact Or.inr ⟨h1, h2.fr f q⟩
theorem fa_t {z0 : Int32} (HS : HSz tf ta na ca0 k vl ql c n38 M0 F rt RL) (hA : OkF k c na ma a z0.toInt lo hi) (hh : hi ≤ 100000) (S : CkS k vl c na ca0 n38 M0 L sc cf ca ma) (hL : L.length ≤ lo) (hw : 0 ≤ (cf 42).toInt ∧ (cf 42).toInt ≤ 5000 * (lo : Int)) (hC : CtS na M0 rt lp bk lo cf) (h : (z0.toInt < 0 ∧ ma' = ma ∧ cf' = cf ∧ ca' = ca) ∨ (¬ z0.toInt < 0 ∧ RL tf ta na z0 ma cf ca ma' cf' ca')) : OkZ k vl c na ca0 n38 M0 L sc lo hi (WfA na ca0 M0 lo hi z0) false (fun z => sem k vl ql F rt a sc lp bk z) ma cf ma' cf' ca' := by
  have le := okf_le hA
  rcases h with ⟨h1, h2, h3, h4⟩ | ⟨h1, h2⟩
  · rcases hA with ⟨x1, -⟩ | ⟨s, x1, x2, -⟩
    · rw [x1, h2, h3, h4]
      exact (OkZ.nop (W := WfA na ca0 M0 lo hi z0) (lo := lo) (hi := hi) S (by omega) (by omega) (fun _ => Or.inl ⟨h1, rfl⟩)).mp (fun z _ => sm_n) (fun _ _ q => q) (Nat.le_refl _) (Nat.le_refl _)
    · exfalso; omega
  · rcases hA with ⟨x1, x2, -⟩ | ⟨s, x1, x2, x3, x4⟩
    · exact absurd x2 h1
    · have hR : RepS k c na ma 1 s lo hi := ⟨x3, x4.elim (fun q => Or.inl q) (fun q => Or.inr (Or.inl q))⟩
      rw [x1]
      exact (HS 1 s z0 lo hi sc L lp bk ma cf ca ma' cf' ca' hR hh x2 S hL hw hC h2).mp (fun z _ => sm_r1) (fun h0 _ q => Or.inr ⟨by omega, q⟩) (Nat.le_refl _) (Nat.le_refl _)
theorem fb_t {z0 : Int32} (H : TxH tf ta na ca0 k vl ql c n38 M0 F) (hA : OkO k c na ma 8 a z0.toInt lo hi) (hh : hi ≤ 100000) (S : CkS k vl c na ca0 n38 M0 L sc cf ca ma) (hL : L.length ≤ lo) (hw : 0 ≤ (cf 42).toInt ∧ (cf 42).toInt ≤ 5000 * (lo : Int)) (h : (z0.toInt < 0 ∧ ma' = ma ∧ cf' = cf) ∨ (¬ z0.toInt < 0 ∧ ∃ w : Int32, RX_mp_check tf ta na ca z0 (1 : Int32) ma cf ma' cf' w)) : OkZ k vl c na ca0 n38 M0 L sc lo hi (HtO na ca0 M0 lo hi z0) false (fun z => sem k vl ql F rt a sc lp bk z) ma cf ma' cf' ca := by
  have le := oko_le hA
  rcases h with ⟨h1, h2, h3⟩ | ⟨h1, w, h2⟩
  · rcases hA with ⟨x1, -⟩ | ⟨e, x1, x2⟩
    · rw [x1, h2, h3]
      exact (OkZ.nop (W := HtO na ca0 M0 lo hi z0) (lo := lo) (hi := hi) S (by omega) (by omega) (fun _ => Or.inl ⟨h1, rfl⟩)).mp (fun z _ => sm_n) (fun _ _ q => q) (Nat.le_refl _) (Nat.le_refl _)
    · exfalso; obtain ⟨j, j1, -⟩ := x2.2.2; omega
  · rcases hA with ⟨x1, x2, -⟩ | ⟨e, x1, x2⟩
    · exact absurd x2 h1
    · rw [x1]
      exact (nu_t (tp := false) H S x2 hh (by omega) (by omega) h2).mp (fun z _ => sm_r1.trans sm_8) (fun h0 _ q => Or.inr ⟨by omega, q⟩) (Nat.le_refl _) (Nat.le_refl _)
theorem fc_t {z0 : Int32} (H : TxH tf ta na ca0 k vl ql c n38 M0 F) (hA : OkO k c na ma 2 a z0.toInt lo hi) (hh : hi ≤ 100000) (S : CkS k vl c na ca0 n38 M0 L sc cf ca ma) (hL : L.length ≤ lo) (hw : 0 ≤ (cf 42).toInt ∧ (cf 42).toInt ≤ 5000 * (lo : Int)) (h : (z0.toInt < 0 ∧ ma' = ma ∧ cf' = cf) ∨ (¬ z0.toInt < 0 ∧ R_mp_checkAlone tf ta na ca z0 ma cf ma' cf')) : OkZ k vl c na ca0 n38 M0 L sc lo hi (HtO na ca0 M0 lo hi z0) false (fun z => sem k vl ql F rt a sc lp bk z) ma cf ma' cf' ca := by
  have le := oko_le hA
  rcases h with ⟨h1, h2, h3⟩ | ⟨h1, h2⟩
  · rcases hA with ⟨x1, -⟩ | ⟨e, x1, x2⟩
    · rw [x1, h2, h3]
      exact (OkZ.nop (W := HtO na ca0 M0 lo hi z0) (lo := lo) (hi := hi) S (by omega) (by omega) (fun _ => Or.inl ⟨h1, rfl⟩)).mp (fun z _ => sm_n) (fun _ _ q => q) (Nat.le_refl _) (Nat.le_refl _)
    · exfalso; obtain ⟨j, j1, -⟩ := x2.2.2; omega
  · rcases hA with ⟨x1, x2, -⟩ | ⟨e, x1, x2⟩
    · exact absurd x2 h1
    · rw [x1]
      exact (al_t (tp := false) H S x2 hh (by omega) (by omega) h2).mp (fun z _ => sm_r1.trans sm_2) (fun h0 _ q => Or.inr ⟨by omega, q⟩) (Nat.le_refl _) (Nat.le_refl _)
/-- for, its four parts one behind another -/
theorem fd_t (H : TxH tf ta na ca0 k vl ql c n38 M0 F) (HS : HSz tf ta na ca0 k vl ql c n38 M0 F rt RL) (hh : hi ≤ 100000) (hlh : lo < hi) (hp : p0.toInt = (lo : Int)) (S : CkS k vl c na ca0 n38 M0 L sc cf ca ma) (hL : L.length ≤ lo) (hw : 0 ≤ (cf 42).toInt ∧ (cf 42).toInt ≤ 5000 * (lo : Int)) (hC : CtS na M0 rt lp bk lo cf) {m1 m2 m3 : Nat} {a b e b1 : Ast} {x1 x2 x3 x4 : Int32} {maA maB maC caA : Nat → Nat → Int32} {cfA cfB cfC cfD : Nat → Int32} {pw pq : Int32} (hs : s = sNd 7 (.add a (.add b (.add e .null))) (sRow1 b1)) (h14 : (na 14 lo).toInt = 27) (hA : OkF k c na ma a (na 17 lo).toInt (lo + 1) m1) (hB : OkO k c na ma 8 b (ma 18 lo).toInt m1 m2) (hD : OkO k c na ma 2 e (ma 19 lo).toInt m2 m3) (h20 : (ma 20 lo).toInt = (m3 : Int)) (hR : RepS k c na ma d b1 m3 hi) (ex1 : x1 = na 17 lo) (A : (x1.toInt < 0 ∧ maA = ma ∧ cfA = upd cf 37 (cf 33) ∧ caA = ca) ∨ (¬ x1.toInt < 0 ∧ RL tf ta na x1 ma (upd cf 37 (cf 33)) ca maA cfA caA)) (ex2 : x2 = maA 18 lo) (B : (x2.toInt < 0 ∧ maB = maA ∧ cfB = cfA) ∨ (¬ x2.toInt < 0 ∧ ∃ w : Int32, RX_mp_check tf ta na caA x2 (1 : Int32) maA cfA maB cfB w)) (ex3 : x3 = maB 19 lo) (C : (x3.toInt < 0 ∧ maC = maB ∧ cfC = cfB) ∨ (¬ x3.toInt < 0 ∧ R_mp_checkAlone tf ta na caA x3 maB cfB maC cfC)) (ex4 : x4 = maC 20 lo) (E : R_mp_checkBody RL tf ta na x4 maC cfC caA ma' cfD ca') (hlv : R_mp_leave pw pq cfD cf') (hpw : pw = cf 33) (hpq : pq = cf 37) : OkZ k vl c na ca0 n38 M0 L sc lo hi (Ms na ca0 M0 lo hi p0) false (fun z => sem k vl ql F rt s sc lp bk z) ma cf ma' cf' ca' := by
  have l1 := okf_le hA
  have l2 := oko_le hB
  have l3 := oko_le hD
  have l4 := rps_lt hR
  have S1 : CkS k vl c na ca0 n38 M0 L L.length (upd cf 37 (cf 33)) ca ma := ⟨S.1.sm (pk_un (by decide)), (pk_un (by decide)).trans S.2.1, S.2.2.1, S.2.2.2.1, by rw [pk_us]; exact S.1.1, Nat.le_refl _, S.2.2.2.2.2.2⟩
  have hC1 : CtS na M0 rt lp bk (lo + 1) (upd cf 37 (cf 33)) := hC.eq (pk_un (by decide)) (pk_un (by decide)) (pk_un (by decide)) (Nat.le_succ _)
  have tA := fa_t (lp := lp) (bk := bk) HS (by rw [ex1]; exact hA) (by omega) S1 (by omega) (by rw [pk_un (by decide)]; omega) hC1 A
  have fA : FrM ma maA (lo + 1) m1 := by obtain ⟨_, -, -, q, -⟩ := tA; exact q
  have dA : DfS (upd cf 37 (cf 33)) cfA := by obtain ⟨_, -, -, -, q, -⟩ := tA; exact q
  rw [fA 18 lo (by omega)] at ex2
  have tB := OkZ.seq (W := fun h ma => ∃ g1 g2 : Int, h = max g1 g2 ∧ WfA na ca0 M0 (lo + 1) m1 x1 g1 ma ∧ HtO na ca0 M0 m1 m2 x2 g2 ma) tA (fun X1 s1 s2 s3 => fb_t (lp := lp) (bk := bk) (rt := rt) H (by rw [ex2]; exact oko_kp hB (FrM.ag (r := -1) fA (Or.inr (Nat.le_refl _))) (by omega)) (by omega) s1 s2 s3 B) ⟨l1, l2⟩ (fun g1 g2 _ _ f2 w1 w2 => ⟨g1, g2, rfl, w1.fr f2 (Or.inl (Nat.le_refl _)), w2⟩)
  have fB : FrM ma maB (lo + 1) m2 := by obtain ⟨_, -, -, q, -⟩ := tB; exact q
  have dB : DfS (upd cf 37 (cf 33)) cfB := by obtain ⟨_, -, -, -, q, -⟩ := tB; exact q
  rw [fB 19 lo (by omega)] at ex3
  have tC := OkZ.seq (W := fun h ma => ∃ g1 g2 g3 : Int, h = max (max g1 g2) g3 ∧ WfA na ca0 M0 (lo + 1) m1 x1 g1 ma ∧ HtO na ca0 M0 m1 m2 x2 g2 ma ∧ HtO na ca0 M0 m2 m3 x3 g3 ma) tB (fun X1 s1 s2 s3 => fc_t (lp := lp) (bk := bk) (rt := rt) H (by rw [ex3]; exact oko_kp hD (FrM.ag (r := -1) fB (Or.inr (Nat.le_refl _))) (by omega)) (by omega) s1 s2 s3 C) ⟨by omega, l3⟩ (fun g g3 _ _ f2 w1 w2 => by
    obtain ⟨g1, g2, q1, q2, q3⟩ := w1
    exact ⟨g1, g2, g3, by rw [q1], q2.fr f2 (Or.inl (by omega)), q3.fr f2 (Or.inl (Nat.le_refl _)), w2⟩)
  have fC : FrM ma maC (lo + 1) m3 := by obtain ⟨_, -, -, q, -⟩ := tC; exact q
  have dC : DfS (upd cf 37 (cf 33)) cfC := by obtain ⟨_, -, -, -, q, -⟩ := tC; exact q
  rw [fC 20 lo (by omega)] at ex4
  have p4 : x4.toInt = (m3 : Int) := by rw [ex4]; exact h20
  have tD := OkZ.seq (W := Ms na ca0 M0 lo hi p0) tC (fun X1 s1 s2 s3 => bo_t HS (rps_kp d b1 m3 hi (-1) hR (fC.ags (Nat.le_refl _)) (by omega)) hh p4 s1 s2 s3 (hC1.df dC (Nat.le_refl _)) (by omega) E) ⟨by omega, by omega⟩ (fun g g4 _ _ f2 w1 w2 => by
    obtain ⟨g1, g2, g3, q1, q2, q3, q4⟩ := w1
    have y := ms_27 hp hlh h14 (show (na 17 lo).toInt = x1.toInt by rw [ex1]) (q2.fr f2 (Or.inl (by omega))) ⟨by omega, by omega⟩ (show ma' 18 lo = x2 by rw [f2 18 lo (by omega), fC 18 lo (by omega), ex2]) (q3.fr f2 (Or.inl (by omega))) ⟨by omega, by omega⟩ (show ma' 19 lo = x3 by rw [f2 19 lo (by omega), fC 19 lo (by omega), ex3]) (q4.fr f2 (Or.inl (Nat.le_refl _))) ⟨by omega, by omega⟩ (show (ma' 20 lo).toInt = x4.toInt by rw [f2 20 lo (by omega), fC 20 lo (by omega), ex4]) w2 ⟨by omega, Nat.le_refl _⟩
    rw [show max g1 (max g2 (max g3 g4)) = max g g4 by omega] at y
    exact y)
  rw [hs]
  refine (lv_t S (by omega) tD (fun j q => pk_un q) hlv hpw hpq).mp (fun z hz => ?_) (fun _ _ q => q) (by omega) (Nat.le_refl _)
  try dsimp only
  rw [sm_7, sm_r3, hz]
  rcases opt_c (((sem k vl ql F rt a L.length lp bk z).bind fun z => sem k vl ql F rt b L.length lp bk z).bind fun z => sem k vl ql F rt e L.length lp bk z) with h | ⟨y, h⟩
  · rw [h]; rfl
  · rw [h]
    show ((sem k vl ql F rt (sRow1 b1) L.length true true y).bind _) = ((sem k vl ql F rt b1 L.length true true y).bind _)
    rw [sm_r1]

theorem k27_t (H : TxH tf ta na ca0 k vl ql c n38 M0 F) (HS : HSz tf ta na ca0 k vl ql c n38 M0 F rt RL) (hh : hi ≤ 100000) (hlh : lo < hi) (hp : p0.toInt = (lo : Int)) (S : CkS k vl c na ca0 n38 M0 L sc cf ca ma) (hL : L.length ≤ lo) (hw : 0 ≤ (cf 42).toInt ∧ (cf 42).toInt ≤ 5000 * (lo : Int)) (hC : CtS na M0 rt lp bk lo cf) {m1 m2 m3 : Nat} {a b e b1 : Ast} (hs : s = sNd 7 (.add a (.add b (.add e .null))) (sRow1 b1)) (k14 : (na 14 lo).toInt = 27) (hA : OkF k c na ma a (na 17 lo).toInt (lo + 1) m1) (hB : OkO k c na ma 8 b (ma 18 lo).toInt m1 m2) (hD : OkO k c na ma 2 e (ma 19 lo).toInt m2 m3) (k20 : (ma 20 lo).toInt = (m3 : Int)) (hR : RepS k c na ma d b1 m3 hi) (h : R_mp_checkFor RL tf ta na p0 ma cf ca ma' cf' ca') : OkZ k vl c na ca0 n38 M0 L sc lo hi (Ms na ca0 M0 lo hi p0) false (fun z => sem k vl ql F rt s sc lp bk z) ma cf ma' cf' ca' := by
  rcases h with ⟨z1, h1, (⟨h2, z4, h3, (⟨h4, z7, h5, (⟨h6, z10, h7, ma14, cf15, ca16, h8, cf49, h9, e0, e1, e2⟩ | ⟨h6, z71, h7, ma74, cf75, h8, z90, h9, ma94, cf95, ca96, h10, cf129, h11, e0, e1, e2⟩)⟩ | ⟨h4, z151, h5, ma154, cf155, v157, h6, z174, h7, (⟨h8, z177, h9, ma181, cf182, ca183, h10, cf216, h11, e0, e1, e2⟩ | ⟨h8, z238, h9, ma241, cf242, h10, z257, h11, ma261, cf262, ca263, h12, cf296, h13, e0, e1, e2⟩)⟩)⟩ | ⟨h2, z318, h3, ma322, cf323, ca324, h4, z356, h5, (⟨h6, z359, h7, (⟨h8, z362, h9, ma366, cf367, ca368, h10, cf401, h11, e0, e1, e2⟩ | ⟨h8, z423, h9, ma426, cf427, h10, z442, h11, ma446, cf447, ca448, h12, cf481, h13, e0, e1, e2⟩)⟩ | ⟨h6, z503, h7, ma506, cf507, v509, h8, z526, h9, (⟨h10, z529, h11, ma533, cf534, ca535, h12, cf568, h13, e0, e1, e2⟩ | ⟨h10, z590, h11, ma593, cf594, h12, z609, h13, ma613, cf614, ca615, h14, cf648, h15, e0, e1, e2⟩)⟩)⟩)⟩ | h
  case inr => exact h.elim
  · rw [cn_of hp] at h1 h3 h5 h7
    rw [e0, e1, e2]
    exact fd_t H HS hh hlh hp S hL hw hC hs k14 hA hB hD k20 hR h1 (Or.inl ⟨h2, rfl, rfl, rfl⟩) h3 (Or.inl ⟨h4, rfl, rfl⟩) h5 (Or.inl ⟨h6, rfl, rfl⟩) h7 h8 h9 rfl rfl
  · rw [cn_of hp] at h1 h3 h5 h7 h9
    rw [e0, e1, e2]
    exact fd_t H HS hh hlh hp S hL hw hC hs k14 hA hB hD k20 hR h1 (Or.inl ⟨h2, rfl, rfl, rfl⟩) h3 (Or.inl ⟨h4, rfl, rfl⟩) h7 (Or.inr ⟨(by rw [h7, ← h5]; exact h6), h8⟩) h9 h10 h11 rfl rfl
  · rw [cn_of hp] at h1 h3 h5 h7 h9
    rw [e0, e1, e2]
    exact fd_t H HS hh hlh hp S hL hw hC hs k14 hA hB hD k20 hR h1 (Or.inl ⟨h2, rfl, rfl, rfl⟩) h5 (Or.inr ⟨(by rw [h5, ← h3]; exact h4), _, h6⟩) h7 (Or.inl ⟨h8, rfl, rfl⟩) h9 h10 h11 rfl rfl
  · rw [cn_of hp] at h1 h3 h5 h7 h9 h11
    rw [e0, e1, e2]
    exact fd_t H HS hh hlh hp S hL hw hC hs k14 hA hB hD k20 hR h1 (Or.inl ⟨h2, rfl, rfl, rfl⟩) h5 (Or.inr ⟨(by rw [h5, ← h3]; exact h4), _, h6⟩) h9 (Or.inr ⟨(by rw [h9, ← h7]; exact h8), h10⟩) h11 h12 h13 rfl rfl
  · rw [cn_of hp] at h1 h3 h5 h7 h9
    rw [e0, e1, e2]
    exact fd_t H HS hh hlh hp S hL hw hC hs k14 hA hB hD k20 hR h3 (Or.inr ⟨(by rw [h3, ← h1]; exact h2), h4⟩) h5 (Or.inl ⟨h6, rfl, rfl⟩) h7 (Or.inl ⟨h8, rfl, rfl⟩) h9 h10 h11 rfl rfl
  · rw [cn_of hp] at h1 h3 h5 h7 h9 h11
    rw [e0, e1, e2]
    exact fd_t H HS hh hlh hp S hL hw hC hs k14 hA hB hD k20 hR h3 (Or.inr ⟨(by rw [h3, ← h1]; exact h2), h4⟩) h5 (Or.inl ⟨h6, rfl, rfl⟩) h9 (Or.inr ⟨(by rw [h9, ← h7]; exact h8), h10⟩) h11 h12 h13 rfl rfl
  · rw [cn_of hp] at h1 h3 h5 h7 h9 h11
    rw [e0, e1, e2]
    exact fd_t H HS hh hlh hp S hL hw hC hs k14 hA hB hD k20 hR h3 (Or.inr ⟨(by rw [h3, ← h1]; exact h2), h4⟩) h7 (Or.inr ⟨(by rw [h7, ← h5]; exact h6), _, h8⟩) h9 (Or.inl ⟨h10, rfl, rfl⟩) h11 h12 h13 rfl rfl
  · rw [cn_of hp] at h1 h3 h5 h7 h9 h11 h13
    rw [e0, e1, e2]
    exact fd_t H HS hh hlh hp S hL hw hC hs k14 hA hB hD k20 hR h3 (Or.inr ⟨(by rw [h3, ← h1]; exact h2), h4⟩) h7 (Or.inr ⟨(by rw [h7, ← h5]; exact h6), _, h8⟩) h11 (Or.inr ⟨(by rw [h11, ← h9]; exact h10), h12⟩) h13 h14 h15 rfl rfl
theorem k31_t (S : CkS k vl c na ca0 n38 M0 L sc cf ca ma) (hlh : lo < hi) (hp : p0.toInt = (lo : Int)) (hL : L.length ≤ lo) (hw : 0 ≤ (cf 42).toInt ∧ (cf 42).toInt ≤ 5000 * (lo : Int)) (h14 : (na 14 lo).toInt = 21 ∨ (29 ≤ (na 14 lo).toInt ∧ (na 14 lo).toInt ≤ 32)) (hs : ∀ z : Sg, z.1 = L → sem k vl ql F rt s sc lp bk z = some z) : OkZ k vl c na ca0 n38 M0 L sc lo hi (Ms na ca0 M0 lo hi p0) false (fun z => sem k vl ql F rt s sc lp bk z) ma cf ma cf ca :=
  (OkZ.nop (W := Ms na ca0 M0 lo hi p0) (lo := lo) (hi := hi) S (by omega) (by omega) (fun _ => ms_n hp h14)).mp hs (fun _ _ q => q) (Nat.le_refl _) (Nat.le_refl _)
end SI
/-! THE REFERENCE's checker: switch (laid by gens9.py) -/
/-- nodes one behind another, from a to b -/
def ChP (na : Nat → Nat → Int32) : List Nat → Int → Int → Prop
  | [], a, b => a = b
  | i :: l, a, b => a = (i : Int) ∧ ChP na l (na 21 i).toInt b
theorem ChP.snoc {na : Nat → Nat → Int32} {j : Nat} : ∀ {l : List Nat} {a : Int}, ChP na l a (j : Int) → ChP na (l ++ [j]) a (na 21 j).toInt
  | [], _, h => ⟨h, rfl⟩
  | _ :: _, _, h => ⟨h.1, ChP.snoc h.2⟩
/-- the cases so far -/
def CsI (na ma : Nat → Nat → Int32) (pre : List Nat) (cs : List Int32) : Prop := (∀ j : Nat, j ∈ pre → (na 14 j).toInt = 29 → (ma 22 j).toInt = 1) ∧ ∀ x : Int32, x ∈ cs ↔ ∃ j : Nat, j ∈ pre ∧ (na 14 j).toInt = 29 ∧ ma 18 j = x
theorem CsI.fr {na ma ma' : Nat → Nat → Int32} {pre : List Nat} {cs : List Int32} {lo hi : Nat} (h : CsI na ma pre cs) (f : FrM ma ma' lo hi) (q : ∀ j : Nat, j ∈ pre → j < lo) : CsI na ma' pre cs := by
  refine ⟨fun j hj h29 => by rw [f 22 j (Or.inl (q j hj))]; exact h.1 j hj h29, fun x => ⟨fun hx => ?_, fun hx => ?_⟩⟩
  · obtain ⟨j, j1, j2, j3⟩ := (h.2 x).mp hx
    exact ⟨j, j1, j2, by rw [f 18 j (Or.inl (q j j1))]; exact j3⟩
  · obtain ⟨j, j1, j2, j3⟩ := hx
    rw [f 18 j (Or.inl (q j j1))] at j3
    exact (h.2 x).mpr ⟨j, j1, j2, j3⟩
theorem CsI.no {na ma : Nat → Nat → Int32} {pre : List Nat} {cs : List Int32} {j : Nat} (h : CsI na ma pre cs) (h29 : ¬ (na 14 j).toInt = 29) : CsI na ma (pre ++ [j]) cs := by
  refine ⟨fun i hi q => ?_, fun x => ⟨fun hx => ?_, fun hx => ?_⟩⟩
  · rcases List.mem_append.mp hi with w | w
    · exact h.1 i w q
    · rw [List.mem_singleton] at w
      rw [w] at q
      exact absurd q h29
  · obtain ⟨i, i1, i2⟩ := (h.2 x).mp hx
    exact ⟨i, List.mem_append.mpr (Or.inl i1), i2⟩
  · obtain ⟨i, i1, i2, i3⟩ := hx
    rcases List.mem_append.mp i1 with w | w
    · exact (h.2 x).mpr ⟨i, w, i2, i3⟩
    · rw [List.mem_singleton] at w
      rw [w] at i2
      exact absurd i2 h29
theorem CsI.yes {na ma : Nat → Nat → Int32} {pre : List Nat} {cs : List Int32} {j : Nat} (h : CsI na ma pre cs) (h29 : (na 14 j).toInt = 29) (h22 : (ma 22 j).toInt = 1) : CsI na ma (pre ++ [j]) (cs ++ [ma 18 j]) := by
  refine ⟨fun i hi q => ?_, fun x => ⟨fun hx => ?_, fun hx => ?_⟩⟩
  · rcases List.mem_append.mp hi with w | w
    · exact h.1 i w q
    · rw [List.mem_singleton] at w
      rw [w]; exact h22
  · rcases List.mem_append.mp hx with w | w
    · obtain ⟨i, i1, i2⟩ := (h.2 x).mp w
      exact ⟨i, List.mem_append.mpr (Or.inl i1), i2⟩
    · rw [List.mem_singleton] at w
      exact ⟨j, List.mem_append.mpr (Or.inr (List.mem_singleton.mpr rfl)), h29, w.symm⟩
  · obtain ⟨i, i1, i2, i3⟩ := hx
    rcases List.mem_append.mp i1 with w | w
    · exact List.mem_append.mpr (Or.inl ((h.2 x).mpr ⟨i, w, i2, i3⟩))
    · rw [List.mem_singleton] at w
      rw [w] at i3
      exact List.mem_append.mpr (Or.inr (List.mem_singleton.mpr i3.symm))
/-- what stands in a switch, from one of its parts on -/
def OkU (k : Nat → Int) (vl : Nat → Int32) (c : Nat) (na ca0 : Nat → Nat → Int32) (n38 : Int32) (M0 : Nat → Int32) (L0 X0 : Nms) (lo hi : Nat) (n : Int) (cs : List Int32) (df : Bool) (x : Sg → Option Sg) (x2 x3 : Int32) (ma : Nat → Nat → Int32) (cf : Nat → Int32) (ma' : Nat → Nat → Int32) (cf' : Nat → Int32) (ca' : Nat → Nat → Int32) : Prop := ∃ (X : Nms) (cf6 : Nat → Int32) (z : Int32), z = cf6 45 - (1 : Int32) ∧ R_mp_leave x2 x3 (upd cf6 45 z) cf' ∧ CkS k vl c na ca0 n38 M0 (L0 ++ X) L0.length cf6 ca' ma' ∧ (L0 ++ X).length ≤ hi ∧ FrM ma ma' lo hi ∧ DfS cf cf6 ∧ (0 ≤ (cf6 42).toInt ∧ (cf6 42).toInt ≤ 5000 * (hi : Int)) ∧ ∀ s : Sg, s.1 = L0 ++ X0 → s.2.2.2 = (cs, df) → AC cf cf6 (x s) (fun s' => s'.1 = L0 ++ X ∧ s'.2.1 = s.2.1 + ((cf6 42).toInt - (cf 42).toInt) ∧ (0 ≤ s.2.2.1 → ∃ h : Int, s'.2.2.1 = max s.2.2.1 h ∧ 0 ≤ h ∧ MsR na ca0 M0 lo hi n h ma'))
section SJ
variable {tf : Nat → Int32} {ta na ca ca0 ca1 ca' ma ma' ma1 : Nat → Nat → Int32} {vl M0 : Nat → Int32} {k : Nat → Int} {ql : Nat → Int} {c sc lo hi mid d : Nat} {n38 : Int32} {F : Int32 → Option Fnc} {cf cf' cf1 cf0 cf6 cf7 : Nat → Int32} {L : Nms} {p0 p1 v : Int32} {e a b s : Ast} {tp lp bk : Bool} {x f : Sg → Option Sg} {W W1 W2 : Int → (Nat → Nat → Int32) → Prop} {rt : Int} {RL : T_mp_checkStatement}
theorem rps_kd (h : RepS k c na ma d s lo hi) : ¬ (na 14 lo).toInt = 29 ∧ ¬ (na 14 lo).toInt = 30 := by
  cases d with
  | zero => exact h.elim
  | succ d =>
    obtain ⟨-, h⟩ := h
    rcases h with ⟨e, -, q, -⟩ | ⟨n, vs, -, q, -⟩ | ⟨a, -, q, -⟩ | ⟨-, q⟩ | ⟨e, s1, m, -, q, -⟩ | ⟨e, s1, s2, m, m2, -, q, -⟩ | ⟨e, s1, m, -, q, -⟩ | ⟨e, s1, m, -, q, -⟩ | ⟨a, b, e, s1, m1, m2, m3, -, q, -⟩ | ⟨e, b, m, -, q, -⟩ | ⟨-, q⟩ | ⟨-, q⟩ | ⟨-, q, -⟩ | ⟨e, -, q, -⟩
    all_goals omega
theorem OkU.st {L0 X0 X1 : Nms} {cs cs1 : List Int32} {df df1 : Bool} {x2 x3 p : Int32} {y : Sg → Option Sg} (fr : FrM ma ma1 lo mid) (dd : DfS cf cf1) (hp : p.toInt = (lo : Int)) (hl : lo ≤ mid ∧ mid ≤ hi) (a : ∀ s : Sg, s.1 = L0 ++ X0 → s.2.2.2 = (cs, df) → AC cf cf1 (y s) (fun s1 => s1.1 = L0 ++ X1 ∧ s1.2.2.2 = (cs1, df1) ∧ s1.2.1 = s.2.1 + ((cf1 42).toInt - (cf 42).toInt) ∧ (0 ≤ s.2.2.1 → ∃ h : Int, s1.2.2.1 = max s.2.2.1 h ∧ 0 ≤ h ∧ Ms na ca0 M0 lo mid p h ma1))) (b : OkU k vl c na ca0 n38 M0 L0 X1 mid hi (na 21 lo).toInt cs1 df1 f x2 x3 ma1 cf1 ma' cf' ca') : OkU k vl c na ca0 n38 M0 L0 X0 lo hi p.toInt cs df (fun s => (y s).bind f) x2 x3 ma cf ma' cf' ca' := by
  obtain ⟨X, cf6, z, b1, b2, b3, b4, b5, b6, b7, b8⟩ := b
  refine ⟨X, cf6, z, b1, b2, b3, b4, (fr.le (Nat.le_refl _) hl.2).tr (b5.le hl.1 (Nat.le_refl _)), dd.tr b6, b7, fun s hs hd => ?_⟩
  refine AC.bind (a s hs hd) (fun s1 q => ?_) (b8 (L0 ++ X1, 0, 0, cs1, df1) rfl rfl).1
  obtain ⟨q1, q2, q3, q4⟩ := q
  refine (b8 s1 q1 q2).imp (fun s2 r => ⟨r.1, by rw [r.2.1, q3]; omega, fun h0 => ?_⟩)
  obtain ⟨h1, g1, g2, g3⟩ := q4 h0
  obtain ⟨h2, g4, g5, g6⟩ := r.2.2 (by omega)
  exact ⟨max h1 h2, by rw [g4, g1]; omega, by omega, MsR.cons hp hp (g3.fr b5 (Or.inl (Nat.le_refl _))) g6 hl⟩
theorem OkU.mp {L0 X0 : Nms} {cs : List Int32} {df : Bool} {x2 x3 : Int32} {n : Int} {x' : Sg → Option Sg} (a : OkU k vl c na ca0 n38 M0 L0 X0 lo hi n cs df x x2 x3 ma cf ma' cf' ca') (hx : ∀ s : Sg, x' s = x s) : OkU k vl c na ca0 n38 M0 L0 X0 lo hi n cs df x' x2 x3 ma cf ma' cf' ca' := by
  have e : x' = x := funext hx
  rw [e]
  exact a
/-- whether one of the nodes before is a case of the same number -/
theorem sw_113 {x2 x3 x4 x5 : Int32} {kk : Nat} (k5 : x5.toInt = (kk : Int)) : ∀ (rest : List Nat) (m : Nat) (x6 : Int32) (cf : Nat → Int32), E_mp_checkSwitch RL tf ta na p0 ma' cf' ca' m 113 [x2, x3, x4, x5, x6] [] [] [] [] ma cf ca → ChP na rest x6.toInt (kk : Int) → (∀ j : Nat, j ∈ rest → j < kk) → ∃ (m' : Nat) (cf1 : Nat → Int32), E_mp_checkSwitch RL tf ta na p0 ma' cf' ca' m' 51 [x2, x3, x4, na 21 kk] [] [] [] [] ma cf1 ca ∧ SmK cf cf1 ∧ (Bc cf → Bc cf1) ∧ (Uc cf → (Uc cf1 ∧ ∀ j : Nat, j ∈ rest → ¬ ((na 14 j).toInt = 29 ∧ (ma 22 j).toInt = 1 ∧ (ma 22 kk).toInt = 1 ∧ ma 18 j = ma 18 kk)) ∨ (Bc cf1 ∧ ∃ j : Nat, j ∈ rest ∧ (na 14 j).toInt = 29 ∧ (ma 22 j).toInt = 1 ∧ (ma 22 kk).toInt = 1 ∧ ma 18 j = ma 18 kk)) := by
  have xk : x5.toNatClampNeg = kk := cn_of k5
  intro rest
  induction rest with
  | nil =>
    intro m x6 cf h hc hl
    have hc' : x6.toInt = (kk : Int) := hc
    rcases iv_mp_checkSwitch_113 h with ⟨m', (⟨h1, z3, h2, hQ⟩ | ⟨h1, z4, h2, (⟨h3, z7, h4, hQ⟩ | ⟨h3, z8, h4, (⟨h5, z11, h6, hQ⟩ | ⟨h5, z12, h6, (⟨h7, z15, h8, hQ⟩ | ⟨h7, z16, h8, z17, h9, (⟨h10, z20, h11, hQ⟩ | ⟨h10, z21, h11, cf23, h12, z46, h13, hQ⟩)⟩)⟩)⟩)⟩)⟩
    · rw [xk] at h2
      rw [h2] at hQ
      exact ⟨m', cf, hQ, SmK.rf, id, fun u => Or.inl ⟨u, fun j hj => absurd hj (by simp)⟩⟩
    all_goals (exfalso; omega)
  | cons i rest ih =>
    intro m x6 cf h hc hl
    obtain ⟨hc1, hc2⟩ := hc
    have hi := hl i List.mem_cons_self
    have hl' : ∀ j : Nat, j ∈ rest → j < kk := fun j hj => hl j (List.mem_cons_of_mem _ hj)
    have xi : x6.toNatClampNeg = i := cn_of hc1
    have skip : ∀ {m' : Nat} {z : Int32}, z = na 21 i → E_mp_checkSwitch RL tf ta na p0 ma' cf' ca' m' 113 [x2, x3, x4, x5, z] [] [] [] [] ma cf ca → ¬ ((na 14 i).toInt = 29 ∧ (ma 22 i).toInt = 1 ∧ (ma 22 kk).toInt = 1 ∧ ma 18 i = ma 18 kk) → ∃ (m' : Nat) (cf1 : Nat → Int32), E_mp_checkSwitch RL tf ta na p0 ma' cf' ca' m' 51 [x2, x3, x4, na 21 kk] [] [] [] [] ma cf1 ca ∧ SmK cf cf1 ∧ (Bc cf → Bc cf1) ∧ (Uc cf → (Uc cf1 ∧ ∀ j : Nat, j ∈ i :: rest → ¬ ((na 14 j).toInt = 29 ∧ (ma 22 j).toInt = 1 ∧ (ma 22 kk).toInt = 1 ∧ ma 18 j = ma 18 kk)) ∨ (Bc cf1 ∧ ∃ j : Nat, j ∈ i :: rest ∧ (na 14 j).toInt = 29 ∧ (ma 22 j).toInt = 1 ∧ (ma 22 kk).toInt = 1 ∧ ma 18 j = ma 18 kk)) := by
      intro m' z hz hQ hn
      obtain ⟨m2, cf1, g1, g2, g3, g4⟩ := ih m' z cf hQ (by rw [hz]; exact hc2) hl'
      refine ⟨m2, cf1, g1, g2, g3, fun u => ?_⟩
      rcases g4 u with ⟨y1, y2⟩ | ⟨y1, j, y2, y3⟩
      · refine Or.inl ⟨y1, fun j hj => ?_⟩
        rcases List.mem_cons.mp hj with w | w
        · rw [w]; exact hn
        · exact y2 j w
      · exact Or.inr ⟨y1, j, List.mem_cons_of_mem _ y2, y3⟩
    rcases iv_mp_checkSwitch_113 h with ⟨m', (⟨h1, z3, h2, hQ⟩ | ⟨h1, z4, h2, (⟨h3, z7, h4, hQ⟩ | ⟨h3, z8, h4, (⟨h5, z11, h6, hQ⟩ | ⟨h5, z12, h6, (⟨h7, z15, h8, hQ⟩ | ⟨h7, z16, h8, z17, h9, (⟨h10, z20, h11, hQ⟩ | ⟨h10, z21, h11, cf23, h12, z46, h13, hQ⟩)⟩)⟩)⟩)⟩)⟩
    · exfalso; omega
    · rw [xi] at h2 h4
      rw [h2] at h3
      exact skip h4 hQ (fun w => h3 w.1)
    · rw [xi] at h4 h6
      rw [h4] at h5
      exact skip h6 hQ (fun w => h5 w.2.1)
    · rw [xk] at h6
      rw [xi] at h8
      rw [h6] at h7
      exact skip h8 hQ (fun w => h7 w.2.2.1)
    · rw [xi] at h8 h11
      rw [xk] at h9
      rw [h8, h9] at h10
      exact skip h11 hQ (fun w => h10 (by rw [w.2.2.2]))
    · rw [xi] at h2 h4 h8 h13
      rw [xk] at h6 h9
      rw [h2] at h3
      rw [h4] at h5
      rw [h6] at h7
      rw [h8, h9] at h10
      have bb := bad_r h12 (by decide)
      obtain ⟨m2, cf1, g1, g2, g3, g4⟩ := ih m' z46 cf23 hQ (by rw [h13]; exact hc2) hl'
      exact ⟨m2, cf1, g1, bb.2.tr g2, fun _ => g3 bb.1, fun _ => Or.inr ⟨g3 bb.1, i, List.mem_cons_self, h3, h5, h7, Int32.toInt_inj.mp h10⟩⟩
/-- the parts of a switch -/
theorem sw_51 {L0 : Nms} {x2 x3 : Int32} {P : Nat} (H : TxH tf ta na ca0 k vl ql c n38 M0 F) (HS : HSz tf ta na ca0 k vl ql c n38 M0 F rt RL) (hp : p0.toInt = (P : Int)) {hd : Int} : ∀ (b : Ast) (m : Nat) (x4 x5 : Int32) (lo hi : Nat) (ma : Nat → Nat → Int32) (cf : Nat → Int32) (ca : Nat → Nat → Int32) (X0 : Nms) (pre : List Nat) (cs : List Int32), E_mp_checkSwitch RL tf ta na p0 ma' cf' ca' m 51 [x2, x3, x4, x5] [] [] [] [] ma cf ca → RowS na (fun s l h => l < h ∧ (RepL k c na ma s l h ∨ RepS k c na ma d s l h)) b x5.toInt lo hi → hi ≤ 100000 → P < lo → (ma 18 P).toInt = hd → CkS k vl c na ca0 n38 M0 (L0 ++ X0) L0.length cf ca ma → (L0 ++ X0).length ≤ lo → (0 ≤ (cf 42).toInt ∧ (cf 42).toInt ≤ 5000 * (lo : Int)) → CtS na M0 rt lp true lo cf → ChP na pre hd x5.toInt → (∀ j : Nat, j ∈ pre → j < lo) → (Uc cf → CsI na ma pre cs) → OkU k vl c na ca0 n38 M0 L0 X0 lo hi x5.toInt cs (decide (¬ x4.toInt = 0)) (fun z => sem k vl ql F rt b L0.length lp true z) x2 x3 ma cf ma' cf' ca' := by
  intro b
  induction b with
  | null =>
    intro m x4 x5 lo hi ma cf ca X0 pre cs h hR hh hP hhd S hL hw hC hch hpre hcs
    have hR' : x5.toInt < 0 ∧ lo ≤ hi := hR
    rcases iv_mp_checkSwitch_51 h with ⟨m', (⟨h1, z50, h2, cf52, h3, e0, e1, e2⟩ | ⟨h1, z76, h2, (⟨h3, z79, h4, (⟨h5, ma85, cf86, ca87, h6, z119, h7, hQ⟩ | ⟨h5, (⟨h6, z122, h7, hQ⟩ | ⟨h6, z123, h7, cf125, h8, z148, h9, hQ⟩)⟩)⟩ | ⟨h3, z149, h4, ma152, cf153, v155, h5, (⟨h6, ma170, h7, ma171, h8, z172, h9, hQ⟩ | ⟨h6, ma173, h7, ma174, h8, z175, h9, hQ⟩)⟩)⟩)⟩
    · rw [e0, e2]
      refine ⟨X0, cf, z50, h2, by rw [e1]; exact h3, S, by omega, FrM.rf, DfS.rf, by omega, fun s hs hd' => ?_⟩
      show AC cf cf (sem k vl ql F rt .null L0.length lp true s) _
      rw [sm_n]
      exact AC.ret ⟨hs, by omega, fun h0 => ⟨0, by omega, Int.le_refl _, MsR.nil hR'.1⟩⟩
    all_goals (exfalso; omega)
  | add s r ihs ihr =>
    intro m x4 x5 lo hi ma cf ca X0 pre cs h hR hh hP hhd S hL hw hC hch hpre hcs
    obtain ⟨mid, r1, r2, ⟨r3, r3'⟩, r4⟩ := hR
    have xi : x5.toNatClampNeg = lo := cn_of r1
    have hch' : ChP na (pre ++ [lo]) hd (na 21 lo).toInt := by rw [r1] at hch; exact hch.snoc
    have hpre' : ∀ j : Nat, j ∈ pre ++ [lo] → j < mid := fun j hj => by
      rcases List.mem_append.mp hj with w | w
      · have := hpre j w; omega
      · rw [List.mem_singleton] at w; omega
    have nxt : ∀ {ma1 : Nat → Nat → Int32} {cf1 : Nat → Int32} {ca1 : Nat → Nat → Int32} {y4 z : Int32} {m' : Nat} {X1 : Nms} {cs1 : List Int32}, FrM ma ma1 lo mid → DfS cf cf1 → CkS k vl c na ca0 n38 M0 (L0 ++ X1) L0.length cf1 ca1 ma1 → (L0 ++ X1).length ≤ mid → (0 ≤ (cf1 42).toInt ∧ (cf1 42).toInt ≤ 5000 * (mid : Int)) → (Uc cf1 → CsI na ma1 (pre ++ [lo]) cs1) → (∀ s' : Sg, s'.1 = L0 ++ X0 → s'.2.2.2 = (cs, decide (¬ x4.toInt = 0)) → AC cf cf1 (sem k vl ql F rt s L0.length lp true s') (fun s1 => s1.1 = L0 ++ X1 ∧ s1.2.2.2 = (cs1, decide (¬ y4.toInt = 0)) ∧ s1.2.1 = s'.2.1 + ((cf1 42).toInt - (cf 42).toInt) ∧ (0 ≤ s'.2.2.1 → ∃ h : Int, s1.2.2.1 = max s'.2.2.1 h ∧ 0 ≤ h ∧ Ms na ca0 M0 lo mid x5 h ma1))) → z = na 21 lo → E_mp_checkSwitch RL tf ta na p0 ma' cf' ca' m' 51 [x2, x3, y4, z] [] [] [] [] ma1 cf1 ca1 → OkU k vl c na ca0 n38 M0 L0 X0 lo hi x5.toInt cs (decide (¬ x4.toInt = 0)) (fun z => sem k vl ql F rt (.add s r) L0.length lp true z) x2 x3 ma cf ma' cf' ca' := by
      intro ma1 cf1 ca1 y4 z m' X1 cs1 fr dd S1 l1 w1 hcs1 a hz hE
      have rest := ihr m' y4 z mid hi ma1 cf1 ca1 X1 (pre ++ [lo]) cs1 hE (by rw [hz]; exact row_kp _ _ _ _ r4 (fun _ _ _ => rfl) (fun s l h q1 q2 q3 => ⟨q3.1, q3.2.elim (fun q => Or.inl (rpl_kp q3.1 q (FrM.ag (r := -1) fr (Or.inr q1)) (by omega))) (fun q => Or.inr (rps_kp d s l h (-1) q (fr.ags q1) (by omega)))⟩)) hh (by omega) (by rw [fr 18 P (by omega)]; exact hhd) S1 l1 w1 (hC.df dd (by omega)) (by rw [hz]; exact hch') hpre' hcs1
      rw [hz] at rest
      exact (OkU.st fr dd r1 ⟨by omega, r2.2⟩ a rest).mp (fun z => sm_a)
    have cse : ∀ {ma1 ma2 : Nat → Nat → Int32} {cf1 : Nat → Int32} {w f z zz : Int32} {m' : Nat}, (na 14 lo).toInt = 29 → z = na 17 lo → R_mp_checkConstant tf ta na ca z ma cf ma1 cf1 w → ma2 = vu (vu ma1 22 lo f) 18 lo (cf1 57) → ((w.toInt = 0 ∧ f.toInt = 0) ∨ (¬ w.toInt = 0 ∧ f.toInt = 1)) → zz = ma2 18 P → E_mp_checkSwitch RL tf ta na p0 ma' cf' ca' m' 113 [x2, x3, x4, x5, zz] [] [] [] [] ma2 cf1 ca → OkU k vl c na ca0 n38 M0 L0 X0 lo hi x5.toInt cs (decide (¬ x4.toInt = 0)) (fun z => sem k vl ql F rt (.add s r) L0.length lp true z) x2 x3 ma cf ma' cf' ca' := by
      intro ma1 ma2 cf1 w f z zz m' h29 hz hk hm2 hf hzz hE
      rcases r3' with q | q
      · rcases q with ⟨e, t, q1, q2, q3⟩ | ⟨t, q1, q2⟩
        · obtain ⟨o1, o2, o3, o4, o5⟩ := kn_s (hi := mid) H S (by omega) (by rw [hz]; exact q3) hk
          have f1 : FrM ma ma2 lo mid := fun g i y => by rw [hm2, vu_at (by omega), vu_at (by omega)]; exact o2 g i (by omega)
          have z18 : ma2 18 P = ma 18 P := f1 18 P (by omega)
          obtain ⟨m2, cf2, g1, g2, g3, g4⟩ := sw_113 (ca' := ca') (cf' := cf') (ma' := ma') r1 pre m' zz cf1 hE (by rw [hzz, z18, hhd, ← r1]; exact hch) hpre
          have m22 : ma2 22 lo = f := by rw [hm2, vu_p (by omega), vu_s]
          have m18 : ma2 18 lo = cf1 57 := by rw [hm2, vu_s]
          have hM : MgO na M0 (ma2 22) := fun i y => by
            have ne : ¬ i = lo := fun e => by rw [e] at y; exact y h29
            rw [hm2, vu_at ne, vu_at ne]
            exact o4.2.2.2.1 i y
          have e42 : cf2 42 = cf 42 := (g2 42 (by decide) (by decide)).trans (o1 42 (by decide) (by decide) (by decide))
          refine nxt (y4 := x4) (X1 := X0) (cs1 := cs ++ [cf1 57]) f1 (o1.df.tr g2.df) (o4.sm (g2 33 (by decide) (by decide)) (g2 37 (by decide) (by decide)) (g2 38 (by decide) (by decide)) hM) (by omega) (by rw [e42]; omega) (fun u => ?_) (fun s' hs' hd' => ?_) rfl g1
          · have u1 : Uc cf1 := by
              by_cases y : Uc cf1
              · exact y
              · exact absurd u (g3 y)
            have u0 : Uc cf := by
              by_cases y : Uc cf
              · exact y
              · exact absurd u1 (o5.1 y)
            have w1 : w.toInt = 1 := by
              rcases opt_c ((att k vl (lkp (L0 ++ X0)) F e [] 0).bind aKon) with hy | ⟨a, hy⟩
              · exact absurd u1 (o5.n u0 hy)
              · exact (o5.y u0 hy).2.1
            have y := ((hcs u0).fr f1 hpre).yes h29 (by rw [m22]; omega)
            rw [m18] at y
            exact y
          · rw [q1, sm_10, hs', hd']
            refine AC.of (fun b => g3 (o5.1 b)) (fun u => ?_)
            rcases opt_c ((att k vl (lkp (L0 ++ X0)) F e [] 0).bind aKon) with hy | ⟨a, hy⟩
            · exact Or.inl ⟨by rw [hy]; rfl, g3 (o5.n u hy)⟩
            · obtain ⟨u1, w1, w2⟩ := o5.y u hy
              have CI := (hcs u).fr f1 hpre
              rcases g4 u1 with ⟨y1, y2⟩ | ⟨y1, j, j1, j2, j3, j4, j5⟩
              · have nin : ¬ a.2.2.1 ∈ cs := fun hin => by
                  obtain ⟨j, j1, j2, j3⟩ := (CI.2 _).mp hin
                  exact y2 j j1 ⟨j2, CI.1 j j1 j2, by rw [m22]; omega, by rw [j3, m18, w2]⟩
                refine Or.inr ⟨(L0 ++ X0, s'.2.1, s'.2.2.1, cs ++ [a.2.2.1], decide (¬ x4.toInt = 0)), ?_, y1, rfl, by rw [w2], ?_, fun h0 => ⟨0, ?_, Int.le_refl _, ms_n r1 (Or.inr (by omega))⟩⟩
                · rw [hy]
                  show (if a.2.2.1 ∈ cs then none else some (L0 ++ X0, s'.2.1, s'.2.2.1, cs ++ [a.2.2.1], decide (¬ x4.toInt = 0))) = _
                  exact if_neg nin
                · show s'.2.1 = _
                  rw [e42]; omega
                · show s'.2.2.1 = _
                  omega
              · have yin : a.2.2.1 ∈ cs := (CI.2 _).mpr ⟨j, j1, j2, by rw [j5, m18, w2]⟩
                refine Or.inl ⟨?_, y1⟩
                rw [hy]
                show (if a.2.2.1 ∈ cs then none else some (L0 ++ X0, s'.2.1, s'.2.2.1, cs ++ [a.2.2.1], decide (¬ x4.toInt = 0))) = none
                exact if_pos yin
        · exfalso; omega
      · exact absurd h29 (rps_kd q).1
    rcases iv_mp_checkSwitch_51 h with ⟨m', (⟨h1, z50, h2, cf52, h3, e0, e1, e2⟩ | ⟨h1, z76, h2, (⟨h3, z79, h4, (⟨h5, ma85, cf86, ca87, h6, z119, h7, hQ⟩ | ⟨h5, (⟨h6, z122, h7, hQ⟩ | ⟨h6, z123, h7, cf125, h8, z148, h9, hQ⟩)⟩)⟩ | ⟨h3, z149, h4, ma152, cf153, v155, h5, (⟨h6, ma170, h7, ma171, h8, z172, h9, hQ⟩ | ⟨h6, ma173, h7, ma174, h8, z175, h9, hQ⟩)⟩)⟩)⟩
    · exfalso; omega
    · rw [xi] at h2 h4 h7
      rw [h2] at h3
      rw [h4] at h5
      rcases r3' with q | q
      · rcases q with ⟨e, t, -, q2, -⟩ | ⟨t, -, q2⟩
        · exact absurd q2 h3
        · exact absurd q2 h5
      · have one := HS d s x5 lo mid L0.length (L0 ++ X0) lp true ma cf ca ma85 cf86 ca87 q (by omega) r1 S hL hw hC h6
        obtain ⟨X, a1, a2, a3, a4, a5, a6⟩ := one
        rw [List.append_assoc] at a1 a2
        refine nxt (y4 := x4) (X1 := X0 ++ X) (cs1 := cs) a3 a4 a1 a2 a5 (fun u => ?_) (fun s' hs' hd' => ?_) h7 hQ
        · have u0 : Uc cf := by
            by_cases w : Uc cf
            · exact w
            · exact absurd u ((a6 (L0 ++ X0, 0, 0, [], false) rfl).1 w)
          exact ((hcs u0).fr a3 hpre).no h3
        · refine (a6 s' hs').imp (fun s1 y => ⟨by rw [y.1, List.append_assoc], y.2.2.1.trans hd', y.2.1, fun h0 => y.2.2.2 rfl h0⟩)
    · rw [xi] at h2 h4 h7
      rw [h2] at h3
      rw [h4] at h5
      rcases r3' with q | q
      · rcases q with ⟨e, t, -, q2, -⟩ | ⟨t, q1, q2⟩
        · exact absurd q2 h3
        · refine nxt (y4 := 1) (X1 := X0) (cs1 := cs) FrM.rf DfS.rf S (by omega) (by omega) (fun u => (hcs u).no h3) (fun s' hs' hd' => ?_) h7 hQ
          rw [q1, sm_11, if_neg (by rw [hd']; simp [h6])]
          exact AC.ret ⟨hs', by rw [hd']; rfl, by show s'.2.1 = _; omega, fun h0 => ⟨0, by show s'.2.2.1 = _; omega, Int.le_refl _, ms_n r1 (Or.inr (by omega))⟩⟩
      · exfalso
        exact (rps_kd q).2 h5
    · rw [xi] at h2 h4 h7 h9
      rw [h2] at h3
      rw [h4] at h5
      have bb := bad_r h8 (by decide)
      rcases r3' with q | q
      · rcases q with ⟨e, t, -, q2, -⟩ | ⟨t, q1, q2⟩
        · exact absurd q2 h3
        · refine nxt (y4 := 1) (X1 := X0) (cs1 := cs) FrM.rf bb.2.df (S.sm (bb.2 33 (by decide) (by decide)) (bb.2 37 (by decide) (by decide)) (bb.2 38 (by decide) (by decide)) S.2.2.2.1) (by omega) (by rw [bb.2 42 (by decide) (by decide)]; omega) (fun u => absurd u bb.1) (fun s' hs' hd' => ?_) h9 hQ
          rw [q1, sm_11, if_pos (by rw [hd']; simp [h6])]
          exact AC.bad h8 (by decide)
      · exfalso
        exact (rps_kd q).2 h5
    · rw [xi] at h2 h4 h7 h8
      rw [h2] at h3
      rw [h7] at h8
      rw [cn_of hp] at h9
      exact cse h3 h4 h5 h8 (Or.inl ⟨h6, rfl⟩) h9 hQ
    · rw [xi] at h2 h4 h7 h8
      rw [h2] at h3
      rw [h7] at h8
      rw [cn_of hp] at h9
      exact cse h3 h4 h5 h8 (Or.inr ⟨h6, rfl⟩) h9 hQ
  | _ => intro m x4 x5 lo hi ma cf ca X0 pre cs h hR; exact hR.elim
/-- a switch's parts, and what is left behind them -/
theorem sw_t {x2 x3 z5 z9 : Int32} {P l0 m : Nat} {b1 : Ast} (H : TxH tf ta na ca0 k vl ql c n38 M0 F) (HS : HSz tf ta na ca0 k vl ql c n38 M0 F rt RL) (hh : hi ≤ 100000) (hp : p0.toInt = (P : Int)) (hP : P < lo) (h18 : (ma 18 P).toInt = z5.toInt) (S : CkS k vl c na ca0 n38 M0 L sc cf ca ma) (hL : L.length ≤ lo) (hw : 0 ≤ (cf 42).toInt ∧ (cf 42).toInt ≤ 5000 * (lo : Int)) (hC : CtS na M0 rt lp bk l0 cf) (hl0 : l0 < lo) (hR : RowS na (fun s l h => l < h ∧ (RepL k c na ma s l h ∨ RepS k c na ma d s l h)) b1 z5.toInt lo hi) (hz9 : z9 = cf 45 + (1 : Int32)) (hx2 : x2 = cf 33) (hx3 : x3 = cf 37) (hQ : E_mp_checkSwitch RL tf ta na p0 ma' cf' ca' m 51 [x2, x3, (0 : Int32), z5] [] [] [] [] ma (upd (upd cf 37 (cf 33)) 45 z9) ca) : OkZ k vl c na ca0 n38 M0 L sc lo hi (MsR na ca0 M0 lo hi z5.toInt) false (fun z => (sem k vl ql F rt b1 z.1.length lp true (z.1, z.2.1, z.2.2.1, [], false)).bind fun z2 => some (z2.1.take z.1.length, z2.2.1, z2.2.2.1, z.2.2.2)) ma cf ma' cf' ca' := by
  have lh := row_le hR
  obtain ⟨c1, ⟨c2, c3, c4⟩, c5, c6, c7⟩ := hC
  have y9 := ti_add hz9 rfl (show (1 : Int32).toInt = 1 from rfl) (by omega) (by omega)
  have q0 : ∀ j : Nat, ¬ j = 37 → ¬ j = 45 → (upd (upd cf 37 (cf 33)) 45 z9) j = cf j := fun j q1 q2 => by rw [pk_un q2, pk_un q1]
  have S0 : CkS k vl c na ca0 n38 M0 (L ++ []) L.length (upd (upd cf 37 (cf 33)) 45 z9) ca ma := by
    rw [List.append_nil]
    exact ⟨S.1.sm (q0 33 (by decide) (by decide)), (q0 38 (by decide) (by decide)).trans S.2.1, S.2.2.1, S.2.2.2.1, by rw [pk_un (by decide), pk_us]; exact S.1.1, Nat.le_refl _, S.2.2.2.2.2.2⟩
  have hC0 : CtS na M0 rt lp true lo (upd (upd cf 37 (cf 33)) 45 z9) := by
    unfold CtS
    rw [q0 43 (by decide) (by decide), q0 44 (by decide) (by decide), pk_us]
    exact ⟨c1, ⟨c2, by omega, c4⟩, by omega, by omega, ⟨fun _ => Or.inr (by omega), fun _ => rfl⟩⟩
  obtain ⟨X, cf6, z, u1, u2, u3, u4, u5, u6, u7, u8⟩ := sw_51 (lp := lp) (L0 := L) (hd := z5.toInt) H HS hp b1 m (0 : Int32) z5 lo hi ma _ ca [] [] [] hQ hR hh hP h18 S0 (by rw [List.append_nil]; exact hL) (by rw [q0 42 (by decide) (by decide)]; exact hw) hC0 rfl (fun j hj => absurd hj (by simp)) (fun _ => ⟨fun j hj => absurd hj (by simp), fun x => ⟨fun hx => absurd hx (by simp), fun ⟨j, hj, _⟩ => absurd hj (by simp)⟩⟩)
  rcases u2 with e0 | u2
  · have e6 : cf6 45 = z9 := (u6 45 (by decide) (by decide) (by decide) (by decide) (by decide) (by decide) (by decide) (by decide)).trans pk_us
    rw [e6] at u1
    have yz := ti_sub u1 y9 (show (1 : Int32).toInt = 1 from rfl) (by omega) (by omega)
    have fr : ∀ j : Nat, ¬ j = 33 → ¬ j = 37 → ¬ j = 45 → cf' j = cf6 j := fun j q1 q2 q3 => by rw [e0, pk_un q2, pk_un q1, pk_un q3]
    have e33 : cf' 33 = cf 33 := by rw [e0, pk_un (by decide), pk_us, hx2]
    have e37 : cf' 37 = cf 37 := by rw [e0, pk_us, hx3]
    have e45 : cf' 45 = cf 45 := by rw [e0, pk_un (by decide), pk_un (by decide), pk_us]; exact Int32.toInt_inj.mp (by omega)
    have e42 : cf' 42 = cf6 42 := fr 42 (by decide) (by decide) (by decide)
    have e42' := q0 42 (by decide) (by decide)
    have E := u3.1.tk (n := L.length) (cf' := cf') (by rw [List.length_append]; omega) (by rw [e33]; exact S.1.1)
    rw [List.take_left] at E
    refine ⟨[], ?_, by rw [List.append_nil]; omega, u5, fun j h1 h2 h3 h4 h5 h6 h7 h8 => ?_, by rw [e42]; exact u7, fun s hs => ?_⟩
    · rw [List.append_nil]
      exact ⟨E, (fr 38 (by decide) (by decide) (by decide)).trans u3.2.1, u3.2.2.1, u3.2.2.2.1, by rw [e37]; exact S.2.2.2.2.1, S.2.2.2.2.2.1, u3.2.2.2.2.2.2⟩
    · by_cases q : j = 37
      · rw [q]; exact e37
      · by_cases q' : j = 45
        · rw [q']; exact e45
        · exact (fr j h3 q q').trans ((u6 j h1 h2 h3 h4 h5 h6 h7 h8).trans (q0 j q q'))
    · have base := (u8 (s.1, s.2.1, s.2.2.1, [], false) (by rw [List.append_nil]; exact hs) rfl).e30 (a' := cf) (b' := cf') (q0 30 (by decide) (by decide)).symm (fr 30 (by decide) (by decide) (by decide))
      show AC cf cf' ((sem k vl ql F rt b1 s.1.length lp true (s.1, s.2.1, s.2.2.1, [], false)).bind fun z2 => some (z2.1.take s.1.length, z2.2.1, z2.2.2.1, s.2.2.2)) _
      have el : s.1.length = L.length := by rw [hs]
      rw [el]
      refine AC.bind base (fun s1 q => AC.ret ⟨?_, ?_, rfl, fun _ h0 => q.2.2 h0⟩) id
      · show s1.1.take L.length = L ++ []
        rw [q.1, List.take_left, List.append_nil]
      · show s1.2.1 = _
        rw [q.2.1, e42, e42']
  · exact u2.elim
theorem k28_t (H : TxH tf ta na ca0 k vl ql c n38 M0 F) (HS : HSz tf ta na ca0 k vl ql c n38 M0 F rt RL) (hh : hi ≤ 100000) (hlh : lo < hi) (hp : p0.toInt = (lo : Int)) (S : CkS k vl c na ca0 n38 M0 L sc cf ca ma) (hL : L.length ≤ lo) (hw : 0 ≤ (cf 42).toInt ∧ (cf 42).toInt ≤ 5000 * (lo : Int)) (hC : CtS na M0 rt lp bk lo cf) {m : Nat} {b1 : Ast} (hs : s = sNd 9 e b1) (k14 : (na 14 lo).toInt = 28) (hE : OkE k c na ma e (na 17 lo).toInt (lo + 1) m) (hR : RowS na (fun s l h => l < h ∧ (RepL k c na ma s l h ∨ RepS k c na ma d s l h)) b1 (ma 18 lo).toInt m hi) (h : R_mp_checkSwitch RL tf ta na p0 ma cf ca ma' cf' ca') : OkZ k vl c na ca0 n38 M0 L sc lo hi (Ms na ca0 M0 lo hi p0) false (fun z => sem k vl ql F rt s sc lp bk z) ma cf ma' cf' ca' := by
  obtain ⟨m0, h⟩ := h
  obtain ⟨m', z176, h1, ma179, cf180, v182, h2, z200, h3, z201, h4, hQ⟩ := iv_mp_checkSwitch_0 h
  rw [cn_of hp] at h1 h4
  have l1 := oke_le hE
  have l2 := row_le hR
  obtain ⟨j, j1, j2⟩ := hE.2.2
  rw [← h1] at hE j1
  have one := nu_t (tp := false) H S hE (by omega) (by omega) (by omega) h2
  have fr : FrM ma ma179 (lo + 1) m := by obtain ⟨_, -, -, q, -⟩ := one; exact q
  have df : DfS cf cf180 := by obtain ⟨_, -, -, -, q, -⟩ := one; exact q
  rw [fr 18 lo (by omega)] at h4
  rw [hs]
  refine (OkZ.seq (W := Ms na ca0 M0 lo hi p0) one (fun X1 s1 s2 s3 => sw_t (d := d) (lp := lp) (bk := bk) (b1 := b1) H HS hh hp (by omega) (by rw [fr 18 lo (by omega), h4]) s1 s2 s3 (hC.df df (Nat.le_refl _)) (by omega) (by rw [h4]; exact row_kp _ _ _ _ hR (fun _ _ _ => rfl) (fun s l h q1 q2 q3 => ⟨q3.1, q3.2.elim (fun q => Or.inl (rpl_kp q3.1 q (FrM.ag (r := -1) fr (Or.inr q1)) (by omega))) (fun q => Or.inr (rps_kp d s l h (-1) q (fr.ags q1) (by omega)))⟩)) h3 rfl rfl hQ) ⟨by omega, l2⟩ (fun g1 g2 _ _ f2 w1 w2 => ?_)).mp (fun z _ => ?_) (fun _ _ q => q) (by omega) (Nat.le_refl _)
  · exact ms_28 hp hlh k14 h1 (by omega) (w1.fr f2 (Or.inl (Nat.le_refl _))) ⟨by omega, by omega⟩ (by rw [f2 18 lo (by omega), fr 18 lo (by omega), h4]) w2 ⟨by omega, Nat.le_refl _⟩
  · try dsimp only
    rw [sm_9]
    unfold semE
    rcases opt_c ((att k vl (lkp z.1) F e [] 0).bind aNum) with h | ⟨y, h⟩
    · rw [h]; rfl
    · rw [h]; rfl
end SJ

/-! THE REFERENCE's checker: statements whole (laid by gensa.py) -/
section SK
variable {tf : Nat → Int32} {ta na ca ca0 ca1 ca' ma ma' ma1 : Nat → Nat → Int32} {vl M0 : Nat → Int32} {k : Nat → Int} {ql : Nat → Int} {c sc lo hi mid d : Nat} {n38 : Int32} {F : Int32 → Option Fnc} {cf cf' cf1 cf0 cf6 cf7 : Nat → Int32} {L : Nms} {p0 p1 v : Int32} {e a b s : Ast} {tp lp bk : Bool} {x f : Sg → Option Sg} {W W1 W2 : Int → (Nat → Nat → Int32) → Prop} {rt : Int} {RL : T_mp_checkStatement}
theorem sc_r (H : TxH tf ta na ca0 k vl ql c n38 M0 F) (HS : HSz tf ta na ca0 k vl ql c n38 M0 F rt RL) : HSz tf ta na ca0 k vl ql c n38 M0 F rt (R_mp_checkStatement RL) := by
  intro d s p0 lo hi sc L lp bk ma cf ca ma' cf' ca' hR hh hp S hL hw hC h
  cases d with
  | zero => exact hR.elim
  | succ d =>
    obtain ⟨hl, hR⟩ := hR
    rcases hR with hX | hD | ⟨a, a1, a2, a3⟩ | ⟨a1, a2⟩ | ⟨e, s1, m, a1, a2, a3, a4, a5, a6⟩ | ⟨e, s1, s2, m, m2, a1, a2, a3, a4, a5, a6, a7⟩ | ⟨e, s1, m, a1, a2, a3, a4, a5, a6⟩ | ⟨e, s1, m, a1, a2, a3, a4, a5, a6⟩ | ⟨a, b, e, s1, m1, m2, m3, a1, a2, a3, a4, a5, a6, a7⟩ | ⟨e, b, m, a1, a2, a3, a4⟩ | ⟨a1, a2⟩ | ⟨a1, a2⟩ | ⟨a1, a2, a3⟩ | ⟨e, a1, a2, a3⟩
    · have a2 : (na 14 lo).toInt = 22 := by obtain ⟨_, -, q, -⟩ := hX; exact q
      rcases h with ⟨z1, h1, (⟨h2, (⟨h3, e0, e1, e2⟩ | ⟨h3, z6, h4, (⟨h5, z10, h6, cf12, h7, e0, e1, e2⟩ | ⟨h5, (⟨h6, z38, h7, cf40, h8, e0, e1, e2⟩ | ⟨h6, e0, e1, e2⟩)⟩)⟩)⟩ | ⟨h2, ma68, cf69, ca70, h3, e0, e1, e2⟩ | ⟨h2, e0, e1, e2⟩ | ⟨h2, z101, h3, ma104, cf105, h4, e0, e1, e2⟩ | ⟨h2, ma123, cf124, ca125, h3, e0, e1, e2⟩ | ⟨h2, z158, h3, ma161, cf162, v164, h4, z181, h5, ma185, cf186, ca187, h6, z219, h7, (⟨h8, e0, e1, e2⟩ | ⟨h8, z222, h9, ma226, cf227, ca228, h10, e0, e1, e2⟩)⟩ | ⟨h2, z260, h3, ma263, cf264, v266, h4, z283, h5, ma287, cf288, ca289, h6, e0, e1, e2⟩ | ⟨h2, z321, h3, ma325, cf326, ca327, h4, z359, h5, ma362, cf363, v365, h6, e0, e1, e2⟩ | ⟨h2, ma385, cf386, ca387, h3, e0, e1, e2⟩ | ⟨h2, ma421, cf422, ca423, h3, e0, e1, e2⟩ | ⟨h2, (⟨h3, e0, e1, e2⟩ | ⟨h3, z457, h4, (⟨h5, z461, h6, cf463, h7, e0, e1, e2⟩ | ⟨h5, (⟨h6, z489, h7, cf491, h8, e0, e1, e2⟩ | ⟨h6, e0, e1, e2⟩)⟩)⟩)⟩ | ⟨h2, ma518, cf519, ca520, h3, e0, e1, e2⟩)⟩ | h
      case inr => exact h.elim
      all_goals have hk : z1.toInt = (na 14 lo).toInt := by rw [h1, cn_of hp]
      · exfalso; omega
      · exfalso; omega
      · exfalso; omega
      · exfalso; omega
      · exfalso; omega
      · exfalso; omega
      · rw [cn_of hp] at h3
        rw [e0, e1]
        exact k22_t H HS hh hl hp S hL hw hC hX h3 h4 e2
      · exfalso; omega
      · exfalso; omega
      · exfalso; omega
      · exfalso; omega
      · exfalso; omega
      · exfalso; omega
      · exfalso; omega
      · exfalso; omega
      · exfalso; omega
      · exfalso; omega
      · exfalso; omega
      · exfalso; omega
    · have a2 : (na 14 lo).toInt = 23 := by obtain ⟨_, _, -, q, -⟩ := hD; exact q
      rcases h with ⟨z1, h1, (⟨h2, (⟨h3, e0, e1, e2⟩ | ⟨h3, z6, h4, (⟨h5, z10, h6, cf12, h7, e0, e1, e2⟩ | ⟨h5, (⟨h6, z38, h7, cf40, h8, e0, e1, e2⟩ | ⟨h6, e0, e1, e2⟩)⟩)⟩)⟩ | ⟨h2, ma68, cf69, ca70, h3, e0, e1, e2⟩ | ⟨h2, e0, e1, e2⟩ | ⟨h2, z101, h3, ma104, cf105, h4, e0, e1, e2⟩ | ⟨h2, ma123, cf124, ca125, h3, e0, e1, e2⟩ | ⟨h2, z158, h3, ma161, cf162, v164, h4, z181, h5, ma185, cf186, ca187, h6, z219, h7, (⟨h8, e0, e1, e2⟩ | ⟨h8, z222, h9, ma226, cf227, ca228, h10, e0, e1, e2⟩)⟩ | ⟨h2, z260, h3, ma263, cf264, v266, h4, z283, h5, ma287, cf288, ca289, h6, e0, e1, e2⟩ | ⟨h2, z321, h3, ma325, cf326, ca327, h4, z359, h5, ma362, cf363, v365, h6, e0, e1, e2⟩ | ⟨h2, ma385, cf386, ca387, h3, e0, e1, e2⟩ | ⟨h2, ma421, cf422, ca423, h3, e0, e1, e2⟩ | ⟨h2, (⟨h3, e0, e1, e2⟩ | ⟨h3, z457, h4, (⟨h5, z461, h6, cf463, h7, e0, e1, e2⟩ | ⟨h5, (⟨h6, z489, h7, cf491, h8, e0, e1, e2⟩ | ⟨h6, e0, e1, e2⟩)⟩)⟩)⟩ | ⟨h2, ma518, cf519, ca520, h3, e0, e1, e2⟩)⟩ | h
      case inr => exact h.elim
      all_goals have hk : z1.toInt = (na 14 lo).toInt := by rw [h1, cn_of hp]
      · exfalso; omega
      · exfalso; omega
      · exfalso; omega
      · exfalso; omega
      · exfalso; omega
      · exfalso; omega
      · exfalso; omega
      · rw [e0, e1, e2]
        exact k23_t H HS hh hl hp S hL hw hC hD h3
      · exfalso; omega
      · exfalso; omega
      · exfalso; omega
      · exfalso; omega
      · exfalso; omega
      · exfalso; omega
      · exfalso; omega
      · exfalso; omega
      · exfalso; omega
      · exfalso; omega
      · exfalso; omega
    · rcases h with ⟨z1, h1, (⟨h2, (⟨h3, e0, e1, e2⟩ | ⟨h3, z6, h4, (⟨h5, z10, h6, cf12, h7, e0, e1, e2⟩ | ⟨h5, (⟨h6, z38, h7, cf40, h8, e0, e1, e2⟩ | ⟨h6, e0, e1, e2⟩)⟩)⟩)⟩ | ⟨h2, ma68, cf69, ca70, h3, e0, e1, e2⟩ | ⟨h2, e0, e1, e2⟩ | ⟨h2, z101, h3, ma104, cf105, h4, e0, e1, e2⟩ | ⟨h2, ma123, cf124, ca125, h3, e0, e1, e2⟩ | ⟨h2, z158, h3, ma161, cf162, v164, h4, z181, h5, ma185, cf186, ca187, h6, z219, h7, (⟨h8, e0, e1, e2⟩ | ⟨h8, z222, h9, ma226, cf227, ca228, h10, e0, e1, e2⟩)⟩ | ⟨h2, z260, h3, ma263, cf264, v266, h4, z283, h5, ma287, cf288, ca289, h6, e0, e1, e2⟩ | ⟨h2, z321, h3, ma325, cf326, ca327, h4, z359, h5, ma362, cf363, v365, h6, e0, e1, e2⟩ | ⟨h2, ma385, cf386, ca387, h3, e0, e1, e2⟩ | ⟨h2, ma421, cf422, ca423, h3, e0, e1, e2⟩ | ⟨h2, (⟨h3, e0, e1, e2⟩ | ⟨h3, z457, h4, (⟨h5, z461, h6, cf463, h7, e0, e1, e2⟩ | ⟨h5, (⟨h6, z489, h7, cf491, h8, e0, e1, e2⟩ | ⟨h6, e0, e1, e2⟩)⟩)⟩)⟩ | ⟨h2, ma518, cf519, ca520, h3, e0, e1, e2⟩)⟩ | h
      case inr => exact h.elim
      all_goals have hk : z1.toInt = (na 14 lo).toInt := by rw [h1, cn_of hp]
      · exfalso; omega
      · exfalso; omega
      · exfalso; omega
      · exfalso; omega
      · rw [e0, e1, e2]
        exact k20_t H HS hh hl hp S hL hw hC a1 a2 a3 h3
      · exfalso; omega
      · exfalso; omega
      · exfalso; omega
      · exfalso; omega
      · exfalso; omega
      · exfalso; omega
      · exfalso; omega
      · exfalso; omega
      · exfalso; omega
      · exfalso; omega
      · exfalso; omega
      · exfalso; omega
      · exfalso; omega
      · exfalso; omega
    · rcases h with ⟨z1, h1, (⟨h2, (⟨h3, e0, e1, e2⟩ | ⟨h3, z6, h4, (⟨h5, z10, h6, cf12, h7, e0, e1, e2⟩ | ⟨h5, (⟨h6, z38, h7, cf40, h8, e0, e1, e2⟩ | ⟨h6, e0, e1, e2⟩)⟩)⟩)⟩ | ⟨h2, ma68, cf69, ca70, h3, e0, e1, e2⟩ | ⟨h2, e0, e1, e2⟩ | ⟨h2, z101, h3, ma104, cf105, h4, e0, e1, e2⟩ | ⟨h2, ma123, cf124, ca125, h3, e0, e1, e2⟩ | ⟨h2, z158, h3, ma161, cf162, v164, h4, z181, h5, ma185, cf186, ca187, h6, z219, h7, (⟨h8, e0, e1, e2⟩ | ⟨h8, z222, h9, ma226, cf227, ca228, h10, e0, e1, e2⟩)⟩ | ⟨h2, z260, h3, ma263, cf264, v266, h4, z283, h5, ma287, cf288, ca289, h6, e0, e1, e2⟩ | ⟨h2, z321, h3, ma325, cf326, ca327, h4, z359, h5, ma362, cf363, v365, h6, e0, e1, e2⟩ | ⟨h2, ma385, cf386, ca387, h3, e0, e1, e2⟩ | ⟨h2, ma421, cf422, ca423, h3, e0, e1, e2⟩ | ⟨h2, (⟨h3, e0, e1, e2⟩ | ⟨h3, z457, h4, (⟨h5, z461, h6, cf463, h7, e0, e1, e2⟩ | ⟨h5, (⟨h6, z489, h7, cf491, h8, e0, e1, e2⟩ | ⟨h6, e0, e1, e2⟩)⟩)⟩)⟩ | ⟨h2, ma518, cf519, ca520, h3, e0, e1, e2⟩)⟩ | h
      case inr => exact h.elim
      all_goals have hk : z1.toInt = (na 14 lo).toInt := by rw [h1, cn_of hp]
      · exfalso; omega
      · exfalso; omega
      · exfalso; omega
      · exfalso; omega
      · exfalso; omega
      · rw [e0, e1, e2]
        exact k31_t S hl hp hL hw (Or.inl a2) (fun z _ => by rw [a1]; exact sm_1)
      · exfalso; omega
      · exfalso; omega
      · exfalso; omega
      · exfalso; omega
      · exfalso; omega
      · exfalso; omega
      · exfalso; omega
      · exfalso; omega
      · exfalso; omega
      · exfalso; omega
      · exfalso; omega
      · exfalso; omega
      · exfalso; omega
    · rcases h with ⟨z1, h1, (⟨h2, (⟨h3, e0, e1, e2⟩ | ⟨h3, z6, h4, (⟨h5, z10, h6, cf12, h7, e0, e1, e2⟩ | ⟨h5, (⟨h6, z38, h7, cf40, h8, e0, e1, e2⟩ | ⟨h6, e0, e1, e2⟩)⟩)⟩)⟩ | ⟨h2, ma68, cf69, ca70, h3, e0, e1, e2⟩ | ⟨h2, e0, e1, e2⟩ | ⟨h2, z101, h3, ma104, cf105, h4, e0, e1, e2⟩ | ⟨h2, ma123, cf124, ca125, h3, e0, e1, e2⟩ | ⟨h2, z158, h3, ma161, cf162, v164, h4, z181, h5, ma185, cf186, ca187, h6, z219, h7, (⟨h8, e0, e1, e2⟩ | ⟨h8, z222, h9, ma226, cf227, ca228, h10, e0, e1, e2⟩)⟩ | ⟨h2, z260, h3, ma263, cf264, v266, h4, z283, h5, ma287, cf288, ca289, h6, e0, e1, e2⟩ | ⟨h2, z321, h3, ma325, cf326, ca327, h4, z359, h5, ma362, cf363, v365, h6, e0, e1, e2⟩ | ⟨h2, ma385, cf386, ca387, h3, e0, e1, e2⟩ | ⟨h2, ma421, cf422, ca423, h3, e0, e1, e2⟩ | ⟨h2, (⟨h3, e0, e1, e2⟩ | ⟨h3, z457, h4, (⟨h5, z461, h6, cf463, h7, e0, e1, e2⟩ | ⟨h5, (⟨h6, z489, h7, cf491, h8, e0, e1, e2⟩ | ⟨h6, e0, e1, e2⟩)⟩)⟩)⟩ | ⟨h2, ma518, cf519, ca520, h3, e0, e1, e2⟩)⟩ | h
      case inr => exact h.elim
      all_goals have hk : z1.toInt = (na 14 lo).toInt := by rw [h1, cn_of hp]
      · exfalso; omega
      · exfalso; omega
      · exfalso; omega
      · exfalso; omega
      · exfalso; omega
      · exfalso; omega
      · exfalso; omega
      · exfalso; omega
      · rw [cn_of hp] at h3 h5 h7
        rw [e0, e1, e2]
        exact k24_t H HS hh hl hp S hL hw hC a1 a2 a3 a4 a5 a6 h3 h4 h5 h6
      · exfalso
        rw [cn_of hp] at h3 h5 h7
        have y := k24_n H HS hh hl hp S hL hw hC a2 a3 a4 a5 h3 h4 h5 h6
        rw [h7, y] at h8
        exact h8 a6
      · exfalso; omega
      · exfalso; omega
      · exfalso; omega
      · exfalso; omega
      · exfalso; omega
      · exfalso; omega
      · exfalso; omega
      · exfalso; omega
      · exfalso; omega
    · rcases h with ⟨z1, h1, (⟨h2, (⟨h3, e0, e1, e2⟩ | ⟨h3, z6, h4, (⟨h5, z10, h6, cf12, h7, e0, e1, e2⟩ | ⟨h5, (⟨h6, z38, h7, cf40, h8, e0, e1, e2⟩ | ⟨h6, e0, e1, e2⟩)⟩)⟩)⟩ | ⟨h2, ma68, cf69, ca70, h3, e0, e1, e2⟩ | ⟨h2, e0, e1, e2⟩ | ⟨h2, z101, h3, ma104, cf105, h4, e0, e1, e2⟩ | ⟨h2, ma123, cf124, ca125, h3, e0, e1, e2⟩ | ⟨h2, z158, h3, ma161, cf162, v164, h4, z181, h5, ma185, cf186, ca187, h6, z219, h7, (⟨h8, e0, e1, e2⟩ | ⟨h8, z222, h9, ma226, cf227, ca228, h10, e0, e1, e2⟩)⟩ | ⟨h2, z260, h3, ma263, cf264, v266, h4, z283, h5, ma287, cf288, ca289, h6, e0, e1, e2⟩ | ⟨h2, z321, h3, ma325, cf326, ca327, h4, z359, h5, ma362, cf363, v365, h6, e0, e1, e2⟩ | ⟨h2, ma385, cf386, ca387, h3, e0, e1, e2⟩ | ⟨h2, ma421, cf422, ca423, h3, e0, e1, e2⟩ | ⟨h2, (⟨h3, e0, e1, e2⟩ | ⟨h3, z457, h4, (⟨h5, z461, h6, cf463, h7, e0, e1, e2⟩ | ⟨h5, (⟨h6, z489, h7, cf491, h8, e0, e1, e2⟩ | ⟨h6, e0, e1, e2⟩)⟩)⟩)⟩ | ⟨h2, ma518, cf519, ca520, h3, e0, e1, e2⟩)⟩ | h
      case inr => exact h.elim
      all_goals have hk : z1.toInt = (na 14 lo).toInt := by rw [h1, cn_of hp]
      · exfalso; omega
      · exfalso; omega
      · exfalso; omega
      · exfalso; omega
      · exfalso; omega
      · exfalso; omega
      · exfalso; omega
      · exfalso; omega
      · exfalso
        rw [cn_of hp] at h3 h5 h7
        have y := k24_n H HS (by have := rps_lt a7; omega) (by have := oke_le a3; have := rps_lt a5; omega) hp S hL hw hC a2 a3 a4 a5 h3 h4 h5 h6
        rw [h7, y] at h8
        omega
      · rw [cn_of hp] at h3 h5 h7 h9
        rw [e0, e1, e2]
        exact k24b_t H HS hh hl hp S hL hw hC a1 a2 a3 a4 a5 a6 a7 h3 h4 h5 h6 h9 h10
      · exfalso; omega
      · exfalso; omega
      · exfalso; omega
      · exfalso; omega
      · exfalso; omega
      · exfalso; omega
      · exfalso; omega
      · exfalso; omega
      · exfalso; omega
    · rcases h with ⟨z1, h1, (⟨h2, (⟨h3, e0, e1, e2⟩ | ⟨h3, z6, h4, (⟨h5, z10, h6, cf12, h7, e0, e1, e2⟩ | ⟨h5, (⟨h6, z38, h7, cf40, h8, e0, e1, e2⟩ | ⟨h6, e0, e1, e2⟩)⟩)⟩)⟩ | ⟨h2, ma68, cf69, ca70, h3, e0, e1, e2⟩ | ⟨h2, e0, e1, e2⟩ | ⟨h2, z101, h3, ma104, cf105, h4, e0, e1, e2⟩ | ⟨h2, ma123, cf124, ca125, h3, e0, e1, e2⟩ | ⟨h2, z158, h3, ma161, cf162, v164, h4, z181, h5, ma185, cf186, ca187, h6, z219, h7, (⟨h8, e0, e1, e2⟩ | ⟨h8, z222, h9, ma226, cf227, ca228, h10, e0, e1, e2⟩)⟩ | ⟨h2, z260, h3, ma263, cf264, v266, h4, z283, h5, ma287, cf288, ca289, h6, e0, e1, e2⟩ | ⟨h2, z321, h3, ma325, cf326, ca327, h4, z359, h5, ma362, cf363, v365, h6, e0, e1, e2⟩ | ⟨h2, ma385, cf386, ca387, h3, e0, e1, e2⟩ | ⟨h2, ma421, cf422, ca423, h3, e0, e1, e2⟩ | ⟨h2, (⟨h3, e0, e1, e2⟩ | ⟨h3, z457, h4, (⟨h5, z461, h6, cf463, h7, e0, e1, e2⟩ | ⟨h5, (⟨h6, z489, h7, cf491, h8, e0, e1, e2⟩ | ⟨h6, e0, e1, e2⟩)⟩)⟩)⟩ | ⟨h2, ma518, cf519, ca520, h3, e0, e1, e2⟩)⟩ | h
      case inr => exact h.elim
      all_goals have hk : z1.toInt = (na 14 lo).toInt := by rw [h1, cn_of hp]
      · exfalso; omega
      · exfalso; omega
      · exfalso; omega
      · exfalso; omega
      · exfalso; omega
      · exfalso; omega
      · exfalso; omega
      · exfalso; omega
      · exfalso; omega
      · exfalso; omega
      · rw [cn_of hp] at h3 h5
        rw [e0, e1, e2]
        exact k25_t H HS hh hl hp S hL hw hC a1 a2 a3 a4 a5 a6 h3 h4 h5 h6
      · exfalso; omega
      · exfalso; omega
      · exfalso; omega
      · exfalso; omega
      · exfalso; omega
      · exfalso; omega
      · exfalso; omega
      · exfalso; omega
    · rcases h with ⟨z1, h1, (⟨h2, (⟨h3, e0, e1, e2⟩ | ⟨h3, z6, h4, (⟨h5, z10, h6, cf12, h7, e0, e1, e2⟩ | ⟨h5, (⟨h6, z38, h7, cf40, h8, e0, e1, e2⟩ | ⟨h6, e0, e1, e2⟩)⟩)⟩)⟩ | ⟨h2, ma68, cf69, ca70, h3, e0, e1, e2⟩ | ⟨h2, e0, e1, e2⟩ | ⟨h2, z101, h3, ma104, cf105, h4, e0, e1, e2⟩ | ⟨h2, ma123, cf124, ca125, h3, e0, e1, e2⟩ | ⟨h2, z158, h3, ma161, cf162, v164, h4, z181, h5, ma185, cf186, ca187, h6, z219, h7, (⟨h8, e0, e1, e2⟩ | ⟨h8, z222, h9, ma226, cf227, ca228, h10, e0, e1, e2⟩)⟩ | ⟨h2, z260, h3, ma263, cf264, v266, h4, z283, h5, ma287, cf288, ca289, h6, e0, e1, e2⟩ | ⟨h2, z321, h3, ma325, cf326, ca327, h4, z359, h5, ma362, cf363, v365, h6, e0, e1, e2⟩ | ⟨h2, ma385, cf386, ca387, h3, e0, e1, e2⟩ | ⟨h2, ma421, cf422, ca423, h3, e0, e1, e2⟩ | ⟨h2, (⟨h3, e0, e1, e2⟩ | ⟨h3, z457, h4, (⟨h5, z461, h6, cf463, h7, e0, e1, e2⟩ | ⟨h5, (⟨h6, z489, h7, cf491, h8, e0, e1, e2⟩ | ⟨h6, e0, e1, e2⟩)⟩)⟩)⟩ | ⟨h2, ma518, cf519, ca520, h3, e0, e1, e2⟩)⟩ | h
      case inr => exact h.elim
      all_goals have hk : z1.toInt = (na 14 lo).toInt := by rw [h1, cn_of hp]
      · exfalso; omega
      · exfalso; omega
      · exfalso; omega
      · exfalso; omega
      · exfalso; omega
      · exfalso; omega
      · exfalso; omega
      · exfalso; omega
      · exfalso; omega
      · exfalso; omega
      · exfalso; omega
      · rw [cn_of hp] at h3 h5
        rw [e0, e1]
        exact k26_t H HS hh hl hp S hL hw hC a1 a2 a3 a4 a5 a6 h3 h4 h5 h6 e2
      · exfalso; omega
      · exfalso; omega
      · exfalso; omega
      · exfalso; omega
      · exfalso; omega
      · exfalso; omega
      · exfalso; omega
    · rcases h with ⟨z1, h1, (⟨h2, (⟨h3, e0, e1, e2⟩ | ⟨h3, z6, h4, (⟨h5, z10, h6, cf12, h7, e0, e1, e2⟩ | ⟨h5, (⟨h6, z38, h7, cf40, h8, e0, e1, e2⟩ | ⟨h6, e0, e1, e2⟩)⟩)⟩)⟩ | ⟨h2, ma68, cf69, ca70, h3, e0, e1, e2⟩ | ⟨h2, e0, e1, e2⟩ | ⟨h2, z101, h3, ma104, cf105, h4, e0, e1, e2⟩ | ⟨h2, ma123, cf124, ca125, h3, e0, e1, e2⟩ | ⟨h2, z158, h3, ma161, cf162, v164, h4, z181, h5, ma185, cf186, ca187, h6, z219, h7, (⟨h8, e0, e1, e2⟩ | ⟨h8, z222, h9, ma226, cf227, ca228, h10, e0, e1, e2⟩)⟩ | ⟨h2, z260, h3, ma263, cf264, v266, h4, z283, h5, ma287, cf288, ca289, h6, e0, e1, e2⟩ | ⟨h2, z321, h3, ma325, cf326, ca327, h4, z359, h5, ma362, cf363, v365, h6, e0, e1, e2⟩ | ⟨h2, ma385, cf386, ca387, h3, e0, e1, e2⟩ | ⟨h2, ma421, cf422, ca423, h3, e0, e1, e2⟩ | ⟨h2, (⟨h3, e0, e1, e2⟩ | ⟨h3, z457, h4, (⟨h5, z461, h6, cf463, h7, e0, e1, e2⟩ | ⟨h5, (⟨h6, z489, h7, cf491, h8, e0, e1, e2⟩ | ⟨h6, e0, e1, e2⟩)⟩)⟩)⟩ | ⟨h2, ma518, cf519, ca520, h3, e0, e1, e2⟩)⟩ | h
      case inr => exact h.elim
      all_goals have hk : z1.toInt = (na 14 lo).toInt := by rw [h1, cn_of hp]
      · exfalso; omega
      · exfalso; omega
      · exfalso; omega
      · exfalso; omega
      · exfalso; omega
      · exfalso; omega
      · exfalso; omega
      · exfalso; omega
      · exfalso; omega
      · exfalso; omega
      · exfalso; omega
      · exfalso; omega
      · rw [e0, e1, e2]
        exact k27_t H HS hh hl hp S hL hw hC a1 a2 a3 a4 a5 a6 a7 h3
      · exfalso; omega
      · exfalso; omega
      · exfalso; omega
      · exfalso; omega
      · exfalso; omega
      · exfalso; omega
    · rcases h with ⟨z1, h1, (⟨h2, (⟨h3, e0, e1, e2⟩ | ⟨h3, z6, h4, (⟨h5, z10, h6, cf12, h7, e0, e1, e2⟩ | ⟨h5, (⟨h6, z38, h7, cf40, h8, e0, e1, e2⟩ | ⟨h6, e0, e1, e2⟩)⟩)⟩)⟩ | ⟨h2, ma68, cf69, ca70, h3, e0, e1, e2⟩ | ⟨h2, e0, e1, e2⟩ | ⟨h2, z101, h3, ma104, cf105, h4, e0, e1, e2⟩ | ⟨h2, ma123, cf124, ca125, h3, e0, e1, e2⟩ | ⟨h2, z158, h3, ma161, cf162, v164, h4, z181, h5, ma185, cf186, ca187, h6, z219, h7, (⟨h8, e0, e1, e2⟩ | ⟨h8, z222, h9, ma226, cf227, ca228, h10, e0, e1, e2⟩)⟩ | ⟨h2, z260, h3, ma263, cf264, v266, h4, z283, h5, ma287, cf288, ca289, h6, e0, e1, e2⟩ | ⟨h2, z321, h3, ma325, cf326, ca327, h4, z359, h5, ma362, cf363, v365, h6, e0, e1, e2⟩ | ⟨h2, ma385, cf386, ca387, h3, e0, e1, e2⟩ | ⟨h2, ma421, cf422, ca423, h3, e0, e1, e2⟩ | ⟨h2, (⟨h3, e0, e1, e2⟩ | ⟨h3, z457, h4, (⟨h5, z461, h6, cf463, h7, e0, e1, e2⟩ | ⟨h5, (⟨h6, z489, h7, cf491, h8, e0, e1, e2⟩ | ⟨h6, e0, e1, e2⟩)⟩)⟩)⟩ | ⟨h2, ma518, cf519, ca520, h3, e0, e1, e2⟩)⟩ | h
      case inr => exact h.elim
      all_goals have hk : z1.toInt = (na 14 lo).toInt := by rw [h1, cn_of hp]
      · exfalso; omega
      · exfalso; omega
      · exfalso; omega
      · exfalso; omega
      · exfalso; omega
      · exfalso; omega
      · exfalso; omega
      · exfalso; omega
      · exfalso; omega
      · exfalso; omega
      · exfalso; omega
      · exfalso; omega
      · exfalso; omega
      · rw [e0, e1, e2]
        exact k28_t H HS hh hl hp S hL hw hC a1 a2 a3 a4 h3
      · exfalso; omega
      · exfalso; omega
      · exfalso; omega
      · exfalso; omega
      · exfalso; omega
    · rcases h with ⟨z1, h1, (⟨h2, (⟨h3, e0, e1, e2⟩ | ⟨h3, z6, h4, (⟨h5, z10, h6, cf12, h7, e0, e1, e2⟩ | ⟨h5, (⟨h6, z38, h7, cf40, h8, e0, e1, e2⟩ | ⟨h6, e0, e1, e2⟩)⟩)⟩)⟩ | ⟨h2, ma68, cf69, ca70, h3, e0, e1, e2⟩ | ⟨h2, e0, e1, e2⟩ | ⟨h2, z101, h3, ma104, cf105, h4, e0, e1, e2⟩ | ⟨h2, ma123, cf124, ca125, h3, e0, e1, e2⟩ | ⟨h2, z158, h3, ma161, cf162, v164, h4, z181, h5, ma185, cf186, ca187, h6, z219, h7, (⟨h8, e0, e1, e2⟩ | ⟨h8, z222, h9, ma226, cf227, ca228, h10, e0, e1, e2⟩)⟩ | ⟨h2, z260, h3, ma263, cf264, v266, h4, z283, h5, ma287, cf288, ca289, h6, e0, e1, e2⟩ | ⟨h2, z321, h3, ma325, cf326, ca327, h4, z359, h5, ma362, cf363, v365, h6, e0, e1, e2⟩ | ⟨h2, ma385, cf386, ca387, h3, e0, e1, e2⟩ | ⟨h2, ma421, cf422, ca423, h3, e0, e1, e2⟩ | ⟨h2, (⟨h3, e0, e1, e2⟩ | ⟨h3, z457, h4, (⟨h5, z461, h6, cf463, h7, e0, e1, e2⟩ | ⟨h5, (⟨h6, z489, h7, cf491, h8, e0, e1, e2⟩ | ⟨h6, e0, e1, e2⟩)⟩)⟩)⟩ | ⟨h2, ma518, cf519, ca520, h3, e0, e1, e2⟩)⟩ | h
      case inr => exact h.elim
      all_goals have hk : z1.toInt = (na 14 lo).toInt := by rw [h1, cn_of hp]
      · exfalso; omega
      · exfalso; omega
      · exfalso; omega
      · exfalso; omega
      · exfalso; omega
      · exfalso; omega
      · exfalso; omega
      · exfalso; omega
      · exfalso; omega
      · exfalso; omega
      · exfalso; omega
      · exfalso; omega
      · exfalso; omega
      · exfalso; omega
      · rw [e0, e1, e2]
        exact k31_t S hl hp hL hw (Or.inr (by omega)) (fun z _ => by rw [a1, sm_12, if_pos (hC.2.2.2.2.mpr (Or.inl h3))])
      · exfalso
        rw [cn_of hp] at h4
        rw [h4] at h5
        exact h5 a2
      · rw [e0, e1, e2]
        exact kbad S (by omega) (by omega) h8 (by decide) (fun z _ => by rw [a1, sm_12, if_neg (fun w => by have := hC.2.2.2.2.mp w; omega)])
      · rw [e0, e1, e2]
        exact k31_t S hl hp hL hw (Or.inr (by omega)) (fun z _ => by rw [a1, sm_12, if_pos (hC.2.2.2.2.mpr (Or.inr (by omega)))])
      · exfalso; omega
    · rcases h with ⟨z1, h1, (⟨h2, (⟨h3, e0, e1, e2⟩ | ⟨h3, z6, h4, (⟨h5, z10, h6, cf12, h7, e0, e1, e2⟩ | ⟨h5, (⟨h6, z38, h7, cf40, h8, e0, e1, e2⟩ | ⟨h6, e0, e1, e2⟩)⟩)⟩)⟩ | ⟨h2, ma68, cf69, ca70, h3, e0, e1, e2⟩ | ⟨h2, e0, e1, e2⟩ | ⟨h2, z101, h3, ma104, cf105, h4, e0, e1, e2⟩ | ⟨h2, ma123, cf124, ca125, h3, e0, e1, e2⟩ | ⟨h2, z158, h3, ma161, cf162, v164, h4, z181, h5, ma185, cf186, ca187, h6, z219, h7, (⟨h8, e0, e1, e2⟩ | ⟨h8, z222, h9, ma226, cf227, ca228, h10, e0, e1, e2⟩)⟩ | ⟨h2, z260, h3, ma263, cf264, v266, h4, z283, h5, ma287, cf288, ca289, h6, e0, e1, e2⟩ | ⟨h2, z321, h3, ma325, cf326, ca327, h4, z359, h5, ma362, cf363, v365, h6, e0, e1, e2⟩ | ⟨h2, ma385, cf386, ca387, h3, e0, e1, e2⟩ | ⟨h2, ma421, cf422, ca423, h3, e0, e1, e2⟩ | ⟨h2, (⟨h3, e0, e1, e2⟩ | ⟨h3, z457, h4, (⟨h5, z461, h6, cf463, h7, e0, e1, e2⟩ | ⟨h5, (⟨h6, z489, h7, cf491, h8, e0, e1, e2⟩ | ⟨h6, e0, e1, e2⟩)⟩)⟩)⟩ | ⟨h2, ma518, cf519, ca520, h3, e0, e1, e2⟩)⟩ | h
      case inr => exact h.elim
      all_goals have hk : z1.toInt = (na 14 lo).toInt := by rw [h1, cn_of hp]
      · exfalso; omega
      · exfalso; omega
      · exfalso; omega
      · exfalso; omega
      · exfalso; omega
      · exfalso; omega
      · exfalso; omega
      · exfalso; omega
      · exfalso; omega
      · exfalso; omega
      · exfalso; omega
      · exfalso; omega
      · exfalso; omega
      · exfalso; omega
      · rw [e0, e1, e2]
        exact k31_t S hl hp hL hw (Or.inr (by omega)) (fun z _ => by rw [a1, sm_13, if_pos (hC.2.1.2.2.mpr h3)])
      · rw [e0, e1, e2]
        exact kbad S (by omega) (by omega) h7 (by decide) (fun z _ => by rw [a1, sm_13, if_neg (fun w => h3 (hC.2.1.2.2.mp w))])
      · exfalso
        rw [cn_of hp] at h4
        rw [h4] at h5
        omega
      · exfalso
        rw [cn_of hp] at h4
        rw [h4] at h5
        omega
      · exfalso; omega
    · rcases h with ⟨z1, h1, (⟨h2, (⟨h3, e0, e1, e2⟩ | ⟨h3, z6, h4, (⟨h5, z10, h6, cf12, h7, e0, e1, e2⟩ | ⟨h5, (⟨h6, z38, h7, cf40, h8, e0, e1, e2⟩ | ⟨h6, e0, e1, e2⟩)⟩)⟩)⟩ | ⟨h2, ma68, cf69, ca70, h3, e0, e1, e2⟩ | ⟨h2, e0, e1, e2⟩ | ⟨h2, z101, h3, ma104, cf105, h4, e0, e1, e2⟩ | ⟨h2, ma123, cf124, ca125, h3, e0, e1, e2⟩ | ⟨h2, z158, h3, ma161, cf162, v164, h4, z181, h5, ma185, cf186, ca187, h6, z219, h7, (⟨h8, e0, e1, e2⟩ | ⟨h8, z222, h9, ma226, cf227, ca228, h10, e0, e1, e2⟩)⟩ | ⟨h2, z260, h3, ma263, cf264, v266, h4, z283, h5, ma287, cf288, ca289, h6, e0, e1, e2⟩ | ⟨h2, z321, h3, ma325, cf326, ca327, h4, z359, h5, ma362, cf363, v365, h6, e0, e1, e2⟩ | ⟨h2, ma385, cf386, ca387, h3, e0, e1, e2⟩ | ⟨h2, ma421, cf422, ca423, h3, e0, e1, e2⟩ | ⟨h2, (⟨h3, e0, e1, e2⟩ | ⟨h3, z457, h4, (⟨h5, z461, h6, cf463, h7, e0, e1, e2⟩ | ⟨h5, (⟨h6, z489, h7, cf491, h8, e0, e1, e2⟩ | ⟨h6, e0, e1, e2⟩)⟩)⟩)⟩ | ⟨h2, ma518, cf519, ca520, h3, e0, e1, e2⟩)⟩ | h
      case inr => exact h.elim
      all_goals have hk : z1.toInt = (na 14 lo).toInt := by rw [h1, cn_of hp]
      · exfalso; omega
      · exfalso; omega
      · exfalso; omega
      · exfalso; omega
      · exfalso; omega
      · exfalso; omega
      · exfalso; omega
      · exfalso; omega
      · exfalso; omega
      · exfalso; omega
      · exfalso; omega
      · exfalso; omega
      · exfalso; omega
      · exfalso; omega
      · exfalso; omega
      · exfalso; omega
      · exfalso; omega
      · exfalso; omega
      · rw [e0, e1, e2]
        exact k33_t H HS hh hl hp S hL hw hC a2 (Or.inl ⟨a1, a3⟩) h3
    · rcases h with ⟨z1, h1, (⟨h2, (⟨h3, e0, e1, e2⟩ | ⟨h3, z6, h4, (⟨h5, z10, h6, cf12, h7, e0, e1, e2⟩ | ⟨h5, (⟨h6, z38, h7, cf40, h8, e0, e1, e2⟩ | ⟨h6, e0, e1, e2⟩)⟩)⟩)⟩ | ⟨h2, ma68, cf69, ca70, h3, e0, e1, e2⟩ | ⟨h2, e0, e1, e2⟩ | ⟨h2, z101, h3, ma104, cf105, h4, e0, e1, e2⟩ | ⟨h2, ma123, cf124, ca125, h3, e0, e1, e2⟩ | ⟨h2, z158, h3, ma161, cf162, v164, h4, z181, h5, ma185, cf186, ca187, h6, z219, h7, (⟨h8, e0, e1, e2⟩ | ⟨h8, z222, h9, ma226, cf227, ca228, h10, e0, e1, e2⟩)⟩ | ⟨h2, z260, h3, ma263, cf264, v266, h4, z283, h5, ma287, cf288, ca289, h6, e0, e1, e2⟩ | ⟨h2, z321, h3, ma325, cf326, ca327, h4, z359, h5, ma362, cf363, v365, h6, e0, e1, e2⟩ | ⟨h2, ma385, cf386, ca387, h3, e0, e1, e2⟩ | ⟨h2, ma421, cf422, ca423, h3, e0, e1, e2⟩ | ⟨h2, (⟨h3, e0, e1, e2⟩ | ⟨h3, z457, h4, (⟨h5, z461, h6, cf463, h7, e0, e1, e2⟩ | ⟨h5, (⟨h6, z489, h7, cf491, h8, e0, e1, e2⟩ | ⟨h6, e0, e1, e2⟩)⟩)⟩)⟩ | ⟨h2, ma518, cf519, ca520, h3, e0, e1, e2⟩)⟩ | h
      case inr => exact h.elim
      all_goals have hk : z1.toInt = (na 14 lo).toInt := by rw [h1, cn_of hp]
      · exfalso; omega
      · exfalso; omega
      · exfalso; omega
      · exfalso; omega
      · exfalso; omega
      · exfalso; omega
      · exfalso; omega
      · exfalso; omega
      · exfalso; omega
      · exfalso; omega
      · exfalso; omega
      · exfalso; omega
      · exfalso; omega
      · exfalso; omega
      · exfalso; omega
      · exfalso; omega
      · exfalso; omega
      · exfalso; omega
      · rw [e0, e1, e2]
        exact k33_t H HS hh hl hp S hL hw hC a2 (Or.inr ⟨e, a1, a3⟩) h3
theorem sc_all (H : TxH tf ta na ca0 k vl ql c n38 M0 F) : ∀ n : Nat, HSz tf ta na ca0 k vl ql c n38 M0 F rt (RL_mp_checkStatement n)
  | 0 => fun _ _ _ _ _ _ _ _ _ _ _ _ _ _ _ _ _ _ _ _ _ _ h => False.elim h
  | n + 1 => sc_r H (sc_all H n)
end SK
/-! THE REFERENCE's checker: functions -/
/-- parameters: their names, the words that they take -/
def OkP (k : Nat → Int) (vl : Nat → Int32) (c : Nat) (na ca0 : Nat → Nat → Int32) (n38 : Int32) (M0 : Nat → Int32) (L : Nms) (sc lo hi : Nat) (x : Int → Option (Nms × Int)) (ma : Nat → Nat → Int32) (cf : Nat → Int32) (ma' : Nat → Nat → Int32) (cf' : Nat → Int32) (ca' : Nat → Nat → Int32) : Prop := ∃ X : Nms, CkS k vl c na ca0 n38 M0 (L ++ X) sc cf' ca' ma' ∧ (L ++ X).length ≤ hi ∧ FrM ma ma' lo hi ∧ DfS cf cf' ∧ (0 ≤ (cf' 42).toInt ∧ (cf' 42).toInt ≤ 5000 * (hi : Int)) ∧ ∀ w : Int, AC cf cf' (x w) (fun p => p.1 = L ++ X ∧ p.2 = w + ((cf' 42).toInt - (cf 42).toInt))
section SL
variable {tf : Nat → Int32} {ta na ca ca0 ca1 ca' ma ma' ma1 : Nat → Nat → Int32} {vl M0 : Nat → Int32} {k : Nat → Int} {ql : Nat → Int} {c sc lo hi mid d D : Nat} {n38 : Int32} {F : Int32 → Option Fnc} {cf cf' cf1 : Nat → Int32} {L : Nms} {p0 p1 v : Int32} {e a b s : Ast} {rt : Int}
theorem sp_n {w : Int} : semPars vl F sc .null L w = some (L, w) := by first | rfl | simp [semPars]
theorem sp_a {w : Int} : semPars vl F sc (.add a b) L w = (dcl false F sc L (vl (tokP a)) (entP a)).bind fun L' => semPars vl F sc b L' (w + wdP a) := by first | rfl | simp [semPars]
theorem new_m (h : R_mp_checkNew tf ta na ca p0 cf cf') : SmK cf cf' := by
  rcases h with ⟨v2, h1, (⟨h2, cf12, h3, e0⟩ | ⟨h2, (⟨h3, e0⟩ | ⟨h3, v39, h4, (⟨h5, e0⟩ | ⟨h5, cf47, h6, e0⟩)⟩)⟩)⟩ | h
  · rw [e0]; exact (bad_r h3 (by decide)).2
  · rw [e0]; exact SmK.rf
  · rw [e0]; exact SmK.rf
  · rw [e0]; exact (bad_r h6 (by decide)).2
  · exact h.elim
theorem new_b {m1 : Nat} (h : R_mp_checkNew tf ta na ca p0 cf cf') (hw : 0 ≤ (cf 42).toInt ∧ (cf 42).toInt ≤ 5000 * (lo : Int)) (hl : lo < m1 ∧ m1 ≤ hi) (hm : hi ≤ 100000) : -2147483648 ≤ (cf' 42).toInt + 1 ∧ (cf' 42).toInt + 1 < 2147483648 ∧ -2147483648 ≤ (cf' 42).toInt + 2 ∧ (cf' 42).toInt + 2 < 2147483648 := by
  rw [new_m h 42 (by decide) (by decide)]
  omega
theorem vu_q {f : Nat → Nat → Int32} {i : Nat} {x : Int32} : va_up f 18 (upd (f 18) i x) 22 = f 22 := va_up_n (by decide)
/-- one parameter -/
theorem p1_t {t : Nat} {g : Ent} {w : Int} {cf7 cf9 : Nat → Int32} {ca9 : Nat → Nat → Int32} {y0 kd z5 z6 z39 v48 : Int32} (H : TxH tf ta na ca0 k vl ql c n38 M0 F) (S : CkS k vl c na ca0 n38 M0 L sc cf ca ma) (hl : lo < mid) (hm : mid ≤ 100000) (hL : L.length ≤ lo) (hw0 : 0 ≤ (cf 42).toInt ∧ (cf 42).toInt ≤ 5000 * (lo : Int)) (h43 : 0 ≤ (cf 43).toInt) (ht : z5.toInt = (t : Int)) (htc : t < c) (h16 : k t = 16) (h3 : R_mp_checkNew tf ta na ca z5 cf cf7) (hz : z39.toInt = (cf7 42).toInt + w) (hw : 0 ≤ w ∧ w ≤ 4096) (hLay : R_mp_lay y0 (1 : Int32) (upd cf7 42 z39) ca cf9 ca9 v48) (hma : ma' = vu ma 18 lo v48) (h6 : z6 = z5) (hkd : 1 ≤ kd.toInt ∧ kd.toInt ≤ 3) (hg : g = (kd.toInt, 0)) (hKn : R_mp_know z6 kd (0 : Int32) v48 cf9 ca9 cf' ca') : SmK cf cf7 ∧ AC cf cf7 (dcl false F sc L (vl t) g) (fun L' => L' = L ++ [(vl t, g)]) ∧ CkS k vl c na ca0 n38 M0 (L ++ [(vl t, g)]) sc cf' ca' ma' ∧ FrM ma ma' lo mid ∧ DfS cf cf' ∧ cf' 30 = cf7 30 ∧ (cf' 42).toInt = (cf 42).toInt + w := by
  obtain ⟨n1, n2⟩ := new_r H S ht htc h16 false ⟨fun q => absurd q (by decide), fun q => by exfalso; omega⟩ g h3
  have S7 : CkS k vl c na ca0 n38 M0 L sc cf7 ca ma := S.sm (n1 33 (by decide) (by decide)) (n1 37 (by decide) (by decide)) (n1 38 (by decide) (by decide)) S.2.2.2.1
  have hM : MgO na M0 (ma' 22) := fun i q => by rw [hma, vu_p (by omega)]; exact S.2.2.2.1 i q
  rw [h6] at hKn
  obtain ⟨b1, b2⟩ := layk S7 hLay (pk_un (by decide)) (pk_un (by decide)) (pk_un (by decide)) hM hKn ht htc h16 ⟨hkd.1, by omega⟩ (by omega)
  rw [if_neg (by omega), ← hg] at b1
  refine ⟨n1, n2, b1, fun f i q => by rw [hma, vu_at (by omega)], fun j h1 h2 h3 h4 h5 h6 h7 h8 => ((b2 j h3 h5 h6).trans (pk_un h4)).trans (n1 j h1 h2), (b2 30 (by decide) (by decide) (by decide)).trans (pk_un (by decide)), ?_⟩
  rw [b2 42 (by decide) (by decide) (by decide), pk_us, hz, n1 42 (by decide) (by decide)]
/-- the parameters, then the body -/
theorem fn_80 {x4 x5 nd : Int32} {P : Nat} (H : TxH tf ta na ca0 k vl ql c n38 M0 F) (hnd : nd.toInt = (P : Int)) : ∀ (ps : Ast) (m : Nat) (x6 : Int32) (lo mid : Nat) (ma : Nat → Nat → Int32) (cf : Nat → Int32) (ca : Nat → Nat → Int32) (L : Nms), E_mp_checkFunction D tf ta na p0 ma' cf' ca' m 80 [x4, x5, x6, nd] [] [] [] [] ma cf ca → RowS na (RepP k c na ma) ps x6.toInt lo mid → mid ≤ 100000 → CkS k vl c na ca0 n38 M0 L sc cf ca ma → L.length ≤ lo → (0 ≤ (cf 42).toInt ∧ (cf 42).toInt ≤ 5000 * (lo : Int)) → 0 ≤ (cf 43).toInt → ∃ (m' : Nat) (y6 : Int32) (ma1 : Nat → Nat → Int32) (cf1 : Nat → Int32) (ca1 : Nat → Nat → Int32), y6.toInt < 0 ∧ E_mp_checkFunction D tf ta na p0 ma' cf' ca' m' 80 [x4, x5, y6, nd] [] [] [] [] ma1 cf1 ca1 ∧ OkP k vl c na ca0 n38 M0 L sc lo mid (fun w => semPars vl F sc ps L w) ma cf ma1 cf1 ca1 := by
  intro ps
  induction ps with
  | null =>
    intro m x6 lo mid ma cf ca L h hR hm S hL hw h43
    have hR' : x6.toInt < 0 ∧ lo ≤ mid := hR
    refine ⟨m, x6, ma, cf, ca, hR'.1, h, [], by rw [List.append_nil]; exact S, by rw [List.append_nil]; omega, FrM.rf, DfS.rf, by omega, fun w => ?_⟩
    show AC cf cf (semPars vl F sc .null L w) _
    rw [sp_n]
    exact AC.ret ⟨by rw [List.append_nil], by show w = _; omega⟩
  | add v r ihv ihr =>
    intro m x6 lo mid ma cf ca L h hR hm S hL hw h43
    obtain ⟨m1, r1, r2, r3, r4⟩ := hR
    obtain ⟨v1, v2, ty, t, v3, v4, v5⟩ := r3
    have hid := fun (_ : True) => v5
    clear v5
    have xi : x6.toNatClampNeg = lo := cn_of r1
    have nxt : ∀ {ma1 : Nat → Nat → Int32} {cf1 cf7 : Nat → Int32} {ca1 : Nat → Nat → Int32} {z : Int32} {m' : Nat} {g : Ent} {w : Int}, (SmK cf cf7 ∧ AC cf cf7 (dcl false F sc L (vl t) g) (fun L' => L' = L ++ [(vl t, g)]) ∧ CkS k vl c na ca0 n38 M0 (L ++ [(vl t, g)]) sc cf1 ca1 ma1 ∧ FrM ma ma1 lo m1 ∧ DfS cf cf1 ∧ cf1 30 = cf7 30 ∧ (cf1 42).toInt = (cf 42).toInt + w) → (0 ≤ w ∧ w ≤ 4096) → tokP v = t → entP v = g → wdP v = w → z = na 21 lo → E_mp_checkFunction D tf ta na p0 ma' cf' ca' m' 80 [x4, x5, z, nd] [] [] [] [] ma1 cf1 ca1 → ∃ (m' : Nat) (y6 : Int32) (ma1 : Nat → Nat → Int32) (cf1 : Nat → Int32) (ca1 : Nat → Nat → Int32), y6.toInt < 0 ∧ E_mp_checkFunction D tf ta na p0 ma' cf' ca' m' 80 [x4, x5, y6, nd] [] [] [] [] ma1 cf1 ca1 ∧ OkP k vl c na ca0 n38 M0 L sc lo mid (fun w => semPars vl F sc (.add v r) L w) ma cf ma1 cf1 ca1 := by
      intro ma1 cf1 cf7 ca1 z m' g w B hw' e1 e2 e3 hz hE
      obtain ⟨b1, b2, b3, b4, b5, b6, b7⟩ := B
      have e43 : cf1 43 = cf 43 := b5 43 (by decide) (by decide) (by decide) (by decide) (by decide) (by decide) (by decide) (by decide)
      have el : (L ++ [(vl t, g)]).length = L.length + 1 := by rw [List.length_append]; rfl
      obtain ⟨m2, y6, ma2, cf2, ca2, g1, g2, X, a1, a2, a3, a4, a5, a6⟩ := ihr m' z m1 mid ma1 cf1 ca1 (L ++ [(vl t, g)]) hE (by rw [hz]; exact row_kp _ _ _ _ r4 (fun _ _ _ => rfl) (fun s l h q1 q2 q3 => rpp_kp q3 (FrM.ag (r := -1) b4 (Or.inr q1)))) hm b3 (by rw [el]; omega) (by rw [b7]; omega) (by rw [e43]; exact h43)
      have ea : L ++ ((vl t, g) :: X) = L ++ [(vl t, g)] ++ X := by rw [List.append_assoc]; rfl
      refine ⟨m2, y6, ma2, cf2, ca2, g1, g2, (vl t, g) :: X, by rw [ea]; exact a1, by rw [ea]; exact a2, (b4.le (Nat.le_refl _) r2.2).tr (a3.le (by omega) (Nat.le_refl _)), b5.tr a4, a5, fun w0 => ?_⟩
      show AC cf cf2 (semPars vl F sc (.add v r) L w0) _
      rw [sp_a, e1, e2, e3, ea]
      have rest : ∀ L' : Nms, L' = L ++ [(vl t, g)] → AC cf7 cf2 (semPars vl F sc r L' (w0 + w)) (fun p => p.1 = L ++ [(vl t, g)] ++ X ∧ p.2 = w0 + ((cf2 42).toInt - (cf 42).toInt)) := fun L' q => by
        rw [q]
        exact ((a6 (w0 + w)).e30 (a' := cf7) (b' := cf2) b6.symm rfl).imp (fun p y => ⟨y.1, by rw [y.2, b7]; omega⟩)
      exact AC.bind b2 rest (rest _ rfl).1
    have tm : ∀ {y : Ast}, v = .mul (.arg ty) (.arg t) → tokP v = t ∧ entP v = (1, 0) ∧ wdP v = 1 := fun {y} e => by rw [e]; exact ⟨rfl, rfl, rfl⟩
    have ts : v = .sub (.arg ty) (.arg t) → tokP v = t ∧ entP v = (if ty = 2 then 3 else 2, 0) ∧ wdP v = 2 := fun e => by rw [e]; exact ⟨rfl, rfl, rfl⟩
    rcases iv_mp_checkFunction_80 h with ⟨m', (⟨h1, z3, h2, z4, h3, ma8, cf9, ca10, h4, (⟨h5, z45, h6, ca46, h7, ca47, h8, cf49, h9, e0, e1, e2⟩ | ⟨h5, z71, h6, z72, h7, cf74, h8, z85, h9, ca86, h10, ca87, h11, cf89, h12, e0, e1, e2⟩)⟩ | ⟨h1, z113, h2, cf115, h3, z137, h4, (⟨h5, z142, h6, z143, h7, (⟨h8, cf149, ca150, v152, h9, ma177, h10, z178, h11, z180, h12, cf183, ca184, h13, z207, h14, hQ⟩ | ⟨h8, cf211, ca212, v214, h9, ma239, h10, z240, h11, z242, h12, cf245, ca246, h13, z269, h14, hQ⟩)⟩ | ⟨h5, z272, h6, z273, h7, (⟨h8, z277, h9, cf280, ca281, v283, h10, ma308, h11, z309, h12, z311, h13, (⟨h14, z314, h15, cf317, ca318, h16, z341, h17, hQ⟩ | ⟨h14, z342, h15, cf345, ca346, h16, z369, h17, hQ⟩)⟩ | ⟨h8, z371, h9, cf374, ca375, v377, h10, ma402, h11, z403, h12, z405, h13, (⟨h14, z408, h15, cf411, ca412, h16, z435, h17, hQ⟩ | ⟨h14, z436, h15, cf439, ca440, h16, z463, h17, hQ⟩)⟩)⟩)⟩)⟩
    · exfalso; omega
    · exfalso; omega
    all_goals rw [xi] at h2 h4
    all_goals rw [h4] at h5
    · rw [xi] at h7 h10 h11 h14
      rcases hid trivial with ⟨a1, a2⟩ | ⟨a1, a2⟩
      · obtain ⟨t1, t2, t3⟩ := tm (y := v) a1
        exact nxt (p1_t (w := 1) (g := (1, 0)) H S v1 (by omega) hL hw h43 (by rw [h2]; exact v3.1) v3.2.1 v3.2.2 h3 (ti_add h6 rfl (show (1 : Int32).toInt = 1 from rfl) (new_b h3 hw r2 hm).1 (new_b h3 hw r2 hm).2.1) (by decide) h9 h10 (by rw [h11, h2]) (by decide) rfl h13) (by decide) t1 t2 t3 h14 hQ
      · exfalso; omega
    · rw [xi] at h7 h10 h11 h14
      rcases hid trivial with ⟨a1, a2⟩ | ⟨a1, a2⟩
      · obtain ⟨t1, t2, t3⟩ := tm (y := v) a1
        exact nxt (p1_t (w := 1) (g := (1, 0)) H S v1 (by omega) hL hw h43 (by rw [h2]; exact v3.1) v3.2.1 v3.2.2 h3 (ti_add h6 rfl (show (1 : Int32).toInt = 1 from rfl) (new_b h3 hw r2 hm).1 (new_b h3 hw r2 hm).2.1) (by decide) h9 h10 (by rw [h11, h2]) (by decide) rfl h13) (by decide) t1 t2 t3 h14 hQ
      · exfalso; omega
    all_goals rw [xi] at h7 h11 h12 h13 h17
    all_goals rw [h7] at h8
    all_goals rw [h13, h11, vu_q] at h14
    · rcases hid trivial with ⟨a1, a2⟩ | ⟨a1, a2⟩
      · exfalso; omega
      · obtain ⟨t1, t2, t3⟩ := ts a1
        have y2 : ¬ ty = 2 := fun q => by have := v4.1; omega
        rw [if_neg y2] at t2
        exact nxt (p1_t (w := 2) (g := (2, 0)) H S v1 (by omega) hL hw h43 (by rw [h2]; exact v3.1) v3.2.1 v3.2.2 h3 (ti_add h6 rfl (show (2 : Int32).toInt = 2 from rfl) (new_b h3 hw r2 hm).2.2.1 (new_b h3 hw r2 hm).2.2.2) (by decide) h10 h11 (by rw [h12, h2]) (by decide) rfl h16) (by decide) t1 t2 t3 h17 hQ
    · exact absurd h14 h8
    · exact absurd h8 h14
    · rcases hid trivial with ⟨a1, a2⟩ | ⟨a1, a2⟩
      · exfalso; omega
      · obtain ⟨t1, t2, t3⟩ := ts a1
        have y2 : ty = 2 := by have := v4.1; omega
        rw [if_pos y2] at t2
        exact nxt (p1_t (w := 2) (g := (3, 0)) H S v1 (by omega) hL hw h43 (by rw [h2]; exact v3.1) v3.2.1 v3.2.2 h3 (ti_add h6 rfl (show (2 : Int32).toInt = 2 from rfl) (new_b h3 hw r2 hm).2.2.1 (new_b h3 hw r2 hm).2.2.2) (by decide) h10 h11 (by rw [h12, h2]) (by decide) rfl h16) (by decide) t1 t2 t3 h17 hQ
  | _ => intro m x6 lo mid ma cf ca L h hR; exact hR.elim
/-- what a function of the text means, but that its frame is not too large -/
def fnA (k : Nat → Int) (vl : Nat → Int32) (ql : Nat → Int) (F : Int32 → Option Fnc) (dup : Bool) (ty : Nat) (ps bd : Ast) (L : Nms) : Option Int := (if dup = true then none else semPars vl F L.length ps L 0).bind fun p => (sem k vl ql F (ty : Int) bd L.length false false (p.1, p.2, 0, [], false)).bind fun s' => some (4 + s'.2.1 + s'.2.2.1)
/-- fields that an item leaves alone -/
def DfI (a b : Nat → Int32) : Prop := ∀ j : Nat, ¬ j = 30 → ¬ j = 31 → ¬ j = 33 → ¬ j = 41 → ¬ j = 42 → ¬ j = 48 → ¬ j = 54 → ¬ j = 55 → ¬ j = 57 → ¬ j = 58 → ¬ j = 59 → b j = a j
/-- a function of the text, at node lo -/
theorem fn_r {f m t ty : Nat} {ps bd : Ast} {dup : Bool} (H : TxH tf ta na ca0 k vl ql c n38 M0 F) (hh : hi ≤ 100000) (hf : p0.toInt = (f : Int)) (h39 : (ca0 39 f).toInt = (lo : Int)) (k14 : (na 14 lo).toInt = 41) (hty : ty = 1 ∨ ty = 2 ∨ ty = 3) (k22 : (ma 22 lo).toInt = (ty : Int) - 1) (k15 : (na 15 lo).toInt = (t : Int) ∧ t < c ∧ k t = 16) (hps : RowS na (RepP k c na ma) ps (na 17 lo).toInt (lo + 1) m) (k18 : (ma 18 lo).toInt = (m : Int)) (hm : m < hi) (hbd : RowS na (RepS k c na ma d) bd (na 17 m).toInt (m + 1) hi) (S : CkS k vl c na ca0 n38 M0 L sc cf ca ma) (hL : L.length ≤ lo) (h44 : (cf 44).toInt = 0) (h45 : (cf 45).toInt = 0) (h43 : cf 43 = -1) (hdup : ∀ z own : Int32, z.toInt = (t : Int) → R_mp_findOwn tf ta z own → (0 ≤ own.toInt ∧ dup = true) ∨ (¬ 0 ≤ own.toInt ∧ ∀ (g : Nat → Int32) (fn : Int32), g 38 = n38 → R_mp_findFunction2 ta na g ca z fn → (fn.toInt = (f : Int) ↔ dup = false))) (h : R_mp_checkFunction D tf ta na p0 ma cf ca ma' cf' ca') : EnvR k vl c cf' ca' L ∧ cf' 38 = n38 ∧ ca' 39 = ca0 39 ∧ MgO na M0 (ma' 22) ∧ (cf' 37).toInt = (sc : Int) ∧ FrM ma ma' lo hi ∧ DfI cf cf' ∧ cf' 41 = cf 41 ∧ cf' 55 = cf 55 ∧ (∀ j : Nat, ¬ j = f → ca' 40 j = ca 40 j) ∧ AC cf cf' (fnA k vl ql F dup ty ps bd L) (fun r => (ca' 40 f).toInt = r) := by
  have lm := row_le hps
  have lb := row_le hbd
  have e39 : (ca 39 p0.toNatClampNeg).toNatClampNeg = lo := by rw [cn_of hf, S.2.2.1]; exact cn_of h39
  -- behind the name
  have go : ∀ {cfs : Nat → Int32} {nd z : Int32} {m' : Nat}, SmK cf cfs → (∃ N : Unit → Prop, AC cf cfs (if dup = true then none else some ()) N) → nd.toInt = (lo : Int) → z = na 17 lo → E_mp_checkFunction D tf ta na p0 ma' cf' ca' m' 80 [cfs 33, cfs 37, z, nd] [] [] [] [] ma (upd (upd (upd (upd cfs 37 (cfs 33)) 42 4) 43 nd) 54 0) ca → EnvR k vl c cf' ca' L ∧ cf' 38 = n38 ∧ ca' 39 = ca0 39 ∧ MgO na M0 (ma' 22) ∧ (cf' 37).toInt = (sc : Int) ∧ FrM ma ma' lo hi ∧ DfI cf cf' ∧ cf' 41 = cf 41 ∧ cf' 55 = cf 55 ∧ (∀ j : Nat, ¬ j = f → ca' 40 j = ca 40 j) ∧ AC cf cf' (fnA k vl ql F dup ty ps bd L) (fun r => (ca' 40 f).toInt = r) := by
    intro cfs nd z m' sm hdp hnd hz hE
    obtain ⟨N, hdp⟩ := hdp
    have q0 : ∀ j : Nat, ¬ j = 37 → ¬ j = 42 → ¬ j = 43 → ¬ j = 54 → (upd (upd (upd (upd cfs 37 (cfs 33)) 42 4) 43 nd) 54 0) j = cfs j := fun j a1 a2 a3 a4 => by rw [pk_un a4, pk_un a3, pk_un a2, pk_un a1]
    have q42 : (upd (upd (upd (upd cfs 37 (cfs 33)) 42 4) 43 nd) 54 0) 42 = 4 := by rw [pk_un (by decide), pk_un (by decide), pk_us]
    have q43 : (upd (upd (upd (upd cfs 37 (cfs 33)) 42 4) 43 nd) 54 0) 43 = nd := by rw [pk_un (by decide), pk_us]
    have q37 : (upd (upd (upd (upd cfs 37 (cfs 33)) 42 4) 43 nd) 54 0) 37 = cfs 33 := by rw [pk_un (by decide), pk_un (by decide), pk_un (by decide), pk_us]
    have s33 : cfs 33 = cf 33 := sm 33 (by decide) (by decide)
    have S0 : CkS k vl c na ca0 n38 M0 L L.length (upd (upd (upd (upd cfs 37 (cfs 33)) 42 4) 43 nd) 54 0) ca ma := ⟨S.1.sm ((q0 33 (by decide) (by decide) (by decide) (by decide)).trans s33), ((q0 38 (by decide) (by decide) (by decide) (by decide)).trans (sm 38 (by decide) (by decide))).trans S.2.1, S.2.2.1, S.2.2.2.1, by rw [q37, s33]; exact S.1.1, Nat.le_refl _, S.2.2.2.2.2.2⟩
    obtain ⟨m1, y6, ma1, cf1, ca1, g1, g2, X, a1, a2, a3, a4, a5, a6⟩ := fn_80 (sc := L.length) (mid := m) H hnd ps m' z (lo + 1) m ma _ ca L hE (by rw [hz]; exact hps) (by omega) S0 (by omega) (by rw [q42]; exact ⟨by decide, by have : (4 : Int32).toInt = 4 := rfl; omega⟩) (by rw [q43]; omega)
    have d43 : cf1 43 = nd := (a4 43 (by decide) (by decide) (by decide) (by decide) (by decide) (by decide) (by decide) (by decide)).trans q43
    have d44 : cf1 44 = cf 44 := (a4 44 (by decide) (by decide) (by decide) (by decide) (by decide) (by decide) (by decide) (by decide)).trans ((q0 44 (by decide) (by decide) (by decide) (by decide)).trans (sm 44 (by decide) (by decide)))
    have d45 : cf1 45 = cf 45 := (a4 45 (by decide) (by decide) (by decide) (by decide) (by decide) (by decide) (by decide) (by decide)).trans ((q0 45 (by decide) (by decide) (by decide) (by decide)).trans (sm 45 (by decide) (by decide)))
    have hC : CtS na M0 (ty : Int) false false (m + 1) cf1 := by
      have mm : M0 lo = ma 22 lo := (S.2.2.2.1 lo (by omega)).symm
      unfold CtS
      rw [d43, d44, d45, cn_of hnd, mm]
      refine ⟨⟨by omega, by omega, ?_⟩, ⟨by omega, by omega, ⟨fun q => absurd q (by decide), fun q => by exfalso; omega⟩⟩, by omega, by omega, ⟨fun q => absurd q (by decide), fun q => by exfalso; omega⟩⟩
      constructor <;> intro q <;> omega
    -- the body is checked
    have body : ∀ {z3 z4 : Int32} {ma8 ca10 : Nat → Nat → Int32} {cf9 : Nat → Int32}, z3 = ma1 18 nd.toNatClampNeg → z4 = na 17 z3.toNatClampNeg → R_mp_statements (RL_mp_checkStatement D) tf ta na z4 ma1 cf1 ca1 ma8 cf9 ca10 → z4 = na 17 m ∧ ∃ Y : Nms, CkS k vl c na ca0 n38 M0 (L ++ X ++ Y) L.length cf9 ca10 ma8 ∧ FrM ma ma8 (lo + 1) hi ∧ ma8 18 lo = ma 18 lo ∧ (∀ j : Nat, ¬ j = 30 → ¬ j = 31 → ¬ j = 33 → ¬ j = 37 → ¬ j = 42 → ¬ j = 43 → ¬ j = 48 → ¬ j = 54 → ¬ j = 57 → ¬ j = 58 → cf9 j = cf j) ∧ (0 ≤ (cf9 42).toInt ∧ (cf9 42).toInt ≤ 5000 * (hi : Int)) ∧ AC cf cf9 (fnA k vl ql F dup ty ps bd L) (fun r => ∃ h : Int, 0 ≤ h ∧ r = (cf9 42).toInt + h ∧ MsR na ca0 M0 (m + 1) hi z4.toInt h ma8) := by
      intro z3 z4 ma8 ca10 cf9 h2 h3 h4
      rw [cn_of hnd, a3 18 lo (by omega)] at h2
      have e3 : z3.toNatClampNeg = m := cn_of (by rw [h2]; exact k18)
      rw [e3] at h3
      obtain ⟨Y, b1, b2, b3, b4, b5, b6⟩ := st_r (d := d) (lp := false) (bk := false) (rt := (ty : Int)) (a := bd) (sc_all H D) (by rw [h3]; exact row_kp _ _ _ _ hbd (fun _ _ _ => rfl) (fun s l h q1 q2 q3 => rps_kp d s l h (-1) q3 (a3.ags (by omega)) (by omega))) hh a1 (by omega) (by omega) hC h4
      refine ⟨h3, Y, b1, (a3.le (Nat.le_refl _) (by omega)).tr (b3.le (by omega) (Nat.le_refl _)), by rw [b3 18 lo (by omega), a3 18 lo (by omega)], fun j j1 j2 j3 j4 j5 j6 j7 j8 j9 j10 => (b4 j j1 j2 j3 j5 j7 j8 j9 j10).trans ((a4 j j1 j2 j3 j5 j7 j8 j9 j10).trans ((q0 j j4 j5 j6 j8).trans (sm j j1 j2))), b5, ?_⟩
      unfold fnA
      have eqn : (if dup = true then none else semPars vl F L.length ps L 0) = (if dup = true then none else some ()).bind fun _ => semPars vl F L.length ps L 0 := by cases dup <;> rfl
      rw [eqn]
      have A1 := (a6 0).e30 (a' := cfs) (b' := cf1) (q0 30 (by decide) (by decide) (by decide) (by decide)).symm rfl
      have A2 := AC.bind hdp (fun _ _ => A1) A1.1
      refine AC.bind A2 (fun p q => ?_) (b6 (L ++ X, 0, 0, [], false) rfl).1
      refine AC.bind (b6 (p.1, p.2, 0, [], false) q.1) (fun s' r => AC.ret ?_) id
      obtain ⟨r1, r2, r3, r4⟩ := r
      obtain ⟨h, y1, y2, y3⟩ := r4 rfl (Int.le_refl _)
      refine ⟨h, y2, ?_, y3⟩
      have y1' : s'.2.2.1 = max 0 h := y1
      have r2' : s'.2.1 = p.2 + ((cf9 42).toInt - (cf1 42).toInt) := r2
      have q2 := q.2
      rw [q42] at q2
      have f4 : (4 : Int32).toInt = 4 := rfl
      omega
    -- what is left
    have fin : ∀ {cfz cf9 : Nat → Int32} {ma8 ca10 : Nat → Nat → Int32} {Y : Nms} {z w : Int32}, CkS k vl c na ca0 n38 M0 (L ++ X ++ Y) L.length cf9 ca10 ma8 → FrM ma ma8 (lo + 1) hi → (∀ j : Nat, ¬ j = 30 → ¬ j = 31 → ¬ j = 33 → ¬ j = 37 → ¬ j = 42 → ¬ j = 43 → ¬ j = 48 → ¬ j = 54 → ¬ j = 57 → ¬ j = 58 → cf9 j = cf j) → (∀ j : Nat, ¬ j = 43 → ¬ j = 59 → cfz j = cf9 j) → cfz 43 = -1 → R_mp_leave (cfs 33) (cfs 37) cfz cf' → ma' = ma8 → ca' = va_up (va_up ca10 40 (upd (ca10 40) p0.toNatClampNeg z)) 56 (upd ((va_up ca10 40 (upd (ca10 40) p0.toNatClampNeg z)) 56) p0.toNatClampNeg w) → (EnvR k vl c cf' ca' L ∧ cf' 38 = n38 ∧ ca' 39 = ca0 39 ∧ MgO na M0 (ma' 22) ∧ (cf' 37).toInt = (sc : Int) ∧ FrM ma ma' lo hi ∧ DfI cf cf' ∧ cf' 41 = cf 41 ∧ cf' 55 = cf 55 ∧ (∀ j : Nat, ¬ j = f → ca' 40 j = ca 40 j)) ∧ ca' 40 f = z ∧ cf' 30 = cf9 30 := by
      intro cfz cf9 ma8 ca10 Y z w b1 b2 b3 hz1 hz2 hlv hma hca
      rcases hlv with e0 | hlv
      · have s37 : cfs 37 = cf 37 := sm 37 (by decide) (by decide)
        have c40 : ca' 40 = upd (ca10 40) f z := by rw [hca, va_up_n (by decide), va_up_s, cn_of hf]
        have co : ∀ i : Nat, ¬ i = 40 → ¬ i = 56 → ca' i = ca10 i := fun i q1 q2 => by rw [hca, va_up_n q2, va_up_n q1]
        have x37 : cf' 37 = cf 37 := by rw [e0, pk_us, s37]
        have x33 : cf' 33 = cf 33 := by rw [e0, pk_un (by decide), pk_us, s33]
        have xo : ∀ j : Nat, ¬ j = 33 → ¬ j = 37 → cf' j = cfz j := fun j q1 q2 => by rw [e0, pk_un q2, pk_un q1]
        have all : ∀ j : Nat, ¬ j = 30 → ¬ j = 31 → ¬ j = 33 → ¬ j = 42 → ¬ j = 48 → ¬ j = 54 → ¬ j = 57 → ¬ j = 58 → ¬ j = 59 → cf' j = cf j := fun j j1 j2 j3 j4 j5 j6 j7 j8 j9 => by
          by_cases q : j = 37
          · rw [q]; exact x37
          · rw [xo j j3 q]
            by_cases q' : j = 43
            · rw [q', hz2, h43]
            · rw [hz1 j q' j9, b3 j j1 j2 j3 q j4 q' j5 j6 j7 j8]
        have E0 : EnvR k vl c cf9 ca' (L ++ X ++ Y) := b1.1.ca rfl (co 34 (by decide) (by decide)) (co 35 (by decide) (by decide)) (co 36 (by decide) (by decide))
        have E := E0.tk (n := L.length) (cf' := cf') (by rw [List.append_assoc, List.length_append]; omega) (by rw [x33]; exact S.1.1)
        rw [List.append_assoc, List.take_left] at E
        refine ⟨⟨E, (all 38 (by decide) (by decide) (by decide) (by decide) (by decide) (by decide) (by decide) (by decide) (by decide)).trans S.2.1, (co 39 (by decide) (by decide)).trans b1.2.2.1, by rw [hma]; exact b1.2.2.2.1, by rw [x37]; exact S.2.2.2.2.1, by rw [hma]; exact b2.le (by omega) (Nat.le_refl _), fun j j1 j2 j3 j4 j5 j6 j7 j8 j9 j10 j11 => all j j1 j2 j3 j5 j6 j7 j9 j10 j11, all 41 (by decide) (by decide) (by decide) (by decide) (by decide) (by decide) (by decide) (by decide) (by decide), all 55 (by decide) (by decide) (by decide) (by decide) (by decide) (by decide) (by decide) (by decide) (by decide), fun j q => by rw [c40, pk_un q, b1.2.2.2.2.2.2, S.2.2.2.2.2.2]⟩, by rw [c40, pk_us], (xo 30 (by decide) (by decide)).trans (hz1 30 (by decide) (by decide))⟩
      · exact hlv.elim
    rcases iv_mp_checkFunction_80 g2 with ⟨m2, (⟨h1, z3, h2, z4, h3, ma8, cf9, ca10, h4, (⟨h5, z45, h6, ca46, h7, ca47, h8, cf49, h9, e0, e1, e2⟩ | ⟨h5, z71, h6, z72, h7, cf74, h8, z85, h9, ca86, h10, ca87, h11, cf89, h12, e0, e1, e2⟩)⟩ | ⟨h1, z113, h2, cf115, h3, z137, h4, (⟨h5, z142, h6, z143, h7, (⟨h8, cf149, ca150, v152, h9, ma177, h10, z178, h11, z180, h12, cf183, ca184, h13, z207, h14, hQ⟩ | ⟨h8, cf211, ca212, v214, h9, ma239, h10, z240, h11, z242, h12, cf245, ca246, h13, z269, h14, hQ⟩)⟩ | ⟨h5, z272, h6, z273, h7, (⟨h8, z277, h9, cf280, ca281, v283, h10, ma308, h11, z309, h12, z311, h13, (⟨h14, z314, h15, cf317, ca318, h16, z341, h17, hQ⟩ | ⟨h14, z342, h15, cf345, ca346, h16, z369, h17, hQ⟩)⟩ | ⟨h8, z371, h9, cf374, ca375, v377, h10, ma402, h11, z403, h12, z405, h13, (⟨h14, z408, h15, cf411, ca412, h16, z435, h17, hQ⟩ | ⟨h14, z436, h15, cf439, ca440, h16, z463, h17, hQ⟩)⟩)⟩)⟩)⟩
    · obtain ⟨z4', Y, b1, b2, b3, b4, b5, base⟩ := body h2 h3 h4
      rw [h7] at h8
      obtain ⟨A, c40, x30⟩ := fin b1 b2 b4 (fun j q1 q2 => by rw [pk_un q2, pk_un q1]) (by rw [pk_un (by decide), pk_us]) (by rw [e1]; exact h9) e0 (by rw [e2]; exact h8)
      have B : Bc cf' := by unfold Bc; rw [x30]; exact h5
      obtain ⟨A1, A2, A3, A4, A5, A6, A7, A8, A9, A10⟩ := A
      refine ⟨A1, A2, A3, A4, A5, A6, A7, A8, A9, A10, AC.of (fun _ => B) (fun u => Or.inl ⟨?_, B⟩)⟩
      rcases opt_c (fnA k vl ql F dup ty ps bd L) with y | ⟨r, y⟩
      · exact y
      · exact absurd (base.y u y).1 h5
    · obtain ⟨z4', Y, b1, b2, b3, b4, b5, base⟩ := body h2 h3 h4
      have u : Uc cf := by
        by_cases q : Uc cf
        · exact q
        · exact absurd h5 (base.1 q)
      rcases opt_c (fnA k vl ql F dup ty ps bd L) with y | ⟨r, y⟩
      · exact absurd h5 (base.n u y)
      · obtain ⟨-, h, y1, y2, y3⟩ := base.y u y
        rw [cn_of hnd, b3] at h6
        have e6 : z71.toNatClampNeg = m := cn_of (by rw [h6]; exact k18)
        rw [e6] at h7
        have up : Ups h (upd cf9 59 0) cf74 := mr_r (hi := hi) y3 (fun p a b q => ⟨D, q⟩) ⟨b1.2.2.1, b1.2.2.2.1, fun _ _ _ _ => rfl⟩ (by rw [pk_us]; decide) (by rw [h7, z4']) h8
        have t59 : (cf74 59).toInt = h := by
          rw [up.2, pk_us]
          have : (0 : Int32).toInt = 0 := rfl
          omega
        have t42 : cf74 42 = cf9 42 := (up.1 42 (by decide)).trans (pk_un (by decide))
        have hb := y3.1
        have z85' := ti_add h9 (show (cf74 42).toInt = (cf9 42).toInt by rw [t42]) t59 (by omega) (by omega)
        rw [h10] at h11
        obtain ⟨A, c40, x30⟩ := fin b1 b2 b4 (fun j q1 q2 => by rw [pk_un q1, up.1 j q2, pk_un q2]) (by rw [pk_us]) (by rw [e1]; exact h12) e0 (by rw [e2]; exact h11)
        have U : Uc cf' := by unfold Uc; rw [x30]; exact h5
        obtain ⟨A1, A2, A3, A4, A5, A6, A7, A8, A9, A10⟩ := A
        exact ⟨A1, A2, A3, A4, A5, A6, A7, A8, A9, A10, AC.of (fun q => absurd u q) (fun _ => Or.inr ⟨r, y, U, by rw [c40, z85', y2]⟩)⟩
    all_goals exact absurd g1 h1
  obtain ⟨m0, h⟩ := h
  rcases iv_mp_checkFunction_0 h with ⟨m', z464, h1, nd, h2, z465, h3, v467, h4, (⟨h5, cf474, h6, z497, h7, hQ⟩ | ⟨h5, v499, h6, (⟨h7, z506, h8, hQ⟩ | ⟨h7, cf508, h8, z531, h9, hQ⟩)⟩)⟩
  · have hnd : nd.toInt = (lo : Int) := by rw [← h2, h1, cn_of hf, S.2.2.1]; exact h39
    rw [cn_of hnd] at h3 h7
    rcases hdup z465 v467 (by rw [h3]; exact k15.1) h4 with ⟨-, q⟩ | ⟨q, -⟩
    · have bb := bad_r h6 (by decide)
      exact go bb.2 ⟨fun _ => True, by rw [q]; exact AC.bad h6 (by decide)⟩ hnd h7 hQ
    · exact absurd h5 q
  · have hnd : nd.toInt = (lo : Int) := by rw [← h2, h1, cn_of hf, S.2.2.1]; exact h39
    rw [cn_of hnd] at h3 h8
    rcases hdup z465 v467 (by rw [h3]; exact k15.1) h4 with ⟨q, -⟩ | ⟨-, q⟩
    · exact absurd q h5
    · have q' := (q cf v499 S.2.1 h6).mp (by rw [h7]; exact hf)
      exact go SmK.rf ⟨fun _ => True, by rw [q']; exact AC.ret trivial⟩ hnd h8 hQ
  · have hnd : nd.toInt = (lo : Int) := by rw [← h2, h1, cn_of hf, S.2.2.1]; exact h39
    rw [cn_of hnd] at h3 h9
    rcases hdup z465 v467 (by rw [h3]; exact k15.1) h4 with ⟨q, -⟩ | ⟨-, q⟩
    · exact absurd q h5
    · have q' : dup = true := by
        cases hd : dup with
        | true => rfl
        | false => exact absurd ((q cf v499 S.2.1 h6).mpr hd) (by rw [← hf]; exact h7)
      exact go (bad_r h8 (by decide)).2 ⟨fun _ => True, by rw [q']; exact AC.bad h8 (by decide)⟩ hnd h9 hQ
end SL
/-! THE REFERENCE's checker: enumerations -/
def OkEn2 (k : Nat → Int) (vl : Nat → Int32) (c : Nat) (na ca0 : Nat → Nat → Int32) (n38 : Int32) (M0 : Nat → Int32) (L : Nms) (sc lo hi : Nat) (x : Option Nms) (ma : Nat → Nat → Int32) (cf : Nat → Int32) (ma' : Nat → Nat → Int32) (cf' : Nat → Int32) (ca' : Nat → Nat → Int32) : Prop := ∃ X : Nms, CkS k vl c na ca0 n38 M0 (L ++ X) sc cf' ca' ma' ∧ (L ++ X).length ≤ hi ∧ FrM ma ma' lo hi ∧ DfS cf cf' ∧ cf' 42 = cf 42 ∧ AC cf cf' x (fun L' => L' = L ++ X)
section SM
variable {tf : Nat → Int32} {ta na ca ca0 ca1 ca' ma ma' ma1 : Nat → Nat → Int32} {vl M0 : Nat → Int32} {k : Nat → Int} {ql : Nat → Int} {c sc lo hi mid t : Nat} {n38 : Int32} {F : Int32 → Option Fnc} {cf cf' cf1 : Nat → Int32} {L : Nms} {p0 p1 v n : Int32} {e a b s : Ast}
theorem se_n : semEns k vl F sc .null L n = some L := by first | rfl | simp [semEns]
theorem se_a : semEns k vl F sc (.add a b) L n = (semEn k vl (lkp L) F a n).bind fun x => (dcl true F sc L (vl (tokV a)) (0, x)).bind fun L' => semEns k vl F sc b L' (x + 1) := by first | rfl | simp [semEns]
theorem dcl_g {tp : Bool} {nm : Int32} {g g' : Ent} (h : dcl tp F sc L nm g = none) : dcl tp F sc L nm g' = none := by
  unfold dcl at h ⊢
  split at h
  · next q => exact if_pos q
  · exact absurd h (by simp)
theorem en_9 (H : TxH tf ta na ca0 k vl ql c n38 M0 F) : ∀ (vs : Ast) (m : Nat) (x2 x3 : Int32) (lo hi : Nat) (ma : Nat → Nat → Int32) (cf : Nat → Int32) (ca : Nat → Nat → Int32) (L : Nms), E_mp_checkEnum tf ta na p0 ma' cf' ca' m 9 [x2, x3] [] [] [] [] ma cf ca → RowS na (RepE k c na ma) vs x3.toInt lo hi → hi ≤ 100000 → CkS k vl c na ca0 n38 M0 L sc cf ca ma → L.length ≤ lo → (cf 43).toInt < 0 → OkEn2 k vl c na ca0 n38 M0 L sc lo hi (semEns k vl F sc vs L x2) ma cf ma' cf' ca' := by
  intro vs
  induction vs with
  | null =>
    intro m x2 x3 lo hi ma cf ca L h hR hh S hL h43
    have hR' : x3.toInt < 0 ∧ lo ≤ hi := hR
    rcases iv_mp_checkEnum_9 h with ⟨m', (⟨h1, e0, e1, e2⟩ | ⟨h1, z5, h2, cf7, h3, z29, h4, (⟨h5, ma32, h6, z33, h7, cf36, ca37, h8, z60, h9, z61, h10, hQ⟩ | ⟨h5, z62, h6, ma65, cf66, v68, h7, (⟨h8, ma83, h9, z84, h10, cf87, ca88, h11, z111, h12, z112, h13, hQ⟩ | ⟨h8, ma113, h9, z114, h10, cf117, ca118, h11, z141, h12, z142, h13, hQ⟩)⟩)⟩)⟩
    · rw [e0, e1, e2, se_n]
      exact ⟨[], by rw [List.append_nil]; exact S, by rw [List.append_nil]; omega, FrM.rf, DfS.rf, rfl, AC.ret (by rw [List.append_nil])⟩
    all_goals (exfalso; omega)
  | add v r ihv ihr =>
    intro m x2 x3 lo hi ma cf ca L h hR hh S hL h43
    obtain ⟨mid, r1, r2, r3, r4⟩ := hR
    obtain ⟨v1, v2, t, v3, v4⟩ := r3
    have hid := fun (_ : True) => v4
    clear v4
    have xi : x3.toNatClampNeg = lo := cn_of r1
    have nxt : ∀ {ma8 ma1 ca1 : Nat → Nat → Int32} {cf7 cf8 cf1 : Nat → Int32} {y z zz z5 : Int32} {m' : Nat} {Y : Option Int32}, SmK cf cf7 → AC cf cf7 (dcl true F sc L (vl t) (0, y)) (fun L' => L' = L ++ [(vl t, (0, y))]) → AC cf7 cf8 Y (fun x => x = y) → D57 cf7 cf8 → FrM ma ma8 (lo + 1) mid → CkS k vl c na ca0 n38 M0 L sc cf8 ca ma8 → ma1 = vu ma8 18 lo y → R_mp_know z5 (4 : Int32) y (-1 : Int32) cf8 ca cf1 ca1 → z5.toInt = (t : Int) → semEn k vl (lkp L) F v x2 = Y → tokV v = t → zz = na 21 lo → z = y + 1 → E_mp_checkEnum tf ta na p0 ma' cf' ca' m' 9 [z, zz] [] [] [] [] ma1 cf1 ca1 → OkEn2 k vl c na ca0 n38 M0 L sc lo hi (semEns k vl F sc (.add v r) L x2) ma cf ma' cf' ca' := by
      intro ma8 ma1 ca1 cf7 cf8 cf1 y z zz z5 m' Y sm d a8 d8 f8 S8 hma hK h5 hY ht hzz hz hE
      obtain ⟨b1, b2, b3, b4⟩ := know_e hK S8.1 h5 v3.2.1 v3.2.2 (by decide) (by omega)
      rw [if_pos (by decide)] at b1
      have hM : MgO na M0 (ma1 22) := fun i q => by rw [hma, vu_p (by omega)]; exact S8.2.2.2.1 i q
      have el : (L ++ [(vl t, ((0 : Int), y))]).length = L.length + 1 := by rw [List.length_append]; rfl
      have S1 : CkS k vl c na ca0 n38 M0 (L ++ [(vl t, (0, y))]) sc cf1 ca1 ma1 := ⟨b1, (b2 38 (by decide)).trans S8.2.1, b3.trans S8.2.2.1, hM, by rw [b2 37 (by decide)]; exact S8.2.2.2.2.1, by rw [el]; have := S8.2.2.2.2.2.1; omega, b4.trans S8.2.2.2.2.2.2⟩
      have f1 : FrM ma ma1 lo mid := fun g i q => by rw [hma, vu_at (by omega)]; exact f8 g i (by omega)
      have dd : DfS cf cf1 := fun j h1 h2 h3 h4 h5 h6 h7 h8 => (b2 j h3).trans ((d8 j h1 h2 h7).trans (sm j h1 h2))
      have e43 : cf1 43 = cf 43 := dd 43 (by decide) (by decide) (by decide) (by decide) (by decide) (by decide) (by decide) (by decide)
      have e42 : cf1 42 = cf 42 := (b2 42 (by decide)).trans ((d8 42 (by decide) (by decide) (by decide)).trans (sm 42 (by decide) (by decide)))
      have e30 : cf1 30 = cf8 30 := b2 30 (by decide)
      obtain ⟨X, g1, g2, g3, g4, g5, g6⟩ := ihr m' z zz mid hi ma1 cf1 ca1 (L ++ [(vl t, (0, y))]) hE (by rw [hzz]; exact row_kp _ _ _ _ r4 (fun _ _ _ => rfl) (fun s l h q1 q2 q3 => rpe_kp q3 (FrM.ag (r := -1) f1 (Or.inr q1)) (by omega))) hh S1 (by rw [el]; omega) (by rw [e43]; exact h43)
      have ea : L ++ ((vl t, ((0 : Int), y)) :: X) = L ++ [(vl t, (0, y))] ++ X := by rw [List.append_assoc]; rfl
      refine ⟨(vl t, (0, y)) :: X, by rw [ea]; exact g1, by rw [ea]; exact g2, (f1.le (Nat.le_refl _) r2.2).tr (g3.le (by omega) (Nat.le_refl _)), dd.tr g4, g5.trans e42, ?_⟩
      have B8 : Bc cf8 → Bc cf' := fun q => g6.1 (by unfold Bc; rw [e30]; exact q)
      have B7 : Bc cf7 → Bc cf' := fun q => B8 (a8.1 q)
      rw [se_a, ht, hY, ea]
      refine AC.of (fun q => B7 (d.1 q)) (fun u => ?_)
      rcases opt_c (dcl true F sc L (vl t) (0, y)) with hd | ⟨L', hd⟩
      · refine Or.inl ⟨?_, B7 (d.n u hd)⟩
        rcases opt_c Y with hy | ⟨x, hy⟩
        · rw [hy]; rfl
        · rw [hy]
          show (dcl true F sc L (vl t) (0, x)).bind _ = none
          rw [dcl_g hd]; rfl
      · obtain ⟨u7, eL⟩ := d.y u hd
        rcases opt_c Y with hy | ⟨x, hy⟩
        · exact Or.inl ⟨by rw [hy]; rfl, B8 (a8.n u7 hy)⟩
        · obtain ⟨u8, ex⟩ := a8.y u7 hy
          have g6' := (g6.e30 (a' := cf8) (b' := cf') e30.symm rfl).2 u8
          rw [hy, ex]
          show ((dcl true F sc L (vl t) (0, y)).bind fun L' => semEns k vl F sc r L' (y + 1)) = none ∧ Bc cf' ∨ ∃ z, ((dcl true F sc L (vl t) (0, y)).bind fun L' => semEns k vl F sc r L' (y + 1)) = some z ∧ Uc cf' ∧ z = L ++ [(vl t, (0, y))] ++ X
          rw [hd, eL]
          show semEns k vl F sc r (L ++ [(vl t, (0, y))]) (y + 1) = none ∧ Bc cf' ∨ ∃ z, semEns k vl F sc r (L ++ [(vl t, (0, y))]) (y + 1) = some z ∧ Uc cf' ∧ z = L ++ [(vl t, (0, y))] ++ X
          rw [hz] at g6'
          rcases opt_c (semEns k vl F sc r (L ++ [(vl t, (0, y))]) (y + 1)) with hs | ⟨w, hs⟩
          · rw [hs] at g6'
            exact Or.inl ⟨hs, g6'⟩
          · rw [hs] at g6'
            exact Or.inr ⟨w, hs, g6'.1, g6'.2⟩
    rcases iv_mp_checkEnum_9 h with ⟨m', (⟨h1, e0, e1, e2⟩ | ⟨h1, z5, h2, cf7, h3, z29, h4, (⟨h5, ma32, h6, z33, h7, cf36, ca37, h8, z60, h9, z61, h10, hQ⟩ | ⟨h5, z62, h6, ma65, cf66, v68, h7, (⟨h8, ma83, h9, z84, h10, cf87, ca88, h11, z111, h12, z112, h13, hQ⟩ | ⟨h8, ma113, h9, z114, h10, cf117, ca118, h11, z141, h12, z142, h13, hQ⟩)⟩)⟩)⟩
    · exfalso; omega
    all_goals
      rw [xi] at h2 h4
      rw [h4] at h5
    all_goals have ht5 : z5.toInt = (t : Int) := by rw [h2]; exact v3.1
    · rw [xi] at h6 h7 h10
      rcases hid trivial with ⟨a1, a2⟩ | ⟨e, a1, a2⟩
      · obtain ⟨n1, n2⟩ := new_r H S ht5 v3.2.1 v3.2.2 true ⟨fun _ => h43, fun _ => rfl⟩ (0, x2) h3
        have S7 : CkS k vl c na ca0 n38 M0 L sc cf7 ca ma := S.sm (n1 33 (by decide) (by decide)) (n1 37 (by decide) (by decide)) (n1 38 (by decide) (by decide)) S.2.2.2.1
        exact nxt (Y := some x2) n1 n2 (AC.ret rfl) (fun _ _ _ _ => rfl) FrM.rf S7 h6 h8 (by rw [h7]; exact v3.1) (by rw [a1]; rfl) (by rw [a1]; rfl) h10 h9 hQ
      · exfalso; obtain ⟨j, j1, -⟩ := a2.2.2; omega
    · rw [xi] at h6 h9 h10 h13
      rcases hid trivial with ⟨a1, a2⟩ | ⟨e, a1, a2⟩
      · exact absurd a2 h5
      · obtain ⟨n1, n2⟩ := new_r H S ht5 v3.2.1 v3.2.2 true ⟨fun _ => h43, fun _ => rfl⟩ (0, x2) h3
        have S7 : CkS k vl c na ca0 n38 M0 L sc cf7 ca ma := S.sm (n1 33 (by decide) (by decide)) (n1 37 (by decide) (by decide)) (n1 38 (by decide) (by decide)) S.2.2.2.1
        obtain ⟨o1, o2, o3, o4, o5⟩ := kn_s (hi := mid) H S7 (by omega) (by rw [h6]; exact a2) h7
        refine nxt (Y := ((att k vl (lkp L) F e [] 0).bind aKon).bind fun a => some a.2.2.1) n1 n2 ?_ o1 o2 o4 h9 h11 (by rw [h10]; exact v3.1) (by rw [a1]; rfl) (by rw [a1]; rfl) h13 h12 hQ
        refine AC.bind o5 (fun a q => ?_) id
        exfalso; have := q.1; omega
    · rw [xi] at h6 h9 h10 h13
      rcases hid trivial with ⟨a1, a2⟩ | ⟨e, a1, a2⟩
      · exact absurd a2 h5
      · obtain ⟨n1, n2⟩ := new_r H S ht5 v3.2.1 v3.2.2 true ⟨fun _ => h43, fun _ => rfl⟩ (0, cf66 57) h3
        have S7 : CkS k vl c na ca0 n38 M0 L sc cf7 ca ma := S.sm (n1 33 (by decide) (by decide)) (n1 37 (by decide) (by decide)) (n1 38 (by decide) (by decide)) S.2.2.2.1
        obtain ⟨o1, o2, o3, o4, o5⟩ := kn_s (hi := mid) H S7 (by omega) (by rw [h6]; exact a2) h7
        refine nxt (Y := ((att k vl (lkp L) F e [] 0).bind aKon).bind fun a => some a.2.2.1) n1 n2 ?_ o1 o2 o4 h9 h11 (by rw [h10]; exact v3.1) (by rw [a1]; rfl) (by rw [a1]; rfl) h13 h12 hQ
        exact AC.bind o5 (fun a q => AC.ret q.2.symm) id
  | _ => intro m x2 x3 lo hi ma cf ca L h hR; exact hR.elim
theorem en_r {vs : Ast} (H : TxH tf ta na ca0 k vl ql c n38 M0 F) (hp : p0.toInt = (lo : Int)) (hR : RowS na (RepE k c na ma) vs (na 17 lo).toInt (lo + 1) hi) (hh : hi ≤ 100000) (S : CkS k vl c na ca0 n38 M0 L sc cf ca ma) (hL : L.length ≤ lo) (h43 : (cf 43).toInt < 0) (h : R_mp_checkEnum tf ta na p0 ma cf ca ma' cf' ca') : OkEn2 k vl c na ca0 n38 M0 L sc lo hi (semEns k vl F sc vs L 0) ma cf ma' cf' ca' := by
  obtain ⟨m, h⟩ := h
  obtain ⟨m', z143, h1, hQ⟩ := iv_mp_checkEnum_0 h
  rw [cn_of hp] at h1
  obtain ⟨X, g1, g2, g3, g4, g5, g6⟩ := en_9 H vs m' (0 : Int32) z143 (lo + 1) hi ma cf ca L hQ (by rw [h1]; exact hR) hh S (by omega) h43
  exact ⟨X, g1, g2, g3.le (by omega) (Nat.le_refl _), g4, g5, g6⟩
end SM
/-! THE REFERENCE's checker: a text -/
/-- frames that are not too large -/
def frOk (l : List Int) : Bool := l.all (fun r => decide (r ≤ 8192))
/-- what an item means; the frame of a function is told, not judged -/
def semTi (k : Nat → Int) (vl : Nat → Int32) (ql : Nat → Int) (LX : List FnE) : Ast → Tg → Option (List Int × Tg)
  | .elem (.arg g) (.elem a b), s =>
    if g = 20 then (semEns k vl (fun v => flk v (LX.map fnT)) 0 a s.1 0).bind fun L => some ([], (L, s.2))
    else if g = 21 then (semVars k vl ql (fun v => flk v (LX.map fnT)) true (isChr a) 0 b (s.1, s.2.1, 0, [], false)).bind fun s' => some ([], (s'.1, s'.2.1, s.2.2))
    else if g = 22 then (match a, b with
      | .elem (.arg ty) (.arg t), .elem ps bd => (fnA k vl ql (fun v => flk v (LX.map fnT)) (dupF (vl t) (LX.take s.2.2)) ty ps bd s.1).bind fun r => some ([r], (s.1, s.2.1, s.2.2 + 1))
      | _, _ => none)
    else none
  | _, _ => none
def semTx (k : Nat → Int) (vl : Nat → Int32) (ql : Nat → Int) (LX : List FnE) : Ast → Tg → Option (List Int × Tg)
  | .null, s => some ([], s)
  | .add it r, s => (semTi k vl ql LX it s).bind fun p => (semTx k vl ql LX r p.2).bind fun q => some (p.1 ++ q.1, q.2)
  | _, _ => none
section SN
variable {tf pf sb : Nat → Int32} {ta na ca ca0 ca1 ca' ma ma' ma0 : Nat → Nat → Int32} {vl M0 : Nat → Int32} {k : Nat → Int} {ql : Nat → Int} {c lo hi D sc : Nat} {n38 : Int32} {F : Int32 → Option Fnc} {cf cf' cf1 : Nat → Int32} {L : Nms} {LX : List FnE} {p0 v : Int32} {a b s : Ast} {tp ch : Bool}
theorem si_20 {z : Tg} : semItem k vl ql LX (sNd 20 a b) z = (semEns k vl (fun v => flk v (LX.map fnT)) 0 a z.1 0).bind fun L => some (L, z.2) := by first | rfl | simp [semItem, sNd]
theorem si_21 {z : Tg} : semItem k vl ql LX (sNd 21 a b) z = (semVars k vl ql (fun v => flk v (LX.map fnT)) true (isChr a) 0 b (z.1, z.2.1, 0, [], false)).bind fun s' => some (s'.1, s'.2.1, z.2.2) := by first | rfl | simp [semItem, sNd]
theorem si_22 {z : Tg} {ty t : Nat} {ps bd : Ast} : semItem k vl ql LX (sNd 22 (.elem (.arg ty) (.arg t)) (.elem ps bd)) z = semFn k vl ql LX ty t ps bd z := by first | rfl | simp [semItem, sNd]
theorem st_20 {z : Tg} : semTi k vl ql LX (sNd 20 a b) z = (semEns k vl (fun v => flk v (LX.map fnT)) 0 a z.1 0).bind fun L => some ([], (L, z.2)) := by first | rfl | simp [semTi, sNd]
theorem st_21 {z : Tg} : semTi k vl ql LX (sNd 21 a b) z = (semVars k vl ql (fun v => flk v (LX.map fnT)) true (isChr a) 0 b (z.1, z.2.1, 0, [], false)).bind fun s' => some ([], (s'.1, s'.2.1, z.2.2)) := by first | rfl | simp [semTi, sNd]
theorem st_22 {z : Tg} {ty t : Nat} {ps bd : Ast} : semTi k vl ql LX (sNd 22 (.elem (.arg ty) (.arg t)) (.elem ps bd)) z = (fnA k vl ql (fun v => flk v (LX.map fnT)) (dupF (vl t) (LX.take z.2.2)) ty ps bd z.1).bind fun r => some ([r], (z.1, z.2.1, z.2.2 + 1)) := by first | rfl | simp [semTi, sNd]
theorem tx_n {z : Tg} : semTx k vl ql LX .null z = some ([], z) := by first | rfl | simp [semTx]
theorem tx_a {z : Tg} : semTx k vl ql LX (.add a b) z = (semTi k vl ql LX a z).bind fun p => (semTx k vl ql LX b p.2).bind fun q => some (p.1 ++ q.1, q.2) := by first | rfl | simp [semTx]
theorem is_n {z : Tg} : semItems k vl ql LX .null z = some z := by first | rfl | simp [semItems]
theorem is_a {z : Tg} : semItems k vl ql LX (.add a b) z = (semItem k vl ql LX a z).bind fun z' => semItems k vl ql LX b z' := by first | rfl | simp [semItems]
/-- an item with its frame judged -/
theorem ti_it {z : Tg} (hl : lo < hi) (h : RepI k c na ma s lo hi) : semItem k vl ql LX s z = (semTi k vl ql LX s z).bind fun p => if frOk p.1 = true then some p.2 else none := by
  rcases h with ⟨vs, h, -⟩ | ⟨n, vs, h, -⟩ | ⟨d, n, t, m, ps, b, h, -⟩
  · rw [h, si_20, st_20]
    rcases opt_c (semEns k vl (fun v => flk v (LX.map fnT)) 0 vs z.1 0) with y | ⟨L, y⟩
    · rw [y]; rfl
    · rw [y]; rfl
  · rw [h, si_21, st_21]
    rcases opt_c (semVars k vl ql (fun v => flk v (LX.map fnT)) true (isChr (.arg n)) 0 vs (z.1, z.2.1, 0, [], false)) with y | ⟨L, y⟩
    · rw [y]; rfl
    · rw [y]; rfl
  · rw [h, si_22, st_22]
    unfold semFn fnA
    rcases opt_c (if dupF (vl t) (LX.take z.2.2) = true then none else semPars vl (fun v => flk v (LX.map fnT)) z.1.length ps z.1 0) with y | ⟨p, y⟩
    · rw [y]; rfl
    · rw [y]
      show ((sem k vl ql (fun v => flk v (LX.map fnT)) (n : Int) b z.1.length false false (p.1, p.2, 0, [], false)).bind _) = (((sem k vl ql (fun v => flk v (LX.map fnT)) (n : Int) b z.1.length false false (p.1, p.2, 0, [], false)).bind _).bind _).bind _
      rcases opt_c (sem k vl ql (fun v => flk v (LX.map fnT)) (n : Int) b z.1.length false false (p.1, p.2, 0, [], false)) with w | ⟨q, w⟩
      · rw [w]; rfl
      · rw [w]
        show (if 4 + q.2.1 + q.2.2.1 ≤ 8192 then some (z.1, z.2.1, z.2.2 + 1) else none) = (if frOk [4 + q.2.1 + q.2.2.1] = true then some (z.1, z.2.1, z.2.2 + 1) else none)
        have e : frOk [4 + q.2.1 + q.2.2.1] = decide (4 + q.2.1 + q.2.2.1 ≤ 8192) := by simp [frOk]
        rw [e]
        by_cases g : 4 + q.2.1 + q.2.2.1 ≤ 8192
        · rw [if_pos g, if_pos (decide_eq_true g)]
        · rw [if_neg g, if_neg (by simp [g])]
theorem fr_app {x y : List Int} : frOk (x ++ y) = (frOk x && frOk y) := by unfold frOk; rw [List.all_append]
theorem tx_its : ∀ (tree : Ast) (z : Tg) (n : Int) (lo hi : Nat), RowS na (RepI k c na ma) tree n lo hi → semItems k vl ql LX tree z = (semTx k vl ql LX tree z).bind fun p => if frOk p.1 = true then some p.2 else none := by
  intro tree
  induction tree with
  | null => intro z n lo hi _; rw [is_n, tx_n]; rfl
  | add it r ihi ihr =>
    intro z n lo hi h
    obtain ⟨mid, -, h2, h3, h4⟩ := h
    rw [is_a, tx_a, ti_it h2.1 h3]
    rcases opt_c (semTi k vl ql LX it z) with y | ⟨p, y⟩
    · rw [y]; rfl
    · rw [y]
      show ((if frOk p.1 = true then some p.2 else none).bind fun z' => semItems k vl ql LX r z') = ((semTx k vl ql LX r p.2).bind fun q => some (p.1 ++ q.1, q.2)).bind _
      cases hf : frOk p.1 with
      | true =>
        rw [if_pos rfl]
        show semItems k vl ql LX r p.2 = _
        rw [ihr p.2 _ mid hi h4]
        rcases opt_c (semTx k vl ql LX r p.2) with w | ⟨q, w⟩
        · rw [w]; rfl
        · rw [w]
          show (if frOk q.1 = true then some q.2 else none) = (if frOk (p.1 ++ q.1) = true then some q.2 else none)
          rw [fr_app, hf, Bool.true_and]
      | false =>
        rw [if_neg (by decide)]
        rcases opt_c (semTx k vl ql LX r p.2) with w | ⟨q, w⟩
        · rw [w]; rfl
        · rw [w]
          show none = (if frOk (p.1 ++ q.1) = true then some q.2 else none)
          rw [fr_app, hf, Bool.false_and, if_neg (by decide)]
  | _ => intro z n lo hi h; exact h.elim
/-- words of variables -/
theorem vw_1 {z z' : Sg} {w : Ast} (h : RepV k c na ma w lo hi) (e : semVar k vl ql F tp ch sc w z = some z') : z.2.1 ≤ z'.2.1 ∧ z'.2.1 ≤ z.2.1 + 4096 := by
  have ar : ∀ {t : Nat} {n : Int} {x : Option Nms}, (x.bind fun L => some (L, z.2.1 + wds ch n, z.2.2)) = some z' → (1 ≤ n ∧ n ≤ 4096) → z.2.1 ≤ z'.2.1 ∧ z'.2.1 ≤ z.2.1 + 4096 := by
    intro t n x q hn
    rcases opt_c x with y | ⟨L, y⟩
    · rw [y] at q; exact absurd q (by simp)
    · rw [y] at q
      have q' : some (L, z.2.1 + wds ch n, z.2.2) = some z' := q
      injection q' with q'
      rw [← q']
      show z.2.1 ≤ z.2.1 + wds ch n ∧ z.2.1 + wds ch n ≤ z.2.1 + 4096
      cases ch with
      | false => rw [wds_f]; omega
      | true => rw [wds_t]; omega
  have sz : ∀ {e : Ast} {n : Int}, semSz k vl (lkp z.1) F e = some n → 1 ≤ n ∧ n ≤ 4096 := by
    intro e n q
    unfold semSz at q
    rcases opt_c ((att k vl (lkp z.1) F e [] 0).bind aKon) with y | ⟨a, y⟩
    · rw [y] at q; exact absurd q (by simp)
    · rw [y] at q
      have q' : (if 1 ≤ a.2.2.1.toInt ∧ a.2.2.1.toInt ≤ 4096 then some a.2.2.1.toInt else none) = some n := q
      by_cases g : 1 ≤ a.2.2.1.toInt ∧ a.2.2.1.toInt ≤ 4096
      · rw [if_pos g] at q'
        injection q' with q'
        omega
      · rw [if_neg g] at q'
        exact absurd q' (by simp)
  have one : ∀ {x : Option Nms} {g : Int}, (x.bind fun L => some (L, z.2.1 + 1, g, z.2.2.2)) = some z' → z.2.1 ≤ z'.2.1 ∧ z'.2.1 ≤ z.2.1 + 4096 := by
    intro x g q
    rcases opt_c x with y | ⟨L, y⟩
    · rw [y] at q; exact absurd q (by simp)
    · rw [y] at q
      have q' : some (L, z.2.1 + 1, g, z.2.2.2) = some z' := q
      injection q' with q'
      rw [← q']
      show z.2.1 ≤ z.2.1 + 1 ∧ z.2.1 + 1 ≤ z.2.1 + 4096
      omega
  obtain ⟨-, -, t, -, h⟩ := h
  have arr : ∀ {x : Option Nms} {y : Option Int}, (∀ n : Int, y = some n → 1 ≤ n ∧ n ≤ 4096) → (x.bind fun L => y.bind fun n => some (L, z.2.1 + wds ch n, z.2.2)) = some z' → z.2.1 ≤ z'.2.1 ∧ z'.2.1 ≤ z.2.1 + 4096 := by
    intro x y hy q
    rcases opt_c y with g | ⟨n, g⟩
    · rw [g] at q
      rcases opt_c x with w | ⟨L, w⟩
      · rw [w] at q; exact absurd q (by simp)
      · rw [w] at q; exact absurd q (by simp)
    · rw [g] at q
      exact ar (t := 0) (n := n) (x := x) q (hy n g)
  rcases h with ⟨a1, -⟩ | ⟨e', a1, -⟩ | ⟨e', a1, -⟩ | ⟨e', l, m, a1, -⟩ | ⟨e', u, a1, -⟩
  · rw [a1, sv_s] at e
    exact one (g := z.2.2.1) e
  · rw [a1, sv_i] at e
    rcases opt_c ((att k vl (lkp z.1) F e' [] 0).bind (if tp = true then aKon else aNum)) with y | ⟨a, y⟩
    · rw [y] at e; exact absurd e (by simp)
    · rw [y] at e
      exact one e
  · rw [a1, sv_r] at e
    exact arr (fun n q => sz (e := e') q) e
  · rw [a1, sv_l] at e
    refine arr (fun n q => ?_) e
    have q' : ((semSz k vl (lkp z.1) F e').bind fun n => (semKs k vl (lkp z.1) F l).bind fun m => if m ≤ n then some n else none) = some n := q
    rcases opt_c (semSz k vl (lkp z.1) F e') with y | ⟨x, y⟩
    · rw [y] at q'; exact absurd q' (by simp)
    · rw [y] at q'
      have q2 : ((semKs k vl (lkp z.1) F l).bind fun m => if m ≤ x then some x else none) = some n := q'
      rcases opt_c (semKs k vl (lkp z.1) F l) with w | ⟨j, w⟩
      · rw [w] at q2; exact absurd q2 (by simp)
      · rw [w] at q2
        have q3 : (if j ≤ x then some x else none) = some n := q2
        split at q3
        · injection q3 with q3
          rw [← q3]; exact sz y
        · exact absurd q3 (by simp)
  · rw [a1, sv_t] at e
    refine arr (fun n q => ?_) e
    have q' : ((semSz k vl (lkp z.1) F e').bind fun n => if ch = true ∧ ql u < n then some n else none) = some n := q
    rcases opt_c (semSz k vl (lkp z.1) F e') with y | ⟨x, y⟩
    · rw [y] at q'; exact absurd q' (by simp)
    · rw [y] at q'
      have q3 : (if ch = true ∧ ql u < x then some x else none) = some n := q'
      split at q3
      · injection q3 with q3
        rw [← q3]; exact sz y
      · exact absurd q3 (by simp)
theorem vw_b : ∀ (vs : Ast) (n : Int) (lo hi : Nat) (z z' : Sg), RowS na (RepV k c na ma) vs n lo hi → semVars k vl ql F tp ch sc vs z = some z' → z.2.1 ≤ z'.2.1 ∧ z'.2.1 ≤ z.2.1 + 4096 * ((hi : Int) - (lo : Int)) := by
  intro vs
  induction vs with
  | null =>
    intro n lo hi z z' h e
    have h' : n < 0 ∧ lo ≤ hi := h
    have e' : some z = some z' := e
    injection e' with e'
    rw [e']
    omega
  | add w r ihw ihr =>
    intro n lo hi z z' h e
    obtain ⟨mid, -, h2, h3, h4⟩ := h
    have e' : (semVar k vl ql F tp ch sc w z).bind (semVars k vl ql F tp ch sc r) = some z' := e
    rcases opt_c (semVar k vl ql F tp ch sc w z) with y | ⟨z1, y⟩
    · rw [y] at e'; exact absurd e' (by simp)
    · rw [y] at e'
      have q1 := vw_1 h3 y
      have q2 := ihr _ mid hi z1 z' h4 e'
      omega
  | _ => intro n lo hi z z' h; exact h.elim
theorem TxH.st (H : TxH tf ta na ca0 k vl ql c n38 M0 F) (hc : ca 39 = ca0 39) : TxH tf ta na ca k vl ql c n38 M0 F := ⟨H.1, H.2.1, H.2.2.1, H.2.2.2.1.st hc MgO.rf, H.2.2.2.2.1.st hc, H.2.2.2.2.2⟩
theorem row_kp2 {na' : Nat → Nat → Int32} {R R' : Ast → Nat → Nat → Prop} (e : Ast) (n : Int) (lo hi : Nat) : RowS na R e n lo hi → (∀ i : Nat, lo ≤ i → i < hi → na' 21 i = na 21 i) → (∀ (s : Ast) (l h : Nat), lo ≤ l → l < h → h ≤ hi → R s l h → R' s l h) → RowS na' R' e n lo hi := by
  fun_induction RowS na R e n lo hi
  all_goals intro h h1 h2
  case case1 => exact h
  case case2 =>
    rename_i s r n lo hi ih
    obtain ⟨mid, a1, a2, a3, a4⟩ := h
    refine ⟨mid, a1, a2, h2 s lo mid (Nat.le_refl _) a2.1 a2.2 a3, ?_⟩
    rw [h1 lo (Nat.le_refl _) (by omega)]
    exact ih mid a4 (fun i q1 q2 => h1 i (by omega) q2) (fun s l h q1 q0 q2 q3 => h2 s l h (by omega) q0 q2 q3)
  case case3 => exact h.elim
/-- the functions of a row of items, from number f on -/
def FnO (na ca : Nat → Nat → Int32) : Ast → Int → Nat → Prop
  | .add _ r, n, f => ∃ i : Nat, n = (i : Int) ∧ (((na 14 i).toInt = 41 ∧ (ca 39 f).toInt = (i : Int) ∧ FnO na ca r (na 21 i).toInt (f + 1)) ∨ (¬ (na 14 i).toInt = 41 ∧ FnO na ca r (na 21 i).toInt f))
  | _, _, _ => True
theorem fns_a : fnsO vl (.add a b) = fnO vl a ++ fnsO vl b := by first | rfl | simp [fnsO]
theorem fno_k (h : RepI k c na ma s lo hi) : ((na 14 lo).toInt = 41 ∧ (fnO vl s).length = 1) ∨ (¬ (na 14 lo).toInt = 41 ∧ fnO vl s = []) := by
  rcases h with ⟨vs, h, q, -⟩ | ⟨n, vs, h, q, -⟩ | ⟨d, n, t, m, ps, b, h, q, -⟩
  · exact Or.inr ⟨by omega, by rw [h]; rfl⟩
  · exact Or.inr ⟨by omega, by rw [h]; rfl⟩
  · exact Or.inl ⟨q, by rw [h]; rfl⟩
theorem fns_le : ∀ (tree : Ast) (n : Int) (lo hi : Nat), RowS na (RepI k c na ma) tree n lo hi → lo + (fnsO vl tree).length ≤ hi := by
  intro tree
  induction tree with
  | null => intro n lo hi h; exact h.2
  | add it r ihi ihr =>
    intro n lo hi h
    obtain ⟨mid, -, h2, h3, h4⟩ := h
    have := ihr _ mid hi h4
    rw [fns_a, List.length_append]
    rcases fno_k (vl := vl) h3 with ⟨-, q⟩ | ⟨-, q⟩
    · omega
    · rw [q]
      show lo + (0 + (fnsO vl r).length) ≤ hi
      omega
  | _ => intro n lo hi h; exact h.elim
/-- the functions are counted -/
theorem ct_10 : ∀ (tree : Ast) (m : Nat) (x : Int32) (lo hi f : Nat) (cf : Nat → Int32) (ca : Nat → Nat → Int32) (ma : Nat → Nat → Int32), E_mp_checkText sb D tf ta pf na ma' cf' ca' ma0 m 10 [x] [] [] [] [] ma cf ca → RowS na (RepI k c na ma0) tree x.toInt lo hi → hi ≤ 100000 → (cf 38).toInt = (f : Int) → f ≤ lo → ∃ (m' : Nat) (cfT : Nat → Int32) (caT : Nat → Nat → Int32), E_mp_checkText sb D tf ta pf na ma' cf' ca' ma0 m' 102 [(0 : Int32), pf 24] [] [] [] [] ma0 (upd (upd (upd (upd (upd (upd (upd (upd cfT 33 0) 37 0) 41 0) 43 (-1)) 44 0) 45 0) 48 0) 55 0) caT ∧ FnO na caT tree x.toInt f ∧ (∀ j : Nat, j < f → caT 39 j = ca 39 j) ∧ (cfT 38).toInt = ((f + (fnsO vl tree).length : Nat) : Int) ∧ (∀ j : Nat, ¬ j = 38 → cfT j = cf j) ∧ (∀ i : Nat, ¬ i = 39 → caT i = ca i) := by
  intro tree
  induction tree with
  | null =>
    intro m x lo hi f cf ca ma h hR hh h38 hf
    have hR' : x.toInt < 0 ∧ lo ≤ hi := hR
    rcases iv_mp_checkText_10 h with ⟨m', (⟨h1, hQ⟩ | ⟨h1, z244, h2, (⟨h3, z247, h4, hQ⟩ | ⟨h3, ca248, h4, z250, h5, z251, h6, hQ⟩)⟩)⟩
    · exact ⟨m', cf, ca, hQ, trivial, fun _ _ => rfl, by rw [h38]; rfl, fun _ _ => rfl, fun _ _ => rfl⟩
    all_goals (exfalso; omega)
  | add it r ihi ihr =>
    intro m x lo hi f cf ca ma h hR hh h38 hf
    obtain ⟨mid, r1, r2, r3, r4⟩ := hR
    have xi : x.toNatClampNeg = lo := cn_of r1
    rcases iv_mp_checkText_10 h with ⟨m', (⟨h1, hQ⟩ | ⟨h1, z244, h2, (⟨h3, z247, h4, hQ⟩ | ⟨h3, ca248, h4, z250, h5, z251, h6, hQ⟩)⟩)⟩
    · exfalso; omega
    · rw [xi] at h2 h4
      rw [h2] at h3
      rcases fno_k (vl := vl) r3 with ⟨q, -⟩ | ⟨q, q2⟩
      · exact absurd q h3
      · obtain ⟨m2, cfT, caT, g1, g2, g3, g4, g5, g6⟩ := ihr m' z247 mid hi f cf ca ma0 hQ (by rw [h4]; exact r4) hh h38 (by omega)
        rw [h4] at g2
        exact ⟨m2, cfT, caT, g1, ⟨lo, r1, Or.inr ⟨q, g2⟩⟩, g3, by rw [fns_a, q2]; exact g4, g5, g6⟩
    · rw [xi] at h2 h6
      rw [h2] at h3
      rcases fno_k (vl := vl) r3 with ⟨q, q2⟩ | ⟨q, -⟩
      · have z1 := ti_add h5 h38 (show (1 : Int32).toInt = 1 from rfl) (by omega) (by omega)
        rw [cn_of h38] at h4
        have h4' : ca248 = vu ca 39 f x := h4
        obtain ⟨m2, cfT, caT, g1, g2, g3, g4, g5, g6⟩ := ihr m' z251 mid hi (f + 1) (upd cf 38 z250) ca248 ma0 hQ (by rw [h6]; exact r4) hh (by rw [pk_us]; omega) (by omega)
        rw [h6] at g2
        refine ⟨m2, cfT, caT, g1, ⟨lo, r1, Or.inl ⟨q, ?_, g2⟩⟩, fun j hj => ?_, ?_, fun j hj => (g5 j hj).trans (pk_un hj), fun i hi => ?_⟩
        · rw [g3 f (Nat.lt_succ_self f), h4', vu_s]; exact r1
        · rw [g3 j (by omega), h4', vu_at (by omega)]
        · rw [g4, fns_a, List.length_append, q2]
          congr 1
          omega
        · rw [g6 i hi, h4']
          exact va_up_n hi
      · exact absurd h3 q
  | _ => intro m x lo hi f cf ca ma h hR; exact hR.elim
end SN
/-! THE REFERENCE's checker: a text's items, its frames, whole -/
/-- between items -/
def TSt (k : Nat → Int) (vl : Nat → Int32) (c : Nat) (na ca0 : Nat → Nat → Int32) (n38 : Int32) (M0 : Nat → Int32) (L : Nms) (cf : Nat → Int32) (ca ma : Nat → Nat → Int32) : Prop := EnvR k vl c cf ca L ∧ cf 38 = n38 ∧ ca 39 = ca0 39 ∧ MgO na M0 (ma 22) ∧ (cf 37).toInt = ((0 : Nat) : Int) ∧ cf 43 = -1 ∧ (cf 44).toInt = 0 ∧ (cf 45).toInt = 0
section SO
variable {tf pf sb : Nat → Int32} {ta na ca ca0 ca1 ca' ma ma' ma0 ma1 : Nat → Nat → Int32} {vl M0 : Nat → Int32} {k : Nat → Int} {ql : Nat → Int} {c lo hi D nF : Nat} {n38 : Int32} {cf cf' cf1 : Nat → Int32} {L : Nms} {LX : List FnE} {p0 v : Int32} {a b s : Ast}
theorem TSt.st (h : TSt k vl c na ca0 n38 M0 L cf ca ma) : CkS k vl c na ca n38 M0 L 0 cf ca ma := ⟨h.1, h.2.1, rfl, h.2.2.2.1, h.2.2.2.2.1, Nat.zero_le _, rfl⟩
/-- what is known of functions of one name -/
def DpR (tf : Nat → Int32) (ta na ca0 : Nat → Nat → Int32) (vl : Nat → Int32) (c : Nat) (k : Nat → Int) (n38 : Int32) (LX : List FnE) (nF : Nat) : Prop := ∀ (f i t : Nat) (ca : Nat → Nat → Int32) (z own : Int32), ca 39 = ca0 39 → (ca0 39 f).toInt = (i : Int) → (na 14 i).toInt = 41 → (na 15 i).toInt = (t : Int) → t < c → k t = 16 → f < nF → z.toInt = (t : Int) → R_mp_findOwn tf ta z own → (0 ≤ own.toInt ∧ dupF (vl t) (LX.take (10 + f)) = true) ∨ (¬ 0 ≤ own.toInt ∧ ∀ (g : Nat → Int32) (fn : Int32), g 38 = n38 → R_mp_findFunction2 ta na g ca z fn → (fn.toInt = (f : Int) ↔ dupF (vl t) (LX.take (10 + f)) = false))
theorem tx_102 (H : TxH tf ta na ca0 k vl ql c n38 M0 (fun v => flk v (LX.map fnT))) (hDp : DpR tf ta na ca0 vl c k n38 LX nF) : ∀ (tree : Ast) (m : Nat) (x1 x2 : Int32) (lo hi f : Nat) (ma : Nat → Nat → Int32) (cf : Nat → Int32) (ca : Nat → Nat → Int32) (L : Nms), E_mp_checkText sb D tf ta pf na ma' cf' ca' ma0 m 102 [x1, x2] [] [] [] [] ma cf ca → RowS na (RepI k c na ma) tree x2.toInt lo hi → hi ≤ 100000 → TSt k vl c na ca0 n38 M0 L cf ca ma → L.length ≤ lo → x1.toInt = (f : Int) → f ≤ lo → FnO na ca0 tree x2.toInt f → f + (fnsO vl tree).length ≤ nF →
    ∃ (m' : Nat) (y1 y2 : Int32) (ma2 : Nat → Nat → Int32) (cf2 : Nat → Int32) (ca2 : Nat → Nat → Int32) (L' : Nms), y2.toInt < 0 ∧ E_mp_checkText sb D tf ta pf na ma' cf' ca' ma0 m' 102 [y1, y2] [] [] [] [] ma2 cf2 ca2 ∧ TSt k vl c na ca0 n38 M0 L' cf2 ca2 ma2 ∧ (∀ j : Nat, j < f → ca2 40 j = ca 40 j) ∧ (Bc cf → Bc cf2) ∧ ∀ z : Tg, z.1 = L → z.2.1 = (cf 41).toInt → z.2.2 = 10 + f → 0 ≤ z.2.1 → z.2.1 ≤ 4096 * (lo : Int) → AC cf cf2 (semTx k vl ql LX tree z) (fun p => p.2.2.1 = (cf2 41).toInt ∧ (∀ (j : Nat) (r : Int), p.1[j]? = some r → (ca2 40 (f + j)).toInt = r) ∧ p.1.length = (fnsO vl tree).length ∧ p.2.2.2 = 10 + f + (fnsO vl tree).length) := by
  intro tree
  induction tree with
  | null =>
    intro m x1 x2 lo hi f ma cf ca L h hR hh S hL hx1 hf hF hn
    have hR' : x2.toInt < 0 ∧ lo ≤ hi := hR
    refine ⟨m, x1, x2, ma, cf, ca, L, hR'.1, h, S, fun _ _ => rfl, id, fun z z1 z2 z3 z4 z5 => ?_⟩
    rw [tx_n]
    exact AC.ret ⟨z2, fun j r q => absurd q (by simp), rfl, z3⟩
  | add it r ihi ihr =>
    intro m x1 x2 lo hi f ma cf ca L h hR hh S hL hx1 hf hF hn
    obtain ⟨mid, r1, r2, r3, r4⟩ := hR
    have xi : x2.toNatClampNeg = lo := cn_of r1
    obtain ⟨i, i1, i2⟩ := hF
    have ei : i = lo := by omega
    subst ei
    rw [fns_a, List.length_append] at hn
    have nxt : ∀ {ma1 : Nat → Nat → Int32} {cf1 : Nat → Int32} {ca1 : Nat → Nat → Int32} {y1 zz : Int32} {m' f1 : Nat} {L1 : Nms}, FrM ma ma1 i mid → TSt k vl c na ca0 n38 M0 L1 cf1 ca1 ma1 → L1.length ≤ mid → y1.toInt = (f1 : Int) → f1 = f + (fnO vl it).length → f1 ≤ mid → FnO na ca0 r (na 21 i).toInt f1 → (∀ j : Nat, j < f → ca1 40 j = ca 40 j) → (Bc cf → Bc cf1) → (∀ z : Tg, z.1 = L → z.2.1 = (cf 41).toInt → z.2.2 = 10 + f → 0 ≤ z.2.1 → z.2.1 ≤ 4096 * (i : Int) → AC cf cf1 (semTi k vl ql LX it z) (fun p => p.2.1 = L1 ∧ p.2.2.1 = (cf1 41).toInt ∧ (0 ≤ p.2.2.1 ∧ p.2.2.1 ≤ 4096 * (mid : Int)) ∧ p.2.2.2 = 10 + f1 ∧ p.1.length = (fnO vl it).length ∧ ∀ (j : Nat) (r : Int), p.1[j]? = some r → (ca1 40 (f + j)).toInt = r)) → zz = na 21 i → E_mp_checkText sb D tf ta pf na ma' cf' ca' ma0 m' 102 [y1, zz] [] [] [] [] ma1 cf1 ca1 → ∃ (m' : Nat) (y1 y2 : Int32) (ma2 : Nat → Nat → Int32) (cf2 : Nat → Int32) (ca2 : Nat → Nat → Int32) (L' : Nms), y2.toInt < 0 ∧ E_mp_checkText sb D tf ta pf na ma' cf' ca' ma0 m' 102 [y1, y2] [] [] [] [] ma2 cf2 ca2 ∧ TSt k vl c na ca0 n38 M0 L' cf2 ca2 ma2 ∧ (∀ j : Nat, j < f → ca2 40 j = ca 40 j) ∧ (Bc cf → Bc cf2) ∧ ∀ z : Tg, z.1 = L → z.2.1 = (cf 41).toInt → z.2.2 = 10 + f → 0 ≤ z.2.1 → z.2.1 ≤ 4096 * (i : Int) → AC cf cf2 (semTx k vl ql LX (.add it r) z) (fun p => p.2.2.1 = (cf2 41).toInt ∧ (∀ (j : Nat) (r : Int), p.1[j]? = some r → (ca2 40 (f + j)).toInt = r) ∧ p.1.length = (fnsO vl (.add it r)).length ∧ p.2.2.2 = 10 + f + (fnsO vl (.add it r)).length) := by
      intro ma1 cf1 ca1 y1 zz m' f1 L1 fr T1 l1 hy1 ef1 hf1 hF1 h40 mo A hzz hE
      obtain ⟨m2, w1, w2, ma2, cf2, ca2, L', g1, g2, g3, g4, g5, g6⟩ := ihr m' y1 zz mid hi f1 ma1 cf1 ca1 L1 hE (by rw [hzz]; exact row_kp2 _ _ _ _ r4 (fun _ _ _ => rfl) (fun s l h q1 q0 q2 q3 => rpi_kp q0 q3 (FrM.ag (r := -1) fr (Or.inr q1)) (by omega))) hh T1 l1 hy1 hf1 (by rw [hzz]; exact hF1) (by omega)
      refine ⟨m2, w1, w2, ma2, cf2, ca2, L', g1, g2, g3, fun j hj => (g4 j (by omega)).trans (h40 j hj), fun q => g5 (mo q), fun z z1 z2 z3 z4 z5 => ?_⟩
      rw [tx_a, fns_a, List.length_append]
      refine AC.bind (A z z1 z2 z3 z4 z5) (fun p q => ?_) g5
      obtain ⟨q1, q2, q3, q4, q5, q6⟩ := q
      refine AC.bind (g6 p.2 q1 q2 q4 q3.1 q3.2) (fun y w => AC.ret ?_) id
      obtain ⟨w1, w2, w3, w4⟩ := w
      refine ⟨w1, fun j x hj => ?_, ?_, ?_⟩
      · have hj' : (p.1 ++ y.1)[j]? = some x := hj
        by_cases c1 : j < p.1.length
        · rw [List.getElem?_append_left c1] at hj'
          rw [g4 (f + j) (by omega)]
          exact q6 j x hj'
        · rw [List.getElem?_append_right (by omega)] at hj'
          have y2 := w2 (j - p.1.length) x hj'
          rw [show f1 + (j - p.1.length) = f + j by omega] at y2
          exact y2
      · show (p.1 ++ y.1).length = _
        rw [List.length_append, q5, w3]
      · show y.2.2.2 = _
        rw [w4, ef1]
        omega
    rcases iv_mp_checkText_102 h with ⟨m', (⟨h1, v93, h2, (⟨h3, hQ⟩ | ⟨h3, z100, h4, cf102, h5, hQ⟩)⟩ | ⟨h1, z127, h2, (⟨h3, z130, h4, (⟨h5, ma136, cf137, ca138, h6, z173, h7, z174, h8, hQ⟩ | ⟨h5, ma178, cf179, ca180, h6, z206, h7, hQ⟩)⟩ | ⟨h3, ma210, cf211, ca212, h4, z238, h5, z239, h6, hQ⟩)⟩)⟩
    · exfalso; omega
    · exfalso; omega
    · -- variables
      rw [xi] at h2 h4 h8
      rw [h2] at h3
      rw [h4] at h5
      have t43 : (cf 43).toInt < 0 := by rw [S.2.2.2.2.2.1]; decide
      rcases r3 with ⟨vs, a1, a2, -⟩ | ⟨n, vs, a1, a2, a3, a4, a5⟩ | ⟨d, n, t, m1, ps, b, a1, a2, -⟩
      · exact absurd a2 h5
      · have hch : (ma 22 i).toInt = (if isChr (.arg n) = true then 1 else 0) := by
          rw [a4]
          rcases a3 with w | w
          · rw [w]; rfl
          · rw [w]; rfl
        have q0 : ∀ j : Nat, ¬ j = 42 → ¬ j = 54 → (upd (upd cf 42 0) 54 (cf 55)) j = cf j := fun j q1 q2 => by rw [pk_un q2, pk_un q1]
        have q42 : ((upd (upd cf 42 0) 54 (cf 55)) 42).toInt = 0 := by rw [pk_un (by decide), pk_us]; rfl
        have S0 : CkS k vl c na ca n38 M0 L 0 (upd (upd cf 42 0) 54 (cf 55)) ca ma := S.st.sm (q0 33 (by decide) (by decide)) (q0 37 (by decide) (by decide)) (q0 38 (by decide) (by decide)) S.2.2.2.1
        obtain ⟨X, b1, b2, b3, b4, b5, b6⟩ := dc_r (tp := true) (ch := isChr (.arg n)) (lo := i + 1) (P := i) (H.st S.2.2.1) r1 ⟨fun _ => by decide, fun _ => rfl⟩ a5 (by omega) (by omega) hch S0 (by omega) (by rw [q42]; omega) ⟨fun _ => by rw [q0 43 (by decide) (by decide)]; exact t43, fun _ => rfl⟩ h6
        have all : ∀ j : Nat, ¬ j = 30 → ¬ j = 31 → ¬ j = 33 → ¬ j = 42 → ¬ j = 48 → ¬ j = 54 → ¬ j = 57 → ¬ j = 58 → cf137 j = cf j := fun j j1 j2 j3 j4 j5 j6 j7 j8 => (b4 j j1 j2 j3 j4 j5 j6 j7 j8).trans (q0 j j4 j6)
        have p0 : ∀ j : Nat, ¬ j = 41 → ¬ j = 55 → (upd (upd cf137 41 z173) 55 (cf137 54)) j = cf137 j := fun j q1 q2 => by rw [pk_un q2, pk_un q1]
        have e41 : cf137 41 = cf 41 := all 41 (by decide) (by decide) (by decide) (by decide) (by decide) (by decide) (by decide) (by decide)
        have eo : fnO vl it = [] := by rw [a1]; rfl
        refine nxt (f1 := f) (L1 := L ++ X) (b3.le (by omega) (Nat.le_refl _)) ⟨b1.1.sm (p0 33 (by decide) (by decide)), (p0 38 (by decide) (by decide)).trans b1.2.1, b1.2.2.1.trans S.2.2.1, b1.2.2.2.1, by rw [p0 37 (by decide) (by decide)]; exact b1.2.2.2.2.1, ?_, ?_, ?_⟩ b2 hx1 (by rw [eo]; rfl) (by omega) ?_ (fun j _ => by rw [b1.2.2.2.2.2.2]) (fun q => ?_) (fun z z1 z2 z3 z4 z5 => ?_) h8 hQ
        · rw [p0 43 (by decide) (by decide), all 43 (by decide) (by decide) (by decide) (by decide) (by decide) (by decide) (by decide) (by decide)]; exact S.2.2.2.2.2.1
        · rw [p0 44 (by decide) (by decide), all 44 (by decide) (by decide) (by decide) (by decide) (by decide) (by decide) (by decide) (by decide)]; exact S.2.2.2.2.2.2.1
        · rw [p0 45 (by decide) (by decide), all 45 (by decide) (by decide) (by decide) (by decide) (by decide) (by decide) (by decide) (by decide)]; exact S.2.2.2.2.2.2.2
        · rcases i2 with ⟨w, -⟩ | ⟨-, w⟩
          · exact absurd w h3
          · exact w
        · have w := (b6 (L, 0, 0, [], false) rfl).1
          unfold Bc
          rw [p0 30 (by decide) (by decide)]
          exact w (by unfold Bc; rw [q0 30 (by decide) (by decide)]; exact q)
        · rw [a1, st_21]
          have B := (b6 (z.1, z.2.1, 0, [], false) z1).e30 (a' := cf) (b' := upd (upd cf137 41 z173) 55 (cf137 54)) (q0 30 (by decide) (by decide)).symm (p0 30 (by decide) (by decide))
          refine AC.of B.1 (fun u => ?_)
          rcases opt_c (semVars k vl ql (fun v => flk v (LX.map fnT)) true (isChr (.arg n)) 0 vs (z.1, z.2.1, 0, [], false)) with y | ⟨s', y⟩
          · exact Or.inl ⟨by rw [y]; rfl, B.n u y⟩
          · obtain ⟨u1, w1, w2, w3, -⟩ := B.y u y
            have vb := vw_b vs _ _ _ _ _ a5 y
            have w2' : s'.2.1 = z.2.1 + ((cf137 42).toInt - ((upd (upd cf 42 0) 54 (cf 55)) 42).toInt) := w2
            have vb' : z.2.1 ≤ s'.2.1 ∧ s'.2.1 ≤ z.2.1 + 4096 * ((mid : Int) - ((i + 1 : Nat) : Int)) := vb
            rw [q42] at w2'
            rw [e41] at h7
            have z7 := ti_add h7 rfl rfl (by omega) (by omega)
            refine Or.inr ⟨([], (s'.1, s'.2.1, z.2.2)), by rw [y]; rfl, u1, w1, ?_, ?_, z3, by rw [eo]; rfl, fun j r q => absurd q (by simp)⟩
            · show s'.2.1 = _
              rw [pk_un (by decide), pk_us, z7]
              omega
            · show 0 ≤ s'.2.1 ∧ s'.2.1 ≤ 4096 * (mid : Int)
              omega
      · exact absurd a2 h3
    · -- an enumeration
      rw [xi] at h2 h4 h7
      rw [h2] at h3
      rw [h4] at h5
      have t43 : (cf 43).toInt < 0 := by rw [S.2.2.2.2.2.1]; decide
      rcases r3 with ⟨vs, a1, a2, a3⟩ | ⟨n, vs, a1, a2, -⟩ | ⟨d, n, t, m1, ps, b, a1, a2, -⟩
      · obtain ⟨X, b1, b2, b3, b4, b5, b6⟩ := en_r (H.st S.2.2.1) r1 a3 (by omega) S.st hL t43 h6
        have e41 : cf179 41 = cf 41 := b4 41 (by decide) (by decide) (by decide) (by decide) (by decide) (by decide) (by decide) (by decide)
        have eo : fnO vl it = [] := by rw [a1]; rfl
        refine nxt (f1 := f) (L1 := L ++ X) b3 ⟨b1.1, b1.2.1, b1.2.2.1.trans S.2.2.1, b1.2.2.2.1, b1.2.2.2.2.1, ?_, ?_, ?_⟩ b2 hx1 (by rw [eo]; rfl) (by omega) ?_ (fun j _ => by rw [b1.2.2.2.2.2.2]) b6.1 (fun z z1 z2 z3 z4 z5 => ?_) h7 hQ
        · rw [b4 43 (by decide) (by decide) (by decide) (by decide) (by decide) (by decide) (by decide) (by decide)]; exact S.2.2.2.2.2.1
        · rw [b4 44 (by decide) (by decide) (by decide) (by decide) (by decide) (by decide) (by decide) (by decide)]; exact S.2.2.2.2.2.2.1
        · rw [b4 45 (by decide) (by decide) (by decide) (by decide) (by decide) (by decide) (by decide) (by decide)]; exact S.2.2.2.2.2.2.2
        · rcases i2 with ⟨w, -⟩ | ⟨-, w⟩
          · exact absurd w h3
          · exact w
        · rw [a1, st_20, z1]
          refine AC.bind b6 (fun L' q => AC.ret ⟨q, by rw [e41]; exact z2, ?_, z3, by rw [eo]; rfl, fun j r q => absurd q (by simp)⟩) id
          show 0 ≤ z.2.1 ∧ z.2.1 ≤ 4096 * (mid : Int)
          omega
      · exfalso; omega
      · exact absurd a2 h3
    · -- a function
      rw [xi] at h2 h6
      rw [h2] at h3
      rcases r3 with ⟨vs, a1, a2, -⟩ | ⟨n, vs, a1, a2, -⟩ | ⟨d, n, t, m1, ps, b, a1, a2, a3, a4, a5, a6, a7, a8, a9, a10⟩
      · exfalso; omega
      · exfalso; omega
      · rcases i2 with ⟨-, w39, wF⟩ | ⟨w, -⟩
        · have eo : fnO vl it = [(vl t, (n : Int), wnX ps)] := by rw [a1]; rfl
          have el : (fnO vl it).length = 1 := by rw [eo]; rfl
          obtain ⟨b1, b2, b3, b4, b5, b6, b7, b8, b9, b10, b11⟩ := fn_r (sc := 0) (f := f) (dup := dupF (vl t) (LX.take (10 + f))) (H.st S.2.2.1) (by omega) hx1 (by rw [S.2.2.1]; exact w39) a2 a3 a4 a5 a6 a7 a8 a10 S.st hL S.2.2.2.2.2.2.1 S.2.2.2.2.2.2.2 S.2.2.2.2.2.1 (fun z own hz ho => hDp f i t ca z own S.2.2.1 w39 a2 a5.1 a5.2.1 a5.2.2 (by omega) hz ho) h4
          have di := fun (j : Nat) (h30 : ¬ j = 30) (h31 : ¬ j = 31) (h33 : ¬ j = 33) (h41 : ¬ j = 41) (h42 : ¬ j = 42) (h48 : ¬ j = 48) (h54 : ¬ j = 54) (h55 : ¬ j = 55) (h57 : ¬ j = 57) (h58 : ¬ j = 58) (h59 : ¬ j = 59) => b7 j h30 h31 h33 h41 h42 h48 h54 h55 h57 h58 h59
          have z5' := ti_add h5 hx1 (show (1 : Int32).toInt = 1 from rfl) (by omega) (by omega)
          refine nxt (f1 := f + 1) (L1 := L) b6 ⟨b1, b2, b3.trans S.2.2.1, b4, b5, ?_, ?_, ?_⟩ (by omega) (by omega) (by rw [el]) (by omega) wF (fun j hj => b10 j (by omega)) b11.1 (fun z z1 z2 z3 z4 z5 => ?_) h6 hQ
          · rw [di 43 (by decide) (by decide) (by decide) (by decide) (by decide) (by decide) (by decide) (by decide) (by decide) (by decide) (by decide)]; exact S.2.2.2.2.2.1
          · rw [di 44 (by decide) (by decide) (by decide) (by decide) (by decide) (by decide) (by decide) (by decide) (by decide) (by decide) (by decide)]; exact S.2.2.2.2.2.2.1
          · rw [di 45 (by decide) (by decide) (by decide) (by decide) (by decide) (by decide) (by decide) (by decide) (by decide) (by decide) (by decide)]; exact S.2.2.2.2.2.2.2
          · rw [a1, st_22, z3, z1]
            refine AC.bind b11 (fun y q => AC.ret ⟨z1, by rw [b8]; exact z2, ?_, ?_, by rw [el]; rfl, fun j x hj => ?_⟩) id
            · show 0 ≤ z.2.1 ∧ z.2.1 ≤ 4096 * (mid : Int)
              omega
            · show z.2.2 + 1 = 10 + (f + 1)
              omega
            · cases j with
              | zero =>
                have hj' : some y = some x := hj
                injection hj' with hj'
                rw [← hj']; exact q
              | succ j => exact absurd hj (by simp)
        · exact absurd a2 w
  | _ => intro m x1 x2 lo hi f ma cf ca L h hR; exact hR.elim
end SO
/-! THE REFERENCE's checker: a text whole -/
theorem fr_ok {l : List Int} : frOk l = true ↔ ∀ (j : Nat) (r : Int), l[j]? = some r → r ≤ 8192 := by
  unfold frOk
  rw [List.all_eq_true]
  constructor
  · intro h j r hj
    exact of_decide_eq_true (h r (List.mem_of_getElem? hj))
  · intro h r hr
    obtain ⟨j, hj⟩ := List.getElem?_of_mem hr
    exact decide_eq_true (h j r hj)
section SP
variable {tf pf sb : Nat → Int32} {ta na ca ca0 ca' ma ma' ma0 : Nat → Nat → Int32} {vl : Nat → Int32} {k : Nat → Int} {ql : Nat → Int} {c D N : Nat} {cf cf' : Nat → Int32} {LX : List FnE} {tree : Ast}
theorem tx_nd : ∀ (tree : Ast) (z : Tg) (p : List Int × Tg) (n : Int) (lo hi f : Nat), RowS na (RepI k c na ma) tree n lo hi → semTx k vl ql LX tree z = some p → z.2.2 = 10 + f → ∀ (j : Nat) (e : FnE), (fnsO vl tree)[j]? = some e → dupF e.1 (LX.take (10 + (f + j))) = false := by
  intro tree
  induction tree with
  | null => intro z p n lo hi f _ _ _ j e he; exact absurd he (by simp [fnsO])
  | add it r ihi ihr =>
    intro z p n lo hi f h hs hz j e he
    obtain ⟨mid, -, h2, h3, h4⟩ := h
    rw [tx_a] at hs
    rcases opt_c (semTi k vl ql LX it z) with y | ⟨q, y⟩
    · rw [y] at hs; exact absurd hs (by simp)
    · rw [y] at hs
      have hs' : ((semTx k vl ql LX r q.2).bind fun w => some (q.1 ++ w.1, w.2)) = some p := hs
      rcases opt_c (semTx k vl ql LX r q.2) with w | ⟨w, hw⟩
      · rw [w] at hs'; exact absurd hs' (by simp)
      · rw [fns_a] at he
        rcases h3 with ⟨vs, a1, -⟩ | ⟨n', vs, a1, -⟩ | ⟨d, n', t, m, ps, b, a1, -⟩
        · have eo : fnO vl it = [] := by rw [a1]; rfl
          rw [eo, List.nil_append] at he
          have e2 : q.2.2.2 = z.2.2 := by
            rw [a1, st_20] at y
            rcases opt_c (semEns k vl (fun v => flk v (LX.map fnT)) 0 vs z.1 0) with g | ⟨L, g⟩
            · rw [g] at y; exact absurd y (by simp)
            · rw [g] at y
              have y' : some (([] : List Int), (L, z.2)) = some q := y
              injection y' with y'
              rw [← y']
          exact ihr q.2 w _ mid hi f h4 hw (by rw [e2]; exact hz) j e he
        · have eo : fnO vl it = [] := by rw [a1]; rfl
          rw [eo, List.nil_append] at he
          have e2 : q.2.2.2 = z.2.2 := by
            rw [a1, st_21] at y
            rcases opt_c (semVars k vl ql (fun v => flk v (LX.map fnT)) true (isChr (.arg n')) 0 vs (z.1, z.2.1, 0, [], false)) with g | ⟨s', g⟩
            · rw [g] at y; exact absurd y (by simp)
            · rw [g] at y
              have y' : some (([] : List Int), (s'.1, s'.2.1, z.2.2)) = some q := y
              injection y' with y'
              rw [← y']
          exact ihr q.2 w _ mid hi f h4 hw (by rw [e2]; exact hz) j e he
        · have eo : fnO vl it = [(vl t, (n' : Int), wnX ps)] := by rw [a1]; rfl
          rw [eo] at he
          rw [a1, st_22] at y
          rcases opt_c (fnA k vl ql (fun v => flk v (LX.map fnT)) (dupF (vl t) (LX.take z.2.2)) n' ps b z.1) with g | ⟨x, g⟩
          · rw [g] at y; exact absurd y (by simp)
          · rw [g] at y
            have y' : some ([x], (z.1, z.2.1, z.2.2 + 1)) = some q := y
            injection y' with y'
            cases j with
            | zero =>
              have he' : some (vl t, (n' : Int), wnX ps) = some e := he
              injection he' with he'
              rw [← he', Nat.add_zero, ← hz]
              show dupF (vl t) (LX.take z.2.2) = false
              cases hd : dupF (vl t) (LX.take z.2.2) with
              | false => rfl
              | true =>
                unfold fnA at g
                rw [hd, if_pos rfl] at g
                exact absurd g (by simp)
            | succ j =>
              have he' : (fnsO vl r)[j]? = some e := by
                have h0 := he
                rw [List.singleton_append, List.getElem?_cons_succ] at h0
                exact h0
              have r2 := ihr q.2 w _ mid hi (f + 1) h4 hw (by rw [← y']; show z.2.2 + 1 = _; omega) j e he'
              rw [show f + (j + 1) = f + 1 + j by omega]
              exact r2
  | _ => intro z p n lo hi f h; exact h.elim
theorem ct_218 : ∀ (d i m : Nat) (x : Int32) (cf : Nat → Int32), E_mp_checkText sb D tf ta pf na ma' cf' ca' ma0 m 218 [x] [] [] [] [] ma cf ca → x.toInt = (i : Int) → (cf 38).toInt = ((i + d : Nat) : Int) → i + d ≤ 100000 → (Bc cf → Bc cf') ∧ (Uc cf → (Uc cf' ↔ ((∀ j : Nat, i ≤ j → j < i + d → (ca 40 j).toInt ≤ 8192) ∧ ((i + d : Nat) : Int) ≤ 200 ∧ (cf 41).toInt ≤ 8192))) := by
  intro d
  induction d with
  | zero =>
    intro i m x cf h hx h38 hn
    rcases iv_mp_checkText_218 h with ⟨m', (⟨h1, (⟨h2, z6, h3, cf8, h4, e0, e1, e2⟩ | ⟨h2, (⟨h3, e0, e1, e2⟩ | ⟨h3, z34, h4, cf36, h5, e0, e1, e2⟩)⟩)⟩ | ⟨h1, z59, h2, (⟨h3, z62, h4, hQ⟩ | ⟨h3, z64, h4, cf66, h5, z89, h6, hQ⟩)⟩)⟩
    · have bb := bad_r h4 (by decide)
      rw [e1]
      exact ⟨fun _ => bb.1, fun u => ⟨fun q => absurd q bb.1, fun q => by exfalso; have := q.2.1; omega⟩⟩
    · rw [e1]
      exact ⟨id, fun u => ⟨fun _ => ⟨fun j q1 q2 => by exfalso; omega, by omega, h3⟩, fun _ => u⟩⟩
    · have bb := bad_r h5 (by decide)
      rw [e1]
      exact ⟨fun _ => bb.1, fun u => ⟨fun q => absurd q bb.1, fun q => absurd q.2.2 h3⟩⟩
    · exfalso; omega
    · exfalso; omega
  | succ d ih =>
    intro i m x cf h hx h38 hn
    have xi : x.toNatClampNeg = i := cn_of hx
    rcases iv_mp_checkText_218 h with ⟨m', (⟨h1, (⟨h2, z6, h3, cf8, h4, e0, e1, e2⟩ | ⟨h2, (⟨h3, e0, e1, e2⟩ | ⟨h3, z34, h4, cf36, h5, e0, e1, e2⟩)⟩)⟩ | ⟨h1, z59, h2, (⟨h3, z62, h4, hQ⟩ | ⟨h3, z64, h4, cf66, h5, z89, h6, hQ⟩)⟩)⟩
    · exfalso; omega
    · exfalso; omega
    · exfalso; omega
    · rw [xi] at h2
      rw [h2] at h3
      have z1 := ti_add h4 hx (show (1 : Int32).toInt = 1 from rfl) (by omega) (by omega)
      obtain ⟨g1, g2⟩ := ih (i + 1) m' z62 cf hQ (by omega) (by rw [h38]; congr 1; omega) (by omega)
      refine ⟨g1, fun u => ?_⟩
      rw [g2 u]
      constructor
      · intro q
        refine ⟨fun j j1 j2 => ?_, by have := q.2.1; omega, q.2.2⟩
        by_cases w : j = i
        · rw [w]; exact h3
        · exact q.1 j (by omega) (by omega)
      · intro q
        exact ⟨fun j j1 j2 => q.1 j (by omega) (by omega), by have := q.2.1; omega, q.2.2⟩
    · rw [xi] at h2
      rw [h2] at h3
      have bb := bad_r h5 (by decide)
      have z1 := ti_add h6 hx (show (1 : Int32).toInt = 1 from rfl) (by omega) (by omega)
      obtain ⟨g1, -⟩ := ih (i + 1) m' z89 cf66 hQ (by omega) (by rw [bb.2 38 (by decide) (by decide), h38]; congr 1; omega) (by omega)
      exact ⟨fun _ => g1 bb.1, fun u => ⟨fun q => absurd q (g1 bb.1), fun q => absurd (q.1 i (Nat.le_refl _) (by omega)) h3⟩⟩
/-- the reference's checker finds nothing wrong just where the text has a meaning -/
theorem ckt_r (H : ∀ (ca0 : Nat → Nat → Int32) (n38 : Int32), FnO na ca0 tree (pf 24).toInt 0 → n38.toInt = ((fnsO vl tree).length : Int) → TxH tf ta na ca0 k vl ql c n38 (ma 22) (fun v => flk v (LX.map fnT)) ∧ DpR tf ta na ca0 vl c k n38 LX (fnsO vl tree).length ∧ ∀ (ma1 ca1 : Nat → Nat → Int32) (cf1 : Nat → Int32) (v : Int32), ca1 39 = ca0 39 → MgO na (ma 22) (ma1 22) → cf1 38 = n38 → R_mp_hasMain sb tf ta na ma1 cf1 ca1 v → (∀ (j : Nat) (e : FnE), (fnsO vl tree)[j]? = some e → dupF e.1 (LX.take (10 + j)) = false) → (¬ v.toInt = 0 ↔ mainOk LX = true)) (hR : RowS na (RepI k c na ma) tree (pf 24).toInt 0 N) (hN : N ≤ 100000) (hU : Uc cf) (h : R_mp_checkText sb D tf ta pf na ma cf ca ma' cf' ca') : Uc cf' ↔ ∃ z : Tg, semItems k vl ql LX tree ([], 0, 10) = some z ∧ jdg LX (z.2.2 - 10) z.2.1 = some () := by
  obtain ⟨m, h⟩ := h
  obtain ⟨m1, h⟩ := iv_mp_checkText_0 h
  obtain ⟨m2, cfT, caT, g1, g2, g3, g4, g5, g6⟩ := ct_10 (vl := vl) tree m1 (pf 24) 0 N 0 (upd cf 38 0) ca ma h hR hN (by rw [pk_us]; rfl) (Nat.le_refl _)
  rw [Nat.zero_add] at g4
  obtain ⟨H1, H2, H3⟩ := H caT (cfT 38) g2 g4
  have q0 : ∀ j : Nat, ¬ j = 33 → ¬ j = 37 → ¬ j = 41 → ¬ j = 43 → ¬ j = 44 → ¬ j = 45 → ¬ j = 48 → ¬ j = 55 → (upd (upd (upd (upd (upd (upd (upd (upd cfT 33 0) 37 0) 41 0) 43 (-1)) 44 0) 45 0) 48 0) 55 0) j = cfT j := fun j a1 a2 a3 a4 a5 a6 a7 a8 => by rw [pk_un a8, pk_un a7, pk_un a6, pk_un a5, pk_un a4, pk_un a3, pk_un a2, pk_un a1]
  have T : TSt k vl c na caT (cfT 38) (ma 22) [] (upd (upd (upd (upd (upd (upd (upd (upd cfT 33 0) 37 0) 41 0) 43 (-1)) 44 0) 45 0) 48 0) 55 0) caT ma := by
    refine ⟨⟨?_, Nat.zero_le _, fun i e q => absurd q (by simp)⟩, q0 38 (by decide) (by decide) (by decide) (by decide) (by decide) (by decide) (by decide) (by decide), rfl, MgO.rf, ?_, ?_, ?_, ?_⟩
    · rw [pk_un (by decide), pk_un (by decide), pk_un (by decide), pk_un (by decide), pk_un (by decide), pk_un (by decide), pk_un (by decide), pk_us]; rfl
    · rw [pk_un (by decide), pk_un (by decide), pk_un (by decide), pk_un (by decide), pk_un (by decide), pk_un (by decide), pk_us]; rfl
    · rw [pk_un (by decide), pk_un (by decide), pk_un (by decide), pk_un (by decide), pk_us]
    · rw [pk_un (by decide), pk_un (by decide), pk_un (by decide), pk_us]; rfl
    · rw [pk_un (by decide), pk_un (by decide), pk_us]; rfl
  have e41 : ((upd (upd (upd (upd (upd (upd (upd (upd cfT 33 0) 37 0) 41 0) 43 (-1)) 44 0) 45 0) 48 0) 55 0) 41).toInt = 0 := by
    rw [pk_un (by decide), pk_un (by decide), pk_un (by decide), pk_un (by decide), pk_un (by decide), pk_us]; rfl
  have u0 : Uc (upd (upd (upd (upd (upd (upd (upd (upd cfT 33 0) 37 0) 41 0) 43 (-1)) 44 0) 45 0) 48 0) 55 0) := by
    unfold Uc
    rw [q0 30 (by decide) (by decide) (by decide) (by decide) (by decide) (by decide) (by decide) (by decide), g5 30 (by decide), pk_un (by decide)]
    exact hU
  obtain ⟨m3, y1, y2, ma2, cf2, ca2, L', b1, b2, b3, b4, b5, b6⟩ := tx_102 (nF := (fnsO vl tree).length) H1 H2 tree m2 (0 : Int32) (pf 24) 0 N 0 ma _ caT [] g1 hR hN T (Nat.le_refl _) rfl (Nat.le_refl _) g2 (by omega)
  have A := b6 ([], 0, 10) rfl e41.symm rfl (Int.le_refl _) (Int.le_refl _)
  have len : (fnsO vl tree).length ≤ 100000 := by
    have := fns_le tree (pf 24).toInt 0 N hR (vl := vl)
    omega
  have n2 : (cf2 38).toInt = ((0 + (fnsO vl tree).length : Nat) : Int) := by rw [b3.2.1, g4, Nat.zero_add]
  have its := tx_its (vl := vl) (ql := ql) (LX := LX) tree ([], 0, 10) _ _ _ hR
  rcases iv_mp_checkText_102 b2 with ⟨m', (⟨h1, v93, h2, (⟨h3, hQ⟩ | ⟨h3, z100, h4, cf102, h5, hQ⟩)⟩ | ⟨h1, z127, h2, (⟨h3, z130, h4, (⟨h5, ma136, cf137, ca138, h6, z173, h7, z174, h8, hQ⟩ | ⟨h5, ma178, cf179, ca180, h6, z206, h7, hQ⟩)⟩ | ⟨h3, ma210, cf211, ca212, h4, z238, h5, z239, h6, hQ⟩)⟩)⟩
  · obtain ⟨c1, c2⟩ := ct_218 (fnsO vl tree).length 0 m' (0 : Int32) cf2 hQ rfl n2 (by omega)
    rcases opt_c (semTx k vl ql LX tree ([], 0, 10)) with y | ⟨p, y⟩
    · rw [y] at its
      refine ⟨fun q => absurd q (c1 (A.n u0 y)), fun ⟨z, z1, -⟩ => ?_⟩
      rw [its] at z1
      exact absurd z1 (by simp)
    · obtain ⟨u2, p1, p2, p3, p4⟩ := A.y u0 y
      have nd : ∀ (j : Nat) (e : FnE), (fnsO vl tree)[j]? = some e → dupF e.1 (LX.take (10 + j)) = false := (fun (j : Nat) (e : FnE) he => by have w := tx_nd tree ([], 0, 10) p _ _ _ 0 hR y rfl j e he; rw [Nat.zero_add] at w; exact w)
      have mn := (H3 ma2 ca2 cf2 v93 b3.2.2.1 b3.2.2.2.1 b3.2.1 h2 nd).mp h3
      rw [y] at its
      have its' : semItems k vl ql LX tree ([], 0, 10) = if frOk p.1 = true then some p.2 else none := its
      rw [c2 u2, its']
      have fe : frOk p.1 = true ↔ ∀ j : Nat, 0 ≤ j → j < 0 + (fnsO vl tree).length → (ca2 40 j).toInt ≤ 8192 := by
        rw [fr_ok]
        constructor
        · intro q j _ hj
          have hj' : j < p.1.length := by omega
          have e := p2 j p.1[j] (List.getElem?_eq_getElem hj')
          rw [Nat.zero_add] at e
          rw [e]
          exact q j _ (List.getElem?_eq_getElem hj')
        · intro q j r hj
          have hj' := (List.getElem?_eq_some_iff.mp hj).1
          have e := p2 j r hj
          rw [Nat.zero_add] at e
          rw [← e]
          exact q j (Nat.zero_le _) (by omega)
      have e10 : p.2.2.2 - 10 = (fnsO vl tree).length := by omega
      constructor
      · intro q
        refine ⟨p.2, by rw [if_pos (fe.mpr q.1)], ?_⟩
        unfold jdg
        rw [e10, p1]
        exact if_pos ⟨mn, by have := q.2.1; omega, q.2.2⟩
      · rintro ⟨z, z1, z2⟩
        by_cases w : frOk p.1 = true
        · rw [if_pos w] at z1
          injection z1 with z1
          rw [← z1] at z2
          unfold jdg at z2
          rw [e10, p1] at z2
          by_cases w2 : mainOk LX = true ∧ (fnsO vl tree).length ≤ 200 ∧ (cf2 41).toInt ≤ 8192
          · exact ⟨fe.mp w, by have := w2.2.1; omega, w2.2.2⟩
          · rw [if_neg w2] at z2
            exact absurd z2 (by simp)
        · rw [if_neg w] at z1
          exact absurd z1 (by simp)
  · have bb := bad_r h5 (by decide)
    obtain ⟨c1, -⟩ := ct_218 (fnsO vl tree).length 0 m' (0 : Int32) cf102 hQ rfl (by rw [bb.2 38 (by decide) (by decide)]; exact n2) (by omega)
    refine ⟨fun q => absurd q (c1 bb.1), fun ⟨z, z1, z2⟩ => ?_⟩
    rcases opt_c (semTx k vl ql LX tree ([], 0, 10)) with y | ⟨p, y⟩
    · rw [y] at its
      rw [its] at z1
      exact absurd z1 (by simp)
    · have nd : ∀ (j : Nat) (e : FnE), (fnsO vl tree)[j]? = some e → dupF e.1 (LX.take (10 + j)) = false := (fun (j : Nat) (e : FnE) he => by have w := tx_nd tree ([], 0, 10) p _ _ _ 0 hR y rfl j e he; rw [Nat.zero_add] at w; exact w)
      have mn : ¬ mainOk LX = true := fun q => (H3 ma2 ca2 cf2 v93 b3.2.2.1 b3.2.2.2.1 b3.2.1 h2 nd).mpr q h3
      unfold jdg at z2
      rw [if_neg (fun q => mn q.1)] at z2
      exact absurd z2 (by simp)
  all_goals exact absurd b1 h1
end SP
