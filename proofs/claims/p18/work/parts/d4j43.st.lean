/-! THE REFERENCE's checker: functions and notes for other arrays; what stands between statements; new names -/
def MgO (na : Nat → Nat → Int32) (M M' : Nat → Int32) : Prop := ∀ i : Nat, ¬ (na 14 i).toInt = 29 → M' i = M i
theorem MgO.rf {na : Nat → Nat → Int32} {M : Nat → Int32} : MgO na M M := fun _ _ => rfl
theorem MgO.sy {na : Nat → Nat → Int32} {M M' : Nat → Int32} (h : MgO na M M') : MgO na M' M := fun i q => (h i q).symm
theorem MgO.tr {na : Nat → Nat → Int32} {M M' M2 : Nat → Int32} (h : MgO na M M') (g : MgO na M' M2) : MgO na M M2 := fun i q => (g i q).trans (h i q)
section SA
variable {tf : Nat → Int32} {ta na ca ca' ma ma' : Nat → Nat → Int32} {vl M M' : Nat → Int32} {k : Nat → Int} {c : Nat} {n38 : Int32} {F : Int32 → Option Fnc} {p0 p1 p2 v : Int32}
theorem FnPl.st {fn : Int32} (hc : ca' 39 = ca 39) (h : FnPl na ca fn) : FnPl na ca' fn := by
  unfold FnPl
  rw [hc]
  exact h
theorem tk_53 (hM : ∀ i : Nat, (na 14 i).toInt = 42 → ma 22 i = ma' 22 i) : ∀ (j : Nat) (x4 x5 : Int32), AllN na (fun p => (na 14 p.toNat).toInt = 42) x4.toInt → E_mp_taken na ma' ca' p0 p1 p2 v j 53 [x4, x5] [] [] [] [] () → E_mp_taken na ma ca p0 p1 p2 v j 53 [x4, x5] [] [] [] [] () := by
  intro j
  induction j with
  | zero => intro x4 x5 _ h; exact h.elim
  | succ j ih =>
    intro x4 x5 hA h
    rcases h with ⟨e, -⟩ | ⟨-, b0, b1, e1, -, -, -, -, h⟩ | h
    · exact absurd e (by decide)
    · cases e1
      refine Or.inr (Or.inl ⟨rfl, x4, x5, rfl, rfl, rfl, rfl, rfl, ?_⟩)
      have m22 : 0 ≤ x4.toInt → ma 22 x4.toNatClampNeg = ma' 22 x4.toNatClampNeg := fun q => by
        rcases hA.inv with w | ⟨i, w1, w2, -⟩
        · exfalso; omega
        · have e : x4.toNatClampNeg = i := cn_of w1
          rw [e]
          have w2' : (na 14 x4.toInt.toNat).toInt = 42 := w2
          rw [w1, Int.toNat_natCast] at w2'
          exact hM i w2'
      have nx : ¬ x4.toInt < 0 → AllN na (fun p => (na 14 p.toNat).toInt = 42) (na 21 x4.toNatClampNeg).toInt := fun q => by
        rcases hA.inv with w | ⟨i, w1, -, w3⟩
        · exact absurd w q
        · have e : x4.toNatClampNeg = i := cn_of w1
          rw [e]
          exact w3
      rcases h with ⟨h1, h⟩ | ⟨h1, h⟩
      · refine Or.inl ⟨h1, ?_⟩
        rcases h with ⟨h2, z5, h3, h⟩ | h
        · refine Or.inl ⟨h2, z5, h3, ?_⟩
          rcases h with ⟨h4, z8, h5, h⟩ | h
          · exact Or.inl ⟨h4, z8, h5.trans (m22 h2).symm, h⟩
          · exact Or.inr h
        · exact Or.inr h
      · refine Or.inr ⟨h1, ?_⟩
        rcases h with ⟨h2, h⟩ | ⟨h2, z21, h3, z22, h4, h⟩
        · refine Or.inl ⟨h2, ?_⟩
          rcases h with ⟨h3, -⟩ | h
          · exfalso; omega
          · exact Or.inr h
        · exact Or.inr ⟨h2, z21, h3, z22, h4, ih z21 z22 (by rw [h3]; exact nx h2) h⟩
    · exact h.elim
theorem tk_cg (hc : ca 39 = ca' 39) (hM : ∀ i : Nat, (na 14 i).toInt = 42 → ma 22 i = ma' 22 i) (hn : 0 ≤ p0.toInt → FnPl na ca p0) (h : R_mp_taken na ma' ca' p0 p1 p2 v) : R_mp_taken na ma ca p0 p1 p2 v := by
  obtain ⟨j, h⟩ := h
  cases j with
  | zero => exact h.elim
  | succ j =>
    refine ⟨j + 1, ?_⟩
    rcases h with ⟨-, h⟩ | ⟨e, -⟩ | h
    · refine Or.inl ⟨rfl, ?_⟩
      rcases h with ⟨h1, z25, h2, z26, h3, h⟩ | h
      · refine Or.inl ⟨h1, z25, by rw [hc]; exact h2, z26, h3, tk_53 hM j z26 (0 : Int32) ?_ h⟩
        rw [h3, h2, ← hc]
        exact (hn h1).2
      · exact Or.inr h
    · exact absurd e (by decide)
    · exact h.elim
theorem TkFr.st {own fn : Int32} {f : Fnc} (hc : ca' 39 = ca 39) (hM : MgO na M M') (hn : 0 ≤ fn.toInt → FnPl na ca fn) (ho : own.toInt < 0 → 0 ≤ fn.toInt) (h : TkFr na ca M own fn f) : TkFr na ca' M' own fn f := by
  obtain ⟨h1, h2, h3⟩ := h
  refine ⟨fun ma i q v e hq hi hr => ?_, fun ho' => ?_, h3⟩
  · refine h1 (va_up ma 22 M) i q v va_up_s hq hi (tk_cg hc.symm (fun j hj => ?_) hn hr)
    rw [va_up_s, e, hM j (by omega)]
  · rw [hc]
    have w := h2 ho'
    have w4 := (hn (ho ho')).1
    rw [hM _ (by omega)]
    exact w
/-- notes, told of other arrays -/
theorem nt_cm (hc : ca' 39 = ca 39) (hM : MgO na M M') : ∀ (d : Nat) (n : Int), NtN na ca vl M F ma d n → NtN na ca' vl M' F ma d n := by
  intro d
  induction d with
  | zero => intro n h; trivial
  | succ d ih =>
    intro n h
    obtain ⟨i, h1, h3, h4, h7, h8, h9⟩ := h
    refine ⟨i, h1, fun q => ⟨?_, (h3 q).2.imp ih⟩, fun q => ih _ (h4 q), fun q => (h7 q).imp ih, fun q => ⟨ih _ (h8 q).1, ih _ (h8 q).2.1, ih _ (h8 q).2.2⟩, fun q => ⟨ih _ (h9 q).1, ih _ (h9 q).2⟩⟩
    obtain ⟨t, f, g1, g2, g3⟩ := (h3 q).1
    refine ⟨t, f, g1, g2, ?_⟩
    rcases g3 with ⟨g3, g4⟩ | ⟨fn, g3, g4, g5⟩
    · exact Or.inl ⟨g3, g4.st hc hM (fun w => absurd w (by decide)) (fun w => by omega)⟩
    · exact Or.inr ⟨fn, g3, ⟨g4.1, g4.2.1, g4.2.2.st hc⟩, g5.st hc hM (fun _ => g4.2.2) (fun _ => g4.1)⟩
theorem ff_2 {cf : Nat → Int32} (hc : ca 39 = ca' 39) : ∀ (j : Nat) (x : Int32), E_mp_findFunction ta na cf ca' p0 v j 2 [x] [] [] [] [] () → E_mp_findFunction ta na cf ca p0 v j 2 [x] [] [] [] [] () := by
  intro j
  induction j with
  | zero => intro x h; exact h.elim
  | succ j ih =>
    intro x h
    rcases h with ⟨e, -⟩ | ⟨-, b0, e1, -, -, -, -, h⟩ | h
    · exact absurd e (by decide)
    · cases e1
      refine Or.inr (Or.inl ⟨rfl, x, rfl, rfl, rfl, rfl, rfl, ?_⟩)
      rcases h with h | ⟨h1, z3, h2, z4, h3, v6, h4, h⟩
      · exact Or.inl h
      · refine Or.inr ⟨h1, z3, by rw [hc]; exact h2, z4, h3, v6, h4, ?_⟩
        rcases h with ⟨h5, z12, h6, h⟩ | h
        · exact Or.inl ⟨h5, z12, h6, ih z12 h⟩
        · exact Or.inr h
    · exact h.elim
theorem ff_cg {cf : Nat → Int32} (hc : ca 39 = ca' 39) (h : R_mp_findFunction ta na cf ca' p0 v) : R_mp_findFunction ta na cf ca p0 v := by
  obtain ⟨j, h⟩ := h
  cases j with
  | zero => exact h.elim
  | succ j =>
    refine ⟨j + 1, ?_⟩
    rcases h with ⟨-, h⟩ | ⟨e, -⟩ | h
    · exact Or.inl ⟨rfl, ff_2 hc j _ h⟩
    · exact absurd e (by decide)
    · exact h.elim
theorem FunR.st (hc : ca' 39 = ca 39) (hM : MgO na M M') (h : FunR tf ta na ca k vl c n38 M F) : FunR tf ta na ca' k vl c n38 M' F := by
  intro t z own h1 h2 h3 h4
  rcases h t z own h1 h2 h3 h4 with ⟨g1, f, g2, g3⟩ | ⟨g1, g2⟩
  · exact Or.inl ⟨g1, f, g2, g3.st hc hM (fun w => absurd w (by decide)) (fun w => by omega)⟩
  · refine Or.inr ⟨g1, fun cf fn e hr => ?_⟩
    rcases g2 cf fn e (ff_cg hc.symm hr) with g | ⟨g3, f, g4, g5⟩
    · exact Or.inl g
    · exact Or.inr ⟨⟨g3.1, g3.2.1, g3.2.2.st hc⟩, f, g4, g5.st hc hM (fun _ => g3.2.2) (fun _ => g3.1)⟩
/-- what is found among the functions of the text is one -/
def FunG (ta na ca : Nat → Nat → Int32) (k : Nat → Int) (vl : Nat → Int32) (c : Nat) (n38 : Int32) (F : Int32 → Option Fnc) : Prop := ∀ (t : Nat) (z fn : Int32) (cf : Nat → Int32), t < c → k t = 16 → z.toInt = (t : Int) → cf 38 = n38 → R_mp_findFunction ta na cf ca z fn → 0 ≤ fn.toInt → (F (vl t)).isSome = true
theorem FunG.st (hc : ca' 39 = ca 39) (h : FunG ta na ca k vl c n38 F) : FunG ta na ca' k vl c n38 F := fun t z fn cf h1 h2 h3 h4 h5 h6 => h t z fn cf h1 h2 h3 h4 (ff_cg hc.symm h5) h6
end SA
/-- what is known of the text, and stands fast -/
def TxH (tf : Nat → Int32) (ta na ca0 : Nat → Nat → Int32) (k : Nat → Int) (vl : Nat → Int32) (ql : Nat → Int) (c : Nat) (n38 : Int32) (M0 : Nat → Int32) (F : Int32 → Option Fnc) : Prop := RTk ta c ∧ (∀ i : Nat, i < c → rkd ta i = k i) ∧ SmN ta k vl c ∧ FunR tf ta na ca0 k vl c n38 M0 F ∧ FunG ta na ca0 k vl c n38 F ∧ PrL ta k c ∧ VlN ta k vl c ∧ ∀ u : Nat, u < c → k u = 18 → (ta 10 u).toInt = ql u ∧ 0 ≤ ql u ∧ ql u ≤ 100000
/-- between statements: the names L, those of the innermost block from sc on -/
def CkS (k : Nat → Int) (vl : Nat → Int32) (c : Nat) (na ca0 : Nat → Nat → Int32) (n38 : Int32) (M0 : Nat → Int32) (L : Nms) (sc : Nat) (cf : Nat → Int32) (ca ma : Nat → Nat → Int32) : Prop := EnvR k vl c cf ca L ∧ cf 38 = n38 ∧ ca 39 = ca0 39 ∧ MgO na M0 (ma 22) ∧ (cf 37).toInt = (sc : Int) ∧ sc ≤ L.length ∧ ca 40 = ca0 40
section SB
variable {tf : Nat → Int32} {ta na ca ca' ca0 ma ma' : Nat → Nat → Int32} {vl M0 : Nat → Int32} {k : Nat → Int} {ql : Nat → Int} {c sc lo hi t : Nat} {n38 : Int32} {F : Int32 → Option Fnc} {cf cf' : Nat → Int32} {L : Nms} {p0 p1 p2 p3 v : Int32} {e : Ast}
theorem CkS.ct (h : CkS k vl c na ca0 n38 M0 L sc cf ca ma) : CtR k vl c ca L n38 (ma 22) cf ma := ⟨h.1, h.2.1, rfl⟩
theorem CkS.fr (H : TxH tf ta na ca0 k vl ql c n38 M0 F) (h : CkS k vl c na ca0 n38 M0 L sc cf ca ma) : FunR tf ta na ca k vl c n38 (ma 22) F := H.2.2.2.1.st h.2.2.1 h.2.2.2.1
theorem CkS.sm (h : CkS k vl c na ca0 n38 M0 L sc cf ca ma) (e33 : cf' 33 = cf 33) (e37 : cf' 37 = cf 37) (e38 : cf' 38 = cf 38) (hM : MgO na M0 (ma' 22)) : CkS k vl c na ca0 n38 M0 L sc cf' ca ma' := ⟨h.1.sm e33, e38.trans h.2.1, h.2.2.1, hM, by rw [e37]; exact h.2.2.2.2.1, h.2.2.2.2.2⟩
theorem EnvR.cav (h : EnvR k vl c cf ca L) (g33 : cf' 33 = cf 33) (g34 : ca' 34 = ca 34) (g35 : ca' 35 = ca 35) (g36 : ca' 36 = ca 36) : EnvR k vl c cf' ca' L := by
  unfold EnvR entR at *
  rw [g33, g34, g35, g36]
  exact h
theorem EnvR.tk {n : Nat} (h : EnvR k vl c cf ca L) (hn : n ≤ L.length) (g : (cf' 33).toInt = (n : Int)) : EnvR k vl c cf' ca (L.take n) := by
  have hl : (L.take n).length = n := by rw [List.length_take]; omega
  refine ⟨by rw [hl]; exact g, by rw [hl]; have := h.2.1; omega, fun i e hi => ?_⟩
  have hin := (List.getElem?_eq_some_iff.mp hi).1
  rw [hl] at hin
  rw [List.getElem?_take_of_lt hin] at hi
  exact h.2.2 i e hi
/-- the array of kinds of values, where only notes were written -/
theorem m22_k (f : FrM ma ma' lo hi) (a : AgKr na ma ma' lo hi) : ma' 22 = ma 22 := by
  funext i
  by_cases q : lo ≤ i ∧ i < hi
  · exact (a i q.1 q.2).2.2
  · exact f 22 i (by omega)
theorem bd_f {x : Option Atr} : (x.bind fun a => if (false = true) then aNum a else some a) = x := by
  cases x <;> simp
theorem bd_t {x : Option Atr} : (x.bind fun a => if (true = true) then aNum a else some a) = x.bind aNum := by
  cases x <;> simp
/-- an expression is checked; b: whether it must be a number -/
theorem ex_s (H : TxH tf ta na ca0 k vl ql c n38 M0 F) (S : CkS k vl c na ca0 n38 M0 L sc cf ca ma) (b : Bool) (hh : hi ≤ 100000) (hO : OkE k c na ma e p0.toInt lo hi) (hb : p1.toInt = (if b then 1 else 0)) (h : RX_mp_check tf ta na ca p0 p1 ma cf ma' cf' v) : SmK cf cf' ∧ FrM ma ma' lo hi ∧ AgKr na ma ma' lo hi ∧ CkS k vl c na ca0 n38 M0 L sc cf' ca ma' ∧ AC cf cf' ((att k vl (lkp L) F e [] 0).bind (fun a => if b then aNum a else some a)) (fun a => IsV v.toInt a.1) ∧ (Uc cf' → ∀ d : Nat, NtN na ca0 vl M0 F ma' d p0.toInt) := by
  obtain ⟨o1, o2, o3, o4, o5⟩ := ck_x H.2.2.1 (S.fr H) H.2.2.2.2.2.1 e b p0 p1 lo hi ma ma' cf cf' v hO.1 hh hO.2.1 hb S.ct h
  exact ⟨o1, o2, o3, S.sm (o1 33 (by decide) (by decide)) (o1 37 (by decide) (by decide)) (o1 38 (by decide) (by decide)) (by rw [m22_k o2 o3]; exact S.2.2.2.1), o4, fun u d => nt_cm S.2.2.1.symm S.2.2.2.1.sy d _ (o5 u d)⟩
/-- an expression alone -/
theorem al_s (H : TxH tf ta na ca0 k vl ql c n38 M0 F) (S : CkS k vl c na ca0 n38 M0 L sc cf ca ma) (hh : hi ≤ 100000) (hO : OkE k c na ma e p0.toInt lo hi) (h : R_mp_checkAlone tf ta na ca p0 ma cf ma' cf') : SmK cf cf' ∧ FrM ma ma' lo hi ∧ AgKr na ma ma' lo hi ∧ CkS k vl c na ca0 n38 M0 L sc cf' ca ma' ∧ AC cf cf' ((att k vl (lkp L) F e [] 0).bind aEff) (fun _ => True) ∧ (Uc cf' → ∀ d : Nat, NtN na ca0 vl M0 F ma' d p0.toInt) := by
  have bad : ∀ {ma1 : Nat → Nat → Int32} {cf1 cf2 : Nat → Int32} {v x y : Int32}, RX_mp_check tf ta na ca p0 (0 : Int32) ma cf ma1 cf1 v → (v.toInt = 2 ∨ v.toInt = 3) → R_mp_bad x y cf1 cf2 → ¬ x.toInt = 0 → SmK cf cf2 ∧ FrM ma ma1 lo hi ∧ AgKr na ma ma1 lo hi ∧ CkS k vl c na ca0 n38 M0 L sc cf2 ca ma1 ∧ AC cf cf2 ((att k vl (lkp L) F e [] 0).bind aEff) (fun _ => True) ∧ (Uc cf2 → ∀ d : Nat, NtN na ca0 vl M0 F ma1 d p0.toInt) := by
    intro ma1 cf1 cf2 v x y hc hv hbd hx
    obtain ⟨o1, o2, o3, o4, o5, o6⟩ := ex_s H S false hh hO (by decide) hc
    have bb := bad_r hbd hx
    refine ⟨o1.tr bb.2, o2, o3, o4.sm (bb.2 33 (by decide) (by decide)) (bb.2 37 (by decide) (by decide)) (bb.2 38 (by decide) (by decide)) o4.2.2.2.1, AC.of (fun _ => bb.1) (fun u => Or.inl ⟨?_, bb.1⟩), fun u => absurd u bb.1⟩
    rw [bd_f] at o5
    cases ha : att k vl (lkp L) F e [] 0 with
    | none => rfl
    | some a =>
      have w := (o5.y u ha).2
      unfold IsV at w
      show aEff a = none
      exact if_pos (by omega)
  rcases h with ⟨ma3, cf4, v6, h1, (⟨h2, v26, h3, cf31, h4, e0, e1⟩ | ⟨h2, (⟨h3, e0, e1⟩ | ⟨h3, v57, h4, cf62, h5, e0, e1⟩)⟩)⟩ | h
  · rw [e0, e1]; exact bad h1 (Or.inl h2) h4 (by decide)
  · rw [e0, e1]
    obtain ⟨o1, o2, o3, o4, o5, o6⟩ := ex_s H S false hh hO (by decide) h1
    rw [bd_f] at o5
    refine ⟨o1, o2, o3, o4, AC.of o5.1 (fun u => ?_), o6⟩
    cases ha : att k vl (lkp L) F e [] 0 with
    | none => exact Or.inl ⟨rfl, o5.n u ha⟩
    | some a =>
      have w := o5.y u ha
      have w2 := w.2
      unfold IsV at w2
      exact Or.inr ⟨a, (show aEff a = some a from if_neg (by omega)), w.1, trivial⟩
  · rw [e0, e1]; exact bad h1 (Or.inr h3) h5 (by decide)
  · exact h.elim
/-- fields that constants leave alone -/
def D57 (a b : Nat → Int32) : Prop := ∀ j : Nat, ¬ j = 30 → ¬ j = 31 → ¬ j = 57 → b j = a j
theorem kn_s (H : TxH tf ta na ca0 k vl ql c n38 M0 F) (S : CkS k vl c na ca0 n38 M0 L sc cf ca ma) (hh : hi ≤ 100000) (hO : OkE k c na ma e p0.toInt lo hi) (h : R_mp_checkConstant tf ta na ca p0 ma cf ma' cf' v) : D57 cf cf' ∧ FrM ma ma' lo hi ∧ ma' 22 = ma 22 ∧ CkS k vl c na ca0 n38 M0 L sc cf' ca ma' ∧ AC cf cf' ((att k vl (lkp L) F e [] 0).bind aKon) (fun a => v.toInt = 1 ∧ cf' 57 = a.2.2.1) := by
  obtain ⟨hx, hR, i, hp, hi'⟩ := hO
  obtain ⟨o1, o2, ⟨ma3, o3, o4⟩, o5⟩ := kon_r H.1 H.2.1 H.2.2.1 (S.fr H) H.2.2.2.2.2.1 H.2.2.2.2.2.2.1 hx hh hR hp hi' S.ct h
  have e22 : ma' 22 = ma 22 := by
    funext j
    by_cases q : lo ≤ j ∧ j < hi
    · have w := (o3 j q.1 q.2).2.2
      rcases o4 with y | ⟨x, y⟩
      · rw [y]; exact w
      · rw [y, vu_p (by omega)]; exact w
    · exact o2 22 j (by omega)
  exact ⟨o1, o2, e22, S.sm (o1 33 (by decide) (by decide) (by decide)) (o1 37 (by decide) (by decide) (by decide)) (o1 38 (by decide) (by decide) (by decide)) (by rw [e22]; exact S.2.2.2.1), o5.imp (fun a w => ⟨w.1, w.2.1⟩)⟩
theorem dcl_n {tp : Bool} {nm : Int32} {g : Ent} (h : (tp = true ∧ (F nm).isSome = true) ∨ knN L nm sc L.length = true) : dcl tp F sc L nm g = none := if_pos h
theorem dcl_y {tp : Bool} {nm : Int32} {g : Ent} (h : ¬ ((tp = true ∧ (F nm).isSome = true) ∨ knN L nm sc L.length = true)) : dcl tp F sc L nm g = some (L ++ [(nm, g)]) := if_neg h
theorem isf_r (H : TxH tf ta na ca0 k vl ql c n38 M0 F) (S : CkS k vl c na ca0 n38 M0 L sc cf ca ma) (hp : p0.toInt = (t : Int)) (htc : t < c) (h16 : k t = 16) (h : R_mp_isFunction tf ta na cf ca p0 v) : (v.toInt = 0 ∧ F (vl t) = none) ∨ (v.toInt = 1 ∧ (F (vl t)).isSome = true) := by
  rcases h with ⟨v2, h1, (⟨h2, ev⟩ | ⟨h2, v9, h3, (⟨h4, ev⟩ | ⟨h4, ev⟩)⟩)⟩ | h
  · exact Or.inr ⟨by rw [ev]; rfl, (H.2.2.2.2.1.st S.2.2.1) t p0 v2 cf htc h16 hp S.2.1 h1 h2⟩
  · rcases (S.fr H) t p0 v9 htc h16 hp h3 with ⟨g1, -⟩ | ⟨-, g2⟩
    · exfalso; omega
    · rcases g2 cf v2 S.2.1 h1 with ⟨-, g⟩ | ⟨g3, -⟩
      · exact Or.inl ⟨by rw [ev]; rfl, g⟩
      · exfalso; omega
  · rcases (S.fr H) t p0 v9 htc h16 hp h3 with ⟨-, f, g2, -⟩ | ⟨g1, -⟩
    · exact Or.inr ⟨by rw [ev]; rfl, by rw [g2]; rfl⟩
    · rw [g1] at h4
      exact absurd h4 (by decide)
  · exact h.elim
theorem new_r (H : TxH tf ta na ca0 k vl ql c n38 M0 F) (S : CkS k vl c na ca0 n38 M0 L sc cf ca ma) (hp : p0.toInt = (t : Int)) (htc : t < c) (h16 : k t = 16) (tp : Bool) (htp : tp = true ↔ (cf 43).toInt < 0) (g : Ent) (h : R_mp_checkNew tf ta na ca p0 cf cf') : SmK cf cf' ∧ AC cf cf' (dcl tp F sc L (vl t) g) (fun L' => L' = L ++ [(vl t, g)]) := by
  have fs := fun {v : Int32} (y : R_mp_find ta cf ca p0 (cf 37) v) => find_s H.2.2.1 S.1 hp htc h16 S.2.2.2.2.1 y
  rcases h with ⟨v2, h1, (⟨h2, cf12, h3, e0⟩ | ⟨h2, (⟨h3, e0⟩ | ⟨h3, v39, h4, (⟨h5, e0⟩ | ⟨h5, cf47, h6, e0⟩)⟩)⟩)⟩ | h
  · rcases fs h1 with ⟨q1, -⟩ | ⟨j, e, -, -, -, q4, -⟩
    · exfalso; omega
    · rw [e0, dcl_n (Or.inr q4)]
      exact ⟨(bad_r h3 (by decide)).2, AC.bad h3 (by decide)⟩
  · rcases fs h1 with ⟨-, q2, -⟩ | ⟨j, e, q1, -⟩
    · have n : ¬ ((tp = true ∧ (F (vl t)).isSome = true) ∨ knN L (vl t) sc L.length = true) := by
        rintro (⟨w, -⟩ | w)
        · have := htp.mp w; omega
        · rw [q2] at w; exact absurd w (by decide)
      rw [e0, dcl_y n]
      exact ⟨SmK.rf, AC.ret rfl⟩
    · exfalso; omega
  · rcases fs h1 with ⟨-, q2, -⟩ | ⟨j, e, q1, -⟩
    · have n : ¬ ((tp = true ∧ (F (vl t)).isSome = true) ∨ knN L (vl t) sc L.length = true) := by
        rintro (⟨-, w⟩ | w)
        · rcases isf_r H S hp htc h16 h4 with ⟨-, y⟩ | ⟨y, -⟩
          · rw [y] at w; exact absurd w (by decide)
          · omega
        · rw [q2] at w; exact absurd w (by decide)
      rw [e0, dcl_y n]
      exact ⟨SmK.rf, AC.ret rfl⟩
    · exfalso; omega
  · have y : (tp = true ∧ (F (vl t)).isSome = true) := by
      refine ⟨htp.mpr (by omega), ?_⟩
      rcases isf_r H S hp htc h16 h4 with ⟨w, -⟩ | ⟨-, w⟩
      · exact absurd w h5
      · exact w
    rw [e0, dcl_n (Or.inl y)]
    exact ⟨(bad_r h6 (by decide)).2, AC.bad h6 (by decide)⟩
  · exact h.elim
theorem know_e (h : R_mp_know p0 p1 p2 p3 cf ca cf' ca') (hE : EnvR k vl c cf ca L) (hp : p0.toInt = (t : Int)) (htc : t < c) (h16 : k t = 16) (hw : 1 ≤ p1.toInt ∧ p1.toInt ≤ 4) (hl : L.length < 100000) : EnvR k vl c cf' ca' (L ++ [(vl t, if p1.toInt = 4 then ((0 : Int), p2) else (p1.toInt, (0 : Int32)))]) ∧ (∀ j : Nat, ¬ j = 33 → cf' j = cf j) ∧ ca' 39 = ca 39 ∧ ca' 40 = ca 40 := by
  rcases h with ⟨z2, h1, e0, e1⟩ | h
  · obtain ⟨E1, E2, E3⟩ := hE
    have hK : (cf 33).toNatClampNeg = L.length := cn_of E1
    have ec : ca' = vu (vu (vu (vu ca 53 L.length p3) 34 L.length p0) 35 L.length p1) 36 L.length p2 := by rw [e1, hK]; rfl
    have z := ti_add h1 E1 (show (1 : Int32).toInt = 1 from rfl) (by omega) (by omega)
    have x34 : ca' 34 L.length = p0 := by rw [ec, vu_p (by omega), vu_p (by omega), vu_s]
    have x35 : ca' 35 L.length = p1 := by rw [ec, vu_p (by omega), vu_s]
    have x36 : ca' 36 L.length = p2 := by rw [ec, vu_s]
    have xo : ∀ f i : Nat, ¬ i = L.length → ca' f i = ca f i := fun f i q => by rw [ec, vu_at q, vu_at q, vu_at q, vu_at q]
    refine ⟨⟨?_, ?_, fun i e hi => ?_⟩, fun j q => by rw [e0]; exact pk_un q, ?_, ?_⟩
    · rw [e0, pk_us, List.length_append]
      show z2.toInt = ((L.length + 1 : Nat) : Int)
      omega
    · rw [List.length_append]
      show L.length + 1 ≤ 100000
      omega
    · by_cases q : i = L.length
      · rw [q, List.getElem?_append_right (Nat.le_refl _), Nat.sub_self] at hi
        have hi' : some (vl t, if p1.toInt = 4 then ((0 : Int), p2) else (p1.toInt, (0 : Int32))) = some e := hi
        have ee := Option.some.inj hi'
        rw [q, ← ee]
        refine ⟨⟨t, by rw [x34]; exact hp, htc, h16, rfl⟩, ?_, by rw [x35]; exact hw⟩
        unfold entR
        rw [x35, x36]
      · have hlt : i < L.length := by
          have w := (List.getElem?_eq_some_iff.mp hi).1
          rw [List.length_append] at w
          have w' : i < L.length + 1 := w
          omega
        rw [List.getElem?_append_left hlt] at hi
        obtain ⟨⟨s, a1, a2⟩, a3, a4⟩ := E3 i e hi
        refine ⟨⟨s, by rw [xo 34 i q]; exact a1, a2⟩, ?_, by rw [xo 35 i q]; exact a4⟩
        unfold entR at a3 ⊢
        rw [xo 35 i q, xo 36 i q]
        exact a3
    · rw [ec]
      funext i
      rw [vu_p (by omega), vu_p (by omega), vu_p (by omega), vu_p (by omega)]
    · rw [ec]
      funext i
      rw [vu_p (by omega), vu_p (by omega), vu_p (by omega), vu_p (by omega)]
  · exact h.elim
theorem lay_r (h : R_mp_lay p0 p1 cf ca cf' ca' v) : (∀ j : Nat, ¬ j = 48 → ¬ j = 54 → cf' j = cf j) ∧ (∀ f : Nat, ¬ f = 49 → ¬ f = 50 → ¬ f = 51 → ¬ f = 52 → ca' f = ca f) := by
  rcases h with ⟨z1, h1, (⟨h2, (⟨h3, z7, h4, z9, h5, z10, h6, e0, e1, ev⟩ | ⟨h3, z12, h4, z14, h5, z15, h6, e0, e1, ev⟩)⟩ | ⟨h2, (⟨h3, z19, h4, z21, h5, z22, h6, e0, e1, ev⟩ | ⟨h3, z24, h4, z26, h5, z27, h6, e0, e1, ev⟩)⟩)⟩ | h
  case inr => exact h.elim
  all_goals
    rw [e0, e1]
    exact ⟨fun j q1 q2 => by rw [pk_un q2, pk_un q1], fun f q1 q2 q3 q4 => by rw [va_up_n q4, va_up_n q3, va_up_n q2, va_up_n q1]⟩
/-- a cell is laid, then the name is known -/
theorem layk {y0 y1 w : Int32} {cf1 cf2 : Nat → Int32} {ca1 : Nat → Nat → Int32} (S : CkS k vl c na ca0 n38 M0 L sc cf ca ma) (hL : R_mp_lay y0 y1 cf1 ca cf2 ca1 w) (e33 : cf1 33 = cf 33) (e37 : cf1 37 = cf 37) (e38 : cf1 38 = cf 38) (hM : MgO na M0 (ma' 22)) (hK : R_mp_know p0 p1 p2 p3 cf2 ca1 cf' ca') (hp : p0.toInt = (t : Int)) (htc : t < c) (h16 : k t = 16) (hw : 1 ≤ p1.toInt ∧ p1.toInt ≤ 4) (hl : L.length < 100000) : CkS k vl c na ca0 n38 M0 (L ++ [(vl t, if p1.toInt = 4 then ((0 : Int), p2) else (p1.toInt, (0 : Int32)))]) sc cf' ca' ma' ∧ ∀ j : Nat, ¬ j = 33 → ¬ j = 48 → ¬ j = 54 → cf' j = cf1 j := by
  obtain ⟨a1, a2⟩ := lay_r hL
  have E1 : EnvR k vl c cf2 ca1 L := S.1.cav ((a1 33 (by decide) (by decide)).trans e33) (a2 34 (by decide) (by decide) (by decide) (by decide)) (a2 35 (by decide) (by decide) (by decide) (by decide)) (a2 36 (by decide) (by decide) (by decide) (by decide))
  obtain ⟨b1, b2, b3, b4⟩ := know_e hK E1 hp htc h16 hw hl
  have fr : ∀ j : Nat, ¬ j = 33 → ¬ j = 48 → ¬ j = 54 → cf' j = cf1 j := fun j q1 q2 q3 => (b2 j q1).trans (a1 j q2 q3)
  refine ⟨⟨b1, ((fr 38 (by decide) (by decide) (by decide)).trans e38).trans S.2.1, (b3.trans (a2 39 (by decide) (by decide) (by decide) (by decide))).trans S.2.2.1, hM, ?_, ?_⟩, fr⟩
  · rw [fr 37 (by decide) (by decide) (by decide), e37]; exact S.2.2.2.2.1
  · exact ⟨by rw [List.length_append]; have := S.2.2.2.2.2.1; omega, (b4.trans (a2 40 (by decide) (by decide) (by decide) (by decide))).trans S.2.2.2.2.2.2⟩
end SB
