/-! the class: the ten functions stay through a text, also one that fails -/
theorem nkr_nw_clear {own : Bool} {nf lf nf' lf' : Nat → Int32} {lg lg' : Nat → Option Nat} (h : R_nw_clear own nf lf lg nf' lf' lg') : NK nf nf' := by
  cases own with
  | true =>
    have h' : R_nw_clear_T nf lf lg nf' lf' lg' := h
    rcases h' with ⟨lf1, lg2, k1, e0, e1, e2⟩ | h'
    · rw [e0]; exact NK.up NK.rf
    · exact h'.elim
  | false =>
    have h' : R_nw_clear_F nf lf lg nf' lf' lg' := h
    rcases h' with ⟨lf1, k1, e0, e1, e2⟩ | h'
    · rw [e0]; exact NK.up NK.rf
    · exact h'.elim
theorem nke_tc_endFunction  {cn : Nat} {fn : Nat} {own : Bool} {p0 : Int32} {p1 : Int32}  {cf' : Nat → Int32} {fo' : Option Nat} {tf' : Nat → Int32} {fp' : Nat → Int32} {cd' : Nat → Int32} {ft' : Nat → Int32} {nf' : Nat → Int32} {lf' : Nat → Int32} {lg' : Nat → Option Nat}  : ∀ (k pc_ : Nat) (ls_ : List Int32) (lw_ : List Int64) (qs_ : List (Option Nat)) (fs_ : List (Nat → Int32)) (ad_ : List Nat) (cf : Nat → Int32) (fo : Option Nat) (tf : Nat → Int32) (fp : Nat → Int32) (cd : Nat → Int32) (ft : Nat → Int32) (nf : Nat → Int32) (lf : Nat → Int32) (lg : Nat → Option Nat), E_tc_endFunction  cn fn own p0 p1 cf' fo' tf' fp' cd' ft' nf' lf' lg'  k pc_ ls_ lw_ qs_ fs_ ad_ cf fo tf fp cd ft nf lf lg → NK nf nf' := by
  intro k
  induction k with
  | zero => intro _ _ _ _ _ _ _ _ _ _ _ _ _ _ _ h; exact h.elim
  | succ k ih =>
    intro pc_ ls_ lw_ qs_ fs_ ad_ cf fo tf fp cd ft nf lf lg h
    rcases h with ⟨-, fp25, cd26, v28, h1, fp33, cd34, v36, h2, z40, h3, z42, h4, (⟨h5, hE⟩ | ⟨h5, v46, h6, tf49, h7, hE⟩)⟩ | ⟨-, x60_3, -, -, -, -, -, z2, h1, ft4, h2, nf12, lf13, lg14, h3, e0, e1, e2, e3, e4, e5, e6, e7, e8⟩ | h
    · exact NK.tr NK.rf (ih _ _ _ _ _ _ _ _ _ _ _ _ _ _ _ hE)
    · exact NK.tr NK.rf (ih _ _ _ _ _ _ _ _ _ _ _ _ _ _ _ hE)
    · rw [e6]; exact (NK.tr NK.rf (nkr_nw_leave h3))
    · exact h.elim
theorem nkr_tc_endFunction  {cn : Nat} {fn : Nat} {own : Bool} {p0 : Int32} {p1 : Int32} {cf : Nat → Int32} {fo : Option Nat} {tf : Nat → Int32} {fp : Nat → Int32} {cd : Nat → Int32} {ft : Nat → Int32} {nf : Nat → Int32} {lf : Nat → Int32} {lg : Nat → Option Nat} {cf' : Nat → Int32} {fo' : Option Nat} {tf' : Nat → Int32} {fp' : Nat → Int32} {cd' : Nat → Int32} {ft' : Nat → Int32} {nf' : Nat → Int32} {lf' : Nat → Int32} {lg' : Nat → Option Nat}  (h : R_tc_endFunction  cn fn own p0 p1 cf fo tf fp cd ft nf lf lg cf' fo' tf' fp' cd' ft' nf' lf' lg') : NK nf nf' := by
  obtain ⟨k, h⟩ := h
  exact nke_tc_endFunction  k _ _ _ _ _ _ _ _ _ _ _ _ _ _ _ h
theorem nkr_tc_startOver0  {own : Bool} {cf : Nat → Int32} {fo : Option Nat} {tf : Nat → Int32} {fp : Nat → Int32} {cd : Nat → Int32} {nf : Nat → Int32} {lf : Nat → Int32} {lg : Nat → Option Nat} {fs : Nat → Int32} {sd : Nat → Int32} {cf' : Nat → Int32} {fo' : Option Nat} {tf' : Nat → Int32} {fp' : Nat → Int32} {cd' : Nat → Int32} {nf' : Nat → Int32} {lf' : Nat → Int32} {lg' : Nat → Option Nat} {fs' : Nat → Int32} {sd' : Nat → Int32}  (h : R_tc_startOver0  own cf fo tf fp cd nf lf lg fs sd cf' fo' tf' fp' cd' nf' lf' lg' fs' sd') : NK nf nf' := by
  rcases h with ⟨tf1, h1, nf13, lf14, lg15, h2, e0, e1, e2, e3, e4, e5, e6, e7, e8, e9⟩ | h
  · rw [e5]; exact (NK.tr NK.rf (nkr_nw_clear h2))
  · exact h.elim
section TP
variable {nf nf' nf'' : Nat → Int32} {na na' na'' : Nat → Nat → Int32} {ff ff' ff'' : Nat → Int32} {fg fg' fg'' : Nat → Option Nat} {P P' P'' : va_W}
/-- the ten stay: their places, what they want, their symbols -/
def TnS (nf : Nat → Int32) (na : Nat → Nat → Int32) (ff : Nat → Int32) (fg : Nat → Option Nat) (P : va_W) (nf' : Nat → Int32) (na' : Nat → Nat → Int32) (ff' : Nat → Int32) (fg' : Nat → Option Nat) (P' : va_W) : Prop := PA P P' ∧ (ND P' → 10 ≤ (ff 1).toInt → 14 ≤ (nf 3).toInt → 10 ≤ (ff' 1).toInt ∧ 14 ≤ (nf' 3).toInt ∧ (∀ i : Nat, i < 10 → fg' i = fg i) ∧ (∀ j : Nat, j < 14 → na' 2 j = na 2 j) ∧ ∀ (q i : Nat) (s : Nat → Int32), i < 10 → fg i = some q → SymAt P q s → SymAt P' q s)
theorem TnS.rf : TnS nf na ff fg P nf na ff fg P := ⟨PA.rf, fun _ a b => ⟨a, b, fun _ _ => rfl, fun _ _ => rfl, fun _ _ _ _ _ h => h⟩⟩
theorem TnS.tr (h : TnS nf na ff fg P nf' na' ff' fg' P') (k : TnS nf' na' ff' fg' P' nf'' na'' ff'' fg'' P'') : TnS nf na ff fg P nf'' na'' ff'' fg'' P'' := by
  refine ⟨h.1.tr k.1, fun hn a b => ?_⟩
  obtain ⟨h1, h2, h3, h4, h5⟩ := h.2 (ND.pa k.1 hn) a b
  obtain ⟨k1, k2, k3, k4, k5⟩ := k.2 hn h1 h2
  exact ⟨k1, k2, fun i hi => (k3 i hi).trans (h3 i hi), fun j hj => (k4 j hj).trans (h4 j hj), fun q i s hi hf hs => k5 q i s hi ((h3 i hi).trans hf) (h5 q i s hi hf hs)⟩
theorem sym_ap {q : Nat} {s : Nat → Int32} {X : va_W} (h : SymAt P q s) : SymAt (P ++ X) q s := by
  obtain ⟨j, hj⟩ := h
  exact ⟨j, by rw [List.getElem?_append_left (List.getElem?_eq_some_iff.mp hj).1]; exact hj⟩
theorem TnS.px (hp : PX P P') (hk : NK nf nf') : TnS nf na ff fg P nf' na ff fg P' := by
  refine ⟨hp.pa, fun _ a b => ⟨a, ?_, fun _ _ => rfl, fun _ _ => rfl, fun q i s _ _ hs => ?_⟩⟩
  · have e : nf' 3 = nf 3 := hk
    rw [e]; exact b
  · obtain ⟨X, rfl⟩ := hp
    exact sym_ap hs
theorem tn_fgt (h : R_nw_forget nf ff fg nf' ff' fg') : TnS nf na ff fg P nf' na ff' fg' P := by
  refine ⟨PA.rf, fun _ a b => ?_⟩
  obtain ⟨m, h⟩ := h
  obtain ⟨m2, v14, h1, z17, h2, hE_1⟩ := iv_nw_forget_0 h
  rcases h1 with q | q
  · have hi := Int32.toInt_lt (ff 1)
    obtain ⟨d, hd⟩ : ∃ d : Nat, (ff 1).toInt = 10 + (d : Int) := ⟨((ff 1).toInt - 10).toNat, by omega⟩
    have hz := ti_sub h2 (by rw [q]) (show (1 : Int32).toInt = 1 from rfl) (by omega) (by omega)
    obtain ⟨g1, g2, g3⟩ := fgt_18 d _ m2 _ _ hE_1 (by omega) hd (by omega)
    exact ⟨by omega, by rw [g1, pk_us]; decide, g3, fun _ _ => rfl, fun _ _ _ _ _ hs => hs⟩
  · exact q.elim
/-- one more is wanted by q0: every other symbol stays -/
theorem tn_aw {q0 : Nat} {w : Int32} (h : R_nw_addWant q0 w nf na P nf' na' P') : (14 ≤ (nf 3).toInt → 14 ≤ (nf' 3).toInt ∧ ∀ j : Nat, j < 14 → na' 2 j = na 2 j) ∧ ∀ (q : Nat) (s : Nat → Int32), ¬ q = q0 → SymAt P q s → SymAt P' q s := by
  rcases h with (⟨h1, e0, e1, e2⟩ | ⟨h1, z4, h2, j5, s6, h3, z9, h4, P10, h5, e0, e1, e2⟩) | h
  · rw [e0, e1, e2]; exact ⟨fun b => ⟨b, fun _ _ => rfl⟩, fun _ _ _ hs => hs⟩
  · rw [e0, e1, e2, h5]
    refine ⟨fun b => ?_, fun q s hq hs => ?_⟩
    · have z := ti_add h2 rfl (show (1 : Int32).toInt = 1 from rfl) (by omega) (by omega)
      refine ⟨by rw [pk_us]; omega, fun j hj => ?_⟩
      have en : (nf 3).toNatClampNeg = (nf 3).toInt.toNat := rfl
      rw [va_up_s, pk_un (by rw [en]; omega)]
    · obtain ⟨j, hj⟩ := hs
      refine ⟨j, ?_⟩
      by_cases e : j = j5
      · subst e
        rw [h3] at hj
        exact absurd (congrArg Prod.fst (Option.some.inj hj)).symm hq
      · rw [List.getElem?_set_ne (fun y => e y.symm)]; exact hj
  · exact h.elim
/-- parameters: only the function that is read may be changed, in the first pass -/
def TnP (fo : Option Nat) (cf : Nat → Int32) (nf : Nat → Int32) (na : Nat → Nat → Int32) (P : va_W) (cf' : Nat → Int32) (nf' : Nat → Int32) (na' : Nat → Nat → Int32) (P' : va_W) : Prop := cf' 8 = cf 8 ∧ (14 ≤ (nf 3).toInt → 14 ≤ (nf' 3).toInt ∧ ∀ j : Nat, j < 14 → na' 2 j = na 2 j) ∧ ∀ (q : Nat) (s : Nat → Int32), ¬ (¬ (cf 8).toInt = 0 ∧ fo = some q) → SymAt P q s → SymAt P' q s
theorem TnP.rf {fo : Option Nat} {cf : Nat → Int32} : TnP fo cf nf na P cf nf na P := ⟨rfl, fun b => ⟨b, fun _ _ => rfl⟩, fun _ _ _ hs => hs⟩
theorem TnP.tr {fo : Option Nat} {cf cf' cf'' : Nat → Int32} (h : TnP fo cf nf na P cf' nf' na' P') (k : TnP fo cf' nf' na' P' cf'' nf'' na'' P'') : TnP fo cf nf na P cf'' nf'' na'' P'' := by
  refine ⟨k.1.trans h.1, fun b => ?_, fun q s hq hs => ?_⟩
  · obtain ⟨h1, h2⟩ := h.2.1 b
    obtain ⟨k1, k2⟩ := k.2.1 h1
    exact ⟨k1, fun j hj => (k2 j hj).trans (h2 j hj)⟩
  · exact k.2.2 q s (by rw [h.1]; exact hq) (h.2.2 q s hq hs)
theorem TnP.aw {fo : Option Nat} {cf : Nat → Int32} {q0 : Nat} {w : Int32} (h8 : ¬ (cf 8).toInt = 0) (hf : fo = some q0) (h : R_nw_addWant q0 w nf na P nf' na' P') : TnP fo cf nf na P cf nf' na' P' := by
  obtain ⟨h1, h2⟩ := tn_aw h
  exact ⟨rfl, h1, fun q s hq hs => h2 q s (fun e => hq ⟨h8, by rw [hf, e]⟩) hs⟩
theorem TnP.cf {fo : Option Nat} {cf cf' cf'' : Nat → Int32} (h : TnP fo cf nf na P cf' nf' na' P') (e : cf'' 8 = cf' 8) : TnP fo cf nf na P cf'' nf' na' P' := ⟨e.trans h.1, h.2.1, h.2.2⟩
theorem TnP.px {fo : Option Nat} {cf : Nat → Int32} {X : va_W} (hp : P' = P ++ X) : TnP fo cf nf na P cf nf na P' := ⟨rfl, fun b => ⟨b, fun _ _ => rfl⟩, fun q s _ hs => by rw [hp]; exact sym_ap hs⟩
end TP
section TQ
variable {fo : Option Nat} {ta : Nat → Nat → Int32} {ff : Nat → Int32} {fg : Nat → Option Nat} {cf tf nf lf cf' tf' nf' lf' : Nat → Int32} {na na' : Nat → Nat → Int32} {own own' : Bool} {lq lc lq' lc' : Nat} {lg lg' : Nat → Option Nat} {P P' : va_W}
theorem tp_197 {k : Nat} {x2 : Int32} {sf : Nat → Int32} {hy : Nat} (h : E_tc_parameter fo ta ff fg cf' tf' nf' na' own' lq' lc' lf' lg' P' k 197 [x2] [] [] [sf] [hy] cf tf nf na own lq lc lf lg P) : TnP fo cf nf na P cf' nf' na' P' := by
  obtain ⟨m2, P1, h1, tf8, own9, lq10, lc11, lf12, lg13, h2, e0, e1, e2, e3, e4, e5, e6, e7, e8, e9⟩ := iv_tc_parameter_197 h
  rw [e0, e2, e3, e9]
  exact TnP.px h1
theorem tp_140 {k : Nat} {x1 x2 x4 : Int32} {sf : Nat → Int32} {hy : Nat} (h : E_tc_parameter fo ta ff fg cf' tf' nf' na' own' lq' lc' lf' lg' P' k 140 [x1, x2, x4] [] [] [sf] [hy] cf tf nf na own lq lc lf lg P) : TnP fo cf nf na P cf' nf' na' P' := by
  rcases iv_tc_parameter_140 h with ⟨m2, (⟨h1, z35, h2, (⟨h3, hE⟩ | ⟨h3, (⟨h4, hE⟩ | ⟨q39, h4, (⟨h5, nf46, na47, P48, h6, hE⟩ | ⟨h5, z55, h6, nf59, na60, P61, h7, hE⟩)⟩)⟩)⟩ | ⟨h1, z69, h2, (⟨h3, hE⟩ | ⟨h3, (⟨h4, hE⟩ | ⟨q73, h4, (⟨h5, nf80, na81, P82, h6, hE⟩ | ⟨h5, z89, h6, nf93, na94, P95, h7, hE⟩)⟩)⟩)⟩)⟩
  all_goals first
    | exact (TnP.cf TnP.rf (pk_un (by decide))).tr (tp_197 hE)
    | exact (TnP.cf (TnP.aw h3 h4 h6) (pk_un (by decide))).tr (tp_197 hE)
    | exact (TnP.cf (TnP.aw h3 h4 h7) (pk_un (by decide))).tr (tp_197 hE)
theorem tp_25 {k : Nat} {x1 : Int32} (h : E_tc_parameter fo ta ff fg cf' tf' nf' na' own' lq' lc' lf' lg' P' k 25 [x1] [] [] [] [] cf tf nf na own lq lc lf lg P) : TnP fo cf nf na P cf' nf' na' P' := by
  rcases iv_tc_parameter_25 h with ⟨m2, tf102, h1, q113, v115, h2, (⟨h3, tf121, h4, v131, h5, (⟨h6, hE⟩ | ⟨h6, tf139, h7, tf148, h8, z157, h9, hE⟩)⟩ | ⟨h3, tf158, h4, v168, h5, (⟨h6, hE⟩ | ⟨h6, tf176, h7, tf185, h8, z194, h9, hE⟩)⟩)⟩
  all_goals exact tp_140 hE
theorem tp_r (h : R_tc_parameter fo ta ff fg cf tf nf na own lq lc lf lg P cf' tf' nf' na' own' lq' lc' lf' lg' P') : TnP fo cf nf na P cf' nf' na' P' := by
  obtain ⟨k, h⟩ := h
  rcases iv_tc_parameter_0 h with ⟨m2, v196, h1, (⟨h2, hE⟩ | ⟨h2, (⟨h3, hE⟩ | ⟨h3, tf204, h4, hE⟩)⟩)⟩
  all_goals exact tp_25 hE
/-- a new function: behind all others -/
theorem af_r {p0 p1 : Int32} {fq fc fq' fc' : Nat} {ff' : Nat → Int32} {fg' : Nat → Option Nat} {v : Option Nat} (h : R_nw_addFunction nf p0 p1 fq fc ff fg P fq' fc' ff' fg' P' v) : ∃ (q1 : Nat) (X : Nat → Int32), v = some q1 ∧ P' = P ++ [syC q1 X] ∧ (∀ j : Nat, (j : Int) < (ff 1).toInt → fg' j = fg j) ∧ (ff' 1).toInt = (ff 1).toInt + 1 := by
  rcases h with ⟨q1, v5, h1, P8, h2, lq9, lc10, lf11, lg12, v14, h3, h4, e0, e1, e2, e3, e4, ev⟩ | h
  · exact ⟨q1, _, ev, by rw [e4, h2], fun j hj => by rw [e3]; exact h3.1 j hj, by rw [e2]; exact h4⟩
  · exact h.elim
end TQ
section TR
variable {ta : Nat → Nat → Int32} {p0 : Int32} {fo fo' : Option Nat} {cf tf nf lf cf' tf' nf' lf' ff ff' : Nat → Int32} {na na' : Nat → Nat → Int32} {own own' : Bool} {lq lc fq fc lq' lc' fq' fc' : Nat} {lg lg' fg fg' : Nat → Option Nat} {P P' : va_W}
theorem th_151 : ∀ (k : Nat) (x3 x4 : Int32) (cf : Nat → Int32) (fo : Option Nat) (tf nf : Nat → Int32) (na : Nat → Nat → Int32) (own : Bool) (lq lc : Nat) (lf : Nat → Int32) (lg : Nat → Option Nat) (fq fc : Nat) (ff : Nat → Int32) (fg : Nat → Option Nat) (P : va_W), E_tc_header ta p0 cf' fo' tf' nf' na' own' lq' lc' lf' lg' fq' fc' ff' fg' P' k 151 [x3, x4] [] [] [] [] cf fo tf nf na own lq lc lf lg fq fc ff fg P → TnP fo cf nf na P cf' nf' na' P' ∧ ff' = ff ∧ fg' = fg ∧ PA P P' := by
  intro k
  induction k with
  | zero => intro x3 x4 cf fo tf nf na own lq lc lf lg fq fc ff fg P h; exact h.elim
  | succ k ih =>
    intro x3 x4 cf fo tf nf na own lq lc lf lg fq fc ff fg P h
    rcases h with ⟨q, -⟩ | ⟨q, -⟩ | ⟨-, b0, b1, q1, q2, q3, q4, q5, hb⟩ | h
    · exact absurd q (by decide)
    · exact absurd q (by decide)
    · cases q1; cases q2; cases q3; cases q4; cases q5
      rcases hb with (⟨h1, tf3, h2, e0, e1, e2, e3, e4, e5, e6, e7, e8, e9, e10, e11, e12, e13, e14⟩ | ⟨h1, (⟨h2, tf14, h3, e0, e1, e2, e3, e4, e5, e6, e7, e8, e9, e10, e11, e12, e13, e14⟩ | ⟨h2, cf33, tf34, nf35, na36, own37, lq38, lc39, lf40, lg41, P42, h3, tf69, v71, h4, z80, h5, hE⟩)⟩)
      · rw [e0, e3, e4, e12, e13, e14]; exact ⟨TnP.rf, rfl, rfl, PA.rf⟩
      · rw [e0, e3, e4, e12, e13, e14]; exact ⟨TnP.rf, rfl, rfl, PA.rf⟩
      · obtain ⟨g1, g2, g3, g4⟩ := ih _ _ _ _ _ _ _ _ _ _ _ _ _ _ _ _ _ hE
        exact ⟨(tp_r h3).tr g1, g2, g3, (par_tc_parameter h3).tr g4⟩
    · exact h.elim
theorem th_75 {k : Nat} (h : E_tc_header ta p0 cf' fo' tf' nf' na' own' lq' lc' lf' lg' fq' fc' ff' fg' P' k 75 [] [] [] [] [] cf fo tf nf na own lq lc lf lg fq fc ff fg P) : TnP fo cf nf na P cf' nf' na' P' ∧ ff' = ff ∧ fg' = fg ∧ PA P P' := by
  rcases iv_tc_header_75 h with ⟨m2, z82, h1, nf84, v86, h2, tf92, h3, tf103, h4, v113, h5, (⟨h6, hE⟩ | ⟨h6, tf119, v121, h7, (⟨h8, hE⟩ | ⟨h8, hE⟩)⟩)⟩
  all_goals
    obtain ⟨g1, g2, g3, g4⟩ := th_151 _ _ _ _ _ _ _ _ _ _ _ _ _ _ _ _ _ _ hE
    have en : NK nf nf84 := nkr_nw_enter h2
    have e3 : nf84 3 = nf 3 := en
    refine ⟨⟨g1.1.trans ?_, fun b => g1.2.1 (by rw [e3]; exact b), fun q s hq hs => g1.2.2 q s ?_ hs⟩, g2, g3, g4⟩
    · rw [pk_un (by decide), pk_un (by decide), pk_un (by decide)]
    · rw [pk_un (by decide), pk_un (by decide), pk_un (by decide)]; exact hq
theorem tn_hd (h : R_tc_header ta p0 cf fo tf nf na own lq lc lf lg fq fc ff fg P cf' fo' tf' nf' na' own' lq' lc' lf' lg' fq' fc' ff' fg' P') : TnS nf na ff fg P nf' na' ff' fg' P' := by
  refine ⟨par_tc_header h, fun hn a b => ?_⟩
  obtain ⟨k, h⟩ := h
  have old : ∀ {m2 : Nat} {fo1 : Option Nat} {tf1 : Nat → Int32}, (cf 8).toInt = 0 → E_tc_header ta p0 cf' fo' tf' nf' na' own' lq' lc' lf' lg' fq' fc' ff' fg' P' m2 75 [] [] [] [] [] cf fo1 tf1 nf na own lq lc lf lg fq fc ff fg P → 10 ≤ (ff' 1).toInt ∧ 14 ≤ (nf' 3).toInt ∧ (∀ i : Nat, i < 10 → fg' i = fg i) ∧ (∀ j : Nat, j < 14 → na' 2 j = na 2 j) ∧ ∀ (q i : Nat) (s : Nat → Int32), i < 10 → fg i = some q → SymAt P q s → SymAt P' q s := by
    intro m2 fo1 tf1 h8 hE
    obtain ⟨g1, g2, g3, -⟩ := th_75 hE
    obtain ⟨w1, w2⟩ := g1.2.1 b
    exact ⟨by rw [g2]; exact a, w1, fun i _ => by rw [g3], w2, fun q i s _ _ hs => g1.2.2 q s (fun w => w.1 h8) hs⟩
  have new : ∀ {m2 : Nat} {v9 : Option Nat} {tf1 ff1 : Nat → Int32} {fg1 : Nat → Option Nat} {fq1 fc1 : Nat} {P1 : va_W} {w : Int32}, R_nw_addFunction nf w p0 fq fc ff fg P fq1 fc1 ff1 fg1 P1 v9 → E_tc_header ta p0 cf' fo' tf' nf' na' own' lq' lc' lf' lg' fq' fc' ff' fg' P' m2 75 [] [] [] [] [] cf v9 tf1 nf na own lq lc lf lg fq1 fc1 ff1 fg1 P1 → 10 ≤ (ff' 1).toInt ∧ 14 ≤ (nf' 3).toInt ∧ (∀ i : Nat, i < 10 → fg' i = fg i) ∧ (∀ j : Nat, j < 14 → na' 2 j = na 2 j) ∧ ∀ (q i : Nat) (s : Nat → Int32), i < 10 → fg i = some q → SymAt P q s → SymAt P' q s := by
    intro m2 v9 tf1 ff1 fg1 fq1 fc1 P1 w ha hE
    obtain ⟨q1, X, a1, a2, a3, a4⟩ := af_r ha
    obtain ⟨g1, g2, g3, g4⟩ := th_75 hE
    obtain ⟨w1, w2⟩ := g1.2.1 b
    have nd := ND.pa g4 hn
    refine ⟨by rw [g2]; omega, w1, fun i hi => by rw [g3]; exact a3 i (by omega), w2, fun q i s _ _ hs => ?_⟩
    obtain ⟨j, hj⟩ := hs
    have hjl := (List.getElem?_eq_some_iff.mp hj).1
    have s1 : P1[j]? = some (syC q s) := by rw [a2, List.getElem?_append_left hjl]; exact hj
    refine g1.2.2 q s (fun y => ?_) ⟨j, s1⟩
    have e : q1 = q := by
      have := y.2
      rw [a1] at this
      exact Option.some.inj this
    have s2 : P1[P.length]? = some (syC q X) := by rw [a2, List.getElem?_append_right (Nat.le_refl _), Nat.sub_self, e]; rfl
    have := nd j P.length q _ _ s1 s2
    omega
  rcases iv_tc_header_0 h with ⟨m2, v133, h1, (⟨h2, z138, h3, v140, h4, v144, h5, (⟨h6, hE⟩ | ⟨h6, tf149, h7, hE⟩)⟩ | ⟨h2, fq163, fc164, ff165, fg166, P167, v169, h3, v184, h4, (⟨h5, hE⟩ | ⟨h5, tf189, h6, hE⟩)⟩)⟩
  · exact old h2 hE
  · exact old h2 hE
  · exact new h3 hE
  · exact new h3 hE
end TR
theorem tne_tc_item {ta : Nat → Nat → Int32} {cn : Nat} {sn : Nat} {cf' : Nat → Int32} {fo' : Option Nat} {tf' : Nat → Int32} {fp' : Nat → Int32} {cd' : Nat → Int32} {nf' : Nat → Int32} {na' : Nat → Nat → Int32} {own' : Bool} {lq' : Nat} {lc' : Nat} {lf' : Nat → Int32} {lg' : Nat → Option Nat} {fq' : Nat} {fc' : Nat} {ff' : Nat → Int32} {fg' : Nat → Option Nat} {P' : va_W} {fs' : Nat → Int32} {sd' : Nat → Int32} {v : Int32} : ∀ (k pc_ : Nat) (ls_ : List Int32) (lw_ : List Int64) (qs_ : List (Option Nat)) (fs_ : List (Nat → Int32)) (ad_ : List Nat) (cf : Nat → Int32) (fo : Option Nat) (tf : Nat → Int32) (fp : Nat → Int32) (cd : Nat → Int32) (nf : Nat → Int32) (na : Nat → Nat → Int32) (own : Bool) (lq : Nat) (lc : Nat) (lf : Nat → Int32) (lg : Nat → Option Nat) (fq : Nat) (fc : Nat) (ff : Nat → Int32) (fg : Nat → Option Nat) (P : va_W) (fs : Nat → Int32) (sd : Nat → Int32), E_tc_item ta cn sn cf' fo' tf' fp' cd' nf' na' own' lq' lc' lf' lg' fq' fc' ff' fg' P' fs' sd' v k pc_ ls_ lw_ qs_ fs_ ad_ cf fo tf fp cd nf na own lq lc lf lg fq fc ff fg P fs sd → TnS nf na ff fg P nf' na' ff' fg' P' := by
  intro k
  induction k with
  | zero => intro _ _ _ _ _ _ _ _ _ _ _ _ _ _ _ _ _ _ _ _ _ _ _ _ _ h; exact h.elim
  | succ k ih =>
    intro pc_ ls_ lw_ qs_ fs_ ad_ cf fo tf fp cd nf na own lq lc lf lg fq fc ff fg P fs sd h
    rcases h with ⟨-, v69, h1, (⟨h2, (⟨h3, tf77, h4, v89, h5, (⟨h6, (⟨h7, hE⟩ | ⟨h7, tf97, h8, tf106, h9, hE⟩)⟩ | ⟨h6, v116, h7, (⟨h8, (⟨h9, hE⟩ | ⟨h9, tf122, h10, tf131, h11, hE⟩)⟩ | ⟨h8, cf155, fo156, tf157, nf158, na159, own160, lq161, lc162, lf163, lg164, fq165, fc166, ff167, fg168, P169, h9, e0, e1, e2, e3, e4, e5, e6, e7, e8, e9, e10, e11, e12, e13, e14, e15, e16, e17, e18, ev⟩)⟩)⟩ | ⟨h3, (⟨h4, tf199, h5, v211, h6, (⟨h7, (⟨h8, hE⟩ | ⟨h8, tf219, h9, tf228, h10, hE⟩)⟩ | ⟨h7, v238, h8, (⟨h9, (⟨h10, hE⟩ | ⟨h10, tf244, h11, tf253, h12, hE⟩)⟩ | ⟨h9, cf277, fo278, tf279, nf280, na281, own282, lq283, lc284, lf285, lg286, fq287, fc288, ff289, fg290, P291, h10, e0, e1, e2, e3, e4, e5, e6, e7, e8, e9, e10, e11, e12, e13, e14, e15, e16, e17, e18, ev⟩)⟩)⟩ | ⟨h4, (⟨h5, tf321, h6, v333, h7, (⟨h8, (⟨h9, hE⟩ | ⟨h9, tf341, h10, tf350, h11, hE⟩)⟩ | ⟨h8, v360, h9, (⟨h10, (⟨h11, hE⟩ | ⟨h11, tf366, h12, tf375, h13, hE⟩)⟩ | ⟨h10, cf399, fo400, tf401, nf402, na403, own404, lq405, lc406, lf407, lg408, fq409, fc410, ff411, fg412, P413, h11, e0, e1, e2, e3, e4, e5, e6, e7, e8, e9, e10, e11, e12, e13, e14, e15, e16, e17, e18, ev⟩)⟩)⟩ | ⟨h5, tf441, h6, e0, e1, e2, e3, e4, e5, e6, e7, e8, e9, e10, e11, e12, e13, e14, e15, e16, e17, e18, ev⟩)⟩)⟩)⟩ | ⟨h2, cf460, tf461, fp462, cd463, own464, lq465, lc466, lf467, lg468, P469, h3, e0, e1, e2, e3, e4, e5, e6, e7, e8, e9, e10, e11, e12, e13, e14, e15, e16, e17, e18, ev⟩)⟩ | ⟨-, x102_1, -, -, -, -, -, cf13, tf14, fp15, cd16, own17, lq18, lc19, lf20, lg21, P22, fs23, sd24, h1, tf59, h2, e0, e1, e2, e3, e4, e5, e6, e7, e8, e9, e10, e11, e12, e13, e14, e15, e16, e17, e18, ev⟩ | h
    · exact TnS.tr TnS.rf (ih _ _ _ _ _ _ _ _ _ _ _ _ _ _ _ _ _ _ _ _ _ _ _ _ _ hE)
    · exact TnS.tr TnS.rf (ih _ _ _ _ _ _ _ _ _ _ _ _ _ _ _ _ _ _ _ _ _ _ _ _ _ hE)
    · exact TnS.tr TnS.rf (ih _ _ _ _ _ _ _ _ _ _ _ _ _ _ _ _ _ _ _ _ _ _ _ _ _ hE)
    · exact TnS.tr TnS.rf (ih _ _ _ _ _ _ _ _ _ _ _ _ _ _ _ _ _ _ _ _ _ _ _ _ _ hE)
    · rw [e5, e6, e14, e15, e16]; exact (TnS.tr TnS.rf (tn_hd h9))
    · exact TnS.tr TnS.rf (ih _ _ _ _ _ _ _ _ _ _ _ _ _ _ _ _ _ _ _ _ _ _ _ _ _ hE)
    · exact TnS.tr TnS.rf (ih _ _ _ _ _ _ _ _ _ _ _ _ _ _ _ _ _ _ _ _ _ _ _ _ _ hE)
    · exact TnS.tr TnS.rf (ih _ _ _ _ _ _ _ _ _ _ _ _ _ _ _ _ _ _ _ _ _ _ _ _ _ hE)
    · exact TnS.tr TnS.rf (ih _ _ _ _ _ _ _ _ _ _ _ _ _ _ _ _ _ _ _ _ _ _ _ _ _ hE)
    · rw [e5, e6, e14, e15, e16]; exact (TnS.tr TnS.rf (tn_hd h10))
    · exact TnS.tr TnS.rf (ih _ _ _ _ _ _ _ _ _ _ _ _ _ _ _ _ _ _ _ _ _ _ _ _ _ hE)
    · exact TnS.tr TnS.rf (ih _ _ _ _ _ _ _ _ _ _ _ _ _ _ _ _ _ _ _ _ _ _ _ _ _ hE)
    · exact TnS.tr TnS.rf (ih _ _ _ _ _ _ _ _ _ _ _ _ _ _ _ _ _ _ _ _ _ _ _ _ _ hE)
    · exact TnS.tr TnS.rf (ih _ _ _ _ _ _ _ _ _ _ _ _ _ _ _ _ _ _ _ _ _ _ _ _ _ hE)
    · rw [e5, e6, e14, e15, e16]; exact (TnS.tr TnS.rf (tn_hd h11))
    · rw [e5, e6, e14, e15, e16]; exact TnS.rf
    · rw [e5, e6, e14, e15, e16]; exact (TnS.tr TnS.rf (TnS.px (pxr_tc_enumeration h3) NK.rf))
    · rw [e5, e6, e14, e15, e16]; exact (TnS.tr TnS.rf (TnS.px (pxr_tc_variables h1) NK.rf))
    · exact h.elim
theorem tnr_tc_item {ta : Nat → Nat → Int32} {cn : Nat} {sn : Nat} {cf : Nat → Int32} {fo : Option Nat} {tf : Nat → Int32} {fp : Nat → Int32} {cd : Nat → Int32} {nf : Nat → Int32} {na : Nat → Nat → Int32} {own : Bool} {lq : Nat} {lc : Nat} {lf : Nat → Int32} {lg : Nat → Option Nat} {fq : Nat} {fc : Nat} {ff : Nat → Int32} {fg : Nat → Option Nat} {P : va_W} {fs : Nat → Int32} {sd : Nat → Int32} {cf' : Nat → Int32} {fo' : Option Nat} {tf' : Nat → Int32} {fp' : Nat → Int32} {cd' : Nat → Int32} {nf' : Nat → Int32} {na' : Nat → Nat → Int32} {own' : Bool} {lq' : Nat} {lc' : Nat} {lf' : Nat → Int32} {lg' : Nat → Option Nat} {fq' : Nat} {fc' : Nat} {ff' : Nat → Int32} {fg' : Nat → Option Nat} {P' : va_W} {fs' : Nat → Int32} {sd' : Nat → Int32} {v : Int32} (h : R_tc_item ta cn sn cf fo tf fp cd nf na own lq lc lf lg fq fc ff fg P fs sd cf' fo' tf' fp' cd' nf' na' own' lq' lc' lf' lg' fq' fc' ff' fg' P' fs' sd' v) : TnS nf na ff fg P nf' na' ff' fg' P' := by
  obtain ⟨k, h⟩ := h
  exact tne_tc_item k _ _ _ _ _ _ _ _ _ _ _ _ _ _ _ _ _ _ _ _ _ _ _ _ _ h
theorem tne_tc_compile {sn9 : Nat} {sb : Nat → Int32} {tp : Nat} {tb : Nat → Int32} {cn : Nat} {fn : Nat} {sn : Nat} {p0 : Int32} {cf' : Nat → Int32} {ca' : Nat → Nat → Int32} {fo' : Option Nat} {tf' : Nat → Int32} {ta' : Nat → Nat → Int32} {ob6' : Option Nat} {fp' : Nat → Int32} {cd' : Nat → Int32} {ft' : Nat → Int32} {nf' : Nat → Int32} {na' : Nat → Nat → Int32} {own' : Bool} {lq' : Nat} {lc' : Nat} {lf' : Nat → Int32} {lg' : Nat → Option Nat} {fq' : Nat} {fc' : Nat} {ff' : Nat → Int32} {fg' : Nat → Option Nat} {P' : va_W} {fs' : Nat → Int32} {sd' : Nat → Int32} {v : Int32} : ∀ (k pc_ : Nat) (ls_ : List Int32) (lw_ : List Int64) (qs_ : List (Option Nat)) (fs_ : List (Nat → Int32)) (ad_ : List Nat) (cf : Nat → Int32) (ca : Nat → Nat → Int32) (fo : Option Nat) (tf : Nat → Int32) (ta : Nat → Nat → Int32) (ob6 : Option Nat) (fp : Nat → Int32) (cd : Nat → Int32) (ft : Nat → Int32) (nf : Nat → Int32) (na : Nat → Nat → Int32) (own : Bool) (lq : Nat) (lc : Nat) (lf : Nat → Int32) (lg : Nat → Option Nat) (fq : Nat) (fc : Nat) (ff : Nat → Int32) (fg : Nat → Option Nat) (P : va_W) (fs : Nat → Int32) (sd : Nat → Int32), E_tc_compile sn9 sb tp tb cn fn sn p0 cf' ca' fo' tf' ta' ob6' fp' cd' ft' nf' na' own' lq' lc' lf' lg' fq' fc' ff' fg' P' fs' sd' v k pc_ ls_ lw_ qs_ fs_ ad_ cf ca fo tf ta ob6 fp cd ft nf na own lq lc lf lg fq fc ff fg P fs sd → TnS nf na ff fg P nf' na' ff' fg' P' := by
  intro k
  induction k with
  | zero => intro _ _ _ _ _ _ _ _ _ _ _ _ _ _ _ _ _ _ _ _ _ _ _ _ _ _ _ _ _ h; exact h.elim
  | succ k ih =>
    intro pc_ ls_ lw_ qs_ fs_ ad_ cf ca fo tf ta ob6 fp cd ft nf na own lq lc lf lg fq fc ff fg P fs sd h
    rcases h with ⟨-, tf438, ta439, h1, nf445, ff446, fg447, h2, h3, cf470, fo471, tf472, fp473, cd474, nf475, lf476, lg477, fs478, sd479, h4, hE⟩ | ⟨-, x53_3, x53_4, -, -, -, -, -, (⟨h1, hE⟩ | ⟨h1, (⟨h2, hE⟩ | ⟨h2, v330, h3, (⟨h4, hE⟩ | ⟨h4, cf363, fo364, tf365, fp366, cd367, nf368, na369, own370, lq371, lc372, lf373, lg374, fq375, fc376, ff377, fg378, P379, fs380, sd381, v383, h5, (⟨h6, z421, h7, hE⟩ | ⟨h6, hE⟩)⟩)⟩)⟩)⟩ | ⟨-, x86_3, x86_4, -, -, -, -, -, tf203, h1, cf236, ca237, tf238, fp239, cd240, nf241, own242, lq243, lc244, lf245, lg246, P247, fs248, sd249, h2, tf289, h3, hE⟩ | ⟨-, x123_3, x123_4, x123_5, x123_6, -, -, -, -, -, cf154, fo155, tf156, fp157, cd158, ft159, nf160, lf161, lg162, h1, z195, h2, hE⟩ | ⟨-, x137_3, x137_4, -, -, -, -, -, z1, h1, (⟨h2, (⟨h3, tf9, fs10, sd11, h4, e0, e1, e2, e3, e4, e5, e6, e7, e8, e9, e10, e11, e12, e13, e14, e15, e16, e17, e18, e19, e20, e21, e22, ev⟩ | ⟨h3, e0, e1, e2, e3, e4, e5, e6, e7, e8, e9, e10, e11, e12, e13, e14, e15, e16, e17, e18, e19, e20, e21, e22, ev⟩)⟩ | ⟨h2, (⟨h3, (⟨h4, tf50, fs51, sd52, h5, e0, e1, e2, e3, e4, e5, e6, e7, e8, e9, e10, e11, e12, e13, e14, e15, e16, e17, e18, e19, e20, e21, e22, ev⟩ | ⟨h4, e0, e1, e2, e3, e4, e5, e6, e7, e8, e9, e10, e11, e12, e13, e14, e15, e16, e17, e18, e19, e20, e21, e22, ev⟩)⟩ | ⟨h3, h4, cf96, fo97, tf98, fp99, cd100, nf101, lf102, lg103, fs104, sd105, h5, hE⟩)⟩)⟩ | h
    · exact TnS.tr (TnS.tr (TnS.tr TnS.rf (tn_fgt h2)) (TnS.px PX.rf (nkr_tc_startOver0 h4))) (ih _ _ _ _ _ _ _ _ _ _ _ _ _ _ _ _ _ _ _ _ _ _ _ _ _ _ _ _ _ hE)
    · exact TnS.tr TnS.rf (ih _ _ _ _ _ _ _ _ _ _ _ _ _ _ _ _ _ _ _ _ _ _ _ _ _ _ _ _ _ hE)
    · exact TnS.tr TnS.rf (ih _ _ _ _ _ _ _ _ _ _ _ _ _ _ _ _ _ _ _ _ _ _ _ _ _ _ _ _ _ hE)
    · exact TnS.tr TnS.rf (ih _ _ _ _ _ _ _ _ _ _ _ _ _ _ _ _ _ _ _ _ _ _ _ _ _ _ _ _ _ hE)
    · exact TnS.tr (TnS.tr TnS.rf (tnr_tc_item h5)) (ih _ _ _ _ _ _ _ _ _ _ _ _ _ _ _ _ _ _ _ _ _ _ _ _ _ _ _ _ _ hE)
    · exact TnS.tr (TnS.tr TnS.rf (tnr_tc_item h5)) (ih _ _ _ _ _ _ _ _ _ _ _ _ _ _ _ _ _ _ _ _ _ _ _ _ _ _ _ _ _ hE)
    · exact TnS.tr (TnS.tr TnS.rf (TnS.px (pxr_tc_statements (pxl_RLs 61) h2) (nkr_tc_statements (nkl_RLs 61) h2))) (ih _ _ _ _ _ _ _ _ _ _ _ _ _ _ _ _ _ _ _ _ _ _ _ _ _ _ _ _ _ hE)
    · exact TnS.tr (TnS.tr TnS.rf (TnS.px PX.rf (nkr_tc_endFunction h1))) (ih _ _ _ _ _ _ _ _ _ _ _ _ _ _ _ _ _ _ _ _ _ _ _ _ _ _ _ _ _ hE)
    · rw [e9, e10, e18, e19, e20]; exact TnS.rf
    · rw [e9, e10, e18, e19, e20]; exact TnS.rf
    · rw [e9, e10, e18, e19, e20]; exact TnS.rf
    · rw [e9, e10, e18, e19, e20]; exact TnS.rf
    · exact TnS.tr (TnS.tr TnS.rf (TnS.px PX.rf (nkr_tc_startOver0 h5))) (ih _ _ _ _ _ _ _ _ _ _ _ _ _ _ _ _ _ _ _ _ _ _ _ _ _ _ _ _ _ hE)
    · exact h.elim
theorem tnr_tc_compile {sn9 : Nat} {sb : Nat → Int32} {tp : Nat} {tb : Nat → Int32} {cn : Nat} {fn : Nat} {sn : Nat} {p0 : Int32} {cf : Nat → Int32} {ca : Nat → Nat → Int32} {fo : Option Nat} {tf : Nat → Int32} {ta : Nat → Nat → Int32} {ob6 : Option Nat} {fp : Nat → Int32} {cd : Nat → Int32} {ft : Nat → Int32} {nf : Nat → Int32} {na : Nat → Nat → Int32} {own : Bool} {lq : Nat} {lc : Nat} {lf : Nat → Int32} {lg : Nat → Option Nat} {fq : Nat} {fc : Nat} {ff : Nat → Int32} {fg : Nat → Option Nat} {P : va_W} {fs : Nat → Int32} {sd : Nat → Int32} {cf' : Nat → Int32} {ca' : Nat → Nat → Int32} {fo' : Option Nat} {tf' : Nat → Int32} {ta' : Nat → Nat → Int32} {ob6' : Option Nat} {fp' : Nat → Int32} {cd' : Nat → Int32} {ft' : Nat → Int32} {nf' : Nat → Int32} {na' : Nat → Nat → Int32} {own' : Bool} {lq' : Nat} {lc' : Nat} {lf' : Nat → Int32} {lg' : Nat → Option Nat} {fq' : Nat} {fc' : Nat} {ff' : Nat → Int32} {fg' : Nat → Option Nat} {P' : va_W} {fs' : Nat → Int32} {sd' : Nat → Int32} {v : Int32} (h : R_tc_compile sn9 sb tp tb cn fn sn p0 cf ca fo tf ta ob6 fp cd ft nf na own lq lc lf lg fq fc ff fg P fs sd cf' ca' fo' tf' ta' ob6' fp' cd' ft' nf' na' own' lq' lc' lf' lg' fq' fc' ff' fg' P' fs' sd' v) : TnS nf na ff fg P nf' na' ff' fg' P' := by
  obtain ⟨k, h⟩ := h
  exact tne_tc_compile k _ _ _ _ _ _ _ _ _ _ _ _ _ _ _ _ _ _ _ _ _ _ _ _ _ _ _ _ _ h
theorem tae_tc_compile {sn9 : Nat} {sb : Nat → Int32} {tp : Nat} {tb : Nat → Int32} {cn : Nat} {fn : Nat} {sn : Nat} {p0 : Int32} {cf' : Nat → Int32} {ca' : Nat → Nat → Int32} {fo' : Option Nat} {tf' : Nat → Int32} {ta' : Nat → Nat → Int32} {ob6' : Option Nat} {fp' : Nat → Int32} {cd' : Nat → Int32} {ft' : Nat → Int32} {nf' : Nat → Int32} {na' : Nat → Nat → Int32} {own' : Bool} {lq' : Nat} {lc' : Nat} {lf' : Nat → Int32} {lg' : Nat → Option Nat} {fq' : Nat} {fc' : Nat} {ff' : Nat → Int32} {fg' : Nat → Option Nat} {P' : va_W} {fs' : Nat → Int32} {sd' : Nat → Int32} {v : Int32} : ∀ (k pc_ : Nat) (ls_ : List Int32) (lw_ : List Int64) (qs_ : List (Option Nat)) (fs_ : List (Nat → Int32)) (ad_ : List Nat) (cf : Nat → Int32) (ca : Nat → Nat → Int32) (fo : Option Nat) (tf : Nat → Int32) (ta : Nat → Nat → Int32) (ob6 : Option Nat) (fp : Nat → Int32) (cd : Nat → Int32) (ft : Nat → Int32) (nf : Nat → Int32) (na : Nat → Nat → Int32) (own : Bool) (lq : Nat) (lc : Nat) (lf : Nat → Int32) (lg : Nat → Option Nat) (fq : Nat) (fc : Nat) (ff : Nat → Int32) (fg : Nat → Option Nat) (P : va_W) (fs : Nat → Int32) (sd : Nat → Int32), ¬ pc_ = 0 → E_tc_compile sn9 sb tp tb cn fn sn p0 cf' ca' fo' tf' ta' ob6' fp' cd' ft' nf' na' own' lq' lc' lf' lg' fq' fc' ff' fg' P' fs' sd' v k pc_ ls_ lw_ qs_ fs_ ad_ cf ca fo tf ta ob6 fp cd ft nf na own lq lc lf lg fq fc ff fg P fs sd → ta' = ta := by
  intro k
  induction k with
  | zero => intro _ _ _ _ _ _ _ _ _ _ _ _ _ _ _ _ _ _ _ _ _ _ _ _ _ _ _ _ _ _ h; exact h.elim
  | succ k ih =>
    intro pc_ ls_ lw_ qs_ fs_ ad_ cf ca fo tf ta ob6 fp cd ft nf na own lq lc lf lg fq fc ff fg P fs sd hpc h
    rcases h with ⟨q0_, -⟩ | ⟨-, x53_3, x53_4, -, -, -, -, -, (⟨h1, hE⟩ | ⟨h1, (⟨h2, hE⟩ | ⟨h2, v330, h3, (⟨h4, hE⟩ | ⟨h4, cf363, fo364, tf365, fp366, cd367, nf368, na369, own370, lq371, lc372, lf373, lg374, fq375, fc376, ff377, fg378, P379, fs380, sd381, v383, h5, (⟨h6, z421, h7, hE⟩ | ⟨h6, hE⟩)⟩)⟩)⟩)⟩ | ⟨-, x86_3, x86_4, -, -, -, -, -, tf203, h1, cf236, ca237, tf238, fp239, cd240, nf241, own242, lq243, lc244, lf245, lg246, P247, fs248, sd249, h2, tf289, h3, hE⟩ | ⟨-, x123_3, x123_4, x123_5, x123_6, -, -, -, -, -, cf154, fo155, tf156, fp157, cd158, ft159, nf160, lf161, lg162, h1, z195, h2, hE⟩ | ⟨-, x137_3, x137_4, -, -, -, -, -, z1, h1, (⟨h2, (⟨h3, tf9, fs10, sd11, h4, e0, e1, e2, e3, e4, e5, e6, e7, e8, e9, e10, e11, e12, e13, e14, e15, e16, e17, e18, e19, e20, e21, e22, ev⟩ | ⟨h3, e0, e1, e2, e3, e4, e5, e6, e7, e8, e9, e10, e11, e12, e13, e14, e15, e16, e17, e18, e19, e20, e21, e22, ev⟩)⟩ | ⟨h2, (⟨h3, (⟨h4, tf50, fs51, sd52, h5, e0, e1, e2, e3, e4, e5, e6, e7, e8, e9, e10, e11, e12, e13, e14, e15, e16, e17, e18, e19, e20, e21, e22, ev⟩ | ⟨h4, e0, e1, e2, e3, e4, e5, e6, e7, e8, e9, e10, e11, e12, e13, e14, e15, e16, e17, e18, e19, e20, e21, e22, ev⟩)⟩ | ⟨h3, h4, cf96, fo97, tf98, fp99, cd100, nf101, lf102, lg103, fs104, sd105, h5, hE⟩)⟩)⟩ | h
    · exact absurd q0_ hpc
    · exact ih _ _ _ _ _ _ _ _ _ _ _ _ _ _ _ _ _ _ _ _ _ _ _ _ _ _ _ _ _ (by decide) hE
    · exact ih _ _ _ _ _ _ _ _ _ _ _ _ _ _ _ _ _ _ _ _ _ _ _ _ _ _ _ _ _ (by decide) hE
    · exact ih _ _ _ _ _ _ _ _ _ _ _ _ _ _ _ _ _ _ _ _ _ _ _ _ _ _ _ _ _ (by decide) hE
    · exact ih _ _ _ _ _ _ _ _ _ _ _ _ _ _ _ _ _ _ _ _ _ _ _ _ _ _ _ _ _ (by decide) hE
    · exact ih _ _ _ _ _ _ _ _ _ _ _ _ _ _ _ _ _ _ _ _ _ _ _ _ _ _ _ _ _ (by decide) hE
    · exact ih _ _ _ _ _ _ _ _ _ _ _ _ _ _ _ _ _ _ _ _ _ _ _ _ _ _ _ _ _ (by decide) hE
    · exact ih _ _ _ _ _ _ _ _ _ _ _ _ _ _ _ _ _ _ _ _ _ _ _ _ _ _ _ _ _ (by decide) hE
    · exact e4
    · exact e4
    · exact e4
    · exact e4
    · exact ih _ _ _ _ _ _ _ _ _ _ _ _ _ _ _ _ _ _ _ _ _ _ _ _ _ _ _ _ _ (by decide) hE
    · exact h.elim
