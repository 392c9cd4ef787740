theorem pxe_tc_enumeration  {fo : Option Nat} {ta : Nat → Nat → Int32} {cn : Nat} {nf : Nat → Int32} {na : Nat → Nat → Int32} {ff : Nat → Int32} {fg : Nat → Option Nat}  {cf' : Nat → Int32} {tf' : Nat → Int32} {fp' : Nat → Int32} {cd' : Nat → Int32} {own' : Bool} {lq' : Nat} {lc' : Nat} {lf' : Nat → Int32} {lg' : Nat → Option Nat} {P' : va_W}  : ∀ (k pc_ : Nat) (ls_ : List Int32) (lw_ : List Int64) (qs_ : List (Option Nat)) (fs_ : List (Nat → Int32)) (ad_ : List Nat) (cf : Nat → Int32) (tf : Nat → Int32) (fp : Nat → Int32) (cd : Nat → Int32) (own : Bool) (lq : Nat) (lc : Nat) (lf : Nat → Int32) (lg : Nat → Option Nat) (P : va_W), E_tc_enumeration  fo ta cn nf na ff fg cf' tf' fp' cd' own' lq' lc' lf' lg' P'  k pc_ ls_ lw_ qs_ fs_ ad_ cf tf fp cd own lq lc lf lg P → PX P P' := by
  intro k
  induction k with
  | zero => intro _ _ _ _ _ _ _ _ _ _ _ _ _ _ _ _ h; exact h.elim
  | succ k ih =>
    intro pc_ ls_ lw_ qs_ fs_ ad_ cf tf fp cd own lq lc lf lg P h
    rcases h with ⟨-, tf171, h1, tf182, h2, hE⟩ | ⟨-, x22_1, x22_2, x22_3, -, -, -, -, -, (⟨h1, tf47, h2, tf56, h3, e0, e1, e2, e3, e4, e5, e6, e7, e8, e9⟩ | ⟨h1, (⟨h2, tf67, h3, tf76, h4, e0, e1, e2, e3, e4, e5, e6, e7, e8, e9⟩ | ⟨h2, q85, v87, h3, tf91, h4, tf100, v102, h5, (⟨h6, hE⟩ | ⟨h6, tf116, fp117, cd118, hx119, ox120, fx121, h7, tf152, fp153, cd154, fx155, h8, hE⟩)⟩)⟩)⟩ | ⟨-, x107_1, x107_3, x107_4, sf_107, hy_107, -, -, -, -, -, P1, h1, tf8, own9, lq10, lc11, lf12, lg13, h2, z32, h3, tf33, v35, h4, z44, h5, hE⟩ | h
    · exact PX.tr PX.rf (ih _ _ _ _ _ _ _ _ _ _ _ _ _ _ _ _ hE)
    · rw [e9]; exact PX.rf
    · rw [e9]; exact PX.rf
    · exact PX.tr PX.rf (ih _ _ _ _ _ _ _ _ _ _ _ _ _ _ _ _ hE)
    · exact PX.tr PX.rf (ih _ _ _ _ _ _ _ _ _ _ _ _ _ _ _ _ hE)
    · exact PX.tr (PX.tr PX.rf ⟨_, h1⟩) (ih _ _ _ _ _ _ _ _ _ _ _ _ _ _ _ _ hE)
    · exact h.elim
theorem pxr_tc_enumeration  {fo : Option Nat} {ta : Nat → Nat → Int32} {cn : Nat} {nf : Nat → Int32} {na : Nat → Nat → Int32} {ff : Nat → Int32} {fg : Nat → Option Nat} {cf : Nat → Int32} {tf : Nat → Int32} {fp : Nat → Int32} {cd : Nat → Int32} {own : Bool} {lq : Nat} {lc : Nat} {lf : Nat → Int32} {lg : Nat → Option Nat} {P : va_W} {cf' : Nat → Int32} {tf' : Nat → Int32} {fp' : Nat → Int32} {cd' : Nat → Int32} {own' : Bool} {lq' : Nat} {lc' : Nat} {lf' : Nat → Int32} {lg' : Nat → Option Nat} {P' : va_W}  (h : R_tc_enumeration  fo ta cn nf na ff fg cf tf fp cd own lq lc lf lg P cf' tf' fp' cd' own' lq' lc' lf' lg' P') : PX P P' := by
  obtain ⟨k, h⟩ := h
  exact pxe_tc_enumeration  k _ _ _ _ _ _ _ _ _ _ _ _ _ _ _ _ h
/-- its addresses only grow -/
def PA (P P' : va_W) : Prop := ∃ Y : List Nat, P'.map (fun x => x.1) = P.map (fun x => x.1) ++ Y
theorem PA.rf {P : va_W} : PA P P := ⟨[], (List.append_nil _).symm⟩
theorem PA.tr {P Q R : va_W} (h : PA P Q) (k : PA Q R) : PA P R := by
  obtain ⟨Y, h⟩ := h
  obtain ⟨Z, k⟩ := k
  exact ⟨Y ++ Z, by rw [k, h, List.append_assoc]⟩
theorem PX.pa {P Q : va_W} (h : PX P Q) : PA P Q := by
  obtain ⟨X, rfl⟩ := h
  exact ⟨X.map (fun x => x.1), by rw [List.map_append]⟩
theorem pa_set {P : va_W} {j q : Nat} {x y : va_E} (h : P[j]? = some (q, x)) : (P.set j (q, y)).map (fun x => x.1) = P.map (fun x => x.1) := by
  rw [List.map_set]
  have e : (P.map (fun x => x.1))[j]? = some q := by rw [List.getElem?_map, h]; rfl
  obtain ⟨hl, e'⟩ := List.getElem?_eq_some_iff.mp e
  have := List.set_getElem_self (as := P.map (fun x => x.1)) hl
  rw [e'] at this
  exact this
theorem par_nw_addWant {fa : Nat} {p0 : Int32} {nf nf' : Nat → Int32} {na na' : Nat → Nat → Int32} {P P' : va_W} (h : R_nw_addWant fa p0 nf na P nf' na' P') : PA P P' := by
  rcases h with (⟨h1, e0, e1, e2⟩ | ⟨h1, z4, h2, j5, s6, h3, z9, h4, P10, h5, e0, e1, e2⟩) | h
  · rw [e2]; exact PA.rf
  · rw [e2, h5]
    refine ⟨[], ?_⟩
    rw [List.append_nil]
    exact pa_set h3
  · exact h.elim
theorem par_nw_addFunction  {nf : Nat → Int32} {p0 : Int32} {p1 : Int32} {fq : Nat} {fc : Nat} {ff : Nat → Int32} {fg : Nat → Option Nat} {P : va_W} {fq' : Nat} {fc' : Nat} {ff' : Nat → Int32} {fg' : Nat → Option Nat} {P' : va_W} {v : Option Nat}  (h : R_nw_addFunction  nf p0 p1 fq fc ff fg P fq' fc' ff' fg' P' v) : PA P P' := by
  rcases h with ⟨q1, v5, h1, P8, h2, lq9, lc10, lf11, lg12, v14, h3, h4, e0, e1, e2, e3, e4, ev⟩ | h
  · rw [e4]; exact (PA.tr PA.rf (PX.pa ⟨_, h2⟩))
  · exact h.elim
theorem pae_tc_parameter  {fo : Option Nat} {ta : Nat → Nat → Int32} {ff : Nat → Int32} {fg : Nat → Option Nat}  {cf' : Nat → Int32} {tf' : Nat → Int32} {nf' : Nat → Int32} {na' : Nat → Nat → Int32} {own' : Bool} {lq' : Nat} {lc' : Nat} {lf' : Nat → Int32} {lg' : Nat → Option Nat} {P' : va_W}  : ∀ (k pc_ : Nat) (ls_ : List Int32) (lw_ : List Int64) (qs_ : List (Option Nat)) (fs_ : List (Nat → Int32)) (ad_ : List Nat) (cf : Nat → Int32) (tf : Nat → Int32) (nf : Nat → Int32) (na : Nat → Nat → Int32) (own : Bool) (lq : Nat) (lc : Nat) (lf : Nat → Int32) (lg : Nat → Option Nat) (P : va_W), E_tc_parameter  fo ta ff fg cf' tf' nf' na' own' lq' lc' lf' lg' P'  k pc_ ls_ lw_ qs_ fs_ ad_ cf tf nf na own lq lc lf lg P → PA P P' := by
  intro k
  induction k with
  | zero => intro _ _ _ _ _ _ _ _ _ _ _ _ _ _ _ _ h; exact h.elim
  | succ k ih =>
    intro pc_ ls_ lw_ qs_ fs_ ad_ cf tf nf na own lq lc lf lg P h
    rcases h with ⟨-, v196, h1, (⟨h2, hE⟩ | ⟨h2, (⟨h3, hE⟩ | ⟨h3, tf204, h4, hE⟩)⟩)⟩ | ⟨-, x25_1, -, -, -, -, -, tf102, h1, q113, v115, h2, (⟨h3, tf121, h4, v131, h5, (⟨h6, hE⟩ | ⟨h6, tf139, h7, tf148, h8, z157, h9, hE⟩)⟩ | ⟨h3, tf158, h4, v168, h5, (⟨h6, hE⟩ | ⟨h6, tf176, h7, tf185, h8, z194, h9, hE⟩)⟩)⟩ | ⟨-, x140_1, x140_2, x140_4, sf_140, hy_140, -, -, -, -, -, (⟨h1, z35, h2, (⟨h3, hE⟩ | ⟨h3, (⟨h4, hE⟩ | ⟨q39, h4, (⟨h5, nf46, na47, P48, h6, hE⟩ | ⟨h5, z55, h6, nf59, na60, P61, h7, hE⟩)⟩)⟩)⟩ | ⟨h1, z69, h2, (⟨h3, hE⟩ | ⟨h3, (⟨h4, hE⟩ | ⟨q73, h4, (⟨h5, nf80, na81, P82, h6, hE⟩ | ⟨h5, z89, h6, nf93, na94, P95, h7, hE⟩)⟩)⟩)⟩)⟩ | ⟨-, x197_2, sf_197, hy_197, -, -, -, -, -, P1, h1, tf8, own9, lq10, lc11, lf12, lg13, h2, e0, e1, e2, e3, e4, e5, e6, e7, e8, e9⟩ | h
    · exact PA.tr PA.rf (ih _ _ _ _ _ _ _ _ _ _ _ _ _ _ _ _ hE)
    · exact PA.tr PA.rf (ih _ _ _ _ _ _ _ _ _ _ _ _ _ _ _ _ hE)
    · exact PA.tr PA.rf (ih _ _ _ _ _ _ _ _ _ _ _ _ _ _ _ _ hE)
    · exact PA.tr PA.rf (ih _ _ _ _ _ _ _ _ _ _ _ _ _ _ _ _ hE)
    · exact PA.tr PA.rf (ih _ _ _ _ _ _ _ _ _ _ _ _ _ _ _ _ hE)
    · exact PA.tr PA.rf (ih _ _ _ _ _ _ _ _ _ _ _ _ _ _ _ _ hE)
    · exact PA.tr PA.rf (ih _ _ _ _ _ _ _ _ _ _ _ _ _ _ _ _ hE)
    · exact PA.tr PA.rf (ih _ _ _ _ _ _ _ _ _ _ _ _ _ _ _ _ hE)
    · exact PA.tr PA.rf (ih _ _ _ _ _ _ _ _ _ _ _ _ _ _ _ _ hE)
    · exact PA.tr (PA.tr PA.rf (par_nw_addWant h6)) (ih _ _ _ _ _ _ _ _ _ _ _ _ _ _ _ _ hE)
    · exact PA.tr (PA.tr PA.rf (par_nw_addWant h7)) (ih _ _ _ _ _ _ _ _ _ _ _ _ _ _ _ _ hE)
    · exact PA.tr PA.rf (ih _ _ _ _ _ _ _ _ _ _ _ _ _ _ _ _ hE)
    · exact PA.tr PA.rf (ih _ _ _ _ _ _ _ _ _ _ _ _ _ _ _ _ hE)
    · exact PA.tr (PA.tr PA.rf (par_nw_addWant h6)) (ih _ _ _ _ _ _ _ _ _ _ _ _ _ _ _ _ hE)
    · exact PA.tr (PA.tr PA.rf (par_nw_addWant h7)) (ih _ _ _ _ _ _ _ _ _ _ _ _ _ _ _ _ hE)
    · rw [e9]; exact (PA.tr PA.rf (PX.pa ⟨_, h1⟩))
    · exact h.elim
theorem par_tc_parameter  {fo : Option Nat} {ta : Nat → Nat → Int32} {ff : Nat → Int32} {fg : Nat → Option Nat} {cf : Nat → Int32} {tf : Nat → Int32} {nf : Nat → Int32} {na : Nat → Nat → Int32} {own : Bool} {lq : Nat} {lc : Nat} {lf : Nat → Int32} {lg : Nat → Option Nat} {P : va_W} {cf' : Nat → Int32} {tf' : Nat → Int32} {nf' : Nat → Int32} {na' : Nat → Nat → Int32} {own' : Bool} {lq' : Nat} {lc' : Nat} {lf' : Nat → Int32} {lg' : Nat → Option Nat} {P' : va_W}  (h : R_tc_parameter  fo ta ff fg cf tf nf na own lq lc lf lg P cf' tf' nf' na' own' lq' lc' lf' lg' P') : PA P P' := by
  obtain ⟨k, h⟩ := h
  exact pae_tc_parameter  k _ _ _ _ _ _ _ _ _ _ _ _ _ _ _ _ h
theorem pae_tc_header  {ta : Nat → Nat → Int32} {p0 : Int32}  {cf' : Nat → Int32} {fo' : Option Nat} {tf' : Nat → Int32} {nf' : Nat → Int32} {na' : Nat → Nat → Int32} {own' : Bool} {lq' : Nat} {lc' : Nat} {lf' : Nat → Int32} {lg' : Nat → Option Nat} {fq' : Nat} {fc' : Nat} {ff' : Nat → Int32} {fg' : Nat → Option Nat} {P' : va_W}  : ∀ (k pc_ : Nat) (ls_ : List Int32) (lw_ : List Int64) (qs_ : List (Option Nat)) (fs_ : List (Nat → Int32)) (ad_ : List Nat) (cf : Nat → Int32) (fo : Option Nat) (tf : Nat → Int32) (nf : Nat → Int32) (na : Nat → Nat → Int32) (own : Bool) (lq : Nat) (lc : Nat) (lf : Nat → Int32) (lg : Nat → Option Nat) (fq : Nat) (fc : Nat) (ff : Nat → Int32) (fg : Nat → Option Nat) (P : va_W), E_tc_header  ta p0 cf' fo' tf' nf' na' own' lq' lc' lf' lg' fq' fc' ff' fg' P'  k pc_ ls_ lw_ qs_ fs_ ad_ cf fo tf nf na own lq lc lf lg fq fc ff fg P → PA P P' := by
  intro k
  induction k with
  | zero => intro _ _ _ _ _ _ _ _ _ _ _ _ _ _ _ _ _ _ _ _ _ h; exact h.elim
  | succ k ih =>
    intro pc_ ls_ lw_ qs_ fs_ ad_ cf fo tf nf na own lq lc lf lg fq fc ff fg P h
    rcases h with ⟨-, v133, h1, (⟨h2, z138, h3, v140, h4, v144, h5, (⟨h6, hE⟩ | ⟨h6, tf149, h7, hE⟩)⟩ | ⟨h2, fq163, fc164, ff165, fg166, P167, v169, h3, v184, h4, (⟨h5, hE⟩ | ⟨h5, tf189, h6, hE⟩)⟩)⟩ | ⟨-, -, -, -, -, -, z82, h1, nf84, v86, h2, tf92, h3, tf103, h4, v113, h5, (⟨h6, hE⟩ | ⟨h6, tf119, v121, h7, (⟨h8, hE⟩ | ⟨h8, hE⟩)⟩)⟩ | ⟨-, x151_3, x151_4, -, -, -, -, -, (⟨h1, tf3, h2, e0, e1, e2, e3, e4, e5, e6, e7, e8, e9, e10, e11, e12, e13, e14⟩ | ⟨h1, (⟨h2, tf14, h3, e0, e1, e2, e3, e4, e5, e6, e7, e8, e9, e10, e11, e12, e13, e14⟩ | ⟨h2, cf33, tf34, nf35, na36, own37, lq38, lc39, lf40, lg41, P42, h3, tf69, v71, h4, z80, h5, hE⟩)⟩)⟩ | h
    · exact PA.tr PA.rf (ih _ _ _ _ _ _ _ _ _ _ _ _ _ _ _ _ _ _ _ _ _ hE)
    · exact PA.tr PA.rf (ih _ _ _ _ _ _ _ _ _ _ _ _ _ _ _ _ _ _ _ _ _ hE)
    · exact PA.tr (PA.tr PA.rf (par_nw_addFunction h3)) (ih _ _ _ _ _ _ _ _ _ _ _ _ _ _ _ _ _ _ _ _ _ hE)
    · exact PA.tr (PA.tr PA.rf (par_nw_addFunction h3)) (ih _ _ _ _ _ _ _ _ _ _ _ _ _ _ _ _ _ _ _ _ _ hE)
    · exact PA.tr PA.rf (ih _ _ _ _ _ _ _ _ _ _ _ _ _ _ _ _ _ _ _ _ _ hE)
    · exact PA.tr PA.rf (ih _ _ _ _ _ _ _ _ _ _ _ _ _ _ _ _ _ _ _ _ _ hE)
    · exact PA.tr PA.rf (ih _ _ _ _ _ _ _ _ _ _ _ _ _ _ _ _ _ _ _ _ _ hE)
    · rw [e14]; exact PA.rf
    · rw [e14]; exact PA.rf
    · exact PA.tr (PA.tr PA.rf (par_tc_parameter h3)) (ih _ _ _ _ _ _ _ _ _ _ _ _ _ _ _ _ _ _ _ _ _ hE)
    · exact h.elim
theorem par_tc_header  {ta : Nat → Nat → Int32} {p0 : Int32} {cf : Nat → Int32} {fo : Option Nat} {tf : Nat → Int32} {nf : Nat → Int32} {na : Nat → Nat → Int32} {own : Bool} {lq : Nat} {lc : Nat} {lf : Nat → Int32} {lg : Nat → Option Nat} {fq : Nat} {fc : Nat} {ff : Nat → Int32} {fg : Nat → Option Nat} {P : va_W} {cf' : Nat → Int32} {fo' : Option Nat} {tf' : Nat → Int32} {nf' : Nat → Int32} {na' : Nat → Nat → Int32} {own' : Bool} {lq' : Nat} {lc' : Nat} {lf' : Nat → Int32} {lg' : Nat → Option Nat} {fq' : Nat} {fc' : Nat} {ff' : Nat → Int32} {fg' : Nat → Option Nat} {P' : va_W}  (h : R_tc_header  ta p0 cf fo tf nf na own lq lc lf lg fq fc ff fg P cf' fo' tf' nf' na' own' lq' lc' lf' lg' fq' fc' ff' fg' P') : PA P P' := by
  obtain ⟨k, h⟩ := h
  exact pae_tc_header  k _ _ _ _ _ _ _ _ _ _ _ _ _ _ _ _ _ _ _ _ _ h
theorem pae_tc_item  {ta : Nat → Nat → Int32} {cn : Nat} {sn : Nat}  {cf' : Nat → Int32} {fo' : Option Nat} {tf' : Nat → Int32} {fp' : Nat → Int32} {cd' : Nat → Int32} {nf' : Nat → Int32} {na' : Nat → Nat → Int32} {own' : Bool} {lq' : Nat} {lc' : Nat} {lf' : Nat → Int32} {lg' : Nat → Option Nat} {fq' : Nat} {fc' : Nat} {ff' : Nat → Int32} {fg' : Nat → Option Nat} {P' : va_W} {fs' : Nat → Int32} {sd' : Nat → Int32} {v : Int32}  : ∀ (k pc_ : Nat) (ls_ : List Int32) (lw_ : List Int64) (qs_ : List (Option Nat)) (fs_ : List (Nat → Int32)) (ad_ : List Nat) (cf : Nat → Int32) (fo : Option Nat) (tf : Nat → Int32) (fp : Nat → Int32) (cd : Nat → Int32) (nf : Nat → Int32) (na : Nat → Nat → Int32) (own : Bool) (lq : Nat) (lc : Nat) (lf : Nat → Int32) (lg : Nat → Option Nat) (fq : Nat) (fc : Nat) (ff : Nat → Int32) (fg : Nat → Option Nat) (P : va_W) (fs : Nat → Int32) (sd : Nat → Int32), E_tc_item  ta cn sn cf' fo' tf' fp' cd' nf' na' own' lq' lc' lf' lg' fq' fc' ff' fg' P' fs' sd' v  k pc_ ls_ lw_ qs_ fs_ ad_ cf fo tf fp cd nf na own lq lc lf lg fq fc ff fg P fs sd → PA P P' := by
  intro k
  induction k with
  | zero => intro _ _ _ _ _ _ _ _ _ _ _ _ _ _ _ _ _ _ _ _ _ _ _ _ _ h; exact h.elim
  | succ k ih =>
    intro pc_ ls_ lw_ qs_ fs_ ad_ cf fo tf fp cd nf na own lq lc lf lg fq fc ff fg P fs sd h
    rcases h with ⟨-, v69, h1, (⟨h2, (⟨h3, tf77, h4, v89, h5, (⟨h6, (⟨h7, hE⟩ | ⟨h7, tf97, h8, tf106, h9, hE⟩)⟩ | ⟨h6, v116, h7, (⟨h8, (⟨h9, hE⟩ | ⟨h9, tf122, h10, tf131, h11, hE⟩)⟩ | ⟨h8, cf155, fo156, tf157, nf158, na159, own160, lq161, lc162, lf163, lg164, fq165, fc166, ff167, fg168, P169, h9, e0, e1, e2, e3, e4, e5, e6, e7, e8, e9, e10, e11, e12, e13, e14, e15, e16, e17, e18, ev⟩)⟩)⟩ | ⟨h3, (⟨h4, tf199, h5, v211, h6, (⟨h7, (⟨h8, hE⟩ | ⟨h8, tf219, h9, tf228, h10, hE⟩)⟩ | ⟨h7, v238, h8, (⟨h9, (⟨h10, hE⟩ | ⟨h10, tf244, h11, tf253, h12, hE⟩)⟩ | ⟨h9, cf277, fo278, tf279, nf280, na281, own282, lq283, lc284, lf285, lg286, fq287, fc288, ff289, fg290, P291, h10, e0, e1, e2, e3, e4, e5, e6, e7, e8, e9, e10, e11, e12, e13, e14, e15, e16, e17, e18, ev⟩)⟩)⟩ | ⟨h4, (⟨h5, tf321, h6, v333, h7, (⟨h8, (⟨h9, hE⟩ | ⟨h9, tf341, h10, tf350, h11, hE⟩)⟩ | ⟨h8, v360, h9, (⟨h10, (⟨h11, hE⟩ | ⟨h11, tf366, h12, tf375, h13, hE⟩)⟩ | ⟨h10, cf399, fo400, tf401, nf402, na403, own404, lq405, lc406, lf407, lg408, fq409, fc410, ff411, fg412, P413, h11, e0, e1, e2, e3, e4, e5, e6, e7, e8, e9, e10, e11, e12, e13, e14, e15, e16, e17, e18, ev⟩)⟩)⟩ | ⟨h5, tf441, h6, e0, e1, e2, e3, e4, e5, e6, e7, e8, e9, e10, e11, e12, e13, e14, e15, e16, e17, e18, ev⟩)⟩)⟩)⟩ | ⟨h2, cf460, tf461, fp462, cd463, own464, lq465, lc466, lf467, lg468, P469, h3, e0, e1, e2, e3, e4, e5, e6, e7, e8, e9, e10, e11, e12, e13, e14, e15, e16, e17, e18, ev⟩)⟩ | ⟨-, x102_1, -, -, -, -, -, cf13, tf14, fp15, cd16, own17, lq18, lc19, lf20, lg21, P22, fs23, sd24, h1, tf59, h2, e0, e1, e2, e3, e4, e5, e6, e7, e8, e9, e10, e11, e12, e13, e14, e15, e16, e17, e18, ev⟩ | h
    · exact PA.tr PA.rf (ih _ _ _ _ _ _ _ _ _ _ _ _ _ _ _ _ _ _ _ _ _ _ _ _ _ hE)
    · exact PA.tr PA.rf (ih _ _ _ _ _ _ _ _ _ _ _ _ _ _ _ _ _ _ _ _ _ _ _ _ _ hE)
    · exact PA.tr PA.rf (ih _ _ _ _ _ _ _ _ _ _ _ _ _ _ _ _ _ _ _ _ _ _ _ _ _ hE)
    · exact PA.tr PA.rf (ih _ _ _ _ _ _ _ _ _ _ _ _ _ _ _ _ _ _ _ _ _ _ _ _ _ hE)
    · rw [e16]; exact (PA.tr PA.rf (par_tc_header h9))
    · exact PA.tr PA.rf (ih _ _ _ _ _ _ _ _ _ _ _ _ _ _ _ _ _ _ _ _ _ _ _ _ _ hE)
    · exact PA.tr PA.rf (ih _ _ _ _ _ _ _ _ _ _ _ _ _ _ _ _ _ _ _ _ _ _ _ _ _ hE)
    · exact PA.tr PA.rf (ih _ _ _ _ _ _ _ _ _ _ _ _ _ _ _ _ _ _ _ _ _ _ _ _ _ hE)
    · exact PA.tr PA.rf (ih _ _ _ _ _ _ _ _ _ _ _ _ _ _ _ _ _ _ _ _ _ _ _ _ _ hE)
    · rw [e16]; exact (PA.tr PA.rf (par_tc_header h10))
    · exact PA.tr PA.rf (ih _ _ _ _ _ _ _ _ _ _ _ _ _ _ _ _ _ _ _ _ _ _ _ _ _ hE)
    · exact PA.tr PA.rf (ih _ _ _ _ _ _ _ _ _ _ _ _ _ _ _ _ _ _ _ _ _ _ _ _ _ hE)
    · exact PA.tr PA.rf (ih _ _ _ _ _ _ _ _ _ _ _ _ _ _ _ _ _ _ _ _ _ _ _ _ _ hE)
    · exact PA.tr PA.rf (ih _ _ _ _ _ _ _ _ _ _ _ _ _ _ _ _ _ _ _ _ _ _ _ _ _ hE)
    · rw [e16]; exact (PA.tr PA.rf (par_tc_header h11))
    · rw [e16]; exact PA.rf
    · rw [e16]; exact (PA.tr PA.rf (PX.pa (pxr_tc_enumeration h3)))
    · rw [e16]; exact (PA.tr PA.rf (PX.pa (pxr_tc_variables h1)))
    · exact h.elim
theorem par_tc_item  {ta : Nat → Nat → Int32} {cn : Nat} {sn : Nat} {cf : Nat → Int32} {fo : Option Nat} {tf : Nat → Int32} {fp : Nat → Int32} {cd : Nat → Int32} {nf : Nat → Int32} {na : Nat → Nat → Int32} {own : Bool} {lq : Nat} {lc : Nat} {lf : Nat → Int32} {lg : Nat → Option Nat} {fq : Nat} {fc : Nat} {ff : Nat → Int32} {fg : Nat → Option Nat} {P : va_W} {fs : Nat → Int32} {sd : Nat → Int32} {cf' : Nat → Int32} {fo' : Option Nat} {tf' : Nat → Int32} {fp' : Nat → Int32} {cd' : Nat → Int32} {nf' : Nat → Int32} {na' : Nat → Nat → Int32} {own' : Bool} {lq' : Nat} {lc' : Nat} {lf' : Nat → Int32} {lg' : Nat → Option Nat} {fq' : Nat} {fc' : Nat} {ff' : Nat → Int32} {fg' : Nat → Option Nat} {P' : va_W} {fs' : Nat → Int32} {sd' : Nat → Int32} {v : Int32}  (h : R_tc_item  ta cn sn cf fo tf fp cd nf na own lq lc lf lg fq fc ff fg P fs sd cf' fo' tf' fp' cd' nf' na' own' lq' lc' lf' lg' fq' fc' ff' fg' P' fs' sd' v) : PA P P' := by
  obtain ⟨k, h⟩ := h
  exact pae_tc_item  k _ _ _ _ _ _ _ _ _ _ _ _ _ _ _ _ _ _ _ _ _ _ _ _ _ h
theorem pae_tc_compile  {sn9 : Nat} {sb : Nat → Int32} {tp : Nat} {tb : Nat → Int32} {cn : Nat} {fn : Nat} {sn : Nat} {p0 : Int32}  {cf' : Nat → Int32} {ca' : Nat → Nat → Int32} {fo' : Option Nat} {tf' : Nat → Int32} {ta' : Nat → Nat → Int32} {ob6' : Option Nat} {fp' : Nat → Int32} {cd' : Nat → Int32} {ft' : Nat → Int32} {nf' : Nat → Int32} {na' : Nat → Nat → Int32} {own' : Bool} {lq' : Nat} {lc' : Nat} {lf' : Nat → Int32} {lg' : Nat → Option Nat} {fq' : Nat} {fc' : Nat} {ff' : Nat → Int32} {fg' : Nat → Option Nat} {P' : va_W} {fs' : Nat → Int32} {sd' : Nat → Int32} {v : Int32}  : ∀ (k pc_ : Nat) (ls_ : List Int32) (lw_ : List Int64) (qs_ : List (Option Nat)) (fs_ : List (Nat → Int32)) (ad_ : List Nat) (cf : Nat → Int32) (ca : Nat → Nat → Int32) (fo : Option Nat) (tf : Nat → Int32) (ta : Nat → Nat → Int32) (ob6 : Option Nat) (fp : Nat → Int32) (cd : Nat → Int32) (ft : Nat → Int32) (nf : Nat → Int32) (na : Nat → Nat → Int32) (own : Bool) (lq : Nat) (lc : Nat) (lf : Nat → Int32) (lg : Nat → Option Nat) (fq : Nat) (fc : Nat) (ff : Nat → Int32) (fg : Nat → Option Nat) (P : va_W) (fs : Nat → Int32) (sd : Nat → Int32), E_tc_compile  sn9 sb tp tb cn fn sn p0 cf' ca' fo' tf' ta' ob6' fp' cd' ft' nf' na' own' lq' lc' lf' lg' fq' fc' ff' fg' P' fs' sd' v  k pc_ ls_ lw_ qs_ fs_ ad_ cf ca fo tf ta ob6 fp cd ft nf na own lq lc lf lg fq fc ff fg P fs sd → PA P P' := by
  intro k
  induction k with
  | zero => intro _ _ _ _ _ _ _ _ _ _ _ _ _ _ _ _ _ _ _ _ _ _ _ _ _ _ _ _ _ h; exact h.elim
  | succ k ih =>
    intro pc_ ls_ lw_ qs_ fs_ ad_ cf ca fo tf ta ob6 fp cd ft nf na own lq lc lf lg fq fc ff fg P fs sd h
    rcases h with ⟨-, tf438, ta439, h1, nf445, ff446, fg447, h2, h3, cf470, fo471, tf472, fp473, cd474, nf475, lf476, lg477, fs478, sd479, h4, hE⟩ | ⟨-, x53_3, x53_4, -, -, -, -, -, (⟨h1, hE⟩ | ⟨h1, (⟨h2, hE⟩ | ⟨h2, v330, h3, (⟨h4, hE⟩ | ⟨h4, cf363, fo364, tf365, fp366, cd367, nf368, na369, own370, lq371, lc372, lf373, lg374, fq375, fc376, ff377, fg378, P379, fs380, sd381, v383, h5, (⟨h6, z421, h7, hE⟩ | ⟨h6, hE⟩)⟩)⟩)⟩)⟩ | ⟨-, x86_3, x86_4, -, -, -, -, -, tf203, h1, cf236, ca237, tf238, fp239, cd240, nf241, own242, lq243, lc244, lf245, lg246, P247, fs248, sd249, h2, tf289, h3, hE⟩ | ⟨-, x123_3, x123_4, x123_5, x123_6, -, -, -, -, -, cf154, fo155, tf156, fp157, cd158, ft159, nf160, lf161, lg162, h1, z195, h2, hE⟩ | ⟨-, x137_3, x137_4, -, -, -, -, -, z1, h1, (⟨h2, (⟨h3, tf9, fs10, sd11, h4, e0, e1, e2, e3, e4, e5, e6, e7, e8, e9, e10, e11, e12, e13, e14, e15, e16, e17, e18, e19, e20, e21, e22, ev⟩ | ⟨h3, e0, e1, e2, e3, e4, e5, e6, e7, e8, e9, e10, e11, e12, e13, e14, e15, e16, e17, e18, e19, e20, e21, e22, ev⟩)⟩ | ⟨h2, (⟨h3, (⟨h4, tf50, fs51, sd52, h5, e0, e1, e2, e3, e4, e5, e6, e7, e8, e9, e10, e11, e12, e13, e14, e15, e16, e17, e18, e19, e20, e21, e22, ev⟩ | ⟨h4, e0, e1, e2, e3, e4, e5, e6, e7, e8, e9, e10, e11, e12, e13, e14, e15, e16, e17, e18, e19, e20, e21, e22, ev⟩)⟩ | ⟨h3, h4, cf96, fo97, tf98, fp99, cd100, nf101, lf102, lg103, fs104, sd105, h5, hE⟩)⟩)⟩ | h
    · exact PA.tr PA.rf (ih _ _ _ _ _ _ _ _ _ _ _ _ _ _ _ _ _ _ _ _ _ _ _ _ _ _ _ _ _ hE)
    · exact PA.tr PA.rf (ih _ _ _ _ _ _ _ _ _ _ _ _ _ _ _ _ _ _ _ _ _ _ _ _ _ _ _ _ _ hE)
    · exact PA.tr PA.rf (ih _ _ _ _ _ _ _ _ _ _ _ _ _ _ _ _ _ _ _ _ _ _ _ _ _ _ _ _ _ hE)
    · exact PA.tr PA.rf (ih _ _ _ _ _ _ _ _ _ _ _ _ _ _ _ _ _ _ _ _ _ _ _ _ _ _ _ _ _ hE)
    · exact PA.tr (PA.tr PA.rf (par_tc_item h5)) (ih _ _ _ _ _ _ _ _ _ _ _ _ _ _ _ _ _ _ _ _ _ _ _ _ _ _ _ _ _ hE)
    · exact PA.tr (PA.tr PA.rf (par_tc_item h5)) (ih _ _ _ _ _ _ _ _ _ _ _ _ _ _ _ _ _ _ _ _ _ _ _ _ _ _ _ _ _ hE)
    · exact PA.tr (PA.tr PA.rf (PX.pa (pxr_tc_statements (pxl_RLs 61) h2))) (ih _ _ _ _ _ _ _ _ _ _ _ _ _ _ _ _ _ _ _ _ _ _ _ _ _ _ _ _ _ hE)
    · exact PA.tr PA.rf (ih _ _ _ _ _ _ _ _ _ _ _ _ _ _ _ _ _ _ _ _ _ _ _ _ _ _ _ _ _ hE)
    · rw [e20]; exact PA.rf
    · rw [e20]; exact PA.rf
    · rw [e20]; exact PA.rf
    · rw [e20]; exact PA.rf
    · exact PA.tr PA.rf (ih _ _ _ _ _ _ _ _ _ _ _ _ _ _ _ _ _ _ _ _ _ _ _ _ _ _ _ _ _ hE)
    · exact h.elim
theorem par_tc_compile  {sn9 : Nat} {sb : Nat → Int32} {tp : Nat} {tb : Nat → Int32} {cn : Nat} {fn : Nat} {sn : Nat} {p0 : Int32} {cf : Nat → Int32} {ca : Nat → Nat → Int32} {fo : Option Nat} {tf : Nat → Int32} {ta : Nat → Nat → Int32} {ob6 : Option Nat} {fp : Nat → Int32} {cd : Nat → Int32} {ft : Nat → Int32} {nf : Nat → Int32} {na : Nat → Nat → Int32} {own : Bool} {lq : Nat} {lc : Nat} {lf : Nat → Int32} {lg : Nat → Option Nat} {fq : Nat} {fc : Nat} {ff : Nat → Int32} {fg : Nat → Option Nat} {P : va_W} {fs : Nat → Int32} {sd : Nat → Int32} {cf' : Nat → Int32} {ca' : Nat → Nat → Int32} {fo' : Option Nat} {tf' : Nat → Int32} {ta' : Nat → Nat → Int32} {ob6' : Option Nat} {fp' : Nat → Int32} {cd' : Nat → Int32} {ft' : Nat → Int32} {nf' : Nat → Int32} {na' : Nat → Nat → Int32} {own' : Bool} {lq' : Nat} {lc' : Nat} {lf' : Nat → Int32} {lg' : Nat → Option Nat} {fq' : Nat} {fc' : Nat} {ff' : Nat → Int32} {fg' : Nat → Option Nat} {P' : va_W} {fs' : Nat → Int32} {sd' : Nat → Int32} {v : Int32}  (h : R_tc_compile  sn9 sb tp tb cn fn sn p0 cf ca fo tf ta ob6 fp cd ft nf na own lq lc lf lg fq fc ff fg P fs sd cf' ca' fo' tf' ta' ob6' fp' cd' ft' nf' na' own' lq' lc' lf' lg' fq' fc' ff' fg' P' fs' sd' v) : PA P P' := by
  obtain ⟨k, h⟩ := h
  exact pae_tc_compile  k _ _ _ _ _ _ _ _ _ _ _ _ _ _ _ _ _ _ _ _ _ _ _ _ _ _ _ _ _ h
