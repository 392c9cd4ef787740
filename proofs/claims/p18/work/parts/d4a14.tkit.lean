theorem tke_tc_enumeration  {fo : Option Nat} {ta : Nat → Nat → Int32} {cn : Nat} {nf : Nat → Int32} {na : Nat → Nat → Int32} {ff : Nat → Int32} {fg : Nat → Option Nat}  {cf' : Nat → Int32} {tf' : Nat → Int32} {fp' : Nat → Int32} {cd' : Nat → Int32} {own' : Bool} {lq' : Nat} {lc' : Nat} {lf' : Nat → Int32} {lg' : Nat → Option Nat} {P' : va_W}  : ∀ (k pc_ : Nat) (ls_ : List Int32) (lw_ : List Int64) (qs_ : List (Option Nat)) (fs_ : List (Nat → Int32)) (ad_ : List Nat) (cf : Nat → Int32) (tf : Nat → Int32) (fp : Nat → Int32) (cd : Nat → Int32) (own : Bool) (lq : Nat) (lc : Nat) (lf : Nat → Int32) (lg : Nat → Option Nat) (P : va_W), E_tc_enumeration  fo ta cn nf na ff fg cf' tf' fp' cd' own' lq' lc' lf' lg' P'  k pc_ ls_ lw_ qs_ fs_ ad_ cf tf fp cd own lq lc lf lg P → TK tf tf' := by
  intro k
  induction k with
  | zero => intro _ _ _ _ _ _ _ _ _ _ _ _ _ _ _ _ h; exact h.elim
  | succ k ih =>
    intro pc_ ls_ lw_ qs_ fs_ ad_ cf tf fp cd own lq lc lf lg P h
    rcases h with ⟨-, tf171, h1, tf182, h2, hE⟩ | ⟨-, x22_1, x22_2, x22_3, -, -, -, -, -, (⟨h1, tf47, h2, tf56, h3, e0, e1, e2, e3, e4, e5, e6, e7, e8, e9⟩ | ⟨h1, (⟨h2, tf67, h3, tf76, h4, e0, e1, e2, e3, e4, e5, e6, e7, e8, e9⟩ | ⟨h2, q85, v87, h3, tf91, h4, tf100, v102, h5, (⟨h6, hE⟩ | ⟨h6, tf116, fp117, cd118, hx119, ox120, fx121, h7, tf152, fp153, cd154, fx155, h8, hE⟩)⟩)⟩)⟩ | ⟨-, x107_1, x107_3, x107_4, sf_107, hy_107, -, -, -, -, -, P1, h1, tf8, own9, lq10, lc11, lf12, lg13, h2, z32, h3, tf33, v35, h4, z44, h5, hE⟩ | h
    · exact TK.tr (TK.tr (TK.tr TK.rf (tkr_tk_step h1)) (tkr_tk_open h2)) (ih _ _ _ _ _ _ _ _ _ _ _ _ _ _ _ _ hE)
    · rw [e1]; exact (TK.tr (TK.tr TK.rf (tkr_tk_close h2)) (tkr_tk_expect h3))
    · rw [e1]; exact (TK.tr (TK.tr TK.rf (tkr_tk_close h3)) (tkr_tk_expect h4))
    · exact TK.tr (TK.tr (TK.tr TK.rf (tkr_tk_expect h4)) (tkr_tk_accept h5)) (ih _ _ _ _ _ _ _ _ _ _ _ _ _ _ _ _ hE)
    · exact TK.tr (TK.tr (TK.tr (TK.tr (TK.tr TK.rf (tkr_tk_expect h4)) (tkr_tk_accept h5)) (tkr_ex_parse (tkl_RLp 61) (tkl_RLo 61) h7)) (tkr_ex_settle h8)) (ih _ _ _ _ _ _ _ _ _ _ _ _ _ _ _ _ hE)
    · exact TK.tr (TK.tr (TK.tr TK.rf (tkr_tc_declare h2)) (tkr_tk_accept h4)) (ih _ _ _ _ _ _ _ _ _ _ _ _ _ _ _ _ hE)
    · exact h.elim
theorem tkr_tc_enumeration  {fo : Option Nat} {ta : Nat → Nat → Int32} {cn : Nat} {nf : Nat → Int32} {na : Nat → Nat → Int32} {ff : Nat → Int32} {fg : Nat → Option Nat} {cf : Nat → Int32} {tf : Nat → Int32} {fp : Nat → Int32} {cd : Nat → Int32} {own : Bool} {lq : Nat} {lc : Nat} {lf : Nat → Int32} {lg : Nat → Option Nat} {P : va_W} {cf' : Nat → Int32} {tf' : Nat → Int32} {fp' : Nat → Int32} {cd' : Nat → Int32} {own' : Bool} {lq' : Nat} {lc' : Nat} {lf' : Nat → Int32} {lg' : Nat → Option Nat} {P' : va_W}  (h : R_tc_enumeration  fo ta cn nf na ff fg cf tf fp cd own lq lc lf lg P cf' tf' fp' cd' own' lq' lc' lf' lg' P') : TK tf tf' := by
  obtain ⟨k, h⟩ := h
  exact tke_tc_enumeration  k _ _ _ _ _ _ _ _ _ _ _ _ _ _ _ _ h
theorem tke_tc_parameter  {fo : Option Nat} {ta : Nat → Nat → Int32} {ff : Nat → Int32} {fg : Nat → Option Nat}  {cf' : Nat → Int32} {tf' : Nat → Int32} {nf' : Nat → Int32} {na' : Nat → Nat → Int32} {own' : Bool} {lq' : Nat} {lc' : Nat} {lf' : Nat → Int32} {lg' : Nat → Option Nat} {P' : va_W}  : ∀ (k pc_ : Nat) (ls_ : List Int32) (lw_ : List Int64) (qs_ : List (Option Nat)) (fs_ : List (Nat → Int32)) (ad_ : List Nat) (cf : Nat → Int32) (tf : Nat → Int32) (nf : Nat → Int32) (na : Nat → Nat → Int32) (own : Bool) (lq : Nat) (lc : Nat) (lf : Nat → Int32) (lg : Nat → Option Nat) (P : va_W), E_tc_parameter  fo ta ff fg cf' tf' nf' na' own' lq' lc' lf' lg' P'  k pc_ ls_ lw_ qs_ fs_ ad_ cf tf nf na own lq lc lf lg P → TK tf tf' := by
  intro k
  induction k with
  | zero => intro _ _ _ _ _ _ _ _ _ _ _ _ _ _ _ _ h; exact h.elim
  | succ k ih =>
    intro pc_ ls_ lw_ qs_ fs_ ad_ cf tf nf na own lq lc lf lg P h
    rcases h with ⟨-, v196, h1, (⟨h2, hE⟩ | ⟨h2, (⟨h3, hE⟩ | ⟨h3, tf204, h4, hE⟩)⟩)⟩ | ⟨-, x25_1, -, -, -, -, -, tf102, h1, q113, v115, h2, (⟨h3, tf121, h4, v131, h5, (⟨h6, hE⟩ | ⟨h6, tf139, h7, tf148, h8, z157, h9, hE⟩)⟩ | ⟨h3, tf158, h4, v168, h5, (⟨h6, hE⟩ | ⟨h6, tf176, h7, tf185, h8, z194, h9, hE⟩)⟩)⟩ | ⟨-, x140_1, x140_2, x140_4, sf_140, hy_140, -, -, -, -, -, (⟨h1, z35, h2, (⟨h3, hE⟩ | ⟨h3, (⟨h4, hE⟩ | ⟨q39, h4, (⟨h5, nf46, na47, P48, h6, hE⟩ | ⟨h5, z55, h6, nf59, na60, P61, h7, hE⟩)⟩)⟩)⟩ | ⟨h1, z69, h2, (⟨h3, hE⟩ | ⟨h3, (⟨h4, hE⟩ | ⟨q73, h4, (⟨h5, nf80, na81, P82, h6, hE⟩ | ⟨h5, z89, h6, nf93, na94, P95, h7, hE⟩)⟩)⟩)⟩)⟩ | ⟨-, x197_2, sf_197, hy_197, -, -, -, -, -, P1, h1, tf8, own9, lq10, lc11, lf12, lg13, h2, e0, e1, e2, e3, e4, e5, e6, e7, e8, e9⟩ | h
    · exact TK.tr TK.rf (ih _ _ _ _ _ _ _ _ _ _ _ _ _ _ _ _ hE)
    · exact TK.tr TK.rf (ih _ _ _ _ _ _ _ _ _ _ _ _ _ _ _ _ hE)
    · exact TK.tr (TK.tr TK.rf (tkr_tk_fail h4)) (ih _ _ _ _ _ _ _ _ _ _ _ _ _ _ _ _ hE)
    · exact TK.tr (TK.tr (TK.tr TK.rf (tkr_tk_step h1)) (tkr_tk_expect h4)) (ih _ _ _ _ _ _ _ _ _ _ _ _ _ _ _ _ hE)
    · exact TK.tr (TK.tr (TK.tr (TK.tr (TK.tr TK.rf (tkr_tk_step h1)) (tkr_tk_expect h4)) (tkr_tk_open h7)) (tkr_tk_close h8)) (ih _ _ _ _ _ _ _ _ _ _ _ _ _ _ _ _ hE)
    · exact TK.tr (TK.tr (TK.tr TK.rf (tkr_tk_step h1)) (tkr_tk_expect h4)) (ih _ _ _ _ _ _ _ _ _ _ _ _ _ _ _ _ hE)
    · exact TK.tr (TK.tr (TK.tr (TK.tr (TK.tr TK.rf (tkr_tk_step h1)) (tkr_tk_expect h4)) (tkr_tk_open h7)) (tkr_tk_close h8)) (ih _ _ _ _ _ _ _ _ _ _ _ _ _ _ _ _ hE)
    · exact TK.tr TK.rf (ih _ _ _ _ _ _ _ _ _ _ _ _ _ _ _ _ hE)
    · exact TK.tr TK.rf (ih _ _ _ _ _ _ _ _ _ _ _ _ _ _ _ _ hE)
    · exact TK.tr TK.rf (ih _ _ _ _ _ _ _ _ _ _ _ _ _ _ _ _ hE)
    · exact TK.tr TK.rf (ih _ _ _ _ _ _ _ _ _ _ _ _ _ _ _ _ hE)
    · exact TK.tr TK.rf (ih _ _ _ _ _ _ _ _ _ _ _ _ _ _ _ _ hE)
    · exact TK.tr TK.rf (ih _ _ _ _ _ _ _ _ _ _ _ _ _ _ _ _ hE)
    · exact TK.tr TK.rf (ih _ _ _ _ _ _ _ _ _ _ _ _ _ _ _ _ hE)
    · exact TK.tr TK.rf (ih _ _ _ _ _ _ _ _ _ _ _ _ _ _ _ _ hE)
    · rw [e1]; exact (TK.tr TK.rf (tkr_tc_declare h2))
    · exact h.elim
theorem tkr_tc_parameter  {fo : Option Nat} {ta : Nat → Nat → Int32} {ff : Nat → Int32} {fg : Nat → Option Nat} {cf : Nat → Int32} {tf : Nat → Int32} {nf : Nat → Int32} {na : Nat → Nat → Int32} {own : Bool} {lq : Nat} {lc : Nat} {lf : Nat → Int32} {lg : Nat → Option Nat} {P : va_W} {cf' : Nat → Int32} {tf' : Nat → Int32} {nf' : Nat → Int32} {na' : Nat → Nat → Int32} {own' : Bool} {lq' : Nat} {lc' : Nat} {lf' : Nat → Int32} {lg' : Nat → Option Nat} {P' : va_W}  (h : R_tc_parameter  fo ta ff fg cf tf nf na own lq lc lf lg P cf' tf' nf' na' own' lq' lc' lf' lg' P') : TK tf tf' := by
  obtain ⟨k, h⟩ := h
  exact tke_tc_parameter  k _ _ _ _ _ _ _ _ _ _ _ _ _ _ _ _ h
theorem tke_tc_header  {ta : Nat → Nat → Int32} {p0 : Int32}  {cf' : Nat → Int32} {fo' : Option Nat} {tf' : Nat → Int32} {nf' : Nat → Int32} {na' : Nat → Nat → Int32} {own' : Bool} {lq' : Nat} {lc' : Nat} {lf' : Nat → Int32} {lg' : Nat → Option Nat} {fq' : Nat} {fc' : Nat} {ff' : Nat → Int32} {fg' : Nat → Option Nat} {P' : va_W}  : ∀ (k pc_ : Nat) (ls_ : List Int32) (lw_ : List Int64) (qs_ : List (Option Nat)) (fs_ : List (Nat → Int32)) (ad_ : List Nat) (cf : Nat → Int32) (fo : Option Nat) (tf : Nat → Int32) (nf : Nat → Int32) (na : Nat → Nat → Int32) (own : Bool) (lq : Nat) (lc : Nat) (lf : Nat → Int32) (lg : Nat → Option Nat) (fq : Nat) (fc : Nat) (ff : Nat → Int32) (fg : Nat → Option Nat) (P : va_W), E_tc_header  ta p0 cf' fo' tf' nf' na' own' lq' lc' lf' lg' fq' fc' ff' fg' P'  k pc_ ls_ lw_ qs_ fs_ ad_ cf fo tf nf na own lq lc lf lg fq fc ff fg P → TK tf tf' := by
  intro k
  induction k with
  | zero => intro _ _ _ _ _ _ _ _ _ _ _ _ _ _ _ _ _ _ _ _ _ h; exact h.elim
  | succ k ih =>
    intro pc_ ls_ lw_ qs_ fs_ ad_ cf fo tf nf na own lq lc lf lg fq fc ff fg P h
    rcases h with ⟨-, v133, h1, (⟨h2, z138, h3, v140, h4, v144, h5, (⟨h6, hE⟩ | ⟨h6, tf149, h7, hE⟩)⟩ | ⟨h2, fq163, fc164, ff165, fg166, P167, v169, h3, v184, h4, (⟨h5, hE⟩ | ⟨h5, tf189, h6, hE⟩)⟩)⟩ | ⟨-, -, -, -, -, -, z82, h1, nf84, v86, h2, tf92, h3, tf103, h4, v113, h5, (⟨h6, hE⟩ | ⟨h6, tf119, v121, h7, (⟨h8, hE⟩ | ⟨h8, hE⟩)⟩)⟩ | ⟨-, x151_3, x151_4, -, -, -, -, -, (⟨h1, tf3, h2, e0, e1, e2, e3, e4, e5, e6, e7, e8, e9, e10, e11, e12, e13, e14⟩ | ⟨h1, (⟨h2, tf14, h3, e0, e1, e2, e3, e4, e5, e6, e7, e8, e9, e10, e11, e12, e13, e14⟩ | ⟨h2, cf33, tf34, nf35, na36, own37, lq38, lc39, lf40, lg41, P42, h3, tf69, v71, h4, z80, h5, hE⟩)⟩)⟩ | h
    · exact TK.tr TK.rf (ih _ _ _ _ _ _ _ _ _ _ _ _ _ _ _ _ _ _ _ _ _ hE)
    · exact TK.tr (TK.tr TK.rf (tkr_tk_blame h7)) (ih _ _ _ _ _ _ _ _ _ _ _ _ _ _ _ _ _ _ _ _ _ hE)
    · exact TK.tr TK.rf (ih _ _ _ _ _ _ _ _ _ _ _ _ _ _ _ _ _ _ _ _ _ hE)
    · exact TK.tr (TK.tr TK.rf (tkr_tk_blame h6)) (ih _ _ _ _ _ _ _ _ _ _ _ _ _ _ _ _ _ _ _ _ _ hE)
    · exact TK.tr (TK.tr (TK.tr TK.rf (tkr_tk_step h3)) (tkr_tk_open h4)) (ih _ _ _ _ _ _ _ _ _ _ _ _ _ _ _ _ _ _ _ _ _ hE)
    · exact TK.tr (TK.tr (TK.tr (TK.tr TK.rf (tkr_tk_step h3)) (tkr_tk_open h4)) (tkr_tk_accept h7)) (ih _ _ _ _ _ _ _ _ _ _ _ _ _ _ _ _ _ _ _ _ _ hE)
    · exact TK.tr (TK.tr (TK.tr (TK.tr TK.rf (tkr_tk_step h3)) (tkr_tk_open h4)) (tkr_tk_accept h7)) (ih _ _ _ _ _ _ _ _ _ _ _ _ _ _ _ _ _ _ _ _ _ hE)
    · rw [e2]; exact (TK.tr TK.rf (tkr_tk_close h2))
    · rw [e2]; exact (TK.tr TK.rf (tkr_tk_close h3))
    · exact TK.tr (TK.tr (TK.tr TK.rf (tkr_tc_parameter h3)) (tkr_tk_accept h4)) (ih _ _ _ _ _ _ _ _ _ _ _ _ _ _ _ _ _ _ _ _ _ hE)
    · exact h.elim
theorem tkr_tc_header  {ta : Nat → Nat → Int32} {p0 : Int32} {cf : Nat → Int32} {fo : Option Nat} {tf : Nat → Int32} {nf : Nat → Int32} {na : Nat → Nat → Int32} {own : Bool} {lq : Nat} {lc : Nat} {lf : Nat → Int32} {lg : Nat → Option Nat} {fq : Nat} {fc : Nat} {ff : Nat → Int32} {fg : Nat → Option Nat} {P : va_W} {cf' : Nat → Int32} {fo' : Option Nat} {tf' : Nat → Int32} {nf' : Nat → Int32} {na' : Nat → Nat → Int32} {own' : Bool} {lq' : Nat} {lc' : Nat} {lf' : Nat → Int32} {lg' : Nat → Option Nat} {fq' : Nat} {fc' : Nat} {ff' : Nat → Int32} {fg' : Nat → Option Nat} {P' : va_W}  (h : R_tc_header  ta p0 cf fo tf nf na own lq lc lf lg fq fc ff fg P cf' fo' tf' nf' na' own' lq' lc' lf' lg' fq' fc' ff' fg' P') : TK tf tf' := by
  obtain ⟨k, h⟩ := h
  exact tke_tc_header  k _ _ _ _ _ _ _ _ _ _ _ _ _ _ _ _ _ _ _ _ _ h
theorem tke_tc_endFunction  {cn : Nat} {fn : Nat} {own : Bool} {p0 : Int32} {p1 : Int32}  {cf' : Nat → Int32} {fo' : Option Nat} {tf' : Nat → Int32} {fp' : Nat → Int32} {cd' : Nat → Int32} {ft' : Nat → Int32} {nf' : Nat → Int32} {lf' : Nat → Int32} {lg' : Nat → Option Nat}  : ∀ (k pc_ : Nat) (ls_ : List Int32) (lw_ : List Int64) (qs_ : List (Option Nat)) (fs_ : List (Nat → Int32)) (ad_ : List Nat) (cf : Nat → Int32) (fo : Option Nat) (tf : Nat → Int32) (fp : Nat → Int32) (cd : Nat → Int32) (ft : Nat → Int32) (nf : Nat → Int32) (lf : Nat → Int32) (lg : Nat → Option Nat), E_tc_endFunction  cn fn own p0 p1 cf' fo' tf' fp' cd' ft' nf' lf' lg'  k pc_ ls_ lw_ qs_ fs_ ad_ cf fo tf fp cd ft nf lf lg → TK tf tf' := by
  intro k
  induction k with
  | zero => intro _ _ _ _ _ _ _ _ _ _ _ _ _ _ _ h; exact h.elim
  | succ k ih =>
    intro pc_ ls_ lw_ qs_ fs_ ad_ cf fo tf fp cd ft nf lf lg h
    rcases h with ⟨-, fp25, cd26, v28, h1, fp33, cd34, v36, h2, z40, h3, z42, h4, (⟨h5, hE⟩ | ⟨h5, v46, h6, tf49, h7, hE⟩)⟩ | ⟨-, x60_3, -, -, -, -, -, z2, h1, ft4, h2, nf12, lf13, lg14, h3, e0, e1, e2, e3, e4, e5, e6, e7, e8⟩ | h
    · exact TK.tr TK.rf (ih _ _ _ _ _ _ _ _ _ _ _ _ _ _ _ hE)
    · exact TK.tr (TK.tr TK.rf (tkr_tk_blame h7)) (ih _ _ _ _ _ _ _ _ _ _ _ _ _ _ _ hE)
    · rw [e2]; exact TK.rf
    · exact h.elim
theorem tkr_tc_endFunction  {cn : Nat} {fn : Nat} {own : Bool} {p0 : Int32} {p1 : Int32} {cf : Nat → Int32} {fo : Option Nat} {tf : Nat → Int32} {fp : Nat → Int32} {cd : Nat → Int32} {ft : Nat → Int32} {nf : Nat → Int32} {lf : Nat → Int32} {lg : Nat → Option Nat} {cf' : Nat → Int32} {fo' : Option Nat} {tf' : Nat → Int32} {fp' : Nat → Int32} {cd' : Nat → Int32} {ft' : Nat → Int32} {nf' : Nat → Int32} {lf' : Nat → Int32} {lg' : Nat → Option Nat}  (h : R_tc_endFunction  cn fn own p0 p1 cf fo tf fp cd ft nf lf lg cf' fo' tf' fp' cd' ft' nf' lf' lg') : TK tf tf' := by
  obtain ⟨k, h⟩ := h
  exact tke_tc_endFunction  k _ _ _ _ _ _ _ _ _ _ _ _ _ _ _ h
theorem tke_tc_item  {ta : Nat → Nat → Int32} {cn : Nat} {sn : Nat}  {cf' : Nat → Int32} {fo' : Option Nat} {tf' : Nat → Int32} {fp' : Nat → Int32} {cd' : Nat → Int32} {nf' : Nat → Int32} {na' : Nat → Nat → Int32} {own' : Bool} {lq' : Nat} {lc' : Nat} {lf' : Nat → Int32} {lg' : Nat → Option Nat} {fq' : Nat} {fc' : Nat} {ff' : Nat → Int32} {fg' : Nat → Option Nat} {P' : va_W} {fs' : Nat → Int32} {sd' : Nat → Int32} {v : Int32}  : ∀ (k pc_ : Nat) (ls_ : List Int32) (lw_ : List Int64) (qs_ : List (Option Nat)) (fs_ : List (Nat → Int32)) (ad_ : List Nat) (cf : Nat → Int32) (fo : Option Nat) (tf : Nat → Int32) (fp : Nat → Int32) (cd : Nat → Int32) (nf : Nat → Int32) (na : Nat → Nat → Int32) (own : Bool) (lq : Nat) (lc : Nat) (lf : Nat → Int32) (lg : Nat → Option Nat) (fq : Nat) (fc : Nat) (ff : Nat → Int32) (fg : Nat → Option Nat) (P : va_W) (fs : Nat → Int32) (sd : Nat → Int32), E_tc_item  ta cn sn cf' fo' tf' fp' cd' nf' na' own' lq' lc' lf' lg' fq' fc' ff' fg' P' fs' sd' v  k pc_ ls_ lw_ qs_ fs_ ad_ cf fo tf fp cd nf na own lq lc lf lg fq fc ff fg P fs sd → TK tf tf' := by
  intro k
  induction k with
  | zero => intro _ _ _ _ _ _ _ _ _ _ _ _ _ _ _ _ _ _ _ _ _ _ _ _ _ h; exact h.elim
  | succ k ih =>
    intro pc_ ls_ lw_ qs_ fs_ ad_ cf fo tf fp cd nf na own lq lc lf lg fq fc ff fg P fs sd h
    rcases h with ⟨-, v69, h1, (⟨h2, (⟨h3, tf77, h4, v89, h5, (⟨h6, (⟨h7, hE⟩ | ⟨h7, tf97, h8, tf106, h9, hE⟩)⟩ | ⟨h6, v116, h7, (⟨h8, (⟨h9, hE⟩ | ⟨h9, tf122, h10, tf131, h11, hE⟩)⟩ | ⟨h8, cf155, fo156, tf157, nf158, na159, own160, lq161, lc162, lf163, lg164, fq165, fc166, ff167, fg168, P169, h9, e0, e1, e2, e3, e4, e5, e6, e7, e8, e9, e10, e11, e12, e13, e14, e15, e16, e17, e18, ev⟩)⟩)⟩ | ⟨h3, (⟨h4, tf199, h5, v211, h6, (⟨h7, (⟨h8, hE⟩ | ⟨h8, tf219, h9, tf228, h10, hE⟩)⟩ | ⟨h7, v238, h8, (⟨h9, (⟨h10, hE⟩ | ⟨h10, tf244, h11, tf253, h12, hE⟩)⟩ | ⟨h9, cf277, fo278, tf279, nf280, na281, own282, lq283, lc284, lf285, lg286, fq287, fc288, ff289, fg290, P291, h10, e0, e1, e2, e3, e4, e5, e6, e7, e8, e9, e10, e11, e12, e13, e14, e15, e16, e17, e18, ev⟩)⟩)⟩ | ⟨h4, (⟨h5, tf321, h6, v333, h7, (⟨h8, (⟨h9, hE⟩ | ⟨h9, tf341, h10, tf350, h11, hE⟩)⟩ | ⟨h8, v360, h9, (⟨h10, (⟨h11, hE⟩ | ⟨h11, tf366, h12, tf375, h13, hE⟩)⟩ | ⟨h10, cf399, fo400, tf401, nf402, na403, own404, lq405, lc406, lf407, lg408, fq409, fc410, ff411, fg412, P413, h11, e0, e1, e2, e3, e4, e5, e6, e7, e8, e9, e10, e11, e12, e13, e14, e15, e16, e17, e18, ev⟩)⟩)⟩ | ⟨h5, tf441, h6, e0, e1, e2, e3, e4, e5, e6, e7, e8, e9, e10, e11, e12, e13, e14, e15, e16, e17, e18, ev⟩)⟩)⟩)⟩ | ⟨h2, cf460, tf461, fp462, cd463, own464, lq465, lc466, lf467, lg468, P469, h3, e0, e1, e2, e3, e4, e5, e6, e7, e8, e9, e10, e11, e12, e13, e14, e15, e16, e17, e18, ev⟩)⟩ | ⟨-, x102_1, -, -, -, -, -, cf13, tf14, fp15, cd16, own17, lq18, lc19, lf20, lg21, P22, fs23, sd24, h1, tf59, h2, e0, e1, e2, e3, e4, e5, e6, e7, e8, e9, e10, e11, e12, e13, e14, e15, e16, e17, e18, ev⟩ | h
    · exact TK.tr (TK.tr TK.rf (tkr_tk_step h4)) (ih _ _ _ _ _ _ _ _ _ _ _ _ _ _ _ _ _ _ _ _ _ _ _ _ _ hE)
    · exact TK.tr (TK.tr (TK.tr (TK.tr TK.rf (tkr_tk_step h4)) (tkr_tk_expect h8)) (tkr_tk_fail h9)) (ih _ _ _ _ _ _ _ _ _ _ _ _ _ _ _ _ _ _ _ _ _ _ _ _ _ hE)
    · exact TK.tr (TK.tr TK.rf (tkr_tk_step h4)) (ih _ _ _ _ _ _ _ _ _ _ _ _ _ _ _ _ _ _ _ _ _ _ _ _ _ hE)
    · exact TK.tr (TK.tr (TK.tr (TK.tr TK.rf (tkr_tk_step h4)) (tkr_tk_expect h10)) (tkr_tk_fail h11)) (ih _ _ _ _ _ _ _ _ _ _ _ _ _ _ _ _ _ _ _ _ _ _ _ _ _ hE)
    · rw [e2]; exact (TK.tr (TK.tr TK.rf (tkr_tk_step h4)) (tkr_tc_header h9))
    · exact TK.tr (TK.tr TK.rf (tkr_tk_step h5)) (ih _ _ _ _ _ _ _ _ _ _ _ _ _ _ _ _ _ _ _ _ _ _ _ _ _ hE)
    · exact TK.tr (TK.tr (TK.tr (TK.tr TK.rf (tkr_tk_step h5)) (tkr_tk_expect h9)) (tkr_tk_fail h10)) (ih _ _ _ _ _ _ _ _ _ _ _ _ _ _ _ _ _ _ _ _ _ _ _ _ _ hE)
    · exact TK.tr (TK.tr TK.rf (tkr_tk_step h5)) (ih _ _ _ _ _ _ _ _ _ _ _ _ _ _ _ _ _ _ _ _ _ _ _ _ _ hE)
    · exact TK.tr (TK.tr (TK.tr (TK.tr TK.rf (tkr_tk_step h5)) (tkr_tk_expect h11)) (tkr_tk_fail h12)) (ih _ _ _ _ _ _ _ _ _ _ _ _ _ _ _ _ _ _ _ _ _ _ _ _ _ hE)
    · rw [e2]; exact (TK.tr (TK.tr TK.rf (tkr_tk_step h5)) (tkr_tc_header h10))
    · exact TK.tr (TK.tr TK.rf (tkr_tk_step h6)) (ih _ _ _ _ _ _ _ _ _ _ _ _ _ _ _ _ _ _ _ _ _ _ _ _ _ hE)
    · exact TK.tr (TK.tr (TK.tr (TK.tr TK.rf (tkr_tk_step h6)) (tkr_tk_expect h10)) (tkr_tk_fail h11)) (ih _ _ _ _ _ _ _ _ _ _ _ _ _ _ _ _ _ _ _ _ _ _ _ _ _ hE)
    · exact TK.tr (TK.tr TK.rf (tkr_tk_step h6)) (ih _ _ _ _ _ _ _ _ _ _ _ _ _ _ _ _ _ _ _ _ _ _ _ _ _ hE)
    · exact TK.tr (TK.tr (TK.tr (TK.tr TK.rf (tkr_tk_step h6)) (tkr_tk_expect h12)) (tkr_tk_fail h13)) (ih _ _ _ _ _ _ _ _ _ _ _ _ _ _ _ _ _ _ _ _ _ _ _ _ _ hE)
    · rw [e2]; exact (TK.tr (TK.tr TK.rf (tkr_tk_step h6)) (tkr_tc_header h11))
    · rw [e2]; exact (TK.tr TK.rf (tkr_tk_fail h6))
    · rw [e2]; exact (TK.tr TK.rf (tkr_tc_enumeration h3))
    · rw [e2]; exact (TK.tr (TK.tr TK.rf (tkr_tc_variables h1)) (tkr_tk_expect h2))
    · exact h.elim
theorem tkr_tc_item  {ta : Nat → Nat → Int32} {cn : Nat} {sn : Nat} {cf : Nat → Int32} {fo : Option Nat} {tf : Nat → Int32} {fp : Nat → Int32} {cd : Nat → Int32} {nf : Nat → Int32} {na : Nat → Nat → Int32} {own : Bool} {lq : Nat} {lc : Nat} {lf : Nat → Int32} {lg : Nat → Option Nat} {fq : Nat} {fc : Nat} {ff : Nat → Int32} {fg : Nat → Option Nat} {P : va_W} {fs : Nat → Int32} {sd : Nat → Int32} {cf' : Nat → Int32} {fo' : Option Nat} {tf' : Nat → Int32} {fp' : Nat → Int32} {cd' : Nat → Int32} {nf' : Nat → Int32} {na' : Nat → Nat → Int32} {own' : Bool} {lq' : Nat} {lc' : Nat} {lf' : Nat → Int32} {lg' : Nat → Option Nat} {fq' : Nat} {fc' : Nat} {ff' : Nat → Int32} {fg' : Nat → Option Nat} {P' : va_W} {fs' : Nat → Int32} {sd' : Nat → Int32} {v : Int32}  (h : R_tc_item  ta cn sn cf fo tf fp cd nf na own lq lc lf lg fq fc ff fg P fs sd cf' fo' tf' fp' cd' nf' na' own' lq' lc' lf' lg' fq' fc' ff' fg' P' fs' sd' v) : TK tf tf' := by
  obtain ⟨k, h⟩ := h
  exact tke_tc_item  k _ _ _ _ _ _ _ _ _ _ _ _ _ _ _ _ _ _ _ _ _ _ _ _ _ h
theorem tke_tc_judge  {cf : Nat → Int32} {na : Nat → Nat → Int32} {ff : Nat → Int32} {fg : Nat → Option Nat} {P : va_W} {sn : Nat}  {tf' : Nat → Int32} {fs' : Nat → Int32} {sd' : Nat → Int32}  : ∀ (k pc_ : Nat) (ls_ : List Int32) (lw_ : List Int64) (qs_ : List (Option Nat)) (fs_ : List (Nat → Int32)) (ad_ : List Nat) (tf : Nat → Int32) (fs : Nat → Int32) (sd : Nat → Int32), E_tc_judge  cf na ff fg P sn tf' fs' sd'  k pc_ ls_ lw_ qs_ fs_ ad_ tf fs sd → TK tf tf' := by
  intro k
  induction k with
  | zero => intro _ _ _ _ _ _ _ _ _ h; exact h.elim
  | succ k ih =>
    intro pc_ ls_ lw_ qs_ fs_ ad_ tf fs sd h
    rcases h with ⟨-, v32, h1, (⟨h2, v39, h3, tf42, h4, hE⟩ | ⟨q36, h2, j51, s52, h3, (⟨h4, v57, h5, tf60, h6, hE⟩ | ⟨h4, (⟨h5, v72, h6, tf75, h7, hE⟩ | ⟨h5, v85, h6, (⟨h7, z90, h8, fs93, sd94, v96, h9, fs100, sd101, v103, h10, hE⟩ | ⟨h7, v106, h8, tf109, h9, hE⟩)⟩)⟩)⟩)⟩ | ⟨-, -, -, -, -, -, (⟨h1, v4, h2, tf7, h3, e0, e1, e2⟩ | ⟨h1, (⟨h2, e0, e1, e2⟩ | ⟨h2, v19, h3, tf22, h4, e0, e1, e2⟩)⟩)⟩ | h
    · exact TK.tr (TK.tr TK.rf (tkr_tk_blame h4)) (ih _ _ _ _ _ _ _ _ _ hE)
    · exact TK.tr (TK.tr TK.rf (tkr_tk_blame h6)) (ih _ _ _ _ _ _ _ _ _ hE)
    · exact TK.tr (TK.tr TK.rf (tkr_tk_blame h7)) (ih _ _ _ _ _ _ _ _ _ hE)
    · exact TK.tr TK.rf (ih _ _ _ _ _ _ _ _ _ hE)
    · exact TK.tr (TK.tr TK.rf (tkr_tk_blame h9)) (ih _ _ _ _ _ _ _ _ _ hE)
    · rw [e0]; exact (TK.tr TK.rf (tkr_tk_blame h3))
    · rw [e0]; exact TK.rf
    · rw [e0]; exact (TK.tr TK.rf (tkr_tk_blame h4))
    · exact h.elim
theorem tkr_tc_judge  {cf : Nat → Int32} {na : Nat → Nat → Int32} {ff : Nat → Int32} {fg : Nat → Option Nat} {P : va_W} {sn : Nat} {tf : Nat → Int32} {fs : Nat → Int32} {sd : Nat → Int32} {tf' : Nat → Int32} {fs' : Nat → Int32} {sd' : Nat → Int32}  (h : R_tc_judge  cf na ff fg P sn tf fs sd tf' fs' sd') : TK tf tf' := by
  obtain ⟨k, h⟩ := h
  exact tke_tc_judge  k _ _ _ _ _ _ _ _ _ h
theorem bke_tc_enumeration  {fo : Option Nat} {ta : Nat → Nat → Int32} {cn : Nat} {nf : Nat → Int32} {na : Nat → Nat → Int32} {ff : Nat → Int32} {fg : Nat → Option Nat}  {cf' : Nat → Int32} {tf' : Nat → Int32} {fp' : Nat → Int32} {cd' : Nat → Int32} {own' : Bool} {lq' : Nat} {lc' : Nat} {lf' : Nat → Int32} {lg' : Nat → Option Nat} {P' : va_W}  : ∀ (k pc_ : Nat) (ls_ : List Int32) (lw_ : List Int64) (qs_ : List (Option Nat)) (fs_ : List (Nat → Int32)) (ad_ : List Nat) (cf : Nat → Int32) (tf : Nat → Int32) (fp : Nat → Int32) (cd : Nat → Int32) (own : Bool) (lq : Nat) (lc : Nat) (lf : Nat → Int32) (lg : Nat → Option Nat) (P : va_W), E_tc_enumeration  fo ta cn nf na ff fg cf' tf' fp' cd' own' lq' lc' lf' lg' P'  k pc_ ls_ lw_ qs_ fs_ ad_ cf tf fp cd own lq lc lf lg P → BK tf tf' := by
  intro k
  induction k with
  | zero => intro _ _ _ _ _ _ _ _ _ _ _ _ _ _ _ _ h; exact h.elim
  | succ k ih =>
    intro pc_ ls_ lw_ qs_ fs_ ad_ cf tf fp cd own lq lc lf lg P h
    rcases h with ⟨-, tf171, h1, tf182, h2, hE⟩ | ⟨-, x22_1, x22_2, x22_3, -, -, -, -, -, (⟨h1, tf47, h2, tf56, h3, e0, e1, e2, e3, e4, e5, e6, e7, e8, e9⟩ | ⟨h1, (⟨h2, tf67, h3, tf76, h4, e0, e1, e2, e3, e4, e5, e6, e7, e8, e9⟩ | ⟨h2, q85, v87, h3, tf91, h4, tf100, v102, h5, (⟨h6, hE⟩ | ⟨h6, tf116, fp117, cd118, hx119, ox120, fx121, h7, tf152, fp153, cd154, fx155, h8, hE⟩)⟩)⟩)⟩ | ⟨-, x107_1, x107_3, x107_4, sf_107, hy_107, -, -, -, -, -, P1, h1, tf8, own9, lq10, lc11, lf12, lg13, h2, z32, h3, tf33, v35, h4, z44, h5, hE⟩ | h
    · exact BK.tr (BK.tr (BK.tr BK.rf (bkr_tk_step h1)) (bkr_tk_open h2)) (ih _ _ _ _ _ _ _ _ _ _ _ _ _ _ _ _ hE)
    · rw [e1]; exact (BK.tr (BK.tr BK.rf (bkr_tk_close h2)) (bkr_tk_expect h3))
    · rw [e1]; exact (BK.tr (BK.tr BK.rf (bkr_tk_close h3)) (bkr_tk_expect h4))
    · exact BK.tr (BK.tr (BK.tr BK.rf (bkr_tk_expect h4)) (bkr_tk_accept h5)) (ih _ _ _ _ _ _ _ _ _ _ _ _ _ _ _ _ hE)
    · exact BK.tr (BK.tr (BK.tr (BK.tr (BK.tr BK.rf (bkr_tk_expect h4)) (bkr_tk_accept h5)) (bkr_ex_parse (bkl_RLp 61) (bkl_RLo 61) h7)) (bkr_ex_settle h8)) (ih _ _ _ _ _ _ _ _ _ _ _ _ _ _ _ _ hE)
    · exact BK.tr (BK.tr (BK.tr BK.rf (bkr_tc_declare h2)) (bkr_tk_accept h4)) (ih _ _ _ _ _ _ _ _ _ _ _ _ _ _ _ _ hE)
    · exact h.elim
theorem bkr_tc_enumeration  {fo : Option Nat} {ta : Nat → Nat → Int32} {cn : Nat} {nf : Nat → Int32} {na : Nat → Nat → Int32} {ff : Nat → Int32} {fg : Nat → Option Nat} {cf : Nat → Int32} {tf : Nat → Int32} {fp : Nat → Int32} {cd : Nat → Int32} {own : Bool} {lq : Nat} {lc : Nat} {lf : Nat → Int32} {lg : Nat → Option Nat} {P : va_W} {cf' : Nat → Int32} {tf' : Nat → Int32} {fp' : Nat → Int32} {cd' : Nat → Int32} {own' : Bool} {lq' : Nat} {lc' : Nat} {lf' : Nat → Int32} {lg' : Nat → Option Nat} {P' : va_W}  (h : R_tc_enumeration  fo ta cn nf na ff fg cf tf fp cd own lq lc lf lg P cf' tf' fp' cd' own' lq' lc' lf' lg' P') : BK tf tf' := by
  obtain ⟨k, h⟩ := h
  exact bke_tc_enumeration  k _ _ _ _ _ _ _ _ _ _ _ _ _ _ _ _ h
theorem bke_tc_parameter  {fo : Option Nat} {ta : Nat → Nat → Int32} {ff : Nat → Int32} {fg : Nat → Option Nat}  {cf' : Nat → Int32} {tf' : Nat → Int32} {nf' : Nat → Int32} {na' : Nat → Nat → Int32} {own' : Bool} {lq' : Nat} {lc' : Nat} {lf' : Nat → Int32} {lg' : Nat → Option Nat} {P' : va_W}  : ∀ (k pc_ : Nat) (ls_ : List Int32) (lw_ : List Int64) (qs_ : List (Option Nat)) (fs_ : List (Nat → Int32)) (ad_ : List Nat) (cf : Nat → Int32) (tf : Nat → Int32) (nf : Nat → Int32) (na : Nat → Nat → Int32) (own : Bool) (lq : Nat) (lc : Nat) (lf : Nat → Int32) (lg : Nat → Option Nat) (P : va_W), E_tc_parameter  fo ta ff fg cf' tf' nf' na' own' lq' lc' lf' lg' P'  k pc_ ls_ lw_ qs_ fs_ ad_ cf tf nf na own lq lc lf lg P → BK tf tf' := by
  intro k
  induction k with
  | zero => intro _ _ _ _ _ _ _ _ _ _ _ _ _ _ _ _ h; exact h.elim
  | succ k ih =>
    intro pc_ ls_ lw_ qs_ fs_ ad_ cf tf nf na own lq lc lf lg P h
    rcases h with ⟨-, v196, h1, (⟨h2, hE⟩ | ⟨h2, (⟨h3, hE⟩ | ⟨h3, tf204, h4, hE⟩)⟩)⟩ | ⟨-, x25_1, -, -, -, -, -, tf102, h1, q113, v115, h2, (⟨h3, tf121, h4, v131, h5, (⟨h6, hE⟩ | ⟨h6, tf139, h7, tf148, h8, z157, h9, hE⟩)⟩ | ⟨h3, tf158, h4, v168, h5, (⟨h6, hE⟩ | ⟨h6, tf176, h7, tf185, h8, z194, h9, hE⟩)⟩)⟩ | ⟨-, x140_1, x140_2, x140_4, sf_140, hy_140, -, -, -, -, -, (⟨h1, z35, h2, (⟨h3, hE⟩ | ⟨h3, (⟨h4, hE⟩ | ⟨q39, h4, (⟨h5, nf46, na47, P48, h6, hE⟩ | ⟨h5, z55, h6, nf59, na60, P61, h7, hE⟩)⟩)⟩)⟩ | ⟨h1, z69, h2, (⟨h3, hE⟩ | ⟨h3, (⟨h4, hE⟩ | ⟨q73, h4, (⟨h5, nf80, na81, P82, h6, hE⟩ | ⟨h5, z89, h6, nf93, na94, P95, h7, hE⟩)⟩)⟩)⟩)⟩ | ⟨-, x197_2, sf_197, hy_197, -, -, -, -, -, P1, h1, tf8, own9, lq10, lc11, lf12, lg13, h2, e0, e1, e2, e3, e4, e5, e6, e7, e8, e9⟩ | h
    · exact BK.tr BK.rf (ih _ _ _ _ _ _ _ _ _ _ _ _ _ _ _ _ hE)
    · exact BK.tr BK.rf (ih _ _ _ _ _ _ _ _ _ _ _ _ _ _ _ _ hE)
    · exact BK.tr (BK.tr BK.rf (bkr_tk_fail h4)) (ih _ _ _ _ _ _ _ _ _ _ _ _ _ _ _ _ hE)
    · exact BK.tr (BK.tr (BK.tr BK.rf (bkr_tk_step h1)) (bkr_tk_expect h4)) (ih _ _ _ _ _ _ _ _ _ _ _ _ _ _ _ _ hE)
    · exact BK.tr (BK.tr (BK.tr (BK.tr (BK.tr BK.rf (bkr_tk_step h1)) (bkr_tk_expect h4)) (bkr_tk_open h7)) (bkr_tk_close h8)) (ih _ _ _ _ _ _ _ _ _ _ _ _ _ _ _ _ hE)
    · exact BK.tr (BK.tr (BK.tr BK.rf (bkr_tk_step h1)) (bkr_tk_expect h4)) (ih _ _ _ _ _ _ _ _ _ _ _ _ _ _ _ _ hE)
    · exact BK.tr (BK.tr (BK.tr (BK.tr (BK.tr BK.rf (bkr_tk_step h1)) (bkr_tk_expect h4)) (bkr_tk_open h7)) (bkr_tk_close h8)) (ih _ _ _ _ _ _ _ _ _ _ _ _ _ _ _ _ hE)
    · exact BK.tr BK.rf (ih _ _ _ _ _ _ _ _ _ _ _ _ _ _ _ _ hE)
    · exact BK.tr BK.rf (ih _ _ _ _ _ _ _ _ _ _ _ _ _ _ _ _ hE)
    · exact BK.tr BK.rf (ih _ _ _ _ _ _ _ _ _ _ _ _ _ _ _ _ hE)
    · exact BK.tr BK.rf (ih _ _ _ _ _ _ _ _ _ _ _ _ _ _ _ _ hE)
    · exact BK.tr BK.rf (ih _ _ _ _ _ _ _ _ _ _ _ _ _ _ _ _ hE)
    · exact BK.tr BK.rf (ih _ _ _ _ _ _ _ _ _ _ _ _ _ _ _ _ hE)
    · exact BK.tr BK.rf (ih _ _ _ _ _ _ _ _ _ _ _ _ _ _ _ _ hE)
    · exact BK.tr BK.rf (ih _ _ _ _ _ _ _ _ _ _ _ _ _ _ _ _ hE)
    · rw [e1]; exact (BK.tr BK.rf (bkr_tc_declare h2))
    · exact h.elim
theorem bkr_tc_parameter  {fo : Option Nat} {ta : Nat → Nat → Int32} {ff : Nat → Int32} {fg : Nat → Option Nat} {cf : Nat → Int32} {tf : Nat → Int32} {nf : Nat → Int32} {na : Nat → Nat → Int32} {own : Bool} {lq : Nat} {lc : Nat} {lf : Nat → Int32} {lg : Nat → Option Nat} {P : va_W} {cf' : Nat → Int32} {tf' : Nat → Int32} {nf' : Nat → Int32} {na' : Nat → Nat → Int32} {own' : Bool} {lq' : Nat} {lc' : Nat} {lf' : Nat → Int32} {lg' : Nat → Option Nat} {P' : va_W}  (h : R_tc_parameter  fo ta ff fg cf tf nf na own lq lc lf lg P cf' tf' nf' na' own' lq' lc' lf' lg' P') : BK tf tf' := by
  obtain ⟨k, h⟩ := h
  exact bke_tc_parameter  k _ _ _ _ _ _ _ _ _ _ _ _ _ _ _ _ h
theorem bke_tc_header  {ta : Nat → Nat → Int32} {p0 : Int32}  {cf' : Nat → Int32} {fo' : Option Nat} {tf' : Nat → Int32} {nf' : Nat → Int32} {na' : Nat → Nat → Int32} {own' : Bool} {lq' : Nat} {lc' : Nat} {lf' : Nat → Int32} {lg' : Nat → Option Nat} {fq' : Nat} {fc' : Nat} {ff' : Nat → Int32} {fg' : Nat → Option Nat} {P' : va_W}  : ∀ (k pc_ : Nat) (ls_ : List Int32) (lw_ : List Int64) (qs_ : List (Option Nat)) (fs_ : List (Nat → Int32)) (ad_ : List Nat) (cf : Nat → Int32) (fo : Option Nat) (tf : Nat → Int32) (nf : Nat → Int32) (na : Nat → Nat → Int32) (own : Bool) (lq : Nat) (lc : Nat) (lf : Nat → Int32) (lg : Nat → Option Nat) (fq : Nat) (fc : Nat) (ff : Nat → Int32) (fg : Nat → Option Nat) (P : va_W), E_tc_header  ta p0 cf' fo' tf' nf' na' own' lq' lc' lf' lg' fq' fc' ff' fg' P'  k pc_ ls_ lw_ qs_ fs_ ad_ cf fo tf nf na own lq lc lf lg fq fc ff fg P → BK tf tf' := by
  intro k
  induction k with
  | zero => intro _ _ _ _ _ _ _ _ _ _ _ _ _ _ _ _ _ _ _ _ _ h; exact h.elim
  | succ k ih =>
    intro pc_ ls_ lw_ qs_ fs_ ad_ cf fo tf nf na own lq lc lf lg fq fc ff fg P h
    rcases h with ⟨-, v133, h1, (⟨h2, z138, h3, v140, h4, v144, h5, (⟨h6, hE⟩ | ⟨h6, tf149, h7, hE⟩)⟩ | ⟨h2, fq163, fc164, ff165, fg166, P167, v169, h3, v184, h4, (⟨h5, hE⟩ | ⟨h5, tf189, h6, hE⟩)⟩)⟩ | ⟨-, -, -, -, -, -, z82, h1, nf84, v86, h2, tf92, h3, tf103, h4, v113, h5, (⟨h6, hE⟩ | ⟨h6, tf119, v121, h7, (⟨h8, hE⟩ | ⟨h8, hE⟩)⟩)⟩ | ⟨-, x151_3, x151_4, -, -, -, -, -, (⟨h1, tf3, h2, e0, e1, e2, e3, e4, e5, e6, e7, e8, e9, e10, e11, e12, e13, e14⟩ | ⟨h1, (⟨h2, tf14, h3, e0, e1, e2, e3, e4, e5, e6, e7, e8, e9, e10, e11, e12, e13, e14⟩ | ⟨h2, cf33, tf34, nf35, na36, own37, lq38, lc39, lf40, lg41, P42, h3, tf69, v71, h4, z80, h5, hE⟩)⟩)⟩ | h
    · exact BK.tr BK.rf (ih _ _ _ _ _ _ _ _ _ _ _ _ _ _ _ _ _ _ _ _ _ hE)
    · exact BK.tr (BK.tr BK.rf (bkr_tk_blame (by decide) h7)) (ih _ _ _ _ _ _ _ _ _ _ _ _ _ _ _ _ _ _ _ _ _ hE)
    · exact BK.tr BK.rf (ih _ _ _ _ _ _ _ _ _ _ _ _ _ _ _ _ _ _ _ _ _ hE)
    · exact BK.tr (BK.tr BK.rf (bkr_tk_blame (by decide) h6)) (ih _ _ _ _ _ _ _ _ _ _ _ _ _ _ _ _ _ _ _ _ _ hE)
    · exact BK.tr (BK.tr (BK.tr BK.rf (bkr_tk_step h3)) (bkr_tk_open h4)) (ih _ _ _ _ _ _ _ _ _ _ _ _ _ _ _ _ _ _ _ _ _ hE)
    · exact BK.tr (BK.tr (BK.tr (BK.tr BK.rf (bkr_tk_step h3)) (bkr_tk_open h4)) (bkr_tk_accept h7)) (ih _ _ _ _ _ _ _ _ _ _ _ _ _ _ _ _ _ _ _ _ _ hE)
    · exact BK.tr (BK.tr (BK.tr (BK.tr BK.rf (bkr_tk_step h3)) (bkr_tk_open h4)) (bkr_tk_accept h7)) (ih _ _ _ _ _ _ _ _ _ _ _ _ _ _ _ _ _ _ _ _ _ hE)
    · rw [e2]; exact (BK.tr BK.rf (bkr_tk_close h2))
    · rw [e2]; exact (BK.tr BK.rf (bkr_tk_close h3))
    · exact BK.tr (BK.tr (BK.tr BK.rf (bkr_tc_parameter h3)) (bkr_tk_accept h4)) (ih _ _ _ _ _ _ _ _ _ _ _ _ _ _ _ _ _ _ _ _ _ hE)
    · exact h.elim
theorem bkr_tc_header  {ta : Nat → Nat → Int32} {p0 : Int32} {cf : Nat → Int32} {fo : Option Nat} {tf : Nat → Int32} {nf : Nat → Int32} {na : Nat → Nat → Int32} {own : Bool} {lq : Nat} {lc : Nat} {lf : Nat → Int32} {lg : Nat → Option Nat} {fq : Nat} {fc : Nat} {ff : Nat → Int32} {fg : Nat → Option Nat} {P : va_W} {cf' : Nat → Int32} {fo' : Option Nat} {tf' : Nat → Int32} {nf' : Nat → Int32} {na' : Nat → Nat → Int32} {own' : Bool} {lq' : Nat} {lc' : Nat} {lf' : Nat → Int32} {lg' : Nat → Option Nat} {fq' : Nat} {fc' : Nat} {ff' : Nat → Int32} {fg' : Nat → Option Nat} {P' : va_W}  (h : R_tc_header  ta p0 cf fo tf nf na own lq lc lf lg fq fc ff fg P cf' fo' tf' nf' na' own' lq' lc' lf' lg' fq' fc' ff' fg' P') : BK tf tf' := by
  obtain ⟨k, h⟩ := h
  exact bke_tc_header  k _ _ _ _ _ _ _ _ _ _ _ _ _ _ _ _ _ _ _ _ _ h
theorem bke_tc_endFunction  {cn : Nat} {fn : Nat} {own : Bool} {p0 : Int32} {p1 : Int32}  {cf' : Nat → Int32} {fo' : Option Nat} {tf' : Nat → Int32} {fp' : Nat → Int32} {cd' : Nat → Int32} {ft' : Nat → Int32} {nf' : Nat → Int32} {lf' : Nat → Int32} {lg' : Nat → Option Nat}  : ∀ (k pc_ : Nat) (ls_ : List Int32) (lw_ : List Int64) (qs_ : List (Option Nat)) (fs_ : List (Nat → Int32)) (ad_ : List Nat) (cf : Nat → Int32) (fo : Option Nat) (tf : Nat → Int32) (fp : Nat → Int32) (cd : Nat → Int32) (ft : Nat → Int32) (nf : Nat → Int32) (lf : Nat → Int32) (lg : Nat → Option Nat), E_tc_endFunction  cn fn own p0 p1 cf' fo' tf' fp' cd' ft' nf' lf' lg'  k pc_ ls_ lw_ qs_ fs_ ad_ cf fo tf fp cd ft nf lf lg → BK tf tf' := by
  intro k
  induction k with
  | zero => intro _ _ _ _ _ _ _ _ _ _ _ _ _ _ _ h; exact h.elim
  | succ k ih =>
    intro pc_ ls_ lw_ qs_ fs_ ad_ cf fo tf fp cd ft nf lf lg h
    rcases h with ⟨-, fp25, cd26, v28, h1, fp33, cd34, v36, h2, z40, h3, z42, h4, (⟨h5, hE⟩ | ⟨h5, v46, h6, tf49, h7, hE⟩)⟩ | ⟨-, x60_3, -, -, -, -, -, z2, h1, ft4, h2, nf12, lf13, lg14, h3, e0, e1, e2, e3, e4, e5, e6, e7, e8⟩ | h
    · exact BK.tr BK.rf (ih _ _ _ _ _ _ _ _ _ _ _ _ _ _ _ hE)
    · exact BK.tr (BK.tr BK.rf (bkr_tk_blame (by decide) h7)) (ih _ _ _ _ _ _ _ _ _ _ _ _ _ _ _ hE)
    · rw [e2]; exact BK.rf
    · exact h.elim
theorem bkr_tc_endFunction  {cn : Nat} {fn : Nat} {own : Bool} {p0 : Int32} {p1 : Int32} {cf : Nat → Int32} {fo : Option Nat} {tf : Nat → Int32} {fp : Nat → Int32} {cd : Nat → Int32} {ft : Nat → Int32} {nf : Nat → Int32} {lf : Nat → Int32} {lg : Nat → Option Nat} {cf' : Nat → Int32} {fo' : Option Nat} {tf' : Nat → Int32} {fp' : Nat → Int32} {cd' : Nat → Int32} {ft' : Nat → Int32} {nf' : Nat → Int32} {lf' : Nat → Int32} {lg' : Nat → Option Nat}  (h : R_tc_endFunction  cn fn own p0 p1 cf fo tf fp cd ft nf lf lg cf' fo' tf' fp' cd' ft' nf' lf' lg') : BK tf tf' := by
  obtain ⟨k, h⟩ := h
  exact bke_tc_endFunction  k _ _ _ _ _ _ _ _ _ _ _ _ _ _ _ h
theorem bke_tc_item  {ta : Nat → Nat → Int32} {cn : Nat} {sn : Nat}  {cf' : Nat → Int32} {fo' : Option Nat} {tf' : Nat → Int32} {fp' : Nat → Int32} {cd' : Nat → Int32} {nf' : Nat → Int32} {na' : Nat → Nat → Int32} {own' : Bool} {lq' : Nat} {lc' : Nat} {lf' : Nat → Int32} {lg' : Nat → Option Nat} {fq' : Nat} {fc' : Nat} {ff' : Nat → Int32} {fg' : Nat → Option Nat} {P' : va_W} {fs' : Nat → Int32} {sd' : Nat → Int32} {v : Int32}  : ∀ (k pc_ : Nat) (ls_ : List Int32) (lw_ : List Int64) (qs_ : List (Option Nat)) (fs_ : List (Nat → Int32)) (ad_ : List Nat) (cf : Nat → Int32) (fo : Option Nat) (tf : Nat → Int32) (fp : Nat → Int32) (cd : Nat → Int32) (nf : Nat → Int32) (na : Nat → Nat → Int32) (own : Bool) (lq : Nat) (lc : Nat) (lf : Nat → Int32) (lg : Nat → Option Nat) (fq : Nat) (fc : Nat) (ff : Nat → Int32) (fg : Nat → Option Nat) (P : va_W) (fs : Nat → Int32) (sd : Nat → Int32), E_tc_item  ta cn sn cf' fo' tf' fp' cd' nf' na' own' lq' lc' lf' lg' fq' fc' ff' fg' P' fs' sd' v  k pc_ ls_ lw_ qs_ fs_ ad_ cf fo tf fp cd nf na own lq lc lf lg fq fc ff fg P fs sd → BK tf tf' := by
  intro k
  induction k with
  | zero => intro _ _ _ _ _ _ _ _ _ _ _ _ _ _ _ _ _ _ _ _ _ _ _ _ _ h; exact h.elim
  | succ k ih =>
    intro pc_ ls_ lw_ qs_ fs_ ad_ cf fo tf fp cd nf na own lq lc lf lg fq fc ff fg P fs sd h
    rcases h with ⟨-, v69, h1, (⟨h2, (⟨h3, tf77, h4, v89, h5, (⟨h6, (⟨h7, hE⟩ | ⟨h7, tf97, h8, tf106, h9, hE⟩)⟩ | ⟨h6, v116, h7, (⟨h8, (⟨h9, hE⟩ | ⟨h9, tf122, h10, tf131, h11, hE⟩)⟩ | ⟨h8, cf155, fo156, tf157, nf158, na159, own160, lq161, lc162, lf163, lg164, fq165, fc166, ff167, fg168, P169, h9, e0, e1, e2, e3, e4, e5, e6, e7, e8, e9, e10, e11, e12, e13, e14, e15, e16, e17, e18, ev⟩)⟩)⟩ | ⟨h3, (⟨h4, tf199, h5, v211, h6, (⟨h7, (⟨h8, hE⟩ | ⟨h8, tf219, h9, tf228, h10, hE⟩)⟩ | ⟨h7, v238, h8, (⟨h9, (⟨h10, hE⟩ | ⟨h10, tf244, h11, tf253, h12, hE⟩)⟩ | ⟨h9, cf277, fo278, tf279, nf280, na281, own282, lq283, lc284, lf285, lg286, fq287, fc288, ff289, fg290, P291, h10, e0, e1, e2, e3, e4, e5, e6, e7, e8, e9, e10, e11, e12, e13, e14, e15, e16, e17, e18, ev⟩)⟩)⟩ | ⟨h4, (⟨h5, tf321, h6, v333, h7, (⟨h8, (⟨h9, hE⟩ | ⟨h9, tf341, h10, tf350, h11, hE⟩)⟩ | ⟨h8, v360, h9, (⟨h10, (⟨h11, hE⟩ | ⟨h11, tf366, h12, tf375, h13, hE⟩)⟩ | ⟨h10, cf399, fo400, tf401, nf402, na403, own404, lq405, lc406, lf407, lg408, fq409, fc410, ff411, fg412, P413, h11, e0, e1, e2, e3, e4, e5, e6, e7, e8, e9, e10, e11, e12, e13, e14, e15, e16, e17, e18, ev⟩)⟩)⟩ | ⟨h5, tf441, h6, e0, e1, e2, e3, e4, e5, e6, e7, e8, e9, e10, e11, e12, e13, e14, e15, e16, e17, e18, ev⟩)⟩)⟩)⟩ | ⟨h2, cf460, tf461, fp462, cd463, own464, lq465, lc466, lf467, lg468, P469, h3, e0, e1, e2, e3, e4, e5, e6, e7, e8, e9, e10, e11, e12, e13, e14, e15, e16, e17, e18, ev⟩)⟩ | ⟨-, x102_1, -, -, -, -, -, cf13, tf14, fp15, cd16, own17, lq18, lc19, lf20, lg21, P22, fs23, sd24, h1, tf59, h2, e0, e1, e2, e3, e4, e5, e6, e7, e8, e9, e10, e11, e12, e13, e14, e15, e16, e17, e18, ev⟩ | h
    · exact BK.tr (BK.tr BK.rf (bkr_tk_step h4)) (ih _ _ _ _ _ _ _ _ _ _ _ _ _ _ _ _ _ _ _ _ _ _ _ _ _ hE)
    · exact BK.tr (BK.tr (BK.tr (BK.tr BK.rf (bkr_tk_step h4)) (bkr_tk_expect h8)) (bkr_tk_fail h9)) (ih _ _ _ _ _ _ _ _ _ _ _ _ _ _ _ _ _ _ _ _ _ _ _ _ _ hE)
    · exact BK.tr (BK.tr BK.rf (bkr_tk_step h4)) (ih _ _ _ _ _ _ _ _ _ _ _ _ _ _ _ _ _ _ _ _ _ _ _ _ _ hE)
    · exact BK.tr (BK.tr (BK.tr (BK.tr BK.rf (bkr_tk_step h4)) (bkr_tk_expect h10)) (bkr_tk_fail h11)) (ih _ _ _ _ _ _ _ _ _ _ _ _ _ _ _ _ _ _ _ _ _ _ _ _ _ hE)
    · rw [e2]; exact (BK.tr (BK.tr BK.rf (bkr_tk_step h4)) (bkr_tc_header h9))
    · exact BK.tr (BK.tr BK.rf (bkr_tk_step h5)) (ih _ _ _ _ _ _ _ _ _ _ _ _ _ _ _ _ _ _ _ _ _ _ _ _ _ hE)
    · exact BK.tr (BK.tr (BK.tr (BK.tr BK.rf (bkr_tk_step h5)) (bkr_tk_expect h9)) (bkr_tk_fail h10)) (ih _ _ _ _ _ _ _ _ _ _ _ _ _ _ _ _ _ _ _ _ _ _ _ _ _ hE)
    · exact BK.tr (BK.tr BK.rf (bkr_tk_step h5)) (ih _ _ _ _ _ _ _ _ _ _ _ _ _ _ _ _ _ _ _ _ _ _ _ _ _ hE)
    · exact BK.tr (BK.tr (BK.tr (BK.tr BK.rf (bkr_tk_step h5)) (bkr_tk_expect h11)) (bkr_tk_fail h12)) (ih _ _ _ _ _ _ _ _ _ _ _ _ _ _ _ _ _ _ _ _ _ _ _ _ _ hE)
    · rw [e2]; exact (BK.tr (BK.tr BK.rf (bkr_tk_step h5)) (bkr_tc_header h10))
    · exact BK.tr (BK.tr BK.rf (bkr_tk_step h6)) (ih _ _ _ _ _ _ _ _ _ _ _ _ _ _ _ _ _ _ _ _ _ _ _ _ _ hE)
    · exact BK.tr (BK.tr (BK.tr (BK.tr BK.rf (bkr_tk_step h6)) (bkr_tk_expect h10)) (bkr_tk_fail h11)) (ih _ _ _ _ _ _ _ _ _ _ _ _ _ _ _ _ _ _ _ _ _ _ _ _ _ hE)
    · exact BK.tr (BK.tr BK.rf (bkr_tk_step h6)) (ih _ _ _ _ _ _ _ _ _ _ _ _ _ _ _ _ _ _ _ _ _ _ _ _ _ hE)
    · exact BK.tr (BK.tr (BK.tr (BK.tr BK.rf (bkr_tk_step h6)) (bkr_tk_expect h12)) (bkr_tk_fail h13)) (ih _ _ _ _ _ _ _ _ _ _ _ _ _ _ _ _ _ _ _ _ _ _ _ _ _ hE)
    · rw [e2]; exact (BK.tr (BK.tr BK.rf (bkr_tk_step h6)) (bkr_tc_header h11))
    · rw [e2]; exact (BK.tr BK.rf (bkr_tk_fail h6))
    · rw [e2]; exact (BK.tr BK.rf (bkr_tc_enumeration h3))
    · rw [e2]; exact (BK.tr (BK.tr BK.rf (bkr_tc_variables h1)) (bkr_tk_expect h2))
    · exact h.elim
theorem bkr_tc_item  {ta : Nat → Nat → Int32} {cn : Nat} {sn : Nat} {cf : Nat → Int32} {fo : Option Nat} {tf : Nat → Int32} {fp : Nat → Int32} {cd : Nat → Int32} {nf : Nat → Int32} {na : Nat → Nat → Int32} {own : Bool} {lq : Nat} {lc : Nat} {lf : Nat → Int32} {lg : Nat → Option Nat} {fq : Nat} {fc : Nat} {ff : Nat → Int32} {fg : Nat → Option Nat} {P : va_W} {fs : Nat → Int32} {sd : Nat → Int32} {cf' : Nat → Int32} {fo' : Option Nat} {tf' : Nat → Int32} {fp' : Nat → Int32} {cd' : Nat → Int32} {nf' : Nat → Int32} {na' : Nat → Nat → Int32} {own' : Bool} {lq' : Nat} {lc' : Nat} {lf' : Nat → Int32} {lg' : Nat → Option Nat} {fq' : Nat} {fc' : Nat} {ff' : Nat → Int32} {fg' : Nat → Option Nat} {P' : va_W} {fs' : Nat → Int32} {sd' : Nat → Int32} {v : Int32}  (h : R_tc_item  ta cn sn cf fo tf fp cd nf na own lq lc lf lg fq fc ff fg P fs sd cf' fo' tf' fp' cd' nf' na' own' lq' lc' lf' lg' fq' fc' ff' fg' P' fs' sd' v) : BK tf tf' := by
  obtain ⟨k, h⟩ := h
  exact bke_tc_item  k _ _ _ _ _ _ _ _ _ _ _ _ _ _ _ _ _ _ _ _ _ _ _ _ _ h
theorem bke_tc_judge  {cf : Nat → Int32} {na : Nat → Nat → Int32} {ff : Nat → Int32} {fg : Nat → Option Nat} {P : va_W} {sn : Nat}  {tf' : Nat → Int32} {fs' : Nat → Int32} {sd' : Nat → Int32}  : ∀ (k pc_ : Nat) (ls_ : List Int32) (lw_ : List Int64) (qs_ : List (Option Nat)) (fs_ : List (Nat → Int32)) (ad_ : List Nat) (tf : Nat → Int32) (fs : Nat → Int32) (sd : Nat → Int32), E_tc_judge  cf na ff fg P sn tf' fs' sd'  k pc_ ls_ lw_ qs_ fs_ ad_ tf fs sd → BK tf tf' := by
  intro k
  induction k with
  | zero => intro _ _ _ _ _ _ _ _ _ h; exact h.elim
  | succ k ih =>
    intro pc_ ls_ lw_ qs_ fs_ ad_ tf fs sd h
    rcases h with ⟨-, v32, h1, (⟨h2, v39, h3, tf42, h4, hE⟩ | ⟨q36, h2, j51, s52, h3, (⟨h4, v57, h5, tf60, h6, hE⟩ | ⟨h4, (⟨h5, v72, h6, tf75, h7, hE⟩ | ⟨h5, v85, h6, (⟨h7, z90, h8, fs93, sd94, v96, h9, fs100, sd101, v103, h10, hE⟩ | ⟨h7, v106, h8, tf109, h9, hE⟩)⟩)⟩)⟩)⟩ | ⟨-, -, -, -, -, -, (⟨h1, v4, h2, tf7, h3, e0, e1, e2⟩ | ⟨h1, (⟨h2, e0, e1, e2⟩ | ⟨h2, v19, h3, tf22, h4, e0, e1, e2⟩)⟩)⟩ | h
    · exact BK.tr (BK.tr BK.rf (bkr_tk_blame (by decide) h4)) (ih _ _ _ _ _ _ _ _ _ hE)
    · exact BK.tr (BK.tr BK.rf (bkr_tk_blame (by decide) h6)) (ih _ _ _ _ _ _ _ _ _ hE)
    · exact BK.tr (BK.tr BK.rf (bkr_tk_blame (by decide) h7)) (ih _ _ _ _ _ _ _ _ _ hE)
    · exact BK.tr BK.rf (ih _ _ _ _ _ _ _ _ _ hE)
    · exact BK.tr (BK.tr BK.rf (bkr_tk_blame (by decide) h9)) (ih _ _ _ _ _ _ _ _ _ hE)
    · rw [e0]; exact (BK.tr BK.rf (bkr_tk_blame (by decide) h3))
    · rw [e0]; exact BK.rf
    · rw [e0]; exact (BK.tr BK.rf (bkr_tk_blame (by decide) h4))
    · exact h.elim
theorem bkr_tc_judge  {cf : Nat → Int32} {na : Nat → Nat → Int32} {ff : Nat → Int32} {fg : Nat → Option Nat} {P : va_W} {sn : Nat} {tf : Nat → Int32} {fs : Nat → Int32} {sd : Nat → Int32} {tf' : Nat → Int32} {fs' : Nat → Int32} {sd' : Nat → Int32}  (h : R_tc_judge  cf na ff fg P sn tf fs sd tf' fs' sd') : BK tf tf' := by
  obtain ⟨k, h⟩ := h
  exact bke_tc_judge  k _ _ _ _ _ _ _ _ _ h
