theorem nfe_tc_enumeration  {fo : Option Nat} {ta : Nat → Nat → Int32} {cn : Nat} {nf : Nat → Int32} {na : Nat → Nat → Int32} {ff : Nat → Int32} {fg : Nat → Option Nat}  {cf' : Nat → Int32} {tf' : Nat → Int32} {fp' : Nat → Int32} {cd' : Nat → Int32} {own' : Bool} {lq' : Nat} {lc' : Nat} {lf' : Nat → Int32} {lg' : Nat → Option Nat} {P' : va_W}  : ∀ (k pc_ : Nat) (ls_ : List Int32) (lw_ : List Int64) (qs_ : List (Option Nat)) (fs_ : List (Nat → Int32)) (ad_ : List Nat) (cf : Nat → Int32) (tf : Nat → Int32) (fp : Nat → Int32) (cd : Nat → Int32) (own : Bool) (lq : Nat) (lc : Nat) (lf : Nat → Int32) (lg : Nat → Option Nat) (P : va_W), E_tc_enumeration  fo ta cn nf na ff fg cf' tf' fp' cd' own' lq' lc' lf' lg' P'  k pc_ ls_ lw_ qs_ fs_ ad_ cf tf fp cd own lq lc lf lg P → NFq cn fp fp' := by
  intro k
  induction k with
  | zero => intro _ _ _ _ _ _ _ _ _ _ _ _ _ _ _ _ h; exact h.elim
  | succ k ih =>
    intro pc_ ls_ lw_ qs_ fs_ ad_ cf tf fp cd own lq lc lf lg P h
    rcases h with ⟨-, tf171, h1, tf182, h2, hE⟩ | ⟨-, x22_1, x22_2, x22_3, -, -, -, -, -, (⟨h1, tf47, h2, tf56, h3, e0, e1, e2, e3, e4, e5, e6, e7, e8, e9⟩ | ⟨h1, (⟨h2, tf67, h3, tf76, h4, e0, e1, e2, e3, e4, e5, e6, e7, e8, e9⟩ | ⟨h2, q85, v87, h3, tf91, h4, tf100, v102, h5, (⟨h6, hE⟩ | ⟨h6, tf116, fp117, cd118, hx119, ox120, fx121, h7, tf152, fp153, cd154, fx155, h8, hE⟩)⟩)⟩)⟩ | ⟨-, x107_1, x107_3, x107_4, sf_107, hy_107, -, -, -, -, -, P1, h1, tf8, own9, lq10, lc11, lf12, lg13, h2, z32, h3, tf33, v35, h4, z44, h5, hE⟩ | h
    · exact NFq.tr NFq.rf (ih _ _ _ _ _ _ _ _ _ _ _ _ _ _ _ _ hE)
    · rw [e2]; exact NFq.rf
    · rw [e2]; exact NFq.rf
    · exact NFq.tr NFq.rf (ih _ _ _ _ _ _ _ _ _ _ _ _ _ _ _ _ hE)
    · exact NFq.tr (NFq.st (NFq.tr NFq.rf (nfr_ex_parse (nfl_RLp 61) (nfl_RLo 61) h7)) NFq.rf h8) (ih _ _ _ _ _ _ _ _ _ _ _ _ _ _ _ _ hE)
    · exact NFq.tr NFq.rf (ih _ _ _ _ _ _ _ _ _ _ _ _ _ _ _ _ hE)
    · exact h.elim
theorem nfr_tc_enumeration  {fo : Option Nat} {ta : Nat → Nat → Int32} {cn : Nat} {nf : Nat → Int32} {na : Nat → Nat → Int32} {ff : Nat → Int32} {fg : Nat → Option Nat} {cf : Nat → Int32} {tf : Nat → Int32} {fp : Nat → Int32} {cd : Nat → Int32} {own : Bool} {lq : Nat} {lc : Nat} {lf : Nat → Int32} {lg : Nat → Option Nat} {P : va_W} {cf' : Nat → Int32} {tf' : Nat → Int32} {fp' : Nat → Int32} {cd' : Nat → Int32} {own' : Bool} {lq' : Nat} {lc' : Nat} {lf' : Nat → Int32} {lg' : Nat → Option Nat} {P' : va_W}  (h : R_tc_enumeration  fo ta cn nf na ff fg cf tf fp cd own lq lc lf lg P cf' tf' fp' cd' own' lq' lc' lf' lg' P') : NFq cn fp fp' := by
  obtain ⟨k, h⟩ := h
  exact nfe_tc_enumeration  k _ _ _ _ _ _ _ _ _ _ _ _ _ _ _ _ h
theorem nfe_tc_endFunction  {cn : Nat} {fn : Nat} {own : Bool} {p0 : Int32} {p1 : Int32}  {cf' : Nat → Int32} {fo' : Option Nat} {tf' : Nat → Int32} {fp' : Nat → Int32} {cd' : Nat → Int32} {ft' : Nat → Int32} {nf' : Nat → Int32} {lf' : Nat → Int32} {lg' : Nat → Option Nat}  : ∀ (k pc_ : Nat) (ls_ : List Int32) (lw_ : List Int64) (qs_ : List (Option Nat)) (fs_ : List (Nat → Int32)) (ad_ : List Nat) (cf : Nat → Int32) (fo : Option Nat) (tf : Nat → Int32) (fp : Nat → Int32) (cd : Nat → Int32) (ft : Nat → Int32) (nf : Nat → Int32) (lf : Nat → Int32) (lg : Nat → Option Nat), E_tc_endFunction  cn fn own p0 p1 cf' fo' tf' fp' cd' ft' nf' lf' lg'  k pc_ ls_ lw_ qs_ fs_ ad_ cf fo tf fp cd ft nf lf lg → NFq cn fp fp' := by
  intro k
  induction k with
  | zero => intro _ _ _ _ _ _ _ _ _ _ _ _ _ _ _ h; exact h.elim
  | succ k ih =>
    intro pc_ ls_ lw_ qs_ fs_ ad_ cf fo tf fp cd ft nf lf lg h
    rcases h with ⟨-, fp25, cd26, v28, h1, fp33, cd34, v36, h2, z40, h3, z42, h4, (⟨h5, hE⟩ | ⟨h5, v46, h6, tf49, h7, hE⟩)⟩ | ⟨-, x60_3, -, -, -, -, -, z2, h1, ft4, h2, nf12, lf13, lg14, h3, e0, e1, e2, e3, e4, e5, e6, e7, e8⟩ | h
    · exact NFq.tr (NFq.tr (NFq.tr NFq.rf (nfr_pe_emit h1)) (nfr_pe_emit h2)) (ih _ _ _ _ _ _ _ _ _ _ _ _ _ _ _ hE)
    · exact NFq.tr (NFq.tr (NFq.tr NFq.rf (nfr_pe_emit h1)) (nfr_pe_emit h2)) (ih _ _ _ _ _ _ _ _ _ _ _ _ _ _ _ hE)
    · rw [e3]; exact NFq.rf
    · exact h.elim
theorem nfr_tc_endFunction  {cn : Nat} {fn : Nat} {own : Bool} {p0 : Int32} {p1 : Int32} {cf : Nat → Int32} {fo : Option Nat} {tf : Nat → Int32} {fp : Nat → Int32} {cd : Nat → Int32} {ft : Nat → Int32} {nf : Nat → Int32} {lf : Nat → Int32} {lg : Nat → Option Nat} {cf' : Nat → Int32} {fo' : Option Nat} {tf' : Nat → Int32} {fp' : Nat → Int32} {cd' : Nat → Int32} {ft' : Nat → Int32} {nf' : Nat → Int32} {lf' : Nat → Int32} {lg' : Nat → Option Nat}  (h : R_tc_endFunction  cn fn own p0 p1 cf fo tf fp cd ft nf lf lg cf' fo' tf' fp' cd' ft' nf' lf' lg') : NFq cn fp fp' := by
  obtain ⟨k, h⟩ := h
  exact nfe_tc_endFunction  k _ _ _ _ _ _ _ _ _ _ _ _ _ _ _ h
theorem nfe_tc_item  {ta : Nat → Nat → Int32} {cn : Nat} {sn : Nat}  {cf' : Nat → Int32} {fo' : Option Nat} {tf' : Nat → Int32} {fp' : Nat → Int32} {cd' : Nat → Int32} {nf' : Nat → Int32} {na' : Nat → Nat → Int32} {own' : Bool} {lq' : Nat} {lc' : Nat} {lf' : Nat → Int32} {lg' : Nat → Option Nat} {fq' : Nat} {fc' : Nat} {ff' : Nat → Int32} {fg' : Nat → Option Nat} {P' : va_W} {fs' : Nat → Int32} {sd' : Nat → Int32} {v : Int32}  : ∀ (k pc_ : Nat) (ls_ : List Int32) (lw_ : List Int64) (qs_ : List (Option Nat)) (fs_ : List (Nat → Int32)) (ad_ : List Nat) (cf : Nat → Int32) (fo : Option Nat) (tf : Nat → Int32) (fp : Nat → Int32) (cd : Nat → Int32) (nf : Nat → Int32) (na : Nat → Nat → Int32) (own : Bool) (lq : Nat) (lc : Nat) (lf : Nat → Int32) (lg : Nat → Option Nat) (fq : Nat) (fc : Nat) (ff : Nat → Int32) (fg : Nat → Option Nat) (P : va_W) (fs : Nat → Int32) (sd : Nat → Int32), E_tc_item  ta cn sn cf' fo' tf' fp' cd' nf' na' own' lq' lc' lf' lg' fq' fc' ff' fg' P' fs' sd' v  k pc_ ls_ lw_ qs_ fs_ ad_ cf fo tf fp cd nf na own lq lc lf lg fq fc ff fg P fs sd → NFq cn fp fp' := by
  intro k
  induction k with
  | zero => intro _ _ _ _ _ _ _ _ _ _ _ _ _ _ _ _ _ _ _ _ _ _ _ _ _ h; exact h.elim
  | succ k ih =>
    intro pc_ ls_ lw_ qs_ fs_ ad_ cf fo tf fp cd nf na own lq lc lf lg fq fc ff fg P fs sd h
    rcases h with ⟨-, v69, h1, (⟨h2, (⟨h3, tf77, h4, v89, h5, (⟨h6, (⟨h7, hE⟩ | ⟨h7, tf97, h8, tf106, h9, hE⟩)⟩ | ⟨h6, v116, h7, (⟨h8, (⟨h9, hE⟩ | ⟨h9, tf122, h10, tf131, h11, hE⟩)⟩ | ⟨h8, cf155, fo156, tf157, nf158, na159, own160, lq161, lc162, lf163, lg164, fq165, fc166, ff167, fg168, P169, h9, e0, e1, e2, e3, e4, e5, e6, e7, e8, e9, e10, e11, e12, e13, e14, e15, e16, e17, e18, ev⟩)⟩)⟩ | ⟨h3, (⟨h4, tf199, h5, v211, h6, (⟨h7, (⟨h8, hE⟩ | ⟨h8, tf219, h9, tf228, h10, hE⟩)⟩ | ⟨h7, v238, h8, (⟨h9, (⟨h10, hE⟩ | ⟨h10, tf244, h11, tf253, h12, hE⟩)⟩ | ⟨h9, cf277, fo278, tf279, nf280, na281, own282, lq283, lc284, lf285, lg286, fq287, fc288, ff289, fg290, P291, h10, e0, e1, e2, e3, e4, e5, e6, e7, e8, e9, e10, e11, e12, e13, e14, e15, e16, e17, e18, ev⟩)⟩)⟩ | ⟨h4, (⟨h5, tf321, h6, v333, h7, (⟨h8, (⟨h9, hE⟩ | ⟨h9, tf341, h10, tf350, h11, hE⟩)⟩ | ⟨h8, v360, h9, (⟨h10, (⟨h11, hE⟩ | ⟨h11, tf366, h12, tf375, h13, hE⟩)⟩ | ⟨h10, cf399, fo400, tf401, nf402, na403, own404, lq405, lc406, lf407, lg408, fq409, fc410, ff411, fg412, P413, h11, e0, e1, e2, e3, e4, e5, e6, e7, e8, e9, e10, e11, e12, e13, e14, e15, e16, e17, e18, ev⟩)⟩)⟩ | ⟨h5, tf441, h6, e0, e1, e2, e3, e4, e5, e6, e7, e8, e9, e10, e11, e12, e13, e14, e15, e16, e17, e18, ev⟩)⟩)⟩)⟩ | ⟨h2, cf460, tf461, fp462, cd463, own464, lq465, lc466, lf467, lg468, P469, h3, e0, e1, e2, e3, e4, e5, e6, e7, e8, e9, e10, e11, e12, e13, e14, e15, e16, e17, e18, ev⟩)⟩ | ⟨-, x102_1, -, -, -, -, -, cf13, tf14, fp15, cd16, own17, lq18, lc19, lf20, lg21, P22, fs23, sd24, h1, tf59, h2, e0, e1, e2, e3, e4, e5, e6, e7, e8, e9, e10, e11, e12, e13, e14, e15, e16, e17, e18, ev⟩ | h
    · exact NFq.tr NFq.rf (ih _ _ _ _ _ _ _ _ _ _ _ _ _ _ _ _ _ _ _ _ _ _ _ _ _ hE)
    · exact NFq.tr NFq.rf (ih _ _ _ _ _ _ _ _ _ _ _ _ _ _ _ _ _ _ _ _ _ _ _ _ _ hE)
    · exact NFq.tr NFq.rf (ih _ _ _ _ _ _ _ _ _ _ _ _ _ _ _ _ _ _ _ _ _ _ _ _ _ hE)
    · exact NFq.tr NFq.rf (ih _ _ _ _ _ _ _ _ _ _ _ _ _ _ _ _ _ _ _ _ _ _ _ _ _ hE)
    · rw [e3]; exact NFq.rf
    · exact NFq.tr NFq.rf (ih _ _ _ _ _ _ _ _ _ _ _ _ _ _ _ _ _ _ _ _ _ _ _ _ _ hE)
    · exact NFq.tr NFq.rf (ih _ _ _ _ _ _ _ _ _ _ _ _ _ _ _ _ _ _ _ _ _ _ _ _ _ hE)
    · exact NFq.tr NFq.rf (ih _ _ _ _ _ _ _ _ _ _ _ _ _ _ _ _ _ _ _ _ _ _ _ _ _ hE)
    · exact NFq.tr NFq.rf (ih _ _ _ _ _ _ _ _ _ _ _ _ _ _ _ _ _ _ _ _ _ _ _ _ _ hE)
    · rw [e3]; exact NFq.rf
    · exact NFq.tr NFq.rf (ih _ _ _ _ _ _ _ _ _ _ _ _ _ _ _ _ _ _ _ _ _ _ _ _ _ hE)
    · exact NFq.tr NFq.rf (ih _ _ _ _ _ _ _ _ _ _ _ _ _ _ _ _ _ _ _ _ _ _ _ _ _ hE)
    · exact NFq.tr NFq.rf (ih _ _ _ _ _ _ _ _ _ _ _ _ _ _ _ _ _ _ _ _ _ _ _ _ _ hE)
    · exact NFq.tr NFq.rf (ih _ _ _ _ _ _ _ _ _ _ _ _ _ _ _ _ _ _ _ _ _ _ _ _ _ hE)
    · rw [e3]; exact NFq.rf
    · rw [e3]; exact NFq.rf
    · rw [e3]; exact (NFq.tr NFq.rf (nfr_tc_enumeration h3))
    · rw [e3]; exact (NFq.tr NFq.rf (nfr_tc_variables h1))
    · exact h.elim
theorem nfr_tc_item  {ta : Nat → Nat → Int32} {cn : Nat} {sn : Nat} {cf : Nat → Int32} {fo : Option Nat} {tf : Nat → Int32} {fp : Nat → Int32} {cd : Nat → Int32} {nf : Nat → Int32} {na : Nat → Nat → Int32} {own : Bool} {lq : Nat} {lc : Nat} {lf : Nat → Int32} {lg : Nat → Option Nat} {fq : Nat} {fc : Nat} {ff : Nat → Int32} {fg : Nat → Option Nat} {P : va_W} {fs : Nat → Int32} {sd : Nat → Int32} {cf' : Nat → Int32} {fo' : Option Nat} {tf' : Nat → Int32} {fp' : Nat → Int32} {cd' : Nat → Int32} {nf' : Nat → Int32} {na' : Nat → Nat → Int32} {own' : Bool} {lq' : Nat} {lc' : Nat} {lf' : Nat → Int32} {lg' : Nat → Option Nat} {fq' : Nat} {fc' : Nat} {ff' : Nat → Int32} {fg' : Nat → Option Nat} {P' : va_W} {fs' : Nat → Int32} {sd' : Nat → Int32} {v : Int32}  (h : R_tc_item  ta cn sn cf fo tf fp cd nf na own lq lc lf lg fq fc ff fg P fs sd cf' fo' tf' fp' cd' nf' na' own' lq' lc' lf' lg' fq' fc' ff' fg' P' fs' sd' v) : NFq cn fp fp' := by
  obtain ⟨k, h⟩ := h
  exact nfe_tc_item  k _ _ _ _ _ _ _ _ _ _ _ _ _ _ _ _ _ _ _ _ _ _ _ _ _ h
