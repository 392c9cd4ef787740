/-- it only grows -/
def PX (P P' : va_W) : Prop := ∃ X, P' = P ++ X
theorem PX.rf {P : va_W} : PX P P := ⟨[], (List.append_nil P).symm⟩
theorem PX.tr {P Q R : va_W} (h : PX P Q) (k : PX Q R) : PX P R := by
  obtain ⟨X, rfl⟩ := h
  obtain ⟨Y, rfl⟩ := k
  exact ⟨X ++ Y, List.append_assoc P X Y⟩
theorem pxe_tc_variables  {fo : Option Nat} {ta : Nat → Nat → Int32} {cn : Nat} {nf : Nat → Int32} {na : Nat → Nat → Int32} {ff : Nat → Int32} {fg : Nat → Option Nat} {sn : Nat} {p0 : Int32}  {cf' : Nat → Int32} {tf' : Nat → Int32} {fp' : Nat → Int32} {cd' : Nat → Int32} {own' : Bool} {lq' : Nat} {lc' : Nat} {lf' : Nat → Int32} {lg' : Nat → Option Nat} {P' : va_W} {fs' : Nat → Int32} {sd' : Nat → Int32}  : ∀ (k pc_ : Nat) (ls_ : List Int32) (lw_ : List Int64) (qs_ : List (Option Nat)) (fs_ : List (Nat → Int32)) (ad_ : List Nat) (cf : Nat → Int32) (tf : Nat → Int32) (fp : Nat → Int32) (cd : Nat → Int32) (own : Bool) (lq : Nat) (lc : Nat) (lf : Nat → Int32) (lg : Nat → Option Nat) (P : va_W) (fs : Nat → Int32) (sd : Nat → Int32), E_tc_variables  fo ta cn nf na ff fg sn p0 cf' tf' fp' cd' own' lq' lc' lf' lg' P' fs' sd'  k pc_ ls_ lw_ qs_ fs_ ad_ cf tf fp cd own lq lc lf lg P fs sd → PX P P' := by
  intro k
  induction k with
  | zero => intro _ _ _ _ _ _ _ _ _ _ _ _ _ _ _ _ _ _ h; exact h.elim
  | succ k ih =>
    intro pc_ ls_ lw_ qs_ fs_ ad_ cf tf fp cd own lq lc lf lg P fs sd h
    rcases h with ⟨-, hE⟩ | ⟨-, x4_2, x4_3, -, -, -, -, -, (⟨h1, e0, e1, e2, e3, e4, e5, e6, e7, e8, e9, e10, e11⟩ | ⟨h1, (⟨h2, e0, e1, e2, e3, e4, e5, e6, e7, e8, e9, e10, e11⟩ | ⟨h2, q229, v231, h3, (⟨h4, (⟨h5, z244, h6, hE⟩ | ⟨h5, z245, h6, hE⟩)⟩ | ⟨q236, h4, (⟨h5, z240, h6, hE⟩ | ⟨h5, z241, h6, hE⟩)⟩)⟩)⟩)⟩ | ⟨-, x69_3, x69_4, sf_69, hy_69, -, -, -, -, -, tf121, h1, v131, h2, (⟨h3, cf144, tf145, fp146, cd147, fs148, sd149, sf150, v152, h4, (⟨h5, hE⟩ | ⟨h5, hE⟩)⟩ | ⟨h3, cf191, tf192, fp193, cd194, fs195, sd196, sf197, h4, hE⟩)⟩ | ⟨-, x108_3, x108_4, sf_108, hy_108, -, -, -, -, -, v56, h1, (⟨h2, tf67, fp68, cd69, fs70, sd71, v73, h3, hE⟩ | ⟨h2, tf99, fp100, cd101, fs102, sd103, v105, h3, hE⟩)⟩ | ⟨-, x146_3, x146_4, x146_6, x146_7, sf_146, hy_146, -, -, -, -, -, (⟨h1, hE⟩ | ⟨h1, tf46, h2, hE⟩)⟩ | ⟨-, x162_3, x162_4, sf_162, hy_162, -, -, -, -, -, P1, h1, tf8, own9, lq10, lc11, lf12, lg13, h2, tf32, v34, h3, z43, h4, hE⟩ | h
    · exact PX.tr PX.rf (ih _ _ _ _ _ _ _ _ _ _ _ _ _ _ _ _ _ _ hE)
    · rw [e9]; exact PX.rf
    · rw [e9]; exact PX.rf
    · exact PX.tr PX.rf (ih _ _ _ _ _ _ _ _ _ _ _ _ _ _ _ _ _ _ hE)
    · exact PX.tr PX.rf (ih _ _ _ _ _ _ _ _ _ _ _ _ _ _ _ _ _ _ hE)
    · exact PX.tr PX.rf (ih _ _ _ _ _ _ _ _ _ _ _ _ _ _ _ _ _ _ hE)
    · exact PX.tr PX.rf (ih _ _ _ _ _ _ _ _ _ _ _ _ _ _ _ _ _ _ hE)
    · exact PX.tr PX.rf (ih _ _ _ _ _ _ _ _ _ _ _ _ _ _ _ _ _ _ hE)
    · exact PX.tr PX.rf (ih _ _ _ _ _ _ _ _ _ _ _ _ _ _ _ _ _ _ hE)
    · exact PX.tr PX.rf (ih _ _ _ _ _ _ _ _ _ _ _ _ _ _ _ _ _ _ hE)
    · exact PX.tr PX.rf (ih _ _ _ _ _ _ _ _ _ _ _ _ _ _ _ _ _ _ hE)
    · exact PX.tr PX.rf (ih _ _ _ _ _ _ _ _ _ _ _ _ _ _ _ _ _ _ hE)
    · exact PX.tr PX.rf (ih _ _ _ _ _ _ _ _ _ _ _ _ _ _ _ _ _ _ hE)
    · exact PX.tr PX.rf (ih _ _ _ _ _ _ _ _ _ _ _ _ _ _ _ _ _ _ hE)
    · exact PX.tr (PX.tr PX.rf ⟨_, h1⟩) (ih _ _ _ _ _ _ _ _ _ _ _ _ _ _ _ _ _ _ hE)
    · exact h.elim
theorem pxr_tc_variables  {fo : Option Nat} {ta : Nat → Nat → Int32} {cn : Nat} {nf : Nat → Int32} {na : Nat → Nat → Int32} {ff : Nat → Int32} {fg : Nat → Option Nat} {sn : Nat} {p0 : Int32} {cf : Nat → Int32} {tf : Nat → Int32} {fp : Nat → Int32} {cd : Nat → Int32} {own : Bool} {lq : Nat} {lc : Nat} {lf : Nat → Int32} {lg : Nat → Option Nat} {P : va_W} {fs : Nat → Int32} {sd : Nat → Int32} {cf' : Nat → Int32} {tf' : Nat → Int32} {fp' : Nat → Int32} {cd' : Nat → Int32} {own' : Bool} {lq' : Nat} {lc' : Nat} {lf' : Nat → Int32} {lg' : Nat → Option Nat} {P' : va_W} {fs' : Nat → Int32} {sd' : Nat → Int32}  (h : R_tc_variables  fo ta cn nf na ff fg sn p0 cf tf fp cd own lq lc lf lg P fs sd cf' tf' fp' cd' own' lq' lc' lf' lg' P' fs' sd') : PX P P' := by
  obtain ⟨k, h⟩ := h
  exact pxe_tc_variables  k _ _ _ _ _ _ _ _ _ _ _ _ _ _ _ _ _ _ h
def PX_tc_statement (R : T_tc_statement) : Prop := ∀ (fo : Option Nat) (ta : Nat → Nat → Int32) (cn : Nat) (na : Nat → Nat → Int32) (ff : Nat → Int32) (fg : Nat → Option Nat) (sn : Nat) (cf : Nat → Int32) (ca : Nat → Nat → Int32) (tf : Nat → Int32) (fp : Nat → Int32) (cd : Nat → Int32) (nf : Nat → Int32) (own : Bool) (lq : Nat) (lc : Nat) (lf : Nat → Int32) (lg : Nat → Option Nat) (P : va_W) (fs : Nat → Int32) (sd : Nat → Int32) (cf' : Nat → Int32) (ca' : Nat → Nat → Int32) (tf' : Nat → Int32) (fp' : Nat → Int32) (cd' : Nat → Int32) (nf' : Nat → Int32) (own' : Bool) (lq' : Nat) (lc' : Nat) (lf' : Nat → Int32) (lg' : Nat → Option Nat) (P' : va_W) (fs' : Nat → Int32) (sd' : Nat → Int32), R fo ta cn na ff fg sn cf ca tf fp cd nf own lq lc lf lg P fs sd cf' ca' tf' fp' cd' nf' own' lq' lc' lf' lg' P' fs' sd' → PX P P'
theorem pxr_tc_loopBody {RLs : T_tc_statement} {fo : Option Nat} {ta : Nat → Nat → Int32} {cn : Nat} {na : Nat → Nat → Int32} {ff : Nat → Int32} {fg : Nat → Option Nat} {sn : Nat} {cf : Nat → Int32} {ca : Nat → Nat → Int32} {tf : Nat → Int32} {fp : Nat → Int32} {cd : Nat → Int32} {nf : Nat → Int32} {own : Bool} {lq : Nat} {lc : Nat} {lf : Nat → Int32} {lg : Nat → Option Nat} {P : va_W} {fs : Nat → Int32} {sd : Nat → Int32} {cf' : Nat → Int32} {ca' : Nat → Nat → Int32} {tf' : Nat → Int32} {fp' : Nat → Int32} {cd' : Nat → Int32} {nf' : Nat → Int32} {own' : Bool} {lq' : Nat} {lc' : Nat} {lf' : Nat → Int32} {lg' : Nat → Option Nat} {P' : va_W} {fs' : Nat → Int32} {sd' : Nat → Int32} (hS : PX_tc_statement RLs) (h : R_tc_loopBody RLs fo ta cn na ff fg sn cf ca tf fp cd nf own lq lc lf lg P fs sd cf' ca' tf' fp' cd' nf' own' lq' lc' lf' lg' P' fs' sd') : PX P P' := by
  rcases h with ⟨z2, h1, z4, h2, fp7, cd8, v10, h3, cf28, ca29, tf30, fp31, cd32, nf33, own34, lq35, lc36, lf37, lg38, P39, fs40, sd41, h4, z81, h5, z83, h6, e0, e1, e2, e3, e4, e5, e6, e7, e8, e9, e10, e11, e12, e13⟩ | h
  · rw [e11]; exact (PX.tr PX.rf (hS _ _ _ _ _ _ _ _ _ _ _ _ _ _ _ _ _ _ _ _ _ _ _ _ _ _ _ _ _ _ _ _ _ _ _ h4))
  · exact h.elim
theorem pxe_tc_statements {RLs : T_tc_statement} {fo : Option Nat} {ta : Nat → Nat → Int32} {cn : Nat} {na : Nat → Nat → Int32} {ff : Nat → Int32} {fg : Nat → Option Nat} {sn : Nat}  {cf' : Nat → Int32} {ca' : Nat → Nat → Int32} {tf' : Nat → Int32} {fp' : Nat → Int32} {cd' : Nat → Int32} {nf' : Nat → Int32} {own' : Bool} {lq' : Nat} {lc' : Nat} {lf' : Nat → Int32} {lg' : Nat → Option Nat} {P' : va_W} {fs' : Nat → Int32} {sd' : Nat → Int32} (hS : PX_tc_statement RLs) : ∀ (k pc_ : Nat) (ls_ : List Int32) (lw_ : List Int64) (qs_ : List (Option Nat)) (fs_ : List (Nat → Int32)) (ad_ : List Nat) (cf : Nat → Int32) (ca : Nat → Nat → Int32) (tf : Nat → Int32) (fp : Nat → Int32) (cd : Nat → Int32) (nf : Nat → Int32) (own : Bool) (lq : Nat) (lc : Nat) (lf : Nat → Int32) (lg : Nat → Option Nat) (P : va_W) (fs : Nat → Int32) (sd : Nat → Int32), E_tc_statements RLs fo ta cn na ff fg sn cf' ca' tf' fp' cd' nf' own' lq' lc' lf' lg' P' fs' sd'  k pc_ ls_ lw_ qs_ fs_ ad_ cf ca tf fp cd nf own lq lc lf lg P fs sd → PX P P' := by
  intro k
  induction k with
  | zero => intro _ _ _ _ _ _ _ _ _ _ _ _ _ _ _ _ _ _ _ _ h; exact h.elim
  | succ k ih =>
    intro pc_ ls_ lw_ qs_ fs_ ad_ cf ca tf fp cd nf own lq lc lf lg P fs sd h
    rcases h with ⟨-, hE⟩ | ⟨-, x2_1, -, -, -, -, -, (⟨h1, e0, e1, e2, e3, e4, e5, e6, e7, e8, e9, e10, e11, e12, e13⟩ | ⟨h1, (⟨h2, e0, e1, e2, e3, e4, e5, e6, e7, e8, e9, e10, e11, e12, e13⟩ | ⟨h2, v6, h3, (⟨h4, e0, e1, e2, e3, e4, e5, e6, e7, e8, e9, e10, e11, e12, e13⟩ | ⟨h4, cf27, ca28, tf29, fp30, cd31, nf32, own33, lq34, lc35, lf36, lg37, P38, fs39, sd40, h5, z79, h6, hE⟩)⟩)⟩)⟩ | h
    · exact PX.tr PX.rf (ih _ _ _ _ _ _ _ _ _ _ _ _ _ _ _ _ _ _ _ _ hE)
    · rw [e11]; exact PX.rf
    · rw [e11]; exact PX.rf
    · rw [e11]; exact PX.rf
    · exact PX.tr (PX.tr PX.rf (hS _ _ _ _ _ _ _ _ _ _ _ _ _ _ _ _ _ _ _ _ _ _ _ _ _ _ _ _ _ _ _ _ _ _ _ h5)) (ih _ _ _ _ _ _ _ _ _ _ _ _ _ _ _ _ _ _ _ _ hE)
    · exact h.elim
theorem pxr_tc_statements {RLs : T_tc_statement} {fo : Option Nat} {ta : Nat → Nat → Int32} {cn : Nat} {na : Nat → Nat → Int32} {ff : Nat → Int32} {fg : Nat → Option Nat} {sn : Nat} {cf : Nat → Int32} {ca : Nat → Nat → Int32} {tf : Nat → Int32} {fp : Nat → Int32} {cd : Nat → Int32} {nf : Nat → Int32} {own : Bool} {lq : Nat} {lc : Nat} {lf : Nat → Int32} {lg : Nat → Option Nat} {P : va_W} {fs : Nat → Int32} {sd : Nat → Int32} {cf' : Nat → Int32} {ca' : Nat → Nat → Int32} {tf' : Nat → Int32} {fp' : Nat → Int32} {cd' : Nat → Int32} {nf' : Nat → Int32} {own' : Bool} {lq' : Nat} {lc' : Nat} {lf' : Nat → Int32} {lg' : Nat → Option Nat} {P' : va_W} {fs' : Nat → Int32} {sd' : Nat → Int32} (hS : PX_tc_statement RLs) (h : R_tc_statements RLs fo ta cn na ff fg sn cf ca tf fp cd nf own lq lc lf lg P fs sd cf' ca' tf' fp' cd' nf' own' lq' lc' lf' lg' P' fs' sd') : PX P P' := by
  obtain ⟨k, h⟩ := h
  exact pxe_tc_statements hS k _ _ _ _ _ _ _ _ _ _ _ _ _ _ _ _ _ _ _ _ h
theorem pxe_tc_choice {RLs : T_tc_statement} {fo : Option Nat} {ta : Nat → Nat → Int32} {cn : Nat} {na : Nat → Nat → Int32} {ff : Nat → Int32} {fg : Nat → Option Nat} {sn : Nat}  {cf' : Nat → Int32} {ca' : Nat → Nat → Int32} {tf' : Nat → Int32} {fp' : Nat → Int32} {cd' : Nat → Int32} {nf' : Nat → Int32} {own' : Bool} {lq' : Nat} {lc' : Nat} {lf' : Nat → Int32} {lg' : Nat → Option Nat} {P' : va_W} {fs' : Nat → Int32} {sd' : Nat → Int32} (hS : PX_tc_statement RLs) : ∀ (k pc_ : Nat) (ls_ : List Int32) (lw_ : List Int64) (qs_ : List (Option Nat)) (fs_ : List (Nat → Int32)) (ad_ : List Nat) (cf : Nat → Int32) (ca : Nat → Nat → Int32) (tf : Nat → Int32) (fp : Nat → Int32) (cd : Nat → Int32) (nf : Nat → Int32) (own : Bool) (lq : Nat) (lc : Nat) (lf : Nat → Int32) (lg : Nat → Option Nat) (P : va_W) (fs : Nat → Int32) (sd : Nat → Int32), E_tc_choice RLs fo ta cn na ff fg sn cf' ca' tf' fp' cd' nf' own' lq' lc' lf' lg' P' fs' sd'  k pc_ ls_ lw_ qs_ fs_ ad_ cf ca tf fp cd nf own lq lc lf lg P fs sd → PX P P' := by
  intro k
  induction k with
  | zero => intro _ _ _ _ _ _ _ _ _ _ _ _ _ _ _ _ _ _ _ _ h; exact h.elim
  | succ k ih =>
    intro pc_ ls_ lw_ qs_ fs_ ad_ cf ca tf fp cd nf own lq lc lf lg P fs sd h
    rcases h with ⟨-, tf122, h1, cf135, tf136, fp137, cd138, h2, fp167, cd168, v170, h3, cf188, ca189, tf190, fp191, cd192, nf193, own194, lq195, lc196, lf197, lg198, P199, fs200, sd201, h4, hE⟩ | ⟨-, x29_1, -, -, -, -, -, tf15, v17, h1, (⟨h2, cd30, h3, tf33, h4, e0, e1, e2, e3, e4, e5, e6, e7, e8, e9, e10, e11, e12, e13⟩ | ⟨h2, fp44, cd45, v47, h3, cd52, h4, cf70, ca71, tf72, fp73, cd74, nf75, own76, lq77, lc78, lf79, lg80, P81, fs82, sd83, h5, hE⟩)⟩ | ⟨-, x73_2, -, -, -, -, -, cd3, h1, tf6, h2, e0, e1, e2, e3, e4, e5, e6, e7, e8, e9, e10, e11, e12, e13⟩ | h
    · exact PX.tr (PX.tr PX.rf (hS _ _ _ _ _ _ _ _ _ _ _ _ _ _ _ _ _ _ _ _ _ _ _ _ _ _ _ _ _ _ _ _ _ _ _ h4)) (ih _ _ _ _ _ _ _ _ _ _ _ _ _ _ _ _ _ _ _ _ hE)
    · rw [e11]; exact PX.rf
    · exact PX.tr (PX.tr PX.rf (hS _ _ _ _ _ _ _ _ _ _ _ _ _ _ _ _ _ _ _ _ _ _ _ _ _ _ _ _ _ _ _ _ _ _ _ h5)) (ih _ _ _ _ _ _ _ _ _ _ _ _ _ _ _ _ _ _ _ _ hE)
    · rw [e11]; exact PX.rf
    · exact h.elim
theorem pxr_tc_choice {RLs : T_tc_statement} {fo : Option Nat} {ta : Nat → Nat → Int32} {cn : Nat} {na : Nat → Nat → Int32} {ff : Nat → Int32} {fg : Nat → Option Nat} {sn : Nat} {cf : Nat → Int32} {ca : Nat → Nat → Int32} {tf : Nat → Int32} {fp : Nat → Int32} {cd : Nat → Int32} {nf : Nat → Int32} {own : Bool} {lq : Nat} {lc : Nat} {lf : Nat → Int32} {lg : Nat → Option Nat} {P : va_W} {fs : Nat → Int32} {sd : Nat → Int32} {cf' : Nat → Int32} {ca' : Nat → Nat → Int32} {tf' : Nat → Int32} {fp' : Nat → Int32} {cd' : Nat → Int32} {nf' : Nat → Int32} {own' : Bool} {lq' : Nat} {lc' : Nat} {lf' : Nat → Int32} {lg' : Nat → Option Nat} {P' : va_W} {fs' : Nat → Int32} {sd' : Nat → Int32} (hS : PX_tc_statement RLs) (h : R_tc_choice RLs fo ta cn na ff fg sn cf ca tf fp cd nf own lq lc lf lg P fs sd cf' ca' tf' fp' cd' nf' own' lq' lc' lf' lg' P' fs' sd') : PX P P' := by
  obtain ⟨k, h⟩ := h
  exact pxe_tc_choice hS k _ _ _ _ _ _ _ _ _ _ _ _ _ _ _ _ _ _ _ _ h
theorem pxr_tc_block {RLs : T_tc_statement} {fo : Option Nat} {ta : Nat → Nat → Int32} {cn : Nat} {na : Nat → Nat → Int32} {ff : Nat → Int32} {fg : Nat → Option Nat} {sn : Nat} {cf : Nat → Int32} {ca : Nat → Nat → Int32} {tf : Nat → Int32} {fp : Nat → Int32} {cd : Nat → Int32} {nf : Nat → Int32} {own : Bool} {lq : Nat} {lc : Nat} {lf : Nat → Int32} {lg : Nat → Option Nat} {P : va_W} {fs : Nat → Int32} {sd : Nat → Int32} {cf' : Nat → Int32} {ca' : Nat → Nat → Int32} {tf' : Nat → Int32} {fp' : Nat → Int32} {cd' : Nat → Int32} {nf' : Nat → Int32} {own' : Bool} {lq' : Nat} {lc' : Nat} {lf' : Nat → Int32} {lg' : Nat → Option Nat} {P' : va_W} {fs' : Nat → Int32} {sd' : Nat → Int32} (hS : PX_tc_statement RLs) (h : R_tc_block RLs fo ta cn na ff fg sn cf ca tf fp cd nf own lq lc lf lg P fs sd cf' ca' tf' fp' cd' nf' own' lq' lc' lf' lg' P' fs' sd') : PX P P' := by
  rcases h with ⟨nf2, v4, h1, tf10, h2, cf34, ca35, tf36, fp37, cd38, nf39, own40, lq41, lc42, lf43, lg44, P45, fs46, sd47, h3, tf85, h4, nf97, lf98, lg99, h5, e0, e1, e2, e3, e4, e5, e6, e7, e8, e9, e10, e11, e12, e13⟩ | h
  · rw [e11]; exact (PX.tr PX.rf (pxr_tc_statements hS h3))
  · exact h.elim
theorem pxe_tc_whileLoop {RLs : T_tc_statement} {fo : Option Nat} {ta : Nat → Nat → Int32} {cn : Nat} {na : Nat → Nat → Int32} {ff : Nat → Int32} {fg : Nat → Option Nat} {sn : Nat} {cf0 : Nat → Int32} {cf' : Nat → Int32} {ca' : Nat → Nat → Int32} {tf' : Nat → Int32} {fp' : Nat → Int32} {cd' : Nat → Int32} {nf' : Nat → Int32} {own' : Bool} {lq' : Nat} {lc' : Nat} {lf' : Nat → Int32} {lg' : Nat → Option Nat} {P' : va_W} {fs' : Nat → Int32} {sd' : Nat → Int32} (hS : PX_tc_statement RLs) : ∀ (k pc_ : Nat) (ls_ : List Int32) (lw_ : List Int64) (qs_ : List (Option Nat)) (fs_ : List (Nat → Int32)) (ad_ : List Nat) (cf : Nat → Int32) (ca : Nat → Nat → Int32) (tf : Nat → Int32) (fp : Nat → Int32) (cd : Nat → Int32) (nf : Nat → Int32) (own : Bool) (lq : Nat) (lc : Nat) (lf : Nat → Int32) (lg : Nat → Option Nat) (P : va_W) (fs : Nat → Int32) (sd : Nat → Int32), E_tc_whileLoop RLs fo ta cn na ff fg sn cf' ca' tf' fp' cd' nf' own' lq' lc' lf' lg' P' fs' sd' cf0 k pc_ ls_ lw_ qs_ fs_ ad_ cf ca tf fp cd nf own lq lc lf lg P fs sd → PX P P' := by
  intro k
  induction k with
  | zero => intro _ _ _ _ _ _ _ _ _ _ _ _ _ _ _ _ _ _ _ _ h; exact h.elim
  | succ k ih =>
    intro pc_ ls_ lw_ qs_ fs_ ad_ cf ca tf fp cd nf own lq lc lf lg P fs sd h
    rcases h with ⟨-, tf26, h1, cf39, tf40, fp41, cd42, h2, fp71, cd72, v74, h3, cf93, ca94, tf95, fp96, cd97, nf98, own99, lq100, lc101, lf102, lg103, P104, fs105, sd106, h4, hE⟩ | ⟨-, x56_3, -, -, -, -, -, fp3, cd4, v6, h1, cd10, h2, cd14, h3, tf17, h4, e0, e1, e2, e3, e4, e5, e6, e7, e8, e9, e10, e11, e12, e13⟩ | h
    · exact PX.tr (PX.tr PX.rf (pxr_tc_loopBody hS h4)) (ih _ _ _ _ _ _ _ _ _ _ _ _ _ _ _ _ _ _ _ _ hE)
    · rw [e11]; exact PX.rf
    · exact h.elim
theorem pxr_tc_whileLoop {RLs : T_tc_statement} {fo : Option Nat} {ta : Nat → Nat → Int32} {cn : Nat} {na : Nat → Nat → Int32} {ff : Nat → Int32} {fg : Nat → Option Nat} {sn : Nat} {cf : Nat → Int32} {ca : Nat → Nat → Int32} {tf : Nat → Int32} {fp : Nat → Int32} {cd : Nat → Int32} {nf : Nat → Int32} {own : Bool} {lq : Nat} {lc : Nat} {lf : Nat → Int32} {lg : Nat → Option Nat} {P : va_W} {fs : Nat → Int32} {sd : Nat → Int32} {cf' : Nat → Int32} {ca' : Nat → Nat → Int32} {tf' : Nat → Int32} {fp' : Nat → Int32} {cd' : Nat → Int32} {nf' : Nat → Int32} {own' : Bool} {lq' : Nat} {lc' : Nat} {lf' : Nat → Int32} {lg' : Nat → Option Nat} {P' : va_W} {fs' : Nat → Int32} {sd' : Nat → Int32} (hS : PX_tc_statement RLs) (h : R_tc_whileLoop RLs fo ta cn na ff fg sn cf ca tf fp cd nf own lq lc lf lg P fs sd cf' ca' tf' fp' cd' nf' own' lq' lc' lf' lg' P' fs' sd') : PX P P' := by
  obtain ⟨k, h⟩ := h
  exact pxe_tc_whileLoop hS k _ _ _ _ _ _ _ _ _ _ _ _ _ _ _ _ _ _ _ _ h
theorem pxe_tc_doLoop {RLs : T_tc_statement} {fo : Option Nat} {ta : Nat → Nat → Int32} {cn : Nat} {na : Nat → Nat → Int32} {ff : Nat → Int32} {fg : Nat → Option Nat} {sn : Nat} {cf0 : Nat → Int32} {cf' : Nat → Int32} {ca' : Nat → Nat → Int32} {tf' : Nat → Int32} {fp' : Nat → Int32} {cd' : Nat → Int32} {nf' : Nat → Int32} {own' : Bool} {lq' : Nat} {lc' : Nat} {lf' : Nat → Int32} {lg' : Nat → Option Nat} {P' : va_W} {fs' : Nat → Int32} {sd' : Nat → Int32} (hS : PX_tc_statement RLs) : ∀ (k pc_ : Nat) (ls_ : List Int32) (lw_ : List Int64) (qs_ : List (Option Nat)) (fs_ : List (Nat → Int32)) (ad_ : List Nat) (cf : Nat → Int32) (ca : Nat → Nat → Int32) (tf : Nat → Int32) (fp : Nat → Int32) (cd : Nat → Int32) (nf : Nat → Int32) (own : Bool) (lq : Nat) (lc : Nat) (lf : Nat → Int32) (lg : Nat → Option Nat) (P : va_W) (fs : Nat → Int32) (sd : Nat → Int32), E_tc_doLoop RLs fo ta cn na ff fg sn cf' ca' tf' fp' cd' nf' own' lq' lc' lf' lg' P' fs' sd' cf0 k pc_ ls_ lw_ qs_ fs_ ad_ cf ca tf fp cd nf own lq lc lf lg P fs sd → PX P P' := by
  intro k
  induction k with
  | zero => intro _ _ _ _ _ _ _ _ _ _ _ _ _ _ _ _ _ _ _ _ h; exact h.elim
  | succ k ih =>
    intro pc_ ls_ lw_ qs_ fs_ ad_ cf ca tf fp cd nf own lq lc lf lg P fs sd h
    rcases h with ⟨-, tf78, h1, cf102, ca103, tf104, fp105, cd106, nf107, own108, lq109, lc110, lf111, lg112, P113, fs114, sd115, h2, hE⟩ | ⟨-, x41_3, -, -, -, -, -, cd2, h1, tf5, h2, cf18, tf19, fp20, cd21, h3, tf48, h4, fp59, cd60, v62, h5, cd66, h6, tf69, h7, e0, e1, e2, e3, e4, e5, e6, e7, e8, e9, e10, e11, e12, e13⟩ | h
    · exact PX.tr (PX.tr PX.rf (pxr_tc_loopBody hS h2)) (ih _ _ _ _ _ _ _ _ _ _ _ _ _ _ _ _ _ _ _ _ hE)
    · rw [e11]; exact PX.rf
    · exact h.elim
theorem pxr_tc_doLoop {RLs : T_tc_statement} {fo : Option Nat} {ta : Nat → Nat → Int32} {cn : Nat} {na : Nat → Nat → Int32} {ff : Nat → Int32} {fg : Nat → Option Nat} {sn : Nat} {cf : Nat → Int32} {ca : Nat → Nat → Int32} {tf : Nat → Int32} {fp : Nat → Int32} {cd : Nat → Int32} {nf : Nat → Int32} {own : Bool} {lq : Nat} {lc : Nat} {lf : Nat → Int32} {lg : Nat → Option Nat} {P : va_W} {fs : Nat → Int32} {sd : Nat → Int32} {cf' : Nat → Int32} {ca' : Nat → Nat → Int32} {tf' : Nat → Int32} {fp' : Nat → Int32} {cd' : Nat → Int32} {nf' : Nat → Int32} {own' : Bool} {lq' : Nat} {lc' : Nat} {lf' : Nat → Int32} {lg' : Nat → Option Nat} {P' : va_W} {fs' : Nat → Int32} {sd' : Nat → Int32} (hS : PX_tc_statement RLs) (h : R_tc_doLoop RLs fo ta cn na ff fg sn cf ca tf fp cd nf own lq lc lf lg P fs sd cf' ca' tf' fp' cd' nf' own' lq' lc' lf' lg' P' fs' sd') : PX P P' := by
  obtain ⟨k, h⟩ := h
  exact pxe_tc_doLoop hS k _ _ _ _ _ _ _ _ _ _ _ _ _ _ _ _ _ _ _ _ h
theorem pxe_tc_forLoop {RLs : T_tc_statement} {fo : Option Nat} {ta : Nat → Nat → Int32} {cn : Nat} {na : Nat → Nat → Int32} {ff : Nat → Int32} {fg : Nat → Option Nat} {sn : Nat} {cf0 : Nat → Int32} {cf' : Nat → Int32} {ca' : Nat → Nat → Int32} {tf' : Nat → Int32} {fp' : Nat → Int32} {cd' : Nat → Int32} {nf' : Nat → Int32} {own' : Bool} {lq' : Nat} {lc' : Nat} {lf' : Nat → Int32} {lg' : Nat → Option Nat} {P' : va_W} {fs' : Nat → Int32} {sd' : Nat → Int32} (hS : PX_tc_statement RLs) : ∀ (k pc_ : Nat) (ls_ : List Int32) (lw_ : List Int64) (qs_ : List (Option Nat)) (fs_ : List (Nat → Int32)) (ad_ : List Nat) (cf : Nat → Int32) (ca : Nat → Nat → Int32) (tf : Nat → Int32) (fp : Nat → Int32) (cd : Nat → Int32) (nf : Nat → Int32) (own : Bool) (lq : Nat) (lc : Nat) (lf : Nat → Int32) (lg : Nat → Option Nat) (P : va_W) (fs : Nat → Int32) (sd : Nat → Int32), E_tc_forLoop RLs fo ta cn na ff fg sn cf' ca' tf' fp' cd' nf' own' lq' lc' lf' lg' P' fs' sd' cf0 k pc_ ls_ lw_ qs_ fs_ ad_ cf ca tf fp cd nf own lq lc lf lg P fs sd → PX P P' := by
  intro k
  induction k with
  | zero => intro _ _ _ _ _ _ _ _ _ _ _ _ _ _ _ _ _ _ _ _ h; exact h.elim
  | succ k ih =>
    intro pc_ ls_ lw_ qs_ fs_ ad_ cf ca tf fp cd nf own lq lc lf lg P fs sd h
    rcases h with ⟨-, nf247, v249, h1, tf255, h2, tf264, h3, v274, h4, (⟨h5, tf280, h6, cf303, tf304, fp305, cd306, own307, lq308, lc309, lf310, lg311, P312, fs313, sd314, h7, hE⟩ | ⟨h5, (⟨h6, (⟨h7, hE⟩ | ⟨h7, cf357, tf358, fp359, cd360, h8, hE⟩)⟩ | ⟨h6, tf387, h7, cf410, tf411, fp412, cd413, own414, lq415, lc416, lf417, lg418, P419, fs420, sd421, h8, hE⟩)⟩)⟩ | ⟨-, x94_3, -, -, -, -, -, tf187, h1, v197, h2, (⟨h3, hE⟩ | ⟨h3, cf207, tf208, fp209, cd210, h4, fp239, cd240, v242, h5, hE⟩)⟩ | ⟨-, x144_3, x144_5, -, -, -, -, -, tf116, h1, v126, h2, (⟨h3, hE⟩ | ⟨h3, fp134, cd135, v137, h4, cf144, tf145, fp146, cd147, h5, fp176, cd177, v179, h6, cd184, h7, hE⟩)⟩ | ⟨-, x226_3, x226_6, -, -, -, -, -, tf1, h1, cf25, ca26, tf27, fp28, cd29, nf30, own31, lq32, lc33, lf34, lg35, P36, fs37, sd38, h2, fp79, cd80, v82, h3, cd86, h4, cd90, h5, nf96, lf97, lg98, h6, tf107, h7, e0, e1, e2, e3, e4, e5, e6, e7, e8, e9, e10, e11, e12, e13⟩ | h
    · exact PX.tr (PX.tr PX.rf (pxr_tc_variables h7)) (ih _ _ _ _ _ _ _ _ _ _ _ _ _ _ _ _ _ _ _ _ hE)
    · exact PX.tr PX.rf (ih _ _ _ _ _ _ _ _ _ _ _ _ _ _ _ _ _ _ _ _ hE)
    · exact PX.tr PX.rf (ih _ _ _ _ _ _ _ _ _ _ _ _ _ _ _ _ _ _ _ _ hE)
    · exact PX.tr (PX.tr PX.rf (pxr_tc_variables h8)) (ih _ _ _ _ _ _ _ _ _ _ _ _ _ _ _ _ _ _ _ _ hE)
    · exact PX.tr PX.rf (ih _ _ _ _ _ _ _ _ _ _ _ _ _ _ _ _ _ _ _ _ hE)
    · exact PX.tr PX.rf (ih _ _ _ _ _ _ _ _ _ _ _ _ _ _ _ _ _ _ _ _ hE)
    · exact PX.tr PX.rf (ih _ _ _ _ _ _ _ _ _ _ _ _ _ _ _ _ _ _ _ _ hE)
    · exact PX.tr PX.rf (ih _ _ _ _ _ _ _ _ _ _ _ _ _ _ _ _ _ _ _ _ hE)
    · rw [e11]; exact (PX.tr PX.rf (pxr_tc_loopBody hS h2))
    · exact h.elim
theorem pxr_tc_forLoop {RLs : T_tc_statement} {fo : Option Nat} {ta : Nat → Nat → Int32} {cn : Nat} {na : Nat → Nat → Int32} {ff : Nat → Int32} {fg : Nat → Option Nat} {sn : Nat} {cf : Nat → Int32} {ca : Nat → Nat → Int32} {tf : Nat → Int32} {fp : Nat → Int32} {cd : Nat → Int32} {nf : Nat → Int32} {own : Bool} {lq : Nat} {lc : Nat} {lf : Nat → Int32} {lg : Nat → Option Nat} {P : va_W} {fs : Nat → Int32} {sd : Nat → Int32} {cf' : Nat → Int32} {ca' : Nat → Nat → Int32} {tf' : Nat → Int32} {fp' : Nat → Int32} {cd' : Nat → Int32} {nf' : Nat → Int32} {own' : Bool} {lq' : Nat} {lc' : Nat} {lf' : Nat → Int32} {lg' : Nat → Option Nat} {P' : va_W} {fs' : Nat → Int32} {sd' : Nat → Int32} (hS : PX_tc_statement RLs) (h : R_tc_forLoop RLs fo ta cn na ff fg sn cf ca tf fp cd nf own lq lc lf lg P fs sd cf' ca' tf' fp' cd' nf' own' lq' lc' lf' lg' P' fs' sd') : PX P P' := by
  obtain ⟨k, h⟩ := h
  exact pxe_tc_forLoop hS k _ _ _ _ _ _ _ _ _ _ _ _ _ _ _ _ _ _ _ _ h
theorem pxe_tc_selection {RLs : T_tc_statement} {fo : Option Nat} {ta : Nat → Nat → Int32} {cn : Nat} {na : Nat → Nat → Int32} {ff : Nat → Int32} {fg : Nat → Option Nat} {sn : Nat} {cf0 : Nat → Int32} {cf' : Nat → Int32} {ca' : Nat → Nat → Int32} {tf' : Nat → Int32} {fp' : Nat → Int32} {cd' : Nat → Int32} {nf' : Nat → Int32} {own' : Bool} {lq' : Nat} {lc' : Nat} {lf' : Nat → Int32} {lg' : Nat → Option Nat} {P' : va_W} {fs' : Nat → Int32} {sd' : Nat → Int32} (hS : PX_tc_statement RLs) : ∀ (k pc_ : Nat) (ls_ : List Int32) (lw_ : List Int64) (qs_ : List (Option Nat)) (fs_ : List (Nat → Int32)) (ad_ : List Nat) (cf : Nat → Int32) (ca : Nat → Nat → Int32) (tf : Nat → Int32) (fp : Nat → Int32) (cd : Nat → Int32) (nf : Nat → Int32) (own : Bool) (lq : Nat) (lc : Nat) (lf : Nat → Int32) (lg : Nat → Option Nat) (P : va_W) (fs : Nat → Int32) (sd : Nat → Int32), E_tc_selection RLs fo ta cn na ff fg sn cf' ca' tf' fp' cd' nf' own' lq' lc' lf' lg' P' fs' sd' cf0 k pc_ ls_ lw_ qs_ fs_ ad_ cf ca tf fp cd nf own lq lc lf lg P fs sd → PX P P' := by
  intro k
  induction k with
  | zero => intro _ _ _ _ _ _ _ _ _ _ _ _ _ _ _ _ _ _ _ _ h; exact h.elim
  | succ k ih =>
    intro pc_ ls_ lw_ qs_ fs_ ad_ cf ca tf fp cd nf own lq lc lf lg P fs sd h
    rcases h with ⟨-, nf222, v224, h1, tf230, h2, cf243, tf244, fp245, cd246, h3, fp275, cd276, v278, h4, z282, h5, tf283, h6, hE⟩ | ⟨-, x78_2, x78_3, x78_4, x78_5, x78_6, x78_7, -, -, -, -, -, (⟨h1, hE⟩ | ⟨h1, (⟨h2, hE⟩ | ⟨h2, v78, h3, (⟨h4, hE⟩ | ⟨h4, v85, h5, (⟨h6, (⟨h7, (⟨h8, tf95, h9, hE⟩ | ⟨h8, cf119, ca120, tf121, fp122, cd123, nf124, own125, lq126, lc127, lf128, lg129, P130, fs131, sd132, h9, hE⟩)⟩ | ⟨h7, tf172, h8, hE⟩)⟩ | ⟨h6, cf189, ca190, tf191, fp192, cd193, h7, hE⟩)⟩)⟩)⟩)⟩ | ⟨-, x176_2, x176_3, x176_4, x176_5, x176_7, -, -, -, -, -, z72, h1, hE⟩ | ⟨-, x185_2, x185_3, x185_4, x185_5, -, -, -, -, -, tf1, h1, z11, h2, fp14, cd15, v17, h3, cd23, h4, cf29, fp30, cd31, h5, cd46, h6, nf52, lf53, lg54, h7, tf63, h8, e0, e1, e2, e3, e4, e5, e6, e7, e8, e9, e10, e11, e12, e13⟩ | h
    · exact PX.tr PX.rf (ih _ _ _ _ _ _ _ _ _ _ _ _ _ _ _ _ _ _ _ _ hE)
    · exact PX.tr PX.rf (ih _ _ _ _ _ _ _ _ _ _ _ _ _ _ _ _ _ _ _ _ hE)
    · exact PX.tr PX.rf (ih _ _ _ _ _ _ _ _ _ _ _ _ _ _ _ _ _ _ _ _ hE)
    · exact PX.tr PX.rf (ih _ _ _ _ _ _ _ _ _ _ _ _ _ _ _ _ _ _ _ _ hE)
    · exact PX.tr PX.rf (ih _ _ _ _ _ _ _ _ _ _ _ _ _ _ _ _ _ _ _ _ hE)
    · exact PX.tr (PX.tr PX.rf (hS _ _ _ _ _ _ _ _ _ _ _ _ _ _ _ _ _ _ _ _ _ _ _ _ _ _ _ _ _ _ _ _ _ _ _ h9)) (ih _ _ _ _ _ _ _ _ _ _ _ _ _ _ _ _ _ _ _ _ hE)
    · exact PX.tr PX.rf (ih _ _ _ _ _ _ _ _ _ _ _ _ _ _ _ _ _ _ _ _ hE)
    · exact PX.tr PX.rf (ih _ _ _ _ _ _ _ _ _ _ _ _ _ _ _ _ _ _ _ _ hE)
    · exact PX.tr PX.rf (ih _ _ _ _ _ _ _ _ _ _ _ _ _ _ _ _ _ _ _ _ hE)
    · rw [e11]; exact PX.rf
    · exact h.elim
theorem pxr_tc_selection {RLs : T_tc_statement} {fo : Option Nat} {ta : Nat → Nat → Int32} {cn : Nat} {na : Nat → Nat → Int32} {ff : Nat → Int32} {fg : Nat → Option Nat} {sn : Nat} {cf : Nat → Int32} {ca : Nat → Nat → Int32} {tf : Nat → Int32} {fp : Nat → Int32} {cd : Nat → Int32} {nf : Nat → Int32} {own : Bool} {lq : Nat} {lc : Nat} {lf : Nat → Int32} {lg : Nat → Option Nat} {P : va_W} {fs : Nat → Int32} {sd : Nat → Int32} {cf' : Nat → Int32} {ca' : Nat → Nat → Int32} {tf' : Nat → Int32} {fp' : Nat → Int32} {cd' : Nat → Int32} {nf' : Nat → Int32} {own' : Bool} {lq' : Nat} {lc' : Nat} {lf' : Nat → Int32} {lg' : Nat → Option Nat} {P' : va_W} {fs' : Nat → Int32} {sd' : Nat → Int32} (hS : PX_tc_statement RLs) (h : R_tc_selection RLs fo ta cn na ff fg sn cf ca tf fp cd nf own lq lc lf lg P fs sd cf' ca' tf' fp' cd' nf' own' lq' lc' lf' lg' P' fs' sd') : PX P P' := by
  obtain ⟨k, h⟩ := h
  exact pxe_tc_selection hS k _ _ _ _ _ _ _ _ _ _ _ _ _ _ _ _ _ _ _ _ h
theorem pxe_tc_statement {RLs : T_tc_statement} {fo : Option Nat} {ta : Nat → Nat → Int32} {cn : Nat} {na : Nat → Nat → Int32} {ff : Nat → Int32} {fg : Nat → Option Nat} {sn : Nat}  {cf' : Nat → Int32} {ca' : Nat → Nat → Int32} {tf' : Nat → Int32} {fp' : Nat → Int32} {cd' : Nat → Int32} {nf' : Nat → Int32} {own' : Bool} {lq' : Nat} {lc' : Nat} {lf' : Nat → Int32} {lg' : Nat → Option Nat} {P' : va_W} {fs' : Nat → Int32} {sd' : Nat → Int32} (hS : PX_tc_statement RLs) : ∀ (k pc_ : Nat) (ls_ : List Int32) (lw_ : List Int64) (qs_ : List (Option Nat)) (fs_ : List (Nat → Int32)) (ad_ : List Nat) (cf : Nat → Int32) (ca : Nat → Nat → Int32) (tf : Nat → Int32) (fp : Nat → Int32) (cd : Nat → Int32) (nf : Nat → Int32) (own : Bool) (lq : Nat) (lc : Nat) (lf : Nat → Int32) (lg : Nat → Option Nat) (P : va_W) (fs : Nat → Int32) (sd : Nat → Int32), E_tc_statement RLs fo ta cn na ff fg sn cf' ca' tf' fp' cd' nf' own' lq' lc' lf' lg' P' fs' sd'  k pc_ ls_ lw_ qs_ fs_ ad_ cf ca tf fp cd nf own lq lc lf lg P fs sd → PX P P' := by
  intro k
  induction k with
  | zero => intro _ _ _ _ _ _ _ _ _ _ _ _ _ _ _ _ _ _ _ _ h; exact h.elim
  | succ k ih =>
    intro pc_ ls_ lw_ qs_ fs_ ad_ cf ca tf fp cd nf own lq lc lf lg P fs sd h
    rcases h with ⟨-, v2, h1, (⟨h2, cf11, tf12, fp13, cd14, h3, tf41, h4, hE⟩ | ⟨h2, tf51, h3, cf74, tf75, fp76, cd77, own78, lq79, lc80, lf81, lg82, P83, fs84, sd85, h4, tf120, h5, hE⟩ | ⟨h2, cf144, ca145, tf146, fp147, cd148, nf149, own150, lq151, lc152, lf153, lg154, P155, fs156, sd157, h3, hE⟩ | ⟨h2, cf211, ca212, tf213, fp214, cd215, nf216, own217, lq218, lc219, lf220, lg221, P222, fs223, sd224, h3, hE⟩ | ⟨h2, cf278, ca279, tf280, fp281, cd282, nf283, own284, lq285, lc286, lf287, lg288, P289, fs290, sd291, h3, hE⟩ | ⟨h2, cf345, ca346, tf347, fp348, cd349, nf350, own351, lq352, lc353, lf354, lg355, P356, fs357, sd358, h3, hE⟩ | ⟨h2, cf412, ca413, tf414, fp415, cd416, nf417, own418, lq419, lc420, lf421, lg422, P423, fs424, sd425, h3, hE⟩ | ⟨h2, cf469, tf470, fp471, cd472, h3, hE⟩ | ⟨h2, cf501, tf502, fp503, cd504, h3, hE⟩ | ⟨h2, tf531, h3, hE⟩ | ⟨h2, cf557, ca558, tf559, fp560, cd561, nf562, own563, lq564, lc565, lf566, lg567, P568, fs569, sd570, h3, hE⟩)⟩ | ⟨-, -, -, -, -, -, e0, e1, e2, e3, e4, e5, e6, e7, e8, e9, e10, e11, e12, e13⟩ | h
    · exact PX.tr PX.rf (ih _ _ _ _ _ _ _ _ _ _ _ _ _ _ _ _ _ _ _ _ hE)
    · exact PX.tr (PX.tr PX.rf (pxr_tc_variables h4)) (ih _ _ _ _ _ _ _ _ _ _ _ _ _ _ _ _ _ _ _ _ hE)
    · exact PX.tr (PX.tr PX.rf (pxr_tc_choice hS h3)) (ih _ _ _ _ _ _ _ _ _ _ _ _ _ _ _ _ _ _ _ _ hE)
    · exact PX.tr (PX.tr PX.rf (pxr_tc_whileLoop hS h3)) (ih _ _ _ _ _ _ _ _ _ _ _ _ _ _ _ _ _ _ _ _ hE)
    · exact PX.tr (PX.tr PX.rf (pxr_tc_doLoop hS h3)) (ih _ _ _ _ _ _ _ _ _ _ _ _ _ _ _ _ _ _ _ _ hE)
    · exact PX.tr (PX.tr PX.rf (pxr_tc_forLoop hS h3)) (ih _ _ _ _ _ _ _ _ _ _ _ _ _ _ _ _ _ _ _ _ hE)
    · exact PX.tr (PX.tr PX.rf (pxr_tc_selection hS h3)) (ih _ _ _ _ _ _ _ _ _ _ _ _ _ _ _ _ _ _ _ _ hE)
    · exact PX.tr PX.rf (ih _ _ _ _ _ _ _ _ _ _ _ _ _ _ _ _ _ _ _ _ hE)
    · exact PX.tr PX.rf (ih _ _ _ _ _ _ _ _ _ _ _ _ _ _ _ _ _ _ _ _ hE)
    · exact PX.tr PX.rf (ih _ _ _ _ _ _ _ _ _ _ _ _ _ _ _ _ _ _ _ _ hE)
    · exact PX.tr (PX.tr PX.rf (pxr_tc_block hS h3)) (ih _ _ _ _ _ _ _ _ _ _ _ _ _ _ _ _ _ _ _ _ hE)
    · rw [e11]; exact PX.rf
    · exact h.elim
theorem pxr_tc_statement {RLs : T_tc_statement} {fo : Option Nat} {ta : Nat → Nat → Int32} {cn : Nat} {na : Nat → Nat → Int32} {ff : Nat → Int32} {fg : Nat → Option Nat} {sn : Nat} {cf : Nat → Int32} {ca : Nat → Nat → Int32} {tf : Nat → Int32} {fp : Nat → Int32} {cd : Nat → Int32} {nf : Nat → Int32} {own : Bool} {lq : Nat} {lc : Nat} {lf : Nat → Int32} {lg : Nat → Option Nat} {P : va_W} {fs : Nat → Int32} {sd : Nat → Int32} {cf' : Nat → Int32} {ca' : Nat → Nat → Int32} {tf' : Nat → Int32} {fp' : Nat → Int32} {cd' : Nat → Int32} {nf' : Nat → Int32} {own' : Bool} {lq' : Nat} {lc' : Nat} {lf' : Nat → Int32} {lg' : Nat → Option Nat} {P' : va_W} {fs' : Nat → Int32} {sd' : Nat → Int32} (hS : PX_tc_statement RLs) (h : R_tc_statement RLs fo ta cn na ff fg sn cf ca tf fp cd nf own lq lc lf lg P fs sd cf' ca' tf' fp' cd' nf' own' lq' lc' lf' lg' P' fs' sd') : PX P P' := by
  obtain ⟨k, h⟩ := h
  exact pxe_tc_statement hS k _ _ _ _ _ _ _ _ _ _ _ _ _ _ _ _ _ _ _ _ h
theorem pxl_st : ∀ n : Nat, PX_tc_statement (RL_tc_statement n)
  | 0 => fun _ _ _ _ _ _ _ _ _ _ _ _ _ _ _ _ _ _ _ _ _ _ _ _ _ _ _ _ _ _ _ _ _ _ _ h => h.elim
  | n + 1 => fun _ _ _ _ _ _ _ _ _ _ _ _ _ _ _ _ _ _ _ _ _ _ _ _ _ _ _ _ _ _ _ _ _ _ _ h => pxr_tc_statement (pxl_st n) h
theorem pxl_RLs (n : Nat) : PX_tc_statement (RL_tc_statement n) := (pxl_st n)
