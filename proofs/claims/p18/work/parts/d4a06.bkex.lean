def BK_ex_parse (R : T_ex_parse) : Prop := ∀ (ta : Nat → Nat → Int32) (cn : Nat) (na : Nat → Nat → Int32) (own : Bool) (P : va_W) (lf : Nat → Int32) (lg : Nat → Option Nat) (ff : Nat → Int32) (fg : Nat → Option Nat) (p0 : Int32) (tf : Nat → Int32) (fp : Nat → Int32) (cd : Nat → Int32) (tf' : Nat → Int32) (fp' : Nat → Int32) (cd' : Nat → Int32) (ox' : Option Nat) (fx' : Nat → Int32), R ta cn na own P lf lg ff fg p0 tf fp cd tf' fp' cd' ox' fx' → BK tf tf'
def BK_ex_operand (R : T_ex_operand) : Prop := ∀ (ta : Nat → Nat → Int32) (cn : Nat) (na : Nat → Nat → Int32) (own : Bool) (P : va_W) (lf : Nat → Int32) (lg : Nat → Option Nat) (ff : Nat → Int32) (fg : Nat → Option Nat) (tf : Nat → Int32) (fp : Nat → Int32) (cd : Nat → Int32) (tf' : Nat → Int32) (fp' : Nat → Int32) (cd' : Nat → Int32) (ox' : Option Nat) (fx' : Nat → Int32), R ta cn na own P lf lg ff fg tf fp cd tf' fp' cd' ox' fx' → BK tf tf'
theorem bkr_ex_drop  {cn : Nat} {P : va_W} {ox : Option Nat} {tf : Nat → Int32} {fp : Nat → Int32} {cd : Nat → Int32} {fx : Nat → Int32} {tf' : Nat → Int32} {fp' : Nat → Int32} {cd' : Nat → Int32} {fx' : Nat → Int32}  (h : R_ex_drop  cn P ox tf fp cd fx tf' fp' cd' fx') : BK tf tf' := by
  rcases h with (⟨h1, fp5, cd6, v8, h2, e0, e1, e2, e3⟩ | ⟨h1, tf15, fp16, cd17, fx18, h2, fp36, cd37, v39, h3, e0, e1, e2, e3⟩) | h
  · rw [e0]; exact BK.rf
  · rw [e0]; exact (BK.tr BK.rf (bkr_ex_number h2))
  · exact h.elim
theorem bkr_ex_figure {RLp : T_ex_parse} {RLo : T_ex_operand} {ta : Nat → Nat → Int32} {cn : Nat} {tf : Nat → Int32} {fp : Nat → Int32} {cd : Nat → Int32} {tf' : Nat → Int32} {fp' : Nat → Int32} {cd' : Nat → Int32} {ox' : Option Nat} {fx' : Nat → Int32} (hP : BK_ex_parse RLp) (hO : BK_ex_operand RLo) (h : R_ex_figure RLp RLo ta cn tf fp cd tf' fp' cd' ox' fx') : BK tf tf' := by
  rcases h with ⟨q1, v5, h1, fp9, cd10, v12, h2, v16, h3, (⟨h4, tf22, h5, e0, e1, e2, e3, e4⟩ | ⟨h4, tf31, h5, e0, e1, e2, e3, e4⟩)⟩ | h
  · rw [e0]; exact (BK.tr BK.rf (bkr_tk_fail h5))
  · rw [e0]; exact (BK.tr BK.rf (bkr_tk_step h5))
  · exact h.elim
theorem bke_ex_named {RLp : T_ex_parse} {RLo : T_ex_operand} {ta : Nat → Nat → Int32} {cn : Nat} {own : Bool} {P : va_W} {lf : Nat → Int32} {lg : Nat → Option Nat}  {tf' : Nat → Int32} {fp' : Nat → Int32} {cd' : Nat → Int32} {ox' : Option Nat} {fx' : Nat → Int32} (hP : BK_ex_parse RLp) (hO : BK_ex_operand RLo) : ∀ (k pc_ : Nat) (ls_ : List Int32) (lw_ : List Int64) (qs_ : List (Option Nat)) (fs_ : List (Nat → Int32)) (ad_ : List Nat) (tf : Nat → Int32) (fp : Nat → Int32) (cd : Nat → Int32), E_ex_named RLp RLo ta cn own P lf lg tf' fp' cd' ox' fx'  k pc_ ls_ lw_ qs_ fs_ ad_ tf fp cd → BK tf tf' := by
  intro k
  induction k with
  | zero => intro _ _ _ _ _ _ _ _ _ h; exact h.elim
  | succ k ih =>
    intro pc_ ls_ lw_ qs_ fs_ ad_ tf fp cd h
    rcases h with ⟨-, q12, v16, h1, v19, h2, (⟨h3, tf42, h4, hE⟩ | ⟨q23, h3, j25, s26, h4, (⟨h5, z31, h6, (⟨h7, hE⟩ | ⟨h7, hE⟩)⟩ | ⟨h5, fp36, cd37, v39, h6, hE⟩)⟩)⟩ | ⟨-, ox_122, fx_122, hx_122, -, -, -, -, -, tf1, h1, e0, e1, e2, e3, e4⟩ | h
    · exact BK.tr (BK.tr BK.rf (bkr_tk_blame (by decide) h4)) (ih _ _ _ _ _ _ _ _ _ hE)
    · exact BK.tr BK.rf (ih _ _ _ _ _ _ _ _ _ hE)
    · exact BK.tr BK.rf (ih _ _ _ _ _ _ _ _ _ hE)
    · exact BK.tr BK.rf (ih _ _ _ _ _ _ _ _ _ hE)
    · rw [e0]; exact (BK.tr BK.rf (bkr_tk_step h1))
    · exact h.elim
theorem bkr_ex_named {RLp : T_ex_parse} {RLo : T_ex_operand} {ta : Nat → Nat → Int32} {cn : Nat} {own : Bool} {P : va_W} {lf : Nat → Int32} {lg : Nat → Option Nat} {tf : Nat → Int32} {fp : Nat → Int32} {cd : Nat → Int32} {tf' : Nat → Int32} {fp' : Nat → Int32} {cd' : Nat → Int32} {ox' : Option Nat} {fx' : Nat → Int32} (hP : BK_ex_parse RLp) (hO : BK_ex_operand RLo) (h : R_ex_named RLp RLo ta cn own P lf lg tf fp cd tf' fp' cd' ox' fx') : BK tf tf' := by
  obtain ⟨k, h⟩ := h
  exact bke_ex_named hP hO k _ _ _ _ _ _ _ _ _ h
theorem bke_ex_prefix {RLp : T_ex_parse} {RLo : T_ex_operand} {ta : Nat → Nat → Int32} {cn : Nat} {na : Nat → Nat → Int32} {own : Bool} {P : va_W} {lf : Nat → Int32} {lg : Nat → Option Nat} {ff : Nat → Int32} {fg : Nat → Option Nat} {p0 : Int32}  {tf' : Nat → Int32} {fp' : Nat → Int32} {cd' : Nat → Int32} {ox' : Option Nat} {fx' : Nat → Int32} (hP : BK_ex_parse RLp) (hO : BK_ex_operand RLo) : ∀ (k pc_ : Nat) (ls_ : List Int32) (lw_ : List Int64) (qs_ : List (Option Nat)) (fs_ : List (Nat → Int32)) (ad_ : List Nat) (tf : Nat → Int32) (fp : Nat → Int32) (cd : Nat → Int32), E_ex_prefix RLp RLo ta cn na own P lf lg ff fg p0 tf' fp' cd' ox' fx'  k pc_ ls_ lw_ qs_ fs_ ad_ tf fp cd → BK tf tf' := by
  intro k
  induction k with
  | zero => intro _ _ _ _ _ _ _ _ _ h; exact h.elim
  | succ k ih =>
    intro pc_ ls_ lw_ qs_ fs_ ad_ tf fp cd h
    rcases h with ⟨-, tf76, h1, tf88, fp89, cd90, hx91, ox92, fx93, h2, tf120, h3, (⟨h4, (⟨h5, tf134, v136, h6, fp148, cd149, fx150, h7, hE⟩ | ⟨h5, tf162, v164, h6, fp176, cd177, fx178, h7, hE⟩)⟩ | ⟨h4, (⟨h5, tf195, fp196, cd197, fx198, h6, hE⟩ | ⟨h5, (⟨h6, tf217, v219, h7, fp231, cd232, fx233, h8, hE⟩ | ⟨h6, tf245, v247, h7, fp259, cd260, fx261, h8, hE⟩)⟩)⟩)⟩ | ⟨-, x72_2, ox_72, fx_72, hx_72, -, -, -, -, -, (⟨h1, fp5, cd6, v8, h2, v12, h3, fx14, h4, e0, e1, e2, e3, e4⟩ | ⟨h1, (⟨h2, fp30, cd31, v33, h3, v37, h4, fx39, h5, e0, e1, e2, e3, e4⟩ | ⟨h2, (⟨h3, e0, e1, e2, e3, e4⟩ | ⟨h3, fp55, cd56, v58, h4, v62, h5, fx64, h6, e0, e1, e2, e3, e4⟩)⟩)⟩)⟩ | h
    · exact BK.tr (BK.tr (BK.tr (BK.tr (BK.tr BK.rf (bkr_tk_open h1)) (hO _ _ _ _ _ _ _ _ _ _ _ _ _ _ _ _ _ h2)) (bkr_tk_shut h3)) (bkr_ex_isTarget h6)) (ih _ _ _ _ _ _ _ _ _ hE)
    · exact BK.tr (BK.tr (BK.tr (BK.tr (BK.tr BK.rf (bkr_tk_open h1)) (hO _ _ _ _ _ _ _ _ _ _ _ _ _ _ _ _ _ h2)) (bkr_tk_shut h3)) (bkr_ex_isTarget h6)) (ih _ _ _ _ _ _ _ _ _ hE)
    · exact BK.tr (BK.tr (BK.tr (BK.tr (BK.tr BK.rf (bkr_tk_open h1)) (hO _ _ _ _ _ _ _ _ _ _ _ _ _ _ _ _ _ h2)) (bkr_tk_shut h3)) (bkr_ex_number h6)) (ih _ _ _ _ _ _ _ _ _ hE)
    · exact BK.tr (BK.tr (BK.tr (BK.tr (BK.tr BK.rf (bkr_tk_open h1)) (hO _ _ _ _ _ _ _ _ _ _ _ _ _ _ _ _ _ h2)) (bkr_tk_shut h3)) (bkr_ex_isTarget h7)) (ih _ _ _ _ _ _ _ _ _ hE)
    · exact BK.tr (BK.tr (BK.tr (BK.tr (BK.tr BK.rf (bkr_tk_open h1)) (hO _ _ _ _ _ _ _ _ _ _ _ _ _ _ _ _ _ h2)) (bkr_tk_shut h3)) (bkr_ex_isTarget h7)) (ih _ _ _ _ _ _ _ _ _ hE)
    · rw [e0]; exact BK.rf
    · rw [e0]; exact BK.rf
    · rw [e0]; exact BK.rf
    · rw [e0]; exact BK.rf
    · exact h.elim
theorem bkr_ex_prefix {RLp : T_ex_parse} {RLo : T_ex_operand} {ta : Nat → Nat → Int32} {cn : Nat} {na : Nat → Nat → Int32} {own : Bool} {P : va_W} {lf : Nat → Int32} {lg : Nat → Option Nat} {ff : Nat → Int32} {fg : Nat → Option Nat} {p0 : Int32} {tf : Nat → Int32} {fp : Nat → Int32} {cd : Nat → Int32} {tf' : Nat → Int32} {fp' : Nat → Int32} {cd' : Nat → Int32} {ox' : Option Nat} {fx' : Nat → Int32} (hP : BK_ex_parse RLp) (hO : BK_ex_operand RLo) (h : R_ex_prefix RLp RLo ta cn na own P lf lg ff fg p0 tf fp cd tf' fp' cd' ox' fx') : BK tf tf' := by
  obtain ⟨k, h⟩ := h
  exact bke_ex_prefix hP hO k _ _ _ _ _ _ _ _ _ h
theorem bkr_ex_group {RLp : T_ex_parse} {RLo : T_ex_operand} {ta : Nat → Nat → Int32} {cn : Nat} {na : Nat → Nat → Int32} {own : Bool} {P : va_W} {lf : Nat → Int32} {lg : Nat → Option Nat} {ff : Nat → Int32} {fg : Nat → Option Nat} {tf : Nat → Int32} {fp : Nat → Int32} {cd : Nat → Int32} {tf' : Nat → Int32} {fp' : Nat → Int32} {cd' : Nat → Int32} {ox' : Option Nat} {fx' : Nat → Int32} (hP : BK_ex_parse RLp) (hO : BK_ex_operand RLo) (h : R_ex_group RLp RLo ta cn na own P lf lg ff fg tf fp cd tf' fp' cd' ox' fx') : BK tf tf' := by
  rcases h with ⟨tf1, h1, tf13, fp14, cd15, hx16, ox17, fx18, h2, tf45, h3, e0, e1, e2, e3, e4⟩ | h
  · rw [e0]; exact (BK.tr (BK.tr (BK.tr BK.rf (bkr_tk_open h1)) (hP _ _ _ _ _ _ _ _ _ _ _ _ _ _ _ _ _ _ h2)) (bkr_tk_close h3))
  · exact h.elim
theorem bke_ex_index {RLp : T_ex_parse} {RLo : T_ex_operand} {ta : Nat → Nat → Int32} {cn : Nat} {na : Nat → Nat → Int32} {own : Bool} {P : va_W} {lf : Nat → Int32} {lg : Nat → Option Nat} {ff : Nat → Int32} {fg : Nat → Option Nat}  {tf' : Nat → Int32} {fp' : Nat → Int32} {cd' : Nat → Int32} {ox' : Option Nat} {fx' : Nat → Int32} (hP : BK_ex_parse RLp) (hO : BK_ex_operand RLo) : ∀ (k pc_ : Nat) (ls_ : List Int32) (lw_ : List Int64) (qs_ : List (Option Nat)) (fs_ : List (Nat → Int32)) (ad_ : List Nat) (tf : Nat → Int32) (fp : Nat → Int32) (cd : Nat → Int32), E_ex_index RLp RLo ta cn na own P lf lg ff fg tf' fp' cd' ox' fx'  k pc_ ls_ lw_ qs_ fs_ ad_ tf fp cd → BK tf tf' := by
  intro k
  induction k with
  | zero => intro _ _ _ _ _ _ _ _ _ h; exact h.elim
  | succ k ih =>
    intro pc_ ls_ lw_ qs_ fs_ ad_ tf fp cd h
    rcases h with ⟨-, v91, h1, q93, v97, h2, (⟨h3, v104, h4, (⟨h5, tf119, h6, hE⟩ | ⟨q108, h5, tf110, h6, hE⟩)⟩ | ⟨q101, h3, j128, s129, h4, z132, h5, (⟨h6, tf135, h7, hE⟩ | ⟨h6, hE⟩)⟩)⟩ | ⟨-, ox_91, fx_91, hx_91, -, -, -, -, -, tf1, h1, tf12, h2, tf24, fp25, cd26, hx27, ox28, fx29, h3, tf60, fp61, cd62, fx63, h4, tf79, h5, z89, h6, e0, e1, e2, e3, e4⟩ | h
    · exact BK.tr (BK.tr BK.rf (bkr_tk_blame (by decide) h6)) (ih _ _ _ _ _ _ _ _ _ hE)
    · exact BK.tr (BK.tr BK.rf (bkr_tk_blame (by decide) h6)) (ih _ _ _ _ _ _ _ _ _ hE)
    · exact BK.tr (BK.tr BK.rf (bkr_tk_blame (by decide) h7)) (ih _ _ _ _ _ _ _ _ _ hE)
    · exact BK.tr BK.rf (ih _ _ _ _ _ _ _ _ _ hE)
    · rw [e0]; exact (BK.tr (BK.tr (BK.tr (BK.tr (BK.tr BK.rf (bkr_tk_step h1)) (bkr_tk_open h2)) (hP _ _ _ _ _ _ _ _ _ _ _ _ _ _ _ _ _ _ h3)) (bkr_ex_number h4)) (bkr_tk_close h5))
    · exact h.elim
theorem bkr_ex_index {RLp : T_ex_parse} {RLo : T_ex_operand} {ta : Nat → Nat → Int32} {cn : Nat} {na : Nat → Nat → Int32} {own : Bool} {P : va_W} {lf : Nat → Int32} {lg : Nat → Option Nat} {ff : Nat → Int32} {fg : Nat → Option Nat} {tf : Nat → Int32} {fp : Nat → Int32} {cd : Nat → Int32} {tf' : Nat → Int32} {fp' : Nat → Int32} {cd' : Nat → Int32} {ox' : Option Nat} {fx' : Nat → Int32} (hP : BK_ex_parse RLp) (hO : BK_ex_operand RLo) (h : R_ex_index RLp RLo ta cn na own P lf lg ff fg tf fp cd tf' fp' cd' ox' fx') : BK tf tf' := by
  obtain ⟨k, h⟩ := h
  exact bke_ex_index hP hO k _ _ _ _ _ _ _ _ _ h
theorem bke_ex_call {RLp : T_ex_parse} {RLo : T_ex_operand} {ta : Nat → Nat → Int32} {cn : Nat} {na : Nat → Nat → Int32} {own : Bool} {P : va_W} {lf : Nat → Int32} {lg : Nat → Option Nat} {ff : Nat → Int32} {fg : Nat → Option Nat}  {tf' : Nat → Int32} {fp' : Nat → Int32} {cd' : Nat → Int32} {ox' : Option Nat} {fx' : Nat → Int32} (hP : BK_ex_parse RLp) (hO : BK_ex_operand RLo) : ∀ (k pc_ : Nat) (ls_ : List Int32) (lw_ : List Int64) (qs_ : List (Option Nat)) (fs_ : List (Nat → Int32)) (ad_ : List Nat) (tf : Nat → Int32) (fp : Nat → Int32) (cd : Nat → Int32), E_ex_call RLp RLo ta cn na own P lf lg ff fg tf' fp' cd' ox' fx'  k pc_ ls_ lw_ qs_ fs_ ad_ tf fp cd → BK tf tf' := by
  intro k
  induction k with
  | zero => intro _ _ _ _ _ _ _ _ _ h; exact h.elim
  | succ k ih =>
    intro pc_ ls_ lw_ qs_ fs_ ad_ tf fp cd h
    rcases h with ⟨-, v251, h1, q253, v257, h2, (⟨h3, v291, h4, tf294, h5, tf305, h6, v315, h7, (⟨h8, hE⟩ | ⟨h8, hE⟩)⟩ | ⟨q261, h3, tf263, h4, tf274, h5, v284, h6, (⟨h7, hE⟩ | ⟨h7, hE⟩)⟩)⟩ | ⟨-, x93_4, x93_5, x93_6, x93_7, y93_3, ox_93, fx_93, hx_93, -, -, -, -, -, (⟨h1, tf147, h2, tf160, fp161, cd162, fx163, h3, e0, e1, e2, e3, e4⟩ | ⟨h1, (⟨h2, tf181, h3, tf194, fp195, cd196, fx197, h4, e0, e1, e2, e3, e4⟩ | ⟨h2, tf216, fp217, cd218, hx219, ox220, fx221, h3, (⟨h4, hE⟩ | ⟨h4, hE⟩)⟩)⟩)⟩ | ⟨-, x129_4, x129_5, x129_7, x129_9, y129_3, ox_129, oy_129, fx_129, fy_129, hx_129, hy_129, -, -, -, -, -, v93, h1, (⟨h2, tf101, fp102, cd103, fx104, h3, hE⟩ | ⟨h2, (⟨h3, hE⟩ | ⟨h3, tf126, fp127, cd128, fx129, h4, hE⟩)⟩)⟩ | ⟨-, x159_4, x159_5, x159_7, x159_9, x159_10, y159_3, ox_159, oy_159, fx_159, fy_159, hx_159, hy_159, -, -, -, -, -, tf4, fp5, cd6, h1, (⟨h2, z22, h3, z23, h4, z25, h5, z26, h6, (⟨h7, z29, h8, z30, h9, tf31, v33, h10, z42, h11, hE⟩ | ⟨h7, z43, h8, z44, h9, tf45, v47, h10, z56, h11, hE⟩)⟩ | ⟨h2, z57, h3, z58, h4, z60, h5, z61, h6, (⟨h7, z64, h8, z65, h9, tf66, v68, h10, z77, h11, hE⟩ | ⟨h7, z78, h8, z79, h9, tf80, v82, h10, z91, h11, hE⟩)⟩)⟩ | h
    · exact BK.tr (BK.tr (BK.tr BK.rf (bkr_tk_step h5)) (bkr_tk_open h6)) (ih _ _ _ _ _ _ _ _ _ hE)
    · exact BK.tr (BK.tr (BK.tr BK.rf (bkr_tk_step h5)) (bkr_tk_open h6)) (ih _ _ _ _ _ _ _ _ _ hE)
    · exact BK.tr (BK.tr (BK.tr BK.rf (bkr_tk_step h4)) (bkr_tk_open h5)) (ih _ _ _ _ _ _ _ _ _ hE)
    · exact BK.tr (BK.tr (BK.tr BK.rf (bkr_tk_step h4)) (bkr_tk_open h5)) (ih _ _ _ _ _ _ _ _ _ hE)
    · rw [e0]; exact (BK.tr (BK.tr BK.rf (bkr_tk_close h2)) (bkr_ex_conclude h3))
    · rw [e0]; exact (BK.tr (BK.tr BK.rf (bkr_tk_close h3)) (bkr_ex_conclude h4))
    · exact BK.tr (BK.tr BK.rf (hP _ _ _ _ _ _ _ _ _ _ _ _ _ _ _ _ _ _ h3)) (ih _ _ _ _ _ _ _ _ _ hE)
    · exact BK.tr (BK.tr BK.rf (hP _ _ _ _ _ _ _ _ _ _ _ _ _ _ _ _ _ _ h3)) (ih _ _ _ _ _ _ _ _ _ hE)
    · exact BK.tr (BK.tr BK.rf (bkr_ex_number h3)) (ih _ _ _ _ _ _ _ _ _ hE)
    · exact BK.tr BK.rf (ih _ _ _ _ _ _ _ _ _ hE)
    · exact BK.tr (BK.tr BK.rf (bkr_ex_number h4)) (ih _ _ _ _ _ _ _ _ _ hE)
    · exact BK.tr (BK.tr (BK.tr BK.rf (bkr_ex_hand h1)) (bkr_tk_accept h10)) (ih _ _ _ _ _ _ _ _ _ hE)
    · exact BK.tr (BK.tr (BK.tr BK.rf (bkr_ex_hand h1)) (bkr_tk_accept h10)) (ih _ _ _ _ _ _ _ _ _ hE)
    · exact BK.tr (BK.tr (BK.tr BK.rf (bkr_ex_hand h1)) (bkr_tk_accept h10)) (ih _ _ _ _ _ _ _ _ _ hE)
    · exact BK.tr (BK.tr (BK.tr BK.rf (bkr_ex_hand h1)) (bkr_tk_accept h10)) (ih _ _ _ _ _ _ _ _ _ hE)
    · exact h.elim
theorem bkr_ex_call {RLp : T_ex_parse} {RLo : T_ex_operand} {ta : Nat → Nat → Int32} {cn : Nat} {na : Nat → Nat → Int32} {own : Bool} {P : va_W} {lf : Nat → Int32} {lg : Nat → Option Nat} {ff : Nat → Int32} {fg : Nat → Option Nat} {tf : Nat → Int32} {fp : Nat → Int32} {cd : Nat → Int32} {tf' : Nat → Int32} {fp' : Nat → Int32} {cd' : Nat → Int32} {ox' : Option Nat} {fx' : Nat → Int32} (hP : BK_ex_parse RLp) (hO : BK_ex_operand RLo) (h : R_ex_call RLp RLo ta cn na own P lf lg ff fg tf fp cd tf' fp' cd' ox' fx') : BK tf tf' := by
  obtain ⟨k, h⟩ := h
  exact bke_ex_call hP hO k _ _ _ _ _ _ _ _ _ h
theorem bke_ex_operand {RLp : T_ex_parse} {RLo : T_ex_operand} {ta : Nat → Nat → Int32} {cn : Nat} {na : Nat → Nat → Int32} {own : Bool} {P : va_W} {lf : Nat → Int32} {lg : Nat → Option Nat} {ff : Nat → Int32} {fg : Nat → Option Nat}  {tf' : Nat → Int32} {fp' : Nat → Int32} {cd' : Nat → Int32} {ox' : Option Nat} {fx' : Nat → Int32} (hP : BK_ex_parse RLp) (hO : BK_ex_operand RLo) : ∀ (k pc_ : Nat) (ls_ : List Int32) (lw_ : List Int64) (qs_ : List (Option Nat)) (fs_ : List (Nat → Int32)) (ad_ : List Nat) (tf : Nat → Int32) (fp : Nat → Int32) (cd : Nat → Int32), E_ex_operand RLp RLo ta cn na own P lf lg ff fg tf' fp' cd' ox' fx'  k pc_ ls_ lw_ qs_ fs_ ad_ tf fp cd → BK tf tf' := by
  intro k
  induction k with
  | zero => intro _ _ _ _ _ _ _ _ _ h; exact h.elim
  | succ k ih =>
    intro pc_ ls_ lw_ qs_ fs_ ad_ tf fp cd h
    rcases h with ⟨-, v151, h1, v156, h2, (⟨h3, (⟨h4, (⟨h5, (⟨h6, tf173, fp174, cd175, hx176, ox177, fx178, h7, hE⟩ | ⟨h6, tf208, fp209, cd210, hx211, ox212, fx213, h7, hE⟩)⟩ | ⟨h5, tf243, fp244, cd245, hx246, ox247, fx248, h6, hE⟩)⟩ | ⟨h4, v276, h5, (⟨h6, (⟨h7, (⟨h8, (⟨h9, tf289, fp290, cd291, hx292, ox293, fx294, h10, hE⟩ | ⟨h9, tf324, fp325, cd326, hx327, ox328, fx329, h10, hE⟩)⟩ | ⟨h8, tf359, fp360, cd361, hx362, ox363, fx364, h9, hE⟩)⟩ | ⟨h7, tf394, fp395, cd396, hx397, ox398, fx399, h8, hE⟩)⟩ | ⟨h6, tf429, fp430, cd431, hx432, ox433, fx434, h7, hE⟩)⟩)⟩ | ⟨h3, tf464, fp465, cd466, hx467, ox468, fx469, h4, e0, e1, e2, e3, e4⟩)⟩ | ⟨-, ox_101, fx_101, hx_101, -, -, -, -, -, v2, h1, (⟨h2, tf8, h3, (⟨h4, z20, h5, tf22, v24, h6, fp36, cd37, fx38, h7, e0, e1, e2, e3, e4⟩ | ⟨h4, z49, h5, tf51, v53, h6, fp65, cd66, fx67, h7, e0, e1, e2, e3, e4⟩)⟩ | ⟨h2, (⟨h3, e0, e1, e2, e3, e4⟩ | ⟨h3, tf80, h4, (⟨h5, z92, h6, tf94, v96, h7, fp108, cd109, fx110, h8, e0, e1, e2, e3, e4⟩ | ⟨h5, z121, h6, tf123, v125, h7, fp137, cd138, fx139, h8, e0, e1, e2, e3, e4⟩)⟩)⟩)⟩ | h
    · exact BK.tr (BK.tr BK.rf (bkr_ex_figure hP hO h7)) (ih _ _ _ _ _ _ _ _ _ hE)
    · exact BK.tr (BK.tr BK.rf (bkr_ex_named hP hO h7)) (ih _ _ _ _ _ _ _ _ _ hE)
    · exact BK.tr (BK.tr BK.rf (bkr_ex_group hP hO h6)) (ih _ _ _ _ _ _ _ _ _ hE)
    · exact BK.tr (BK.tr BK.rf (bkr_ex_figure hP hO h10)) (ih _ _ _ _ _ _ _ _ _ hE)
    · exact BK.tr (BK.tr BK.rf (bkr_ex_named hP hO h10)) (ih _ _ _ _ _ _ _ _ _ hE)
    · exact BK.tr (BK.tr BK.rf (bkr_ex_index hP hO h9)) (ih _ _ _ _ _ _ _ _ _ hE)
    · exact BK.tr (BK.tr BK.rf (bkr_ex_call hP hO h8)) (ih _ _ _ _ _ _ _ _ _ hE)
    · exact BK.tr (BK.tr BK.rf (bkr_ex_group hP hO h7)) (ih _ _ _ _ _ _ _ _ _ hE)
    · rw [e0]; exact (BK.tr BK.rf (bkr_ex_prefix hP hO h4))
    · rw [e0]; exact (BK.tr (BK.tr BK.rf (bkr_tk_stepBehind h3)) (bkr_ex_isTarget h6))
    · rw [e0]; exact (BK.tr (BK.tr BK.rf (bkr_tk_stepBehind h3)) (bkr_ex_isTarget h6))
    · rw [e0]; exact BK.rf
    · rw [e0]; exact (BK.tr (BK.tr BK.rf (bkr_tk_stepBehind h4)) (bkr_ex_isTarget h7))
    · rw [e0]; exact (BK.tr (BK.tr BK.rf (bkr_tk_stepBehind h4)) (bkr_ex_isTarget h7))
    · exact h.elim
theorem bkr_ex_operand {RLp : T_ex_parse} {RLo : T_ex_operand} {ta : Nat → Nat → Int32} {cn : Nat} {na : Nat → Nat → Int32} {own : Bool} {P : va_W} {lf : Nat → Int32} {lg : Nat → Option Nat} {ff : Nat → Int32} {fg : Nat → Option Nat} {tf : Nat → Int32} {fp : Nat → Int32} {cd : Nat → Int32} {tf' : Nat → Int32} {fp' : Nat → Int32} {cd' : Nat → Int32} {ox' : Option Nat} {fx' : Nat → Int32} (hP : BK_ex_parse RLp) (hO : BK_ex_operand RLo) (h : R_ex_operand RLp RLo ta cn na own P lf lg ff fg tf fp cd tf' fp' cd' ox' fx') : BK tf tf' := by
  obtain ⟨k, h⟩ := h
  exact bke_ex_operand hP hO k _ _ _ _ _ _ _ _ _ h
theorem bke_ex_assign {RLp : T_ex_parse} {RLo : T_ex_operand} {ta : Nat → Nat → Int32} {cn : Nat} {na : Nat → Nat → Int32} {own : Bool} {P : va_W} {lf : Nat → Int32} {lg : Nat → Option Nat} {ff : Nat → Int32} {fg : Nat → Option Nat} {ox : Option Nat}  {tf' : Nat → Int32} {fp' : Nat → Int32} {cd' : Nat → Int32} {fx' : Nat → Int32} (hP : BK_ex_parse RLp) (hO : BK_ex_operand RLo) : ∀ (k pc_ : Nat) (ls_ : List Int32) (lw_ : List Int64) (qs_ : List (Option Nat)) (fs_ : List (Nat → Int32)) (ad_ : List Nat) (tf : Nat → Int32) (fp : Nat → Int32) (cd : Nat → Int32) (fx : Nat → Int32), E_ex_assign RLp RLo ta cn na own P lf lg ff fg ox tf' fp' cd' fx'  k pc_ ls_ lw_ qs_ fs_ ad_ tf fp cd fx → BK tf tf' := by
  intro k
  induction k with
  | zero => intro _ _ _ _ _ _ _ _ _ _ h; exact h.elim
  | succ k ih =>
    intro pc_ ls_ lw_ qs_ fs_ ad_ tf fp cd fx h
    rcases h with ⟨-, v33, h1, z37, h2, tf38, h3, tf48, v50, h4, tf62, fp63, cd64, hx65, ox66, fx67, h5, tf98, fp99, cd100, fx101, h6, tf117, h7, (⟨h8, hE⟩ | ⟨h8, (⟨h9, z130, h10, z131, h11, q132, h12, j134, s135, h13, fp139, cd140, v142, h14, z146, h15, (⟨h16, hE⟩ | ⟨h16, hE⟩)⟩ | ⟨h9, q149, h10, j151, s152, h11, fp156, cd157, v159, h12, z163, h13, (⟨h14, hE⟩ | ⟨h14, hE⟩)⟩)⟩)⟩ | ⟨-, x122_5, oy_122, fy_122, hy_122, -, -, -, -, -, (⟨h1, z3, h2, fx4, h3, e0, e1, e2, e3⟩ | ⟨h1, z17, h2, z18, h3, z19, h4, fx20, h5, e0, e1, e2, e3⟩)⟩ | h
    · exact BK.tr (BK.tr (BK.tr (BK.tr (BK.tr (BK.tr BK.rf (bkr_tk_openBehind h3)) (bkr_ex_isTarget h4)) (hP _ _ _ _ _ _ _ _ _ _ _ _ _ _ _ _ _ _ h5)) (bkr_ex_number h6)) (bkr_tk_shut h7)) (ih _ _ _ _ _ _ _ _ _ _ hE)
    · exact BK.tr (BK.tr (BK.tr (BK.tr (BK.tr (BK.tr BK.rf (bkr_tk_openBehind h3)) (bkr_ex_isTarget h4)) (hP _ _ _ _ _ _ _ _ _ _ _ _ _ _ _ _ _ _ h5)) (bkr_ex_number h6)) (bkr_tk_shut h7)) (ih _ _ _ _ _ _ _ _ _ _ hE)
    · exact BK.tr (BK.tr (BK.tr (BK.tr (BK.tr (BK.tr BK.rf (bkr_tk_openBehind h3)) (bkr_ex_isTarget h4)) (hP _ _ _ _ _ _ _ _ _ _ _ _ _ _ _ _ _ _ h5)) (bkr_ex_number h6)) (bkr_tk_shut h7)) (ih _ _ _ _ _ _ _ _ _ _ hE)
    · exact BK.tr (BK.tr (BK.tr (BK.tr (BK.tr (BK.tr BK.rf (bkr_tk_openBehind h3)) (bkr_ex_isTarget h4)) (hP _ _ _ _ _ _ _ _ _ _ _ _ _ _ _ _ _ _ h5)) (bkr_ex_number h6)) (bkr_tk_shut h7)) (ih _ _ _ _ _ _ _ _ _ _ hE)
    · exact BK.tr (BK.tr (BK.tr (BK.tr (BK.tr (BK.tr BK.rf (bkr_tk_openBehind h3)) (bkr_ex_isTarget h4)) (hP _ _ _ _ _ _ _ _ _ _ _ _ _ _ _ _ _ _ h5)) (bkr_ex_number h6)) (bkr_tk_shut h7)) (ih _ _ _ _ _ _ _ _ _ _ hE)
    · rw [e0]; exact BK.rf
    · rw [e0]; exact BK.rf
    · exact h.elim
theorem bkr_ex_assign {RLp : T_ex_parse} {RLo : T_ex_operand} {ta : Nat → Nat → Int32} {cn : Nat} {na : Nat → Nat → Int32} {own : Bool} {P : va_W} {lf : Nat → Int32} {lg : Nat → Option Nat} {ff : Nat → Int32} {fg : Nat → Option Nat} {ox : Option Nat} {tf : Nat → Int32} {fp : Nat → Int32} {cd : Nat → Int32} {fx : Nat → Int32} {tf' : Nat → Int32} {fp' : Nat → Int32} {cd' : Nat → Int32} {fx' : Nat → Int32} (hP : BK_ex_parse RLp) (hO : BK_ex_operand RLo) (h : R_ex_assign RLp RLo ta cn na own P lf lg ff fg ox tf fp cd fx tf' fp' cd' fx') : BK tf tf' := by
  obtain ⟨k, h⟩ := h
  exact bke_ex_assign hP hO k _ _ _ _ _ _ _ _ _ _ h
theorem bke_ex_choose {RLp : T_ex_parse} {RLo : T_ex_operand} {ta : Nat → Nat → Int32} {cn : Nat} {na : Nat → Nat → Int32} {own : Bool} {P : va_W} {lf : Nat → Int32} {lg : Nat → Option Nat} {ff : Nat → Int32} {fg : Nat → Option Nat} {ox : Option Nat}  {tf' : Nat → Int32} {fp' : Nat → Int32} {cd' : Nat → Int32} {fx' : Nat → Int32} (hP : BK_ex_parse RLp) (hO : BK_ex_operand RLo) : ∀ (k pc_ : Nat) (ls_ : List Int32) (lw_ : List Int64) (qs_ : List (Option Nat)) (fs_ : List (Nat → Int32)) (ad_ : List Nat) (tf : Nat → Int32) (fp : Nat → Int32) (cd : Nat → Int32) (fx : Nat → Int32), E_ex_choose RLp RLo ta cn na own P lf lg ff fg ox tf' fp' cd' fx'  k pc_ ls_ lw_ qs_ fs_ ad_ tf fp cd fx → BK tf tf' := by
  intro k
  induction k with
  | zero => intro _ _ _ _ _ _ _ _ _ _ h; exact h.elim
  | succ k ih =>
    intro pc_ ls_ lw_ qs_ fs_ ad_ tf fp cd fx h
    rcases h with ⟨-, tf110, h1, tf123, fp124, cd125, fx126, h2, fp144, cd145, v147, h3, tf153, fp154, cd155, hx156, ox157, fx158, h4, tf189, fp190, cd191, fx192, h5, tf208, h6, hE⟩ | ⟨-, x49_2, oy_49, fy_49, hy_49, -, -, -, -, -, fp64, cd65, v67, h1, cd72, h2, tf78, fp79, cd80, hx81, ox82, fx83, h3, hE⟩ | ⟨-, x85_4, oy_85, oz_85, fy_85, fz_85, hy_85, hz_85, -, -, -, -, -, tf21, fp22, cd23, fx24, h1, cd42, h2, tf45, h3, (⟨h4, hE⟩ | ⟨h4, (⟨h5, (⟨h6, hE⟩ | ⟨h6, (⟨h7, hE⟩ | ⟨h7, hE⟩)⟩)⟩ | ⟨h5, hE⟩)⟩)⟩ | ⟨-, x179_6, oy_179, oz_179, fy_179, fz_179, hy_179, hz_179, -, -, -, -, -, z1, h1, z2, h2, z3, h3, z4, h4, fx5, h5, e0, e1, e2, e3⟩ | h
    · exact BK.tr (BK.tr (BK.tr (BK.tr (BK.tr (BK.tr BK.rf (bkr_tk_openBehind h1)) (bkr_ex_number h2)) (hP _ _ _ _ _ _ _ _ _ _ _ _ _ _ _ _ _ _ h4)) (bkr_ex_number h5)) (bkr_tk_expect h6)) (ih _ _ _ _ _ _ _ _ _ _ hE)
    · exact BK.tr (BK.tr BK.rf (hP _ _ _ _ _ _ _ _ _ _ _ _ _ _ _ _ _ _ h3)) (ih _ _ _ _ _ _ _ _ _ _ hE)
    · exact BK.tr (BK.tr (BK.tr BK.rf (bkr_ex_number h1)) (bkr_tk_shut h3)) (ih _ _ _ _ _ _ _ _ _ _ hE)
    · exact BK.tr (BK.tr (BK.tr BK.rf (bkr_ex_number h1)) (bkr_tk_shut h3)) (ih _ _ _ _ _ _ _ _ _ _ hE)
    · exact BK.tr (BK.tr (BK.tr BK.rf (bkr_ex_number h1)) (bkr_tk_shut h3)) (ih _ _ _ _ _ _ _ _ _ _ hE)
    · exact BK.tr (BK.tr (BK.tr BK.rf (bkr_ex_number h1)) (bkr_tk_shut h3)) (ih _ _ _ _ _ _ _ _ _ _ hE)
    · exact BK.tr (BK.tr (BK.tr BK.rf (bkr_ex_number h1)) (bkr_tk_shut h3)) (ih _ _ _ _ _ _ _ _ _ _ hE)
    · rw [e0]; exact BK.rf
    · exact h.elim
theorem bkr_ex_choose {RLp : T_ex_parse} {RLo : T_ex_operand} {ta : Nat → Nat → Int32} {cn : Nat} {na : Nat → Nat → Int32} {own : Bool} {P : va_W} {lf : Nat → Int32} {lg : Nat → Option Nat} {ff : Nat → Int32} {fg : Nat → Option Nat} {ox : Option Nat} {tf : Nat → Int32} {fp : Nat → Int32} {cd : Nat → Int32} {fx : Nat → Int32} {tf' : Nat → Int32} {fp' : Nat → Int32} {cd' : Nat → Int32} {fx' : Nat → Int32} (hP : BK_ex_parse RLp) (hO : BK_ex_operand RLo) (h : R_ex_choose RLp RLo ta cn na own P lf lg ff fg ox tf fp cd fx tf' fp' cd' fx') : BK tf tf' := by
  obtain ⟨k, h⟩ := h
  exact bke_ex_choose hP hO k _ _ _ _ _ _ _ _ _ _ h
theorem bke_ex_parse {RLp : T_ex_parse} {RLo : T_ex_operand} {ta : Nat → Nat → Int32} {cn : Nat} {na : Nat → Nat → Int32} {own : Bool} {P : va_W} {lf : Nat → Int32} {lg : Nat → Option Nat} {ff : Nat → Int32} {fg : Nat → Option Nat} {p0 : Int32}  {tf' : Nat → Int32} {fp' : Nat → Int32} {cd' : Nat → Int32} {ox' : Option Nat} {fx' : Nat → Int32} (hP : BK_ex_parse RLp) (hO : BK_ex_operand RLo) : ∀ (k pc_ : Nat) (ls_ : List Int32) (lw_ : List Int64) (qs_ : List (Option Nat)) (fs_ : List (Nat → Int32)) (ad_ : List Nat) (tf : Nat → Int32) (fp : Nat → Int32) (cd : Nat → Int32), E_ex_parse RLp RLo ta cn na own P lf lg ff fg p0 tf' fp' cd' ox' fx'  k pc_ ls_ lw_ qs_ fs_ ad_ tf fp cd → BK tf tf' := by
  intro k
  induction k with
  | zero => intro _ _ _ _ _ _ _ _ _ h; exact h.elim
  | succ k ih =>
    intro pc_ ls_ lw_ qs_ fs_ ad_ tf fp cd h
    rcases h with ⟨-, tf208, fp209, cd210, hx211, ox212, fx213, h1, (⟨h2, v243, h3, v248, h4, hE⟩ | ⟨h2, v254, h3, (⟨h4, v261, h5, v266, h6, hE⟩ | ⟨h4, tf275, fp276, cd277, fx278, h5, e0, e1, e2, e3, e4⟩)⟩)⟩ | ⟨-, x43_3, x43_4, ox_43, fx_43, hx_43, -, -, -, -, -, (⟨h1, hE⟩ | ⟨h1, (⟨h2, hE⟩ | ⟨h2, (⟨h3, hE⟩ | ⟨h3, v88, h4, tf92, h5, tf105, fp106, cd107, fx108, h6, fp126, cd127, v129, h7, z137, h8, tf141, fp142, cd143, hx144, ox145, fx146, h9, tf177, fp178, cd179, fx180, h10, tf196, h11, hE⟩)⟩)⟩)⟩ | ⟨-, x115_3, x115_4, x115_5, x115_6, ox_115, oy_115, fx_115, fy_115, hx_115, hy_115, -, -, -, -, -, fp44, cd45, h1, fx53, h2, fx61, h3, v70, h4, v75, h5, z80, h6, hE⟩ | ⟨-, ox_155, fx_155, hx_155, -, -, -, -, -, (⟨h1, e0, e1, e2, e3, e4⟩ | ⟨h1, v4, h2, (⟨h3, e0, e1, e2, e3, e4⟩ | ⟨h3, tf14, fp15, cd16, fx17, h4, e0, e1, e2, e3, e4⟩)⟩)⟩ | h
    · exact BK.tr (BK.tr BK.rf (bkr_ex_operand hP hO h1)) (ih _ _ _ _ _ _ _ _ _ hE)
    · exact BK.tr (BK.tr BK.rf (bkr_ex_operand hP hO h1)) (ih _ _ _ _ _ _ _ _ _ hE)
    · rw [e0]; exact (BK.tr (BK.tr BK.rf (bkr_ex_operand hP hO h1)) (bkr_ex_assign hP hO h5))
    · exact BK.tr BK.rf (ih _ _ _ _ _ _ _ _ _ hE)
    · exact BK.tr BK.rf (ih _ _ _ _ _ _ _ _ _ hE)
    · exact BK.tr BK.rf (ih _ _ _ _ _ _ _ _ _ hE)
    · exact BK.tr (BK.tr (BK.tr (BK.tr (BK.tr (BK.tr BK.rf (bkr_tk_openBehind h5)) (bkr_ex_number h6)) (hP _ _ _ _ _ _ _ _ _ _ _ _ _ _ _ _ _ _ h9)) (bkr_ex_number h10)) (bkr_tk_shut h11)) (ih _ _ _ _ _ _ _ _ _ hE)
    · exact BK.tr BK.rf (ih _ _ _ _ _ _ _ _ _ hE)
    · rw [e0]; exact BK.rf
    · rw [e0]; exact BK.rf
    · rw [e0]; exact (BK.tr BK.rf (bkr_ex_choose hP hO h4))
    · exact h.elim
theorem bkr_ex_parse {RLp : T_ex_parse} {RLo : T_ex_operand} {ta : Nat → Nat → Int32} {cn : Nat} {na : Nat → Nat → Int32} {own : Bool} {P : va_W} {lf : Nat → Int32} {lg : Nat → Option Nat} {ff : Nat → Int32} {fg : Nat → Option Nat} {p0 : Int32} {tf : Nat → Int32} {fp : Nat → Int32} {cd : Nat → Int32} {tf' : Nat → Int32} {fp' : Nat → Int32} {cd' : Nat → Int32} {ox' : Option Nat} {fx' : Nat → Int32} (hP : BK_ex_parse RLp) (hO : BK_ex_operand RLo) (h : R_ex_parse RLp RLo ta cn na own P lf lg ff fg p0 tf fp cd tf' fp' cd' ox' fx') : BK tf tf' := by
  obtain ⟨k, h⟩ := h
  exact bke_ex_parse hP hO k _ _ _ _ _ _ _ _ _ h
theorem bkl_ex : ∀ n : Nat, BK_ex_parse (RL_ex_parse n) ∧ BK_ex_operand (RL_ex_operand n)
  | 0 => ⟨fun _ _ _ _ _ _ _ _ _ _ _ _ _ _ _ _ _ _ h => h.elim, fun _ _ _ _ _ _ _ _ _ _ _ _ _ _ _ _ _ h => h.elim⟩
  | n + 1 => ⟨fun _ _ _ _ _ _ _ _ _ _ _ _ _ _ _ _ _ _ h => bkr_ex_parse (bkl_ex n).1 (bkl_ex n).2 h, fun _ _ _ _ _ _ _ _ _ _ _ _ _ _ _ _ _ h => bkr_ex_operand (bkl_ex n).1 (bkl_ex n).2 h⟩
theorem bkl_RLp (n : Nat) : BK_ex_parse (RL_ex_parse n) := (bkl_ex n).1
theorem bkl_RLo (n : Nat) : BK_ex_operand (RL_ex_operand n) := (bkl_ex n).2
