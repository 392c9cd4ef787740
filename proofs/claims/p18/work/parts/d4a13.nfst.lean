/-- how much of the code there is: a number within its row -/
def NN (cn : Nat) (fp : Nat → Int32) : Prop := 0 ≤ (fp 3).toInt ∧ (fp 3).toInt ≤ (nI cn).toInt ∧ (nI cn).toInt ≤ 2000000000
def NFq (cn : Nat) (a b : Nat → Int32) : Prop := NN cn a → NN cn b
theorem NFq.rf {cn : Nat} {a : Nat → Int32} : NFq cn a a := id
theorem NFq.tr {cn : Nat} {a b c : Nat → Int32} (h : NFq cn a b) (k : NFq cn b c) : NFq cn a c := fun x => k (h x)
theorem nfr_pe_emit {cn : Nat} {p0 p1 p2 p3 : Int32} {fp cd fp' cd' : Nat → Int32} {v : Int32} (h : R_pe_emit cn p0 p1 p2 p3 fp cd fp' cd' v) : NFq cn fp fp' := by
  intro hn
  obtain ⟨n1, n2, n3⟩ := hn
  rcases h with (⟨h1, e0, e1, ev⟩ | ⟨h1, z4, h2, (⟨h3, e0, e1, ev⟩ | ⟨h3, z8, h4, z10, h5, z12, h6, z14, h7, e0, e1, ev⟩)⟩) | h
  · rw [e0]; exact ⟨n1, n2, n3⟩
  · rw [e0]; exact ⟨n1, n2, n3⟩
  · have q := ti_add h2 (rfl : (fp 3).toInt = (fp 3).toInt) (show (4 : Int32).toInt = 4 from rfl) (by omega) (by omega)
    have q' := ti_add h7 (rfl : (fp 3).toInt = (fp 3).toInt) (show (4 : Int32).toInt = 4 from rfl) (by omega) (by omega)
    rw [e0]
    unfold NN
    rw [pk_us]
    omega
  · exact h.elim
theorem nfr_pe_emitc {cn : Nat} {p0 p1 p2 p3 : Int32} {fp cd fp' cd' : Nat → Int32} {v : Int32} (h : R_pe_emitc cn p0 p1 p2 p3 fp cd fp' cd' v) : NFq cn fp fp' := by
  intro hn
  obtain ⟨n1, n2, n3⟩ := hn
  rcases h with (⟨h1, e0, e1, ev⟩ | ⟨h1, z4, h2, (⟨h3, e0, e1, ev⟩ | ⟨h3, z8, h4, z10, h5, z12, h6, z14, h7, e0, e1, ev⟩)⟩) | h
  · rw [e0]; exact ⟨n1, n2, n3⟩
  · rw [e0]; exact ⟨n1, n2, n3⟩
  · have q := ti_add h2 (rfl : (fp 3).toInt = (fp 3).toInt) (show (4 : Int32).toInt = 4 from rfl) (by omega) (by omega)
    have q' := ti_add h7 (rfl : (fp 3).toInt = (fp 3).toInt) (show (4 : Int32).toInt = 4 from rfl) (by omega) (by omega)
    rw [e0]
    unfold NN
    rw [pk_us]
    omega
  · exact h.elim
theorem nfr_ex_number  {cn : Nat} {P : va_W} {ox : Option Nat} {tf : Nat → Int32} {fp : Nat → Int32} {cd : Nat → Int32} {fx : Nat → Int32} {tf' : Nat → Int32} {fp' : Nat → Int32} {cd' : Nat → Int32} {fx' : Nat → Int32}  (h : R_ex_number  cn P ox tf fp cd fx tf' fp' cd' fx') : NFq cn fp fp' := by
  rcases h with (⟨h1, (⟨h2, (⟨h3, e0, e1, e2, e3⟩ | ⟨h3, (⟨h4, e0, e1, e2, e3⟩ | ⟨q8, h4, j10, s11, h5, fp15, cd16, v18, h6, e0, e1, e2, e3⟩)⟩)⟩ | ⟨h2, tf21, h3, e0, e1, e2, e3⟩)⟩ | ⟨h1, tf30, h2, e0, e1, e2, e3⟩) | h
  · rw [e1]; exact NFq.rf
  · rw [e1]; exact NFq.rf
  · rw [e1]; exact (NFq.tr NFq.rf (nfr_pe_emit h6))
  · rw [e1]; exact NFq.rf
  · rw [e1]; exact NFq.rf
  · exact h.elim
theorem nfr_ex_shortcut  {cn : Nat} {p0 : Int32} {fp : Nat → Int32} {cd : Nat → Int32} {fp' : Nat → Int32} {cd' : Nat → Int32} {v : Int32}  (h : R_ex_shortcut  cn p0 fp cd fp' cd' v) : NFq cn fp fp' := by
  rcases h with (⟨h1, (⟨h2, e0, e1, ev⟩ | ⟨h2, fp7, cd8, v10, h3, e0, e1, ev⟩)⟩ | ⟨h1, fp15, cd16, v18, h2, e0, e1, ev⟩) | h
  · rw [e0]; exact NFq.rf
  · rw [e0]; exact (NFq.tr NFq.rf (nfr_pe_emit h3))
  · rw [e0]; exact (NFq.tr NFq.rf (nfr_pe_emit h2))
  · exact h.elim
theorem nfr_ex_join  {cn : Nat} {p0 : Int32} {p1 : Int32} {fp : Nat → Int32} {cd : Nat → Int32} {fp' : Nat → Int32} {cd' : Nat → Int32}  (h : R_ex_join  cn p0 p1 fp cd fp' cd') : NFq cn fp fp' := by
  rcases h with (⟨h1, fp5, cd6, v8, h2, cd13, h3, e0, e1⟩ | ⟨h1, fp18, cd19, v21, h2, e0, e1⟩) | h
  · rw [e0]; exact (NFq.tr NFq.rf (nfr_pe_emit h2))
  · rw [e0]; exact (NFq.tr NFq.rf (nfr_pe_emit h2))
  · exact h.elim
theorem nfe_ex_increase  {cn : Nat} {P : va_W} {ox : Option Nat} {p0 : Int32} {p1 : Int32}  {fp' : Nat → Int32} {cd' : Nat → Int32} {fx' : Nat → Int32}  : ∀ (k pc_ : Nat) (ls_ : List Int32) (lw_ : List Int64) (qs_ : List (Option Nat)) (fs_ : List (Nat → Int32)) (ad_ : List Nat) (fp : Nat → Int32) (cd : Nat → Int32) (fx : Nat → Int32), E_ex_increase  cn P ox p0 p1 fp' cd' fx'  k pc_ ls_ lw_ qs_ fs_ ad_ fp cd fx → NFq cn fp fp' := by
  intro k
  induction k with
  | zero => intro _ _ _ _ _ _ _ _ _ h; exact h.elim
  | succ k ih =>
    intro pc_ ls_ lw_ qs_ fs_ ad_ fp cd fx h
    rcases h with ⟨-, (⟨h1, hE⟩ | ⟨h1, (⟨h2, hE⟩ | ⟨q16, h2, z18, h3, z19, h4, j20, s21, h5, fp25, cd26, v28, h6, hE⟩)⟩)⟩ | ⟨-, -, -, -, -, -, fx1, h1, e0, e1, e2⟩ | h
    · exact NFq.tr NFq.rf (ih _ _ _ _ _ _ _ _ _ hE)
    · exact NFq.tr NFq.rf (ih _ _ _ _ _ _ _ _ _ hE)
    · exact NFq.tr (NFq.tr NFq.rf (nfr_pe_emit h6)) (ih _ _ _ _ _ _ _ _ _ hE)
    · rw [e0]; exact NFq.rf
    · exact h.elim
theorem nfr_ex_increase  {cn : Nat} {P : va_W} {ox : Option Nat} {p0 : Int32} {p1 : Int32} {fp : Nat → Int32} {cd : Nat → Int32} {fx : Nat → Int32} {fp' : Nat → Int32} {cd' : Nat → Int32} {fx' : Nat → Int32}  (h : R_ex_increase  cn P ox p0 p1 fp cd fx fp' cd' fx') : NFq cn fp fp' := by
  obtain ⟨k, h⟩ := h
  exact nfe_ex_increase  k _ _ _ _ _ _ _ _ _ h
theorem nfe_ex_hand  {cn : Nat} {P : va_W} {ox : Option Nat} {fx : Nat → Int32} {p0 : Int32}  {tf' : Nat → Int32} {fp' : Nat → Int32} {cd' : Nat → Int32}  : ∀ (k pc_ : Nat) (ls_ : List Int32) (lw_ : List Int64) (qs_ : List (Option Nat)) (fs_ : List (Nat → Int32)) (ad_ : List Nat) (tf : Nat → Int32) (fp : Nat → Int32) (cd : Nat → Int32), E_ex_hand  cn P ox fx p0 tf' fp' cd'  k pc_ ls_ lw_ qs_ fs_ ad_ tf fp cd → NFq cn fp fp' := by
  intro k
  induction k with
  | zero => intro _ _ _ _ _ _ _ _ _ h; exact h.elim
  | succ k ih =>
    intro pc_ ls_ lw_ qs_ fs_ ad_ tf fp cd h
    rcases h with ⟨-, (⟨h1, (⟨h2, (⟨h3, hE⟩ | ⟨h3, hE⟩)⟩ | ⟨h2, fp22, cd23, v25, h3, hE⟩)⟩ | ⟨h1, (⟨h2, (⟨h3, hE⟩ | ⟨h3, (⟨h4, hE⟩ | ⟨q33, h4, (⟨h5, j37, s38, h6, fp42, cd43, v45, h7, hE⟩ | ⟨h5, v49, h6, z51, h7, (⟨h8, hE⟩ | ⟨h8, j54, s55, h9, fp59, cd60, v62, h10, hE⟩)⟩)⟩)⟩)⟩ | ⟨h2, fp67, cd68, v70, h3, hE⟩)⟩)⟩ | ⟨-, -, -, -, -, -, (⟨h1, hE⟩ | ⟨h1, (⟨h2, hE⟩ | ⟨h2, tf5, h3, hE⟩)⟩)⟩ | ⟨-, -, -, -, -, -, e0, e1, e2⟩ | h
    · exact NFq.tr NFq.rf (ih _ _ _ _ _ _ _ _ _ hE)
    · exact NFq.tr NFq.rf (ih _ _ _ _ _ _ _ _ _ hE)
    · exact NFq.tr (NFq.tr NFq.rf (nfr_pe_emit h3)) (ih _ _ _ _ _ _ _ _ _ hE)
    · exact NFq.tr NFq.rf (ih _ _ _ _ _ _ _ _ _ hE)
    · exact NFq.tr NFq.rf (ih _ _ _ _ _ _ _ _ _ hE)
    · exact NFq.tr (NFq.tr NFq.rf (nfr_pe_emit h7)) (ih _ _ _ _ _ _ _ _ _ hE)
    · exact NFq.tr NFq.rf (ih _ _ _ _ _ _ _ _ _ hE)
    · exact NFq.tr (NFq.tr NFq.rf (nfr_pe_emit h10)) (ih _ _ _ _ _ _ _ _ _ hE)
    · exact NFq.tr (NFq.tr NFq.rf (nfr_pe_emit h3)) (ih _ _ _ _ _ _ _ _ _ hE)
    · exact NFq.tr NFq.rf (ih _ _ _ _ _ _ _ _ _ hE)
    · exact NFq.tr NFq.rf (ih _ _ _ _ _ _ _ _ _ hE)
    · exact NFq.tr NFq.rf (ih _ _ _ _ _ _ _ _ _ hE)
    · rw [e1]; exact NFq.rf
    · exact h.elim
theorem nfr_ex_hand  {cn : Nat} {P : va_W} {ox : Option Nat} {fx : Nat → Int32} {p0 : Int32} {tf : Nat → Int32} {fp : Nat → Int32} {cd : Nat → Int32} {tf' : Nat → Int32} {fp' : Nat → Int32} {cd' : Nat → Int32}  (h : R_ex_hand  cn P ox fx p0 tf fp cd tf' fp' cd') : NFq cn fp fp' := by
  obtain ⟨k, h⟩ := h
  exact nfe_ex_hand  k _ _ _ _ _ _ _ _ _ h
theorem nfe_ex_conclude_r  {cn : Nat} {P : va_W} {fa : Nat} {p0 : Int32}  {tf' : Nat → Int32} {fp' : Nat → Int32} {cd' : Nat → Int32} {fx' : Nat → Int32}  : ∀ (k pc_ : Nat) (ls_ : List Int32) (lw_ : List Int64) (qs_ : List (Option Nat)) (fs_ : List (Nat → Int32)) (ad_ : List Nat) (tf : Nat → Int32) (fp : Nat → Int32) (cd : Nat → Int32) (fx : Nat → Int32), E_ex_conclude_r  cn P fa p0 tf' fp' cd' fx'  k pc_ ls_ lw_ qs_ fs_ ad_ tf fp cd fx → NFq cn fp fp' := by
  intro k
  induction k with
  | zero => intro _ _ _ _ _ _ _ _ _ _ h; exact h.elim
  | succ k ih =>
    intro pc_ ls_ lw_ qs_ fs_ ad_ tf fp cd fx h
    rcases h with ⟨-, jf, sf, h1, (⟨h2, hE⟩ | ⟨h2, tf65, h3, hE⟩)⟩ | ⟨-, -, -, -, -, -, jf, sf, h1, (⟨h2, (⟨h3, (⟨h4, z8, h5, fp11, cd12, v14, h6, e0, e1, e2, e3⟩ | ⟨h4, fp19, cd20, v22, h5, e0, e1, e2, e3⟩)⟩ | ⟨h3, fp27, cd28, v30, h4, e0, e1, e2, e3⟩)⟩ | ⟨h2, (⟨h3, (⟨h4, z38, h5, fp41, cd42, v44, h6, e0, e1, e2, e3⟩ | ⟨h4, fp49, cd50, v52, h5, e0, e1, e2, e3⟩)⟩ | ⟨h3, fp57, cd58, v60, h4, e0, e1, e2, e3⟩)⟩)⟩ | h
    · exact NFq.tr NFq.rf (ih _ _ _ _ _ _ _ _ _ _ hE)
    · exact NFq.tr NFq.rf (ih _ _ _ _ _ _ _ _ _ _ hE)
    · rw [e1]; exact (NFq.tr NFq.rf (nfr_pe_emit h6))
    · rw [e1]; exact (NFq.tr NFq.rf (nfr_pe_emit h5))
    · rw [e1]; exact (NFq.tr NFq.rf (nfr_pe_emit h4))
    · rw [e1]; exact (NFq.tr NFq.rf (nfr_pe_emit h6))
    · rw [e1]; exact (NFq.tr NFq.rf (nfr_pe_emit h5))
    · rw [e1]; exact (NFq.tr NFq.rf (nfr_pe_emit h4))
    · exact h.elim
theorem nfr_ex_conclude_r  {cn : Nat} {P : va_W} {fa : Nat} {p0 : Int32} {tf : Nat → Int32} {fp : Nat → Int32} {cd : Nat → Int32} {fx : Nat → Int32} {tf' : Nat → Int32} {fp' : Nat → Int32} {cd' : Nat → Int32} {fx' : Nat → Int32}  (h : R_ex_conclude_r  cn P fa p0 tf fp cd fx tf' fp' cd' fx') : NFq cn fp fp' := by
  obtain ⟨k, h⟩ := h
  exact nfe_ex_conclude_r  k _ _ _ _ _ _ _ _ _ _ h
theorem nfr_ex_conclude {cn : Nat} {P : va_W} {fo : Option Nat} {p0 : Int32} {tf fp cd fx tf' fp' cd' fx' : Nat → Int32} (h : R_ex_conclude cn P fo p0 tf fp cd fx tf' fp' cd' fx') : NFq cn fp fp' := by
  cases fo with
  | none =>
    have h' : R_ex_conclude_n p0 tf fp cd fx tf' fp' cd' fx' := h
    rcases h' with ⟨tf1, h1, e0, e1, e2, e3⟩ | h'
    · rw [e1]; exact NFq.rf
    · exact h'.elim
  | some fa => exact nfr_ex_conclude_r (p0 := p0) h
def NF_ex_parse (R : T_ex_parse) : Prop := ∀ (ta : Nat → Nat → Int32) (cn : Nat) (na : Nat → Nat → Int32) (own : Bool) (P : va_W) (lf : Nat → Int32) (lg : Nat → Option Nat) (ff : Nat → Int32) (fg : Nat → Option Nat) (p0 : Int32) (tf : Nat → Int32) (fp : Nat → Int32) (cd : Nat → Int32) (tf' : Nat → Int32) (fp' : Nat → Int32) (cd' : Nat → Int32) (ox' : Option Nat) (fx' : Nat → Int32), R ta cn na own P lf lg ff fg p0 tf fp cd tf' fp' cd' ox' fx' → NFq cn fp fp'
def NF_ex_operand (R : T_ex_operand) : Prop := ∀ (ta : Nat → Nat → Int32) (cn : Nat) (na : Nat → Nat → Int32) (own : Bool) (P : va_W) (lf : Nat → Int32) (lg : Nat → Option Nat) (ff : Nat → Int32) (fg : Nat → Option Nat) (tf : Nat → Int32) (fp : Nat → Int32) (cd : Nat → Int32) (tf' : Nat → Int32) (fp' : Nat → Int32) (cd' : Nat → Int32) (ox' : Option Nat) (fx' : Nat → Int32), R ta cn na own P lf lg ff fg tf fp cd tf' fp' cd' ox' fx' → NFq cn fp fp'
theorem nfr_ex_drop  {cn : Nat} {P : va_W} {ox : Option Nat} {tf : Nat → Int32} {fp : Nat → Int32} {cd : Nat → Int32} {fx : Nat → Int32} {tf' : Nat → Int32} {fp' : Nat → Int32} {cd' : Nat → Int32} {fx' : Nat → Int32}  (h : R_ex_drop  cn P ox tf fp cd fx tf' fp' cd' fx') : NFq cn fp fp' := by
  rcases h with (⟨h1, fp5, cd6, v8, h2, e0, e1, e2, e3⟩ | ⟨h1, tf15, fp16, cd17, fx18, h2, fp36, cd37, v39, h3, e0, e1, e2, e3⟩) | h
  · rw [e1]; exact (NFq.tr NFq.rf (nfr_pe_emit h2))
  · rw [e1]; exact (NFq.tr (NFq.tr NFq.rf (nfr_ex_number h2)) (nfr_pe_emit h3))
  · exact h.elim
theorem nfr_ex_figure {RLp : T_ex_parse} {RLo : T_ex_operand} {ta : Nat → Nat → Int32} {cn : Nat} {tf : Nat → Int32} {fp : Nat → Int32} {cd : Nat → Int32} {tf' : Nat → Int32} {fp' : Nat → Int32} {cd' : Nat → Int32} {ox' : Option Nat} {fx' : Nat → Int32} (hP : NF_ex_parse RLp) (hO : NF_ex_operand RLo) (h : R_ex_figure RLp RLo ta cn tf fp cd tf' fp' cd' ox' fx') : NFq cn fp fp' := by
  rcases h with ⟨q1, v5, h1, fp9, cd10, v12, h2, v16, h3, (⟨h4, tf22, h5, e0, e1, e2, e3, e4⟩ | ⟨h4, tf31, h5, e0, e1, e2, e3, e4⟩)⟩ | h
  · rw [e1]; exact (NFq.tr NFq.rf (nfr_pe_emit h2))
  · rw [e1]; exact (NFq.tr NFq.rf (nfr_pe_emit h2))
  · exact h.elim
theorem nfe_ex_named {RLp : T_ex_parse} {RLo : T_ex_operand} {ta : Nat → Nat → Int32} {cn : Nat} {own : Bool} {P : va_W} {lf : Nat → Int32} {lg : Nat → Option Nat}  {tf' : Nat → Int32} {fp' : Nat → Int32} {cd' : Nat → Int32} {ox' : Option Nat} {fx' : Nat → Int32} (hP : NF_ex_parse RLp) (hO : NF_ex_operand RLo) : ∀ (k pc_ : Nat) (ls_ : List Int32) (lw_ : List Int64) (qs_ : List (Option Nat)) (fs_ : List (Nat → Int32)) (ad_ : List Nat) (tf : Nat → Int32) (fp : Nat → Int32) (cd : Nat → Int32), E_ex_named RLp RLo ta cn own P lf lg tf' fp' cd' ox' fx'  k pc_ ls_ lw_ qs_ fs_ ad_ tf fp cd → NFq cn fp fp' := by
  intro k
  induction k with
  | zero => intro _ _ _ _ _ _ _ _ _ h; exact h.elim
  | succ k ih =>
    intro pc_ ls_ lw_ qs_ fs_ ad_ tf fp cd h
    rcases h with ⟨-, q12, v16, h1, v19, h2, (⟨h3, tf42, h4, hE⟩ | ⟨q23, h3, j25, s26, h4, (⟨h5, z31, h6, (⟨h7, hE⟩ | ⟨h7, hE⟩)⟩ | ⟨h5, fp36, cd37, v39, h6, hE⟩)⟩)⟩ | ⟨-, ox_122, fx_122, hx_122, -, -, -, -, -, tf1, h1, e0, e1, e2, e3, e4⟩ | h
    · exact NFq.tr NFq.rf (ih _ _ _ _ _ _ _ _ _ hE)
    · exact NFq.tr NFq.rf (ih _ _ _ _ _ _ _ _ _ hE)
    · exact NFq.tr NFq.rf (ih _ _ _ _ _ _ _ _ _ hE)
    · exact NFq.tr (NFq.tr NFq.rf (nfr_pe_emit h6)) (ih _ _ _ _ _ _ _ _ _ hE)
    · rw [e1]; exact NFq.rf
    · exact h.elim
theorem nfr_ex_named {RLp : T_ex_parse} {RLo : T_ex_operand} {ta : Nat → Nat → Int32} {cn : Nat} {own : Bool} {P : va_W} {lf : Nat → Int32} {lg : Nat → Option Nat} {tf : Nat → Int32} {fp : Nat → Int32} {cd : Nat → Int32} {tf' : Nat → Int32} {fp' : Nat → Int32} {cd' : Nat → Int32} {ox' : Option Nat} {fx' : Nat → Int32} (hP : NF_ex_parse RLp) (hO : NF_ex_operand RLo) (h : R_ex_named RLp RLo ta cn own P lf lg tf fp cd tf' fp' cd' ox' fx') : NFq cn fp fp' := by
  obtain ⟨k, h⟩ := h
  exact nfe_ex_named hP hO k _ _ _ _ _ _ _ _ _ h
theorem nfe_ex_prefix {RLp : T_ex_parse} {RLo : T_ex_operand} {ta : Nat → Nat → Int32} {cn : Nat} {na : Nat → Nat → Int32} {own : Bool} {P : va_W} {lf : Nat → Int32} {lg : Nat → Option Nat} {ff : Nat → Int32} {fg : Nat → Option Nat} {p0 : Int32}  {tf' : Nat → Int32} {fp' : Nat → Int32} {cd' : Nat → Int32} {ox' : Option Nat} {fx' : Nat → Int32} (hP : NF_ex_parse RLp) (hO : NF_ex_operand RLo) : ∀ (k pc_ : Nat) (ls_ : List Int32) (lw_ : List Int64) (qs_ : List (Option Nat)) (fs_ : List (Nat → Int32)) (ad_ : List Nat) (tf : Nat → Int32) (fp : Nat → Int32) (cd : Nat → Int32), E_ex_prefix RLp RLo ta cn na own P lf lg ff fg p0 tf' fp' cd' ox' fx'  k pc_ ls_ lw_ qs_ fs_ ad_ tf fp cd → NFq cn fp fp' := by
  intro k
  induction k with
  | zero => intro _ _ _ _ _ _ _ _ _ h; exact h.elim
  | succ k ih =>
    intro pc_ ls_ lw_ qs_ fs_ ad_ tf fp cd h
    rcases h with ⟨-, tf76, h1, tf88, fp89, cd90, hx91, ox92, fx93, h2, tf120, h3, (⟨h4, (⟨h5, tf134, v136, h6, fp148, cd149, fx150, h7, hE⟩ | ⟨h5, tf162, v164, h6, fp176, cd177, fx178, h7, hE⟩)⟩ | ⟨h4, (⟨h5, tf195, fp196, cd197, fx198, h6, hE⟩ | ⟨h5, (⟨h6, tf217, v219, h7, fp231, cd232, fx233, h8, hE⟩ | ⟨h6, tf245, v247, h7, fp259, cd260, fx261, h8, hE⟩)⟩)⟩)⟩ | ⟨-, x72_2, ox_72, fx_72, hx_72, -, -, -, -, -, (⟨h1, fp5, cd6, v8, h2, v12, h3, fx14, h4, e0, e1, e2, e3, e4⟩ | ⟨h1, (⟨h2, fp30, cd31, v33, h3, v37, h4, fx39, h5, e0, e1, e2, e3, e4⟩ | ⟨h2, (⟨h3, e0, e1, e2, e3, e4⟩ | ⟨h3, fp55, cd56, v58, h4, v62, h5, fx64, h6, e0, e1, e2, e3, e4⟩)⟩)⟩)⟩ | h
    · exact NFq.tr (NFq.tr (NFq.tr NFq.rf (hO _ _ _ _ _ _ _ _ _ _ _ _ _ _ _ _ _ h2)) (nfr_ex_increase h7)) (ih _ _ _ _ _ _ _ _ _ hE)
    · exact NFq.tr (NFq.tr (NFq.tr NFq.rf (hO _ _ _ _ _ _ _ _ _ _ _ _ _ _ _ _ _ h2)) (nfr_ex_increase h7)) (ih _ _ _ _ _ _ _ _ _ hE)
    · exact NFq.tr (NFq.tr (NFq.tr NFq.rf (hO _ _ _ _ _ _ _ _ _ _ _ _ _ _ _ _ _ h2)) (nfr_ex_number h6)) (ih _ _ _ _ _ _ _ _ _ hE)
    · exact NFq.tr (NFq.tr (NFq.tr NFq.rf (hO _ _ _ _ _ _ _ _ _ _ _ _ _ _ _ _ _ h2)) (nfr_ex_increase h8)) (ih _ _ _ _ _ _ _ _ _ hE)
    · exact NFq.tr (NFq.tr (NFq.tr NFq.rf (hO _ _ _ _ _ _ _ _ _ _ _ _ _ _ _ _ _ h2)) (nfr_ex_increase h8)) (ih _ _ _ _ _ _ _ _ _ hE)
    · rw [e1]; exact (NFq.tr NFq.rf (nfr_pe_emit h2))
    · rw [e1]; exact (NFq.tr NFq.rf (nfr_pe_emit h3))
    · rw [e1]; exact NFq.rf
    · rw [e1]; exact (NFq.tr NFq.rf (nfr_pe_emit h4))
    · exact h.elim
theorem nfr_ex_prefix {RLp : T_ex_parse} {RLo : T_ex_operand} {ta : Nat → Nat → Int32} {cn : Nat} {na : Nat → Nat → Int32} {own : Bool} {P : va_W} {lf : Nat → Int32} {lg : Nat → Option Nat} {ff : Nat → Int32} {fg : Nat → Option Nat} {p0 : Int32} {tf : Nat → Int32} {fp : Nat → Int32} {cd : Nat → Int32} {tf' : Nat → Int32} {fp' : Nat → Int32} {cd' : Nat → Int32} {ox' : Option Nat} {fx' : Nat → Int32} (hP : NF_ex_parse RLp) (hO : NF_ex_operand RLo) (h : R_ex_prefix RLp RLo ta cn na own P lf lg ff fg p0 tf fp cd tf' fp' cd' ox' fx') : NFq cn fp fp' := by
  obtain ⟨k, h⟩ := h
  exact nfe_ex_prefix hP hO k _ _ _ _ _ _ _ _ _ h
theorem nfr_ex_group {RLp : T_ex_parse} {RLo : T_ex_operand} {ta : Nat → Nat → Int32} {cn : Nat} {na : Nat → Nat → Int32} {own : Bool} {P : va_W} {lf : Nat → Int32} {lg : Nat → Option Nat} {ff : Nat → Int32} {fg : Nat → Option Nat} {tf : Nat → Int32} {fp : Nat → Int32} {cd : Nat → Int32} {tf' : Nat → Int32} {fp' : Nat → Int32} {cd' : Nat → Int32} {ox' : Option Nat} {fx' : Nat → Int32} (hP : NF_ex_parse RLp) (hO : NF_ex_operand RLo) (h : R_ex_group RLp RLo ta cn na own P lf lg ff fg tf fp cd tf' fp' cd' ox' fx') : NFq cn fp fp' := by
  rcases h with ⟨tf1, h1, tf13, fp14, cd15, hx16, ox17, fx18, h2, tf45, h3, e0, e1, e2, e3, e4⟩ | h
  · rw [e1]; exact (NFq.tr NFq.rf (hP _ _ _ _ _ _ _ _ _ _ _ _ _ _ _ _ _ _ h2))
  · exact h.elim
theorem nfe_ex_index {RLp : T_ex_parse} {RLo : T_ex_operand} {ta : Nat → Nat → Int32} {cn : Nat} {na : Nat → Nat → Int32} {own : Bool} {P : va_W} {lf : Nat → Int32} {lg : Nat → Option Nat} {ff : Nat → Int32} {fg : Nat → Option Nat}  {tf' : Nat → Int32} {fp' : Nat → Int32} {cd' : Nat → Int32} {ox' : Option Nat} {fx' : Nat → Int32} (hP : NF_ex_parse RLp) (hO : NF_ex_operand RLo) : ∀ (k pc_ : Nat) (ls_ : List Int32) (lw_ : List Int64) (qs_ : List (Option Nat)) (fs_ : List (Nat → Int32)) (ad_ : List Nat) (tf : Nat → Int32) (fp : Nat → Int32) (cd : Nat → Int32), E_ex_index RLp RLo ta cn na own P lf lg ff fg tf' fp' cd' ox' fx'  k pc_ ls_ lw_ qs_ fs_ ad_ tf fp cd → NFq cn fp fp' := by
  intro k
  induction k with
  | zero => intro _ _ _ _ _ _ _ _ _ h; exact h.elim
  | succ k ih =>
    intro pc_ ls_ lw_ qs_ fs_ ad_ tf fp cd h
    rcases h with ⟨-, v91, h1, q93, v97, h2, (⟨h3, v104, h4, (⟨h5, tf119, h6, hE⟩ | ⟨q108, h5, tf110, h6, hE⟩)⟩ | ⟨q101, h3, j128, s129, h4, z132, h5, (⟨h6, tf135, h7, hE⟩ | ⟨h6, hE⟩)⟩)⟩ | ⟨-, ox_91, fx_91, hx_91, -, -, -, -, -, tf1, h1, tf12, h2, tf24, fp25, cd26, hx27, ox28, fx29, h3, tf60, fp61, cd62, fx63, h4, tf79, h5, z89, h6, e0, e1, e2, e3, e4⟩ | h
    · exact NFq.tr NFq.rf (ih _ _ _ _ _ _ _ _ _ hE)
    · exact NFq.tr NFq.rf (ih _ _ _ _ _ _ _ _ _ hE)
    · exact NFq.tr NFq.rf (ih _ _ _ _ _ _ _ _ _ hE)
    · exact NFq.tr NFq.rf (ih _ _ _ _ _ _ _ _ _ hE)
    · rw [e1]; exact (NFq.tr (NFq.tr NFq.rf (hP _ _ _ _ _ _ _ _ _ _ _ _ _ _ _ _ _ _ h3)) (nfr_ex_number h4))
    · exact h.elim
theorem nfr_ex_index {RLp : T_ex_parse} {RLo : T_ex_operand} {ta : Nat → Nat → Int32} {cn : Nat} {na : Nat → Nat → Int32} {own : Bool} {P : va_W} {lf : Nat → Int32} {lg : Nat → Option Nat} {ff : Nat → Int32} {fg : Nat → Option Nat} {tf : Nat → Int32} {fp : Nat → Int32} {cd : Nat → Int32} {tf' : Nat → Int32} {fp' : Nat → Int32} {cd' : Nat → Int32} {ox' : Option Nat} {fx' : Nat → Int32} (hP : NF_ex_parse RLp) (hO : NF_ex_operand RLo) (h : R_ex_index RLp RLo ta cn na own P lf lg ff fg tf fp cd tf' fp' cd' ox' fx') : NFq cn fp fp' := by
  obtain ⟨k, h⟩ := h
  exact nfe_ex_index hP hO k _ _ _ _ _ _ _ _ _ h
theorem nfe_ex_call {RLp : T_ex_parse} {RLo : T_ex_operand} {ta : Nat → Nat → Int32} {cn : Nat} {na : Nat → Nat → Int32} {own : Bool} {P : va_W} {lf : Nat → Int32} {lg : Nat → Option Nat} {ff : Nat → Int32} {fg : Nat → Option Nat}  {tf' : Nat → Int32} {fp' : Nat → Int32} {cd' : Nat → Int32} {ox' : Option Nat} {fx' : Nat → Int32} (hP : NF_ex_parse RLp) (hO : NF_ex_operand RLo) : ∀ (k pc_ : Nat) (ls_ : List Int32) (lw_ : List Int64) (qs_ : List (Option Nat)) (fs_ : List (Nat → Int32)) (ad_ : List Nat) (tf : Nat → Int32) (fp : Nat → Int32) (cd : Nat → Int32), E_ex_call RLp RLo ta cn na own P lf lg ff fg tf' fp' cd' ox' fx'  k pc_ ls_ lw_ qs_ fs_ ad_ tf fp cd → NFq cn fp fp' := by
  intro k
  induction k with
  | zero => intro _ _ _ _ _ _ _ _ _ h; exact h.elim
  | succ k ih =>
    intro pc_ ls_ lw_ qs_ fs_ ad_ tf fp cd h
    rcases h with ⟨-, v251, h1, q253, v257, h2, (⟨h3, v291, h4, tf294, h5, tf305, h6, v315, h7, (⟨h8, hE⟩ | ⟨h8, hE⟩)⟩ | ⟨q261, h3, tf263, h4, tf274, h5, v284, h6, (⟨h7, hE⟩ | ⟨h7, hE⟩)⟩)⟩ | ⟨-, x93_4, x93_5, x93_6, x93_7, y93_3, ox_93, fx_93, hx_93, -, -, -, -, -, (⟨h1, tf147, h2, tf160, fp161, cd162, fx163, h3, e0, e1, e2, e3, e4⟩ | ⟨h1, (⟨h2, tf181, h3, tf194, fp195, cd196, fx197, h4, e0, e1, e2, e3, e4⟩ | ⟨h2, tf216, fp217, cd218, hx219, ox220, fx221, h3, (⟨h4, hE⟩ | ⟨h4, hE⟩)⟩)⟩)⟩ | ⟨-, x129_4, x129_5, x129_7, x129_9, y129_3, ox_129, oy_129, fx_129, fy_129, hx_129, hy_129, -, -, -, -, -, v93, h1, (⟨h2, tf101, fp102, cd103, fx104, h3, hE⟩ | ⟨h2, (⟨h3, hE⟩ | ⟨h3, tf126, fp127, cd128, fx129, h4, hE⟩)⟩)⟩ | ⟨-, x159_4, x159_5, x159_7, x159_9, x159_10, y159_3, ox_159, oy_159, fx_159, fy_159, hx_159, hy_159, -, -, -, -, -, tf4, fp5, cd6, h1, (⟨h2, z22, h3, z23, h4, z25, h5, z26, h6, (⟨h7, z29, h8, z30, h9, tf31, v33, h10, z42, h11, hE⟩ | ⟨h7, z43, h8, z44, h9, tf45, v47, h10, z56, h11, hE⟩)⟩ | ⟨h2, z57, h3, z58, h4, z60, h5, z61, h6, (⟨h7, z64, h8, z65, h9, tf66, v68, h10, z77, h11, hE⟩ | ⟨h7, z78, h8, z79, h9, tf80, v82, h10, z91, h11, hE⟩)⟩)⟩ | h
    · exact NFq.tr NFq.rf (ih _ _ _ _ _ _ _ _ _ hE)
    · exact NFq.tr NFq.rf (ih _ _ _ _ _ _ _ _ _ hE)
    · exact NFq.tr NFq.rf (ih _ _ _ _ _ _ _ _ _ hE)
    · exact NFq.tr NFq.rf (ih _ _ _ _ _ _ _ _ _ hE)
    · rw [e1]; exact (NFq.tr NFq.rf (nfr_ex_conclude h3))
    · rw [e1]; exact (NFq.tr NFq.rf (nfr_ex_conclude h4))
    · exact NFq.tr (NFq.tr NFq.rf (hP _ _ _ _ _ _ _ _ _ _ _ _ _ _ _ _ _ _ h3)) (ih _ _ _ _ _ _ _ _ _ hE)
    · exact NFq.tr (NFq.tr NFq.rf (hP _ _ _ _ _ _ _ _ _ _ _ _ _ _ _ _ _ _ h3)) (ih _ _ _ _ _ _ _ _ _ hE)
    · exact NFq.tr (NFq.tr NFq.rf (nfr_ex_number h3)) (ih _ _ _ _ _ _ _ _ _ hE)
    · exact NFq.tr NFq.rf (ih _ _ _ _ _ _ _ _ _ hE)
    · exact NFq.tr (NFq.tr NFq.rf (nfr_ex_number h4)) (ih _ _ _ _ _ _ _ _ _ hE)
    · exact NFq.tr (NFq.tr NFq.rf (nfr_ex_hand h1)) (ih _ _ _ _ _ _ _ _ _ hE)
    · exact NFq.tr (NFq.tr NFq.rf (nfr_ex_hand h1)) (ih _ _ _ _ _ _ _ _ _ hE)
    · exact NFq.tr (NFq.tr NFq.rf (nfr_ex_hand h1)) (ih _ _ _ _ _ _ _ _ _ hE)
    · exact NFq.tr (NFq.tr NFq.rf (nfr_ex_hand h1)) (ih _ _ _ _ _ _ _ _ _ hE)
    · exact h.elim
theorem nfr_ex_call {RLp : T_ex_parse} {RLo : T_ex_operand} {ta : Nat → Nat → Int32} {cn : Nat} {na : Nat → Nat → Int32} {own : Bool} {P : va_W} {lf : Nat → Int32} {lg : Nat → Option Nat} {ff : Nat → Int32} {fg : Nat → Option Nat} {tf : Nat → Int32} {fp : Nat → Int32} {cd : Nat → Int32} {tf' : Nat → Int32} {fp' : Nat → Int32} {cd' : Nat → Int32} {ox' : Option Nat} {fx' : Nat → Int32} (hP : NF_ex_parse RLp) (hO : NF_ex_operand RLo) (h : R_ex_call RLp RLo ta cn na own P lf lg ff fg tf fp cd tf' fp' cd' ox' fx') : NFq cn fp fp' := by
  obtain ⟨k, h⟩ := h
  exact nfe_ex_call hP hO k _ _ _ _ _ _ _ _ _ h
theorem nfe_ex_operand {RLp : T_ex_parse} {RLo : T_ex_operand} {ta : Nat → Nat → Int32} {cn : Nat} {na : Nat → Nat → Int32} {own : Bool} {P : va_W} {lf : Nat → Int32} {lg : Nat → Option Nat} {ff : Nat → Int32} {fg : Nat → Option Nat}  {tf' : Nat → Int32} {fp' : Nat → Int32} {cd' : Nat → Int32} {ox' : Option Nat} {fx' : Nat → Int32} (hP : NF_ex_parse RLp) (hO : NF_ex_operand RLo) : ∀ (k pc_ : Nat) (ls_ : List Int32) (lw_ : List Int64) (qs_ : List (Option Nat)) (fs_ : List (Nat → Int32)) (ad_ : List Nat) (tf : Nat → Int32) (fp : Nat → Int32) (cd : Nat → Int32), E_ex_operand RLp RLo ta cn na own P lf lg ff fg tf' fp' cd' ox' fx'  k pc_ ls_ lw_ qs_ fs_ ad_ tf fp cd → NFq cn fp fp' := by
  intro k
  induction k with
  | zero => intro _ _ _ _ _ _ _ _ _ h; exact h.elim
  | succ k ih =>
    intro pc_ ls_ lw_ qs_ fs_ ad_ tf fp cd h
    rcases h with ⟨-, v151, h1, v156, h2, (⟨h3, (⟨h4, (⟨h5, (⟨h6, tf173, fp174, cd175, hx176, ox177, fx178, h7, hE⟩ | ⟨h6, tf208, fp209, cd210, hx211, ox212, fx213, h7, hE⟩)⟩ | ⟨h5, tf243, fp244, cd245, hx246, ox247, fx248, h6, hE⟩)⟩ | ⟨h4, v276, h5, (⟨h6, (⟨h7, (⟨h8, (⟨h9, tf289, fp290, cd291, hx292, ox293, fx294, h10, hE⟩ | ⟨h9, tf324, fp325, cd326, hx327, ox328, fx329, h10, hE⟩)⟩ | ⟨h8, tf359, fp360, cd361, hx362, ox363, fx364, h9, hE⟩)⟩ | ⟨h7, tf394, fp395, cd396, hx397, ox398, fx399, h8, hE⟩)⟩ | ⟨h6, tf429, fp430, cd431, hx432, ox433, fx434, h7, hE⟩)⟩)⟩ | ⟨h3, tf464, fp465, cd466, hx467, ox468, fx469, h4, e0, e1, e2, e3, e4⟩)⟩ | ⟨-, ox_101, fx_101, hx_101, -, -, -, -, -, v2, h1, (⟨h2, tf8, h3, (⟨h4, z20, h5, tf22, v24, h6, fp36, cd37, fx38, h7, e0, e1, e2, e3, e4⟩ | ⟨h4, z49, h5, tf51, v53, h6, fp65, cd66, fx67, h7, e0, e1, e2, e3, e4⟩)⟩ | ⟨h2, (⟨h3, e0, e1, e2, e3, e4⟩ | ⟨h3, tf80, h4, (⟨h5, z92, h6, tf94, v96, h7, fp108, cd109, fx110, h8, e0, e1, e2, e3, e4⟩ | ⟨h5, z121, h6, tf123, v125, h7, fp137, cd138, fx139, h8, e0, e1, e2, e3, e4⟩)⟩)⟩)⟩ | h
    · exact NFq.tr (NFq.tr NFq.rf (nfr_ex_figure hP hO h7)) (ih _ _ _ _ _ _ _ _ _ hE)
    · exact NFq.tr (NFq.tr NFq.rf (nfr_ex_named hP hO h7)) (ih _ _ _ _ _ _ _ _ _ hE)
    · exact NFq.tr (NFq.tr NFq.rf (nfr_ex_group hP hO h6)) (ih _ _ _ _ _ _ _ _ _ hE)
    · exact NFq.tr (NFq.tr NFq.rf (nfr_ex_figure hP hO h10)) (ih _ _ _ _ _ _ _ _ _ hE)
    · exact NFq.tr (NFq.tr NFq.rf (nfr_ex_named hP hO h10)) (ih _ _ _ _ _ _ _ _ _ hE)
    · exact NFq.tr (NFq.tr NFq.rf (nfr_ex_index hP hO h9)) (ih _ _ _ _ _ _ _ _ _ hE)
    · exact NFq.tr (NFq.tr NFq.rf (nfr_ex_call hP hO h8)) (ih _ _ _ _ _ _ _ _ _ hE)
    · exact NFq.tr (NFq.tr NFq.rf (nfr_ex_group hP hO h7)) (ih _ _ _ _ _ _ _ _ _ hE)
    · rw [e1]; exact (NFq.tr NFq.rf (nfr_ex_prefix hP hO h4))
    · rw [e1]; exact (NFq.tr NFq.rf (nfr_ex_increase h7))
    · rw [e1]; exact (NFq.tr NFq.rf (nfr_ex_increase h7))
    · rw [e1]; exact NFq.rf
    · rw [e1]; exact (NFq.tr NFq.rf (nfr_ex_increase h8))
    · rw [e1]; exact (NFq.tr NFq.rf (nfr_ex_increase h8))
    · exact h.elim
theorem nfr_ex_operand {RLp : T_ex_parse} {RLo : T_ex_operand} {ta : Nat → Nat → Int32} {cn : Nat} {na : Nat → Nat → Int32} {own : Bool} {P : va_W} {lf : Nat → Int32} {lg : Nat → Option Nat} {ff : Nat → Int32} {fg : Nat → Option Nat} {tf : Nat → Int32} {fp : Nat → Int32} {cd : Nat → Int32} {tf' : Nat → Int32} {fp' : Nat → Int32} {cd' : Nat → Int32} {ox' : Option Nat} {fx' : Nat → Int32} (hP : NF_ex_parse RLp) (hO : NF_ex_operand RLo) (h : R_ex_operand RLp RLo ta cn na own P lf lg ff fg tf fp cd tf' fp' cd' ox' fx') : NFq cn fp fp' := by
  obtain ⟨k, h⟩ := h
  exact nfe_ex_operand hP hO k _ _ _ _ _ _ _ _ _ h
theorem nfe_ex_assign {RLp : T_ex_parse} {RLo : T_ex_operand} {ta : Nat → Nat → Int32} {cn : Nat} {na : Nat → Nat → Int32} {own : Bool} {P : va_W} {lf : Nat → Int32} {lg : Nat → Option Nat} {ff : Nat → Int32} {fg : Nat → Option Nat} {ox : Option Nat}  {tf' : Nat → Int32} {fp' : Nat → Int32} {cd' : Nat → Int32} {fx' : Nat → Int32} (hP : NF_ex_parse RLp) (hO : NF_ex_operand RLo) : ∀ (k pc_ : Nat) (ls_ : List Int32) (lw_ : List Int64) (qs_ : List (Option Nat)) (fs_ : List (Nat → Int32)) (ad_ : List Nat) (tf : Nat → Int32) (fp : Nat → Int32) (cd : Nat → Int32) (fx : Nat → Int32), E_ex_assign RLp RLo ta cn na own P lf lg ff fg ox tf' fp' cd' fx'  k pc_ ls_ lw_ qs_ fs_ ad_ tf fp cd fx → NFq cn fp fp' := by
  intro k
  induction k with
  | zero => intro _ _ _ _ _ _ _ _ _ _ h; exact h.elim
  | succ k ih =>
    intro pc_ ls_ lw_ qs_ fs_ ad_ tf fp cd fx h
    rcases h with ⟨-, v33, h1, z37, h2, tf38, h3, tf48, v50, h4, tf62, fp63, cd64, hx65, ox66, fx67, h5, tf98, fp99, cd100, fx101, h6, tf117, h7, (⟨h8, hE⟩ | ⟨h8, (⟨h9, z130, h10, z131, h11, q132, h12, j134, s135, h13, fp139, cd140, v142, h14, z146, h15, (⟨h16, hE⟩ | ⟨h16, hE⟩)⟩ | ⟨h9, q149, h10, j151, s152, h11, fp156, cd157, v159, h12, z163, h13, (⟨h14, hE⟩ | ⟨h14, hE⟩)⟩)⟩)⟩ | ⟨-, x122_5, oy_122, fy_122, hy_122, -, -, -, -, -, (⟨h1, z3, h2, fx4, h3, e0, e1, e2, e3⟩ | ⟨h1, z17, h2, z18, h3, z19, h4, fx20, h5, e0, e1, e2, e3⟩)⟩ | h
    · exact NFq.tr (NFq.tr (NFq.tr NFq.rf (hP _ _ _ _ _ _ _ _ _ _ _ _ _ _ _ _ _ _ h5)) (nfr_ex_number h6)) (ih _ _ _ _ _ _ _ _ _ _ hE)
    · exact NFq.tr (NFq.tr (NFq.tr (NFq.tr NFq.rf (hP _ _ _ _ _ _ _ _ _ _ _ _ _ _ _ _ _ _ h5)) (nfr_ex_number h6)) (nfr_pe_emit h14)) (ih _ _ _ _ _ _ _ _ _ _ hE)
    · exact NFq.tr (NFq.tr (NFq.tr (NFq.tr NFq.rf (hP _ _ _ _ _ _ _ _ _ _ _ _ _ _ _ _ _ _ h5)) (nfr_ex_number h6)) (nfr_pe_emit h14)) (ih _ _ _ _ _ _ _ _ _ _ hE)
    · exact NFq.tr (NFq.tr (NFq.tr (NFq.tr NFq.rf (hP _ _ _ _ _ _ _ _ _ _ _ _ _ _ _ _ _ _ h5)) (nfr_ex_number h6)) (nfr_pe_emit h12)) (ih _ _ _ _ _ _ _ _ _ _ hE)
    · exact NFq.tr (NFq.tr (NFq.tr (NFq.tr NFq.rf (hP _ _ _ _ _ _ _ _ _ _ _ _ _ _ _ _ _ _ h5)) (nfr_ex_number h6)) (nfr_pe_emit h12)) (ih _ _ _ _ _ _ _ _ _ _ hE)
    · rw [e1]; exact NFq.rf
    · rw [e1]; exact NFq.rf
    · exact h.elim
theorem nfr_ex_assign {RLp : T_ex_parse} {RLo : T_ex_operand} {ta : Nat → Nat → Int32} {cn : Nat} {na : Nat → Nat → Int32} {own : Bool} {P : va_W} {lf : Nat → Int32} {lg : Nat → Option Nat} {ff : Nat → Int32} {fg : Nat → Option Nat} {ox : Option Nat} {tf : Nat → Int32} {fp : Nat → Int32} {cd : Nat → Int32} {fx : Nat → Int32} {tf' : Nat → Int32} {fp' : Nat → Int32} {cd' : Nat → Int32} {fx' : Nat → Int32} (hP : NF_ex_parse RLp) (hO : NF_ex_operand RLo) (h : R_ex_assign RLp RLo ta cn na own P lf lg ff fg ox tf fp cd fx tf' fp' cd' fx') : NFq cn fp fp' := by
  obtain ⟨k, h⟩ := h
  exact nfe_ex_assign hP hO k _ _ _ _ _ _ _ _ _ _ h
theorem nfe_ex_choose {RLp : T_ex_parse} {RLo : T_ex_operand} {ta : Nat → Nat → Int32} {cn : Nat} {na : Nat → Nat → Int32} {own : Bool} {P : va_W} {lf : Nat → Int32} {lg : Nat → Option Nat} {ff : Nat → Int32} {fg : Nat → Option Nat} {ox : Option Nat}  {tf' : Nat → Int32} {fp' : Nat → Int32} {cd' : Nat → Int32} {fx' : Nat → Int32} (hP : NF_ex_parse RLp) (hO : NF_ex_operand RLo) : ∀ (k pc_ : Nat) (ls_ : List Int32) (lw_ : List Int64) (qs_ : List (Option Nat)) (fs_ : List (Nat → Int32)) (ad_ : List Nat) (tf : Nat → Int32) (fp : Nat → Int32) (cd : Nat → Int32) (fx : Nat → Int32), E_ex_choose RLp RLo ta cn na own P lf lg ff fg ox tf' fp' cd' fx'  k pc_ ls_ lw_ qs_ fs_ ad_ tf fp cd fx → NFq cn fp fp' := by
  intro k
  induction k with
  | zero => intro _ _ _ _ _ _ _ _ _ _ h; exact h.elim
  | succ k ih =>
    intro pc_ ls_ lw_ qs_ fs_ ad_ tf fp cd fx h
    rcases h with ⟨-, tf110, h1, tf123, fp124, cd125, fx126, h2, fp144, cd145, v147, h3, tf153, fp154, cd155, hx156, ox157, fx158, h4, tf189, fp190, cd191, fx192, h5, tf208, h6, hE⟩ | ⟨-, x49_2, oy_49, fy_49, hy_49, -, -, -, -, -, fp64, cd65, v67, h1, cd72, h2, tf78, fp79, cd80, hx81, ox82, fx83, h3, hE⟩ | ⟨-, x85_4, oy_85, oz_85, fy_85, fz_85, hy_85, hz_85, -, -, -, -, -, tf21, fp22, cd23, fx24, h1, cd42, h2, tf45, h3, (⟨h4, hE⟩ | ⟨h4, (⟨h5, (⟨h6, hE⟩ | ⟨h6, (⟨h7, hE⟩ | ⟨h7, hE⟩)⟩)⟩ | ⟨h5, hE⟩)⟩)⟩ | ⟨-, x179_6, oy_179, oz_179, fy_179, fz_179, hy_179, hz_179, -, -, -, -, -, z1, h1, z2, h2, z3, h3, z4, h4, fx5, h5, e0, e1, e2, e3⟩ | h
    · exact NFq.tr (NFq.tr (NFq.tr (NFq.tr (NFq.tr NFq.rf (nfr_ex_number h2)) (nfr_pe_emit h3)) (hP _ _ _ _ _ _ _ _ _ _ _ _ _ _ _ _ _ _ h4)) (nfr_ex_number h5)) (ih _ _ _ _ _ _ _ _ _ _ hE)
    · exact NFq.tr (NFq.tr (NFq.tr NFq.rf (nfr_pe_emit h1)) (hP _ _ _ _ _ _ _ _ _ _ _ _ _ _ _ _ _ _ h3)) (ih _ _ _ _ _ _ _ _ _ _ hE)
    · exact NFq.tr (NFq.tr NFq.rf (nfr_ex_number h1)) (ih _ _ _ _ _ _ _ _ _ _ hE)
    · exact NFq.tr (NFq.tr NFq.rf (nfr_ex_number h1)) (ih _ _ _ _ _ _ _ _ _ _ hE)
    · exact NFq.tr (NFq.tr NFq.rf (nfr_ex_number h1)) (ih _ _ _ _ _ _ _ _ _ _ hE)
    · exact NFq.tr (NFq.tr NFq.rf (nfr_ex_number h1)) (ih _ _ _ _ _ _ _ _ _ _ hE)
    · exact NFq.tr (NFq.tr NFq.rf (nfr_ex_number h1)) (ih _ _ _ _ _ _ _ _ _ _ hE)
    · rw [e1]; exact NFq.rf
    · exact h.elim
theorem nfr_ex_choose {RLp : T_ex_parse} {RLo : T_ex_operand} {ta : Nat → Nat → Int32} {cn : Nat} {na : Nat → Nat → Int32} {own : Bool} {P : va_W} {lf : Nat → Int32} {lg : Nat → Option Nat} {ff : Nat → Int32} {fg : Nat → Option Nat} {ox : Option Nat} {tf : Nat → Int32} {fp : Nat → Int32} {cd : Nat → Int32} {fx : Nat → Int32} {tf' : Nat → Int32} {fp' : Nat → Int32} {cd' : Nat → Int32} {fx' : Nat → Int32} (hP : NF_ex_parse RLp) (hO : NF_ex_operand RLo) (h : R_ex_choose RLp RLo ta cn na own P lf lg ff fg ox tf fp cd fx tf' fp' cd' fx') : NFq cn fp fp' := by
  obtain ⟨k, h⟩ := h
  exact nfe_ex_choose hP hO k _ _ _ _ _ _ _ _ _ _ h
theorem nfe_ex_parse {RLp : T_ex_parse} {RLo : T_ex_operand} {ta : Nat → Nat → Int32} {cn : Nat} {na : Nat → Nat → Int32} {own : Bool} {P : va_W} {lf : Nat → Int32} {lg : Nat → Option Nat} {ff : Nat → Int32} {fg : Nat → Option Nat} {p0 : Int32}  {tf' : Nat → Int32} {fp' : Nat → Int32} {cd' : Nat → Int32} {ox' : Option Nat} {fx' : Nat → Int32} (hP : NF_ex_parse RLp) (hO : NF_ex_operand RLo) : ∀ (k pc_ : Nat) (ls_ : List Int32) (lw_ : List Int64) (qs_ : List (Option Nat)) (fs_ : List (Nat → Int32)) (ad_ : List Nat) (tf : Nat → Int32) (fp : Nat → Int32) (cd : Nat → Int32), E_ex_parse RLp RLo ta cn na own P lf lg ff fg p0 tf' fp' cd' ox' fx'  k pc_ ls_ lw_ qs_ fs_ ad_ tf fp cd → NFq cn fp fp' := by
  intro k
  induction k with
  | zero => intro _ _ _ _ _ _ _ _ _ h; exact h.elim
  | succ k ih =>
    intro pc_ ls_ lw_ qs_ fs_ ad_ tf fp cd h
    rcases h with ⟨-, tf208, fp209, cd210, hx211, ox212, fx213, h1, (⟨h2, v243, h3, v248, h4, hE⟩ | ⟨h2, v254, h3, (⟨h4, v261, h5, v266, h6, hE⟩ | ⟨h4, tf275, fp276, cd277, fx278, h5, e0, e1, e2, e3, e4⟩)⟩)⟩ | ⟨-, x43_3, x43_4, ox_43, fx_43, hx_43, -, -, -, -, -, (⟨h1, hE⟩ | ⟨h1, (⟨h2, hE⟩ | ⟨h2, (⟨h3, hE⟩ | ⟨h3, v88, h4, tf92, h5, tf105, fp106, cd107, fx108, h6, fp126, cd127, v129, h7, z137, h8, tf141, fp142, cd143, hx144, ox145, fx146, h9, tf177, fp178, cd179, fx180, h10, tf196, h11, hE⟩)⟩)⟩)⟩ | ⟨-, x115_3, x115_4, x115_5, x115_6, ox_115, oy_115, fx_115, fy_115, hx_115, hy_115, -, -, -, -, -, fp44, cd45, h1, fx53, h2, fx61, h3, v70, h4, v75, h5, z80, h6, hE⟩ | ⟨-, ox_155, fx_155, hx_155, -, -, -, -, -, (⟨h1, e0, e1, e2, e3, e4⟩ | ⟨h1, v4, h2, (⟨h3, e0, e1, e2, e3, e4⟩ | ⟨h3, tf14, fp15, cd16, fx17, h4, e0, e1, e2, e3, e4⟩)⟩)⟩ | h
    · exact NFq.tr (NFq.tr NFq.rf (nfr_ex_operand hP hO h1)) (ih _ _ _ _ _ _ _ _ _ hE)
    · exact NFq.tr (NFq.tr NFq.rf (nfr_ex_operand hP hO h1)) (ih _ _ _ _ _ _ _ _ _ hE)
    · rw [e1]; exact (NFq.tr (NFq.tr NFq.rf (nfr_ex_operand hP hO h1)) (nfr_ex_assign hP hO h5))
    · exact NFq.tr NFq.rf (ih _ _ _ _ _ _ _ _ _ hE)
    · exact NFq.tr NFq.rf (ih _ _ _ _ _ _ _ _ _ hE)
    · exact NFq.tr NFq.rf (ih _ _ _ _ _ _ _ _ _ hE)
    · exact NFq.tr (NFq.tr (NFq.tr (NFq.tr (NFq.tr NFq.rf (nfr_ex_number h6)) (nfr_ex_shortcut h7)) (hP _ _ _ _ _ _ _ _ _ _ _ _ _ _ _ _ _ _ h9)) (nfr_ex_number h10)) (ih _ _ _ _ _ _ _ _ _ hE)
    · exact NFq.tr (NFq.tr NFq.rf (nfr_ex_join h1)) (ih _ _ _ _ _ _ _ _ _ hE)
    · rw [e1]; exact NFq.rf
    · rw [e1]; exact NFq.rf
    · rw [e1]; exact (NFq.tr NFq.rf (nfr_ex_choose hP hO h4))
    · exact h.elim
theorem nfr_ex_parse {RLp : T_ex_parse} {RLo : T_ex_operand} {ta : Nat → Nat → Int32} {cn : Nat} {na : Nat → Nat → Int32} {own : Bool} {P : va_W} {lf : Nat → Int32} {lg : Nat → Option Nat} {ff : Nat → Int32} {fg : Nat → Option Nat} {p0 : Int32} {tf : Nat → Int32} {fp : Nat → Int32} {cd : Nat → Int32} {tf' : Nat → Int32} {fp' : Nat → Int32} {cd' : Nat → Int32} {ox' : Option Nat} {fx' : Nat → Int32} (hP : NF_ex_parse RLp) (hO : NF_ex_operand RLo) (h : R_ex_parse RLp RLo ta cn na own P lf lg ff fg p0 tf fp cd tf' fp' cd' ox' fx') : NFq cn fp fp' := by
  obtain ⟨k, h⟩ := h
  exact nfe_ex_parse hP hO k _ _ _ _ _ _ _ _ _ h
theorem nfl_ex : ∀ n : Nat, NF_ex_parse (RL_ex_parse n) ∧ NF_ex_operand (RL_ex_operand n)
  | 0 => ⟨fun _ _ _ _ _ _ _ _ _ _ _ _ _ _ _ _ _ _ h => h.elim, fun _ _ _ _ _ _ _ _ _ _ _ _ _ _ _ _ _ h => h.elim⟩
  | n + 1 => ⟨fun _ _ _ _ _ _ _ _ _ _ _ _ _ _ _ _ _ _ h => nfr_ex_parse (nfl_ex n).1 (nfl_ex n).2 h, fun _ _ _ _ _ _ _ _ _ _ _ _ _ _ _ _ _ h => nfr_ex_operand (nfl_ex n).1 (nfl_ex n).2 h⟩
theorem nfl_RLp (n : Nat) : NF_ex_parse (RL_ex_parse n) := (nfl_ex n).1
theorem nfl_RLo (n : Nat) : NF_ex_operand (RL_ex_operand n) := (nfl_ex n).2
theorem NFq.st {cn : Nat} {P : va_W} {ox : Option Nat} {f0 fm tf fp cd fx tf' fp' cd' fx' : Nat → Int32} (hc : NFq cn f0 fp) (hm : NFq cn f0 fm) (h : R_ex_settle cn P ox (fm 3) tf fp cd fx tf' fp' cd' fx') : NFq cn f0 fp' := by
  intro x
  have a := hm x
  rcases h with ⟨tf5, fp6, cd7, fx8, h1, (⟨h2, tf26, h3, e0, e1, e2, e3⟩ | ⟨h2, (⟨h3, e0, e1, e2, e3⟩ | ⟨h3, tf37, h4, e0, e1, e2, e3⟩)⟩)⟩ | h
  · rw [e1]; unfold NN; rw [pk_us]; exact a
  · rw [e1]; unfold NN; rw [pk_us]; exact a
  · rw [e1]; unfold NN; rw [pk_us]; exact a
  · exact h.elim
theorem nfr_tc_element  {fo : Option Nat} {cn : Nat} {sn : Nat} {sf : Nat → Int32} {p0 : Int32} {p1 : Int32} {fp : Nat → Int32} {cd : Nat → Int32} {fs : Nat → Int32} {sd : Nat → Int32} {fp' : Nat → Int32} {cd' : Nat → Int32} {fs' : Nat → Int32} {sd' : Nat → Int32}  (h : R_tc_element  fo cn sn sf p0 p1 fp cd fs sd fp' cd' fs' sd') : NFq cn fp fp' := by
  rcases h with (⟨h1, z14, h2, z15, h3, fs18, sd19, v21, h4, e0, e1, e2, e3⟩ | ⟨q2, h1, z4, h2, z5, h3, fp8, cd9, v11, h4, e0, e1, e2, e3⟩) | h
  · rw [e0]; exact NFq.rf
  · rw [e0]; exact (NFq.tr NFq.rf (nfr_pe_emit h4))
  · exact h.elim
theorem nfr_tc_effect  {ta : Nat → Nat → Int32} {cn : Nat} {na : Nat → Nat → Int32} {own : Bool} {lf : Nat → Int32} {lg : Nat → Option Nat} {ff : Nat → Int32} {fg : Nat → Option Nat} {P : va_W} {cf : Nat → Int32} {tf : Nat → Int32} {fp : Nat → Int32} {cd : Nat → Int32} {cf' : Nat → Int32} {tf' : Nat → Int32} {fp' : Nat → Int32} {cd' : Nat → Int32}  (h : R_tc_effect  ta cn na own lf lg ff fg P cf tf fp cd cf' tf' fp' cd') : NFq cn fp fp' := by
  rcases h with ⟨tf4, fp5, cd6, hx7, ox8, fx9, h1, tf40, fp41, cd42, fx43, h2, z59, h3, e0, e1, e2, e3⟩ | h
  · rw [e2]; exact (NFq.tr (NFq.tr NFq.rf (nfr_ex_parse (nfl_RLp 61) (nfl_RLo 61) h1)) (nfr_ex_drop h2))
  · exact h.elim
theorem nfr_tc_wholeNumber  {ta : Nat → Nat → Int32} {cn : Nat} {na : Nat → Nat → Int32} {own : Bool} {lf : Nat → Int32} {lg : Nat → Option Nat} {ff : Nat → Int32} {fg : Nat → Option Nat} {P : va_W} {cf : Nat → Int32} {tf : Nat → Int32} {fp : Nat → Int32} {cd : Nat → Int32} {cf' : Nat → Int32} {tf' : Nat → Int32} {fp' : Nat → Int32} {cd' : Nat → Int32}  (h : R_tc_wholeNumber  ta cn na own lf lg ff fg P cf tf fp cd cf' tf' fp' cd') : NFq cn fp fp' := by
  rcases h with ⟨tf4, fp5, cd6, hx7, ox8, fx9, h1, tf40, fp41, cd42, fx43, h2, z59, h3, e0, e1, e2, e3⟩ | h
  · rw [e2]; exact (NFq.tr (NFq.tr NFq.rf (nfr_ex_parse (nfl_RLp 61) (nfl_RLo 61) h1)) (nfr_ex_number h2))
  · exact h.elim
theorem nfr_tc_condition  {ta : Nat → Nat → Int32} {cn : Nat} {na : Nat → Nat → Int32} {own : Bool} {lf : Nat → Int32} {lg : Nat → Option Nat} {ff : Nat → Int32} {fg : Nat → Option Nat} {P : va_W} {cf : Nat → Int32} {tf : Nat → Int32} {fp : Nat → Int32} {cd : Nat → Int32} {cf' : Nat → Int32} {tf' : Nat → Int32} {fp' : Nat → Int32} {cd' : Nat → Int32}  (h : R_tc_condition  ta cn na own lf lg ff fg P cf tf fp cd cf' tf' fp' cd') : NFq cn fp fp' := by
  rcases h with ⟨tf1, h1, cf14, tf15, fp16, cd17, h2, tf44, h3, e0, e1, e2, e3⟩ | h
  · rw [e2]; exact (NFq.tr NFq.rf (nfr_tc_wholeNumber h2))
  · exact h.elim
theorem nfe_tc_single  {fo : Option Nat} {ta : Nat → Nat → Int32} {cn : Nat} {na : Nat → Nat → Int32} {own : Bool} {lf : Nat → Int32} {lg : Nat → Option Nat} {ff : Nat → Int32} {fg : Nat → Option Nat} {P : va_W} {sn : Nat}  {cf' : Nat → Int32} {tf' : Nat → Int32} {fp' : Nat → Int32} {cd' : Nat → Int32} {fs' : Nat → Int32} {sd' : Nat → Int32} {sf' : Nat → Int32}  : ∀ (k pc_ : Nat) (ls_ : List Int32) (lw_ : List Int64) (qs_ : List (Option Nat)) (fs_ : List (Nat → Int32)) (ad_ : List Nat) (cf : Nat → Int32) (tf : Nat → Int32) (fp : Nat → Int32) (cd : Nat → Int32) (fs : Nat → Int32) (sd : Nat → Int32) (sf : Nat → Int32), E_tc_single  fo ta cn na own lf lg ff fg P sn cf' tf' fp' cd' fs' sd' sf'  k pc_ ls_ lw_ qs_ fs_ ad_ cf tf fp cd fs sd sf → NFq cn fp fp' := by
  intro k
  induction k with
  | zero => intro _ _ _ _ _ _ _ _ _ _ _ _ _ h; exact h.elim
  | succ k ih =>
    intro pc_ ls_ lw_ qs_ fs_ ad_ cf tf fp cd fs sd sf h
    rcases h with ⟨-, cf112, v114, h1, tf121, v123, h2, (⟨h3, hE⟩ | ⟨h3, (⟨h4, hE⟩ | ⟨q135, h4, fp139, cd140, v142, h5, hE⟩)⟩)⟩ | ⟨-, x47_2, -, -, -, -, -, (⟨h1, tf6, fp7, cd8, hx9, ox10, fx11, h2, (⟨h3, tf85, fp86, cd87, fx88, h4, fs106, sd107, v109, h5, e0, e1, e2, e3, e4, e5, e6⟩ | ⟨q39, h3, tf45, fp46, cd47, fx48, h4, z64, h5, fp67, cd68, v70, h6, fp75, cd76, v78, h7, e0, e1, e2, e3, e4, e5, e6⟩)⟩ | ⟨h1, e0, e1, e2, e3, e4, e5, e6⟩)⟩ | h
    · exact NFq.tr NFq.rf (ih _ _ _ _ _ _ _ _ _ _ _ _ _ hE)
    · exact NFq.tr NFq.rf (ih _ _ _ _ _ _ _ _ _ _ _ _ _ hE)
    · exact NFq.tr (NFq.tr NFq.rf (nfr_pe_emit h5)) (ih _ _ _ _ _ _ _ _ _ _ _ _ _ hE)
    · rw [e2]; exact (NFq.st (NFq.tr NFq.rf (nfr_ex_parse (nfl_RLp 61) (nfl_RLo 61) h2)) NFq.rf h4)
    · rw [e2]; exact (NFq.tr (NFq.tr (NFq.tr (NFq.tr NFq.rf (nfr_ex_parse (nfl_RLp 61) (nfl_RLo 61) h2)) (nfr_ex_number h4)) (nfr_pe_emit h6)) (nfr_pe_emit h7))
    · rw [e2]; exact NFq.rf
    · exact h.elim
theorem nfr_tc_single  {fo : Option Nat} {ta : Nat → Nat → Int32} {cn : Nat} {na : Nat → Nat → Int32} {own : Bool} {lf : Nat → Int32} {lg : Nat → Option Nat} {ff : Nat → Int32} {fg : Nat → Option Nat} {P : va_W} {sn : Nat} {cf : Nat → Int32} {tf : Nat → Int32} {fp : Nat → Int32} {cd : Nat → Int32} {fs : Nat → Int32} {sd : Nat → Int32} {sf : Nat → Int32} {cf' : Nat → Int32} {tf' : Nat → Int32} {fp' : Nat → Int32} {cd' : Nat → Int32} {fs' : Nat → Int32} {sd' : Nat → Int32} {sf' : Nat → Int32}  (h : R_tc_single  fo ta cn na own lf lg ff fg P sn cf tf fp cd fs sd sf cf' tf' fp' cd' fs' sd' sf') : NFq cn fp fp' := by
  obtain ⟨k, h⟩ := h
  exact nfe_tc_single  k _ _ _ _ _ _ _ _ _ _ _ _ _ h
theorem nfe_tc_row  {fo : Option Nat} {ta : Nat → Nat → Int32} {cn : Nat} {na : Nat → Nat → Int32} {own : Bool} {lf : Nat → Int32} {lg : Nat → Option Nat} {ff : Nat → Int32} {fg : Nat → Option Nat} {P : va_W}  {cf' : Nat → Int32} {tf' : Nat → Int32} {fp' : Nat → Int32} {cd' : Nat → Int32} {fs' : Nat → Int32} {sd' : Nat → Int32} {sf' : Nat → Int32} {v : Int32}  : ∀ (k pc_ : Nat) (ls_ : List Int32) (lw_ : List Int64) (qs_ : List (Option Nat)) (fs_ : List (Nat → Int32)) (ad_ : List Nat) (cf : Nat → Int32) (tf : Nat → Int32) (fp : Nat → Int32) (cd : Nat → Int32) (fs : Nat → Int32) (sd : Nat → Int32) (sf : Nat → Int32), E_tc_row  fo ta cn na own lf lg ff fg P cf' tf' fp' cd' fs' sd' sf' v  k pc_ ls_ lw_ qs_ fs_ ad_ cf tf fp cd fs sd sf → NFq cn fp fp' := by
  intro k
  induction k with
  | zero => intro _ _ _ _ _ _ _ _ _ _ _ _ _ h; exact h.elim
  | succ k ih =>
    intro pc_ ls_ lw_ qs_ fs_ ad_ cf tf fp cd fs sd sf h
    rcases h with ⟨-, tf59, h1, tf71, fp72, cd73, hx74, ox75, fx76, h2, tf107, fp108, cd109, fx110, h3, tf126, h4, (⟨h5, (⟨h6, hE⟩ | ⟨h6, tf140, h7, hE⟩)⟩ | ⟨h5, (⟨h6, (⟨h7, hE⟩ | ⟨h7, tf154, h8, hE⟩)⟩ | ⟨h6, (⟨h7, hE⟩ | ⟨h7, hE⟩)⟩)⟩)⟩ | ⟨-, x89_3, ox_89, fx_89, hx_89, -, -, -, -, -, z45, h1, (⟨h2, z48, h3, (⟨h4, hE⟩ | ⟨h4, z51, h5, z52, h6, hE⟩)⟩ | ⟨h2, z53, h3, (⟨h4, hE⟩ | ⟨h4, z57, h5, z58, h6, hE⟩)⟩)⟩ | ⟨-, x141_4, -, -, -, -, -, cf2, v4, h1, (⟨h2, tf14, v16, h3, e0, e1, e2, e3, e4, e5, e6, ev⟩ | ⟨q12, h2, fp27, cd28, v30, h3, tf33, v35, h4, e0, e1, e2, e3, e4, e5, e6, ev⟩)⟩ | h
    · exact NFq.tr (NFq.st (NFq.tr NFq.rf (nfr_ex_parse (nfl_RLp 61) (nfl_RLo 61) h2)) NFq.rf h3) (ih _ _ _ _ _ _ _ _ _ _ _ _ _ hE)
    · exact NFq.tr (NFq.st (NFq.tr NFq.rf (nfr_ex_parse (nfl_RLp 61) (nfl_RLo 61) h2)) NFq.rf h3) (ih _ _ _ _ _ _ _ _ _ _ _ _ _ hE)
    · exact NFq.tr (NFq.st (NFq.tr NFq.rf (nfr_ex_parse (nfl_RLp 61) (nfl_RLo 61) h2)) NFq.rf h3) (ih _ _ _ _ _ _ _ _ _ _ _ _ _ hE)
    · exact NFq.tr (NFq.st (NFq.tr NFq.rf (nfr_ex_parse (nfl_RLp 61) (nfl_RLo 61) h2)) NFq.rf h3) (ih _ _ _ _ _ _ _ _ _ _ _ _ _ hE)
    · exact NFq.tr (NFq.st (NFq.tr NFq.rf (nfr_ex_parse (nfl_RLp 61) (nfl_RLo 61) h2)) NFq.rf h3) (ih _ _ _ _ _ _ _ _ _ _ _ _ _ hE)
    · exact NFq.tr (NFq.st (NFq.tr NFq.rf (nfr_ex_parse (nfl_RLp 61) (nfl_RLo 61) h2)) NFq.rf h3) (ih _ _ _ _ _ _ _ _ _ _ _ _ _ hE)
    · exact NFq.tr NFq.rf (ih _ _ _ _ _ _ _ _ _ _ _ _ _ hE)
    · exact NFq.tr NFq.rf (ih _ _ _ _ _ _ _ _ _ _ _ _ _ hE)
    · exact NFq.tr NFq.rf (ih _ _ _ _ _ _ _ _ _ _ _ _ _ hE)
    · exact NFq.tr NFq.rf (ih _ _ _ _ _ _ _ _ _ _ _ _ _ hE)
    · rw [e2]; exact NFq.rf
    · rw [e2]; exact (NFq.tr NFq.rf (nfr_pe_emit h3))
    · exact h.elim
theorem nfr_tc_row  {fo : Option Nat} {ta : Nat → Nat → Int32} {cn : Nat} {na : Nat → Nat → Int32} {own : Bool} {lf : Nat → Int32} {lg : Nat → Option Nat} {ff : Nat → Int32} {fg : Nat → Option Nat} {P : va_W} {cf : Nat → Int32} {tf : Nat → Int32} {fp : Nat → Int32} {cd : Nat → Int32} {fs : Nat → Int32} {sd : Nat → Int32} {sf : Nat → Int32} {cf' : Nat → Int32} {tf' : Nat → Int32} {fp' : Nat → Int32} {cd' : Nat → Int32} {fs' : Nat → Int32} {sd' : Nat → Int32} {sf' : Nat → Int32} {v : Int32}  (h : R_tc_row  fo ta cn na own lf lg ff fg P cf tf fp cd fs sd sf cf' tf' fp' cd' fs' sd' sf' v) : NFq cn fp fp' := by
  obtain ⟨k, h⟩ := h
  exact nfe_tc_row  k _ _ _ _ _ _ _ _ _ _ _ _ _ h
theorem nfe_tc_list  {fo : Option Nat} {ta : Nat → Nat → Int32} {cn : Nat} {na : Nat → Nat → Int32} {own : Bool} {lf : Nat → Int32} {lg : Nat → Option Nat} {ff : Nat → Int32} {fg : Nat → Option Nat} {P : va_W} {sn : Nat} {sf : Nat → Int32}  {tf' : Nat → Int32} {fp' : Nat → Int32} {cd' : Nat → Int32} {fs' : Nat → Int32} {sd' : Nat → Int32} {v : Int32}  : ∀ (k pc_ : Nat) (ls_ : List Int32) (lw_ : List Int64) (qs_ : List (Option Nat)) (fs_ : List (Nat → Int32)) (ad_ : List Nat) (tf : Nat → Int32) (fp : Nat → Int32) (cd : Nat → Int32) (fs : Nat → Int32) (sd : Nat → Int32), E_tc_list  fo ta cn na own lf lg ff fg P sn sf tf' fp' cd' fs' sd' v  k pc_ ls_ lw_ qs_ fs_ ad_ tf fp cd fs sd → NFq cn fp fp' := by
  intro k
  induction k with
  | zero => intro _ _ _ _ _ _ _ _ _ _ _ h; exact h.elim
  | succ k ih =>
    intro pc_ ls_ lw_ qs_ fs_ ad_ tf fp cd fs sd h
    rcases h with ⟨-, tf117, h1, hE⟩ | ⟨-, x16_2, x16_3, x16_4, -, -, -, -, -, (⟨h1, tf16, h2, (⟨h3, e0, e1, e2, e3, e4, ev⟩ | ⟨h3, e0, e1, e2, e3, e4, ev⟩)⟩ | ⟨h1, (⟨h2, tf29, h3, (⟨h4, e0, e1, e2, e3, e4, ev⟩ | ⟨h4, e0, e1, e2, e3, e4, ev⟩)⟩ | ⟨h2, tf43, fp44, cd45, hx46, ox47, fx48, h3, tf79, fp80, cd81, fx82, h4, (⟨h5, hE⟩ | ⟨h5, fp104, cd105, fs106, sd107, h6, hE⟩)⟩)⟩)⟩ | ⟨-, x71_2, x71_4, -, -, -, -, -, z1, h1, tf2, v4, h2, z13, h3, hE⟩ | h
    · exact NFq.tr NFq.rf (ih _ _ _ _ _ _ _ _ _ _ _ hE)
    · rw [e1]; exact NFq.rf
    · rw [e1]; exact NFq.rf
    · rw [e1]; exact NFq.rf
    · rw [e1]; exact NFq.rf
    · exact NFq.tr (NFq.st (NFq.tr NFq.rf (nfr_ex_parse (nfl_RLp 61) (nfl_RLo 61) h3)) NFq.rf h4) (ih _ _ _ _ _ _ _ _ _ _ _ hE)
    · exact NFq.tr (NFq.tr (NFq.st (NFq.tr NFq.rf (nfr_ex_parse (nfl_RLp 61) (nfl_RLo 61) h3)) NFq.rf h4) (nfr_tc_element h6)) (ih _ _ _ _ _ _ _ _ _ _ _ hE)
    · exact NFq.tr NFq.rf (ih _ _ _ _ _ _ _ _ _ _ _ hE)
    · exact h.elim
theorem nfr_tc_list  {fo : Option Nat} {ta : Nat → Nat → Int32} {cn : Nat} {na : Nat → Nat → Int32} {own : Bool} {lf : Nat → Int32} {lg : Nat → Option Nat} {ff : Nat → Int32} {fg : Nat → Option Nat} {P : va_W} {sn : Nat} {sf : Nat → Int32} {tf : Nat → Int32} {fp : Nat → Int32} {cd : Nat → Int32} {fs : Nat → Int32} {sd : Nat → Int32} {tf' : Nat → Int32} {fp' : Nat → Int32} {cd' : Nat → Int32} {fs' : Nat → Int32} {sd' : Nat → Int32} {v : Int32}  (h : R_tc_list  fo ta cn na own lf lg ff fg P sn sf tf fp cd fs sd tf' fp' cd' fs' sd' v) : NFq cn fp fp' := by
  obtain ⟨k, h⟩ := h
  exact nfe_tc_list  k _ _ _ _ _ _ _ _ _ _ _ h
theorem nfe_tc_string  {fo : Option Nat} {ta : Nat → Nat → Int32} {cn : Nat} {sn : Nat} {sf : Nat → Int32}  {tf' : Nat → Int32} {fp' : Nat → Int32} {cd' : Nat → Int32} {fs' : Nat → Int32} {sd' : Nat → Int32} {v : Int32}  : ∀ (k pc_ : Nat) (ls_ : List Int32) (lw_ : List Int64) (qs_ : List (Option Nat)) (fs_ : List (Nat → Int32)) (ad_ : List Nat) (tf : Nat → Int32) (fp : Nat → Int32) (cd : Nat → Int32) (fs : Nat → Int32) (sd : Nat → Int32), E_tc_string  fo ta cn sn sf tf' fp' cd' fs' sd' v  k pc_ ls_ lw_ qs_ fs_ ad_ tf fp cd fs sd → NFq cn fp fp' := by
  intro k
  induction k with
  | zero => intro _ _ _ _ _ _ _ _ _ _ _ h; exact h.elim
  | succ k ih =>
    intro pc_ ls_ lw_ qs_ fs_ ad_ tf fp cd fs sd h
    rcases h with ⟨-, v30, h1, v33, h2, tf36, h3, z48, h4, (⟨h5, hE⟩ | ⟨h5, (⟨h6, hE⟩ | ⟨h6, hE⟩)⟩)⟩ | ⟨-, x51_2, x51_3, x51_4, x51_5, -, -, -, -, -, (⟨h1, e0, e1, e2, e3, e4, ev⟩ | ⟨h1, (⟨h2, e0, e1, e2, e3, e4, ev⟩ | ⟨h2, z5, h3, z6, h4, v8, h5, fp15, cd16, fs17, sd18, h6, z28, h7, hE⟩)⟩)⟩ | h
    · exact NFq.tr NFq.rf (ih _ _ _ _ _ _ _ _ _ _ _ hE)
    · exact NFq.tr NFq.rf (ih _ _ _ _ _ _ _ _ _ _ _ hE)
    · exact NFq.tr NFq.rf (ih _ _ _ _ _ _ _ _ _ _ _ hE)
    · rw [e1]; exact NFq.rf
    · rw [e1]; exact NFq.rf
    · exact NFq.tr (NFq.tr NFq.rf (nfr_tc_element h6)) (ih _ _ _ _ _ _ _ _ _ _ _ hE)
    · exact h.elim
theorem nfr_tc_string  {fo : Option Nat} {ta : Nat → Nat → Int32} {cn : Nat} {sn : Nat} {sf : Nat → Int32} {tf : Nat → Int32} {fp : Nat → Int32} {cd : Nat → Int32} {fs : Nat → Int32} {sd : Nat → Int32} {tf' : Nat → Int32} {fp' : Nat → Int32} {cd' : Nat → Int32} {fs' : Nat → Int32} {sd' : Nat → Int32} {v : Int32}  (h : R_tc_string  fo ta cn sn sf tf fp cd fs sd tf' fp' cd' fs' sd' v) : NFq cn fp fp' := by
  obtain ⟨k, h⟩ := h
  exact nfe_tc_string  k _ _ _ _ _ _ _ _ _ _ _ h
theorem nfe_tc_variables  {fo : Option Nat} {ta : Nat → Nat → Int32} {cn : Nat} {nf : Nat → Int32} {na : Nat → Nat → Int32} {ff : Nat → Int32} {fg : Nat → Option Nat} {sn : Nat} {p0 : Int32}  {cf' : Nat → Int32} {tf' : Nat → Int32} {fp' : Nat → Int32} {cd' : Nat → Int32} {own' : Bool} {lq' : Nat} {lc' : Nat} {lf' : Nat → Int32} {lg' : Nat → Option Nat} {P' : va_W} {fs' : Nat → Int32} {sd' : Nat → Int32}  : ∀ (k pc_ : Nat) (ls_ : List Int32) (lw_ : List Int64) (qs_ : List (Option Nat)) (fs_ : List (Nat → Int32)) (ad_ : List Nat) (cf : Nat → Int32) (tf : Nat → Int32) (fp : Nat → Int32) (cd : Nat → Int32) (own : Bool) (lq : Nat) (lc : Nat) (lf : Nat → Int32) (lg : Nat → Option Nat) (P : va_W) (fs : Nat → Int32) (sd : Nat → Int32), E_tc_variables  fo ta cn nf na ff fg sn p0 cf' tf' fp' cd' own' lq' lc' lf' lg' P' fs' sd'  k pc_ ls_ lw_ qs_ fs_ ad_ cf tf fp cd own lq lc lf lg P fs sd → NFq cn fp fp' := by
  intro k
  induction k with
  | zero => intro _ _ _ _ _ _ _ _ _ _ _ _ _ _ _ _ _ _ h; exact h.elim
  | succ k ih =>
    intro pc_ ls_ lw_ qs_ fs_ ad_ cf tf fp cd own lq lc lf lg P fs sd h
    rcases h with ⟨-, hE⟩ | ⟨-, x4_2, x4_3, -, -, -, -, -, (⟨h1, e0, e1, e2, e3, e4, e5, e6, e7, e8, e9, e10, e11⟩ | ⟨h1, (⟨h2, e0, e1, e2, e3, e4, e5, e6, e7, e8, e9, e10, e11⟩ | ⟨h2, q229, v231, h3, (⟨h4, (⟨h5, z244, h6, hE⟩ | ⟨h5, z245, h6, hE⟩)⟩ | ⟨q236, h4, (⟨h5, z240, h6, hE⟩ | ⟨h5, z241, h6, hE⟩)⟩)⟩)⟩)⟩ | ⟨-, x69_3, x69_4, sf_69, hy_69, -, -, -, -, -, tf121, h1, v131, h2, (⟨h3, cf144, tf145, fp146, cd147, fs148, sd149, sf150, v152, h4, (⟨h5, hE⟩ | ⟨h5, hE⟩)⟩ | ⟨h3, cf191, tf192, fp193, cd194, fs195, sd196, sf197, h4, hE⟩)⟩ | ⟨-, x108_3, x108_4, sf_108, hy_108, -, -, -, -, -, v56, h1, (⟨h2, tf67, fp68, cd69, fs70, sd71, v73, h3, hE⟩ | ⟨h2, tf99, fp100, cd101, fs102, sd103, v105, h3, hE⟩)⟩ | ⟨-, x146_3, x146_4, x146_6, x146_7, sf_146, hy_146, -, -, -, -, -, (⟨h1, hE⟩ | ⟨h1, tf46, h2, hE⟩)⟩ | ⟨-, x162_3, x162_4, sf_162, hy_162, -, -, -, -, -, P1, h1, tf8, own9, lq10, lc11, lf12, lg13, h2, tf32, v34, h3, z43, h4, hE⟩ | h
    · exact NFq.tr NFq.rf (ih _ _ _ _ _ _ _ _ _ _ _ _ _ _ _ _ _ _ hE)
    · rw [e2]; exact NFq.rf
    · rw [e2]; exact NFq.rf
    · exact NFq.tr NFq.rf (ih _ _ _ _ _ _ _ _ _ _ _ _ _ _ _ _ _ _ hE)
    · exact NFq.tr NFq.rf (ih _ _ _ _ _ _ _ _ _ _ _ _ _ _ _ _ _ _ hE)
    · exact NFq.tr NFq.rf (ih _ _ _ _ _ _ _ _ _ _ _ _ _ _ _ _ _ _ hE)
    · exact NFq.tr NFq.rf (ih _ _ _ _ _ _ _ _ _ _ _ _ _ _ _ _ _ _ hE)
    · exact NFq.tr (NFq.tr NFq.rf (nfr_tc_row h4)) (ih _ _ _ _ _ _ _ _ _ _ _ _ _ _ _ _ _ _ hE)
    · exact NFq.tr (NFq.tr NFq.rf (nfr_tc_row h4)) (ih _ _ _ _ _ _ _ _ _ _ _ _ _ _ _ _ _ _ hE)
    · exact NFq.tr (NFq.tr NFq.rf (nfr_tc_single h4)) (ih _ _ _ _ _ _ _ _ _ _ _ _ _ _ _ _ _ _ hE)
    · exact NFq.tr (NFq.tr NFq.rf (nfr_tc_list h3)) (ih _ _ _ _ _ _ _ _ _ _ _ _ _ _ _ _ _ _ hE)
    · exact NFq.tr (NFq.tr NFq.rf (nfr_tc_string h3)) (ih _ _ _ _ _ _ _ _ _ _ _ _ _ _ _ _ _ _ hE)
    · exact NFq.tr NFq.rf (ih _ _ _ _ _ _ _ _ _ _ _ _ _ _ _ _ _ _ hE)
    · exact NFq.tr NFq.rf (ih _ _ _ _ _ _ _ _ _ _ _ _ _ _ _ _ _ _ hE)
    · exact NFq.tr NFq.rf (ih _ _ _ _ _ _ _ _ _ _ _ _ _ _ _ _ _ _ hE)
    · exact h.elim
theorem nfr_tc_variables  {fo : Option Nat} {ta : Nat → Nat → Int32} {cn : Nat} {nf : Nat → Int32} {na : Nat → Nat → Int32} {ff : Nat → Int32} {fg : Nat → Option Nat} {sn : Nat} {p0 : Int32} {cf : Nat → Int32} {tf : Nat → Int32} {fp : Nat → Int32} {cd : Nat → Int32} {own : Bool} {lq : Nat} {lc : Nat} {lf : Nat → Int32} {lg : Nat → Option Nat} {P : va_W} {fs : Nat → Int32} {sd : Nat → Int32} {cf' : Nat → Int32} {tf' : Nat → Int32} {fp' : Nat → Int32} {cd' : Nat → Int32} {own' : Bool} {lq' : Nat} {lc' : Nat} {lf' : Nat → Int32} {lg' : Nat → Option Nat} {P' : va_W} {fs' : Nat → Int32} {sd' : Nat → Int32}  (h : R_tc_variables  fo ta cn nf na ff fg sn p0 cf tf fp cd own lq lc lf lg P fs sd cf' tf' fp' cd' own' lq' lc' lf' lg' P' fs' sd') : NFq cn fp fp' := by
  obtain ⟨k, h⟩ := h
  exact nfe_tc_variables  k _ _ _ _ _ _ _ _ _ _ _ _ _ _ _ _ _ _ h
theorem nfe_tc_labelCase  {ta : Nat → Nat → Int32} {cn : Nat} {na : Nat → Nat → Int32} {own : Bool} {lf : Nat → Int32} {lg : Nat → Option Nat} {ff : Nat → Int32} {fg : Nat → Option Nat} {P : va_W} {p0 : Int32}  {cf' : Nat → Int32} {ca' : Nat → Nat → Int32} {tf' : Nat → Int32} {fp' : Nat → Int32} {cd' : Nat → Int32}  : ∀ (k pc_ : Nat) (ls_ : List Int32) (lw_ : List Int64) (qs_ : List (Option Nat)) (fs_ : List (Nat → Int32)) (ad_ : List Nat) (cf : Nat → Int32) (ca : Nat → Nat → Int32) (tf : Nat → Int32) (fp : Nat → Int32) (cd : Nat → Int32), E_tc_labelCase  ta cn na own lf lg ff fg P p0 cf' ca' tf' fp' cd'  k pc_ ls_ lw_ qs_ fs_ ad_ cf ca tf fp cd → NFq cn fp fp' := by
  intro k
  induction k with
  | zero => intro _ _ _ _ _ _ _ _ _ _ _ h; exact h.elim
  | succ k ih =>
    intro pc_ ls_ lw_ qs_ fs_ ad_ cf ca tf fp cd h
    rcases h with ⟨-, tf23, h1, tf37, fp38, cd39, hx40, ox41, fx42, h2, tf73, fp74, cd75, fx76, h3, tf92, h4, hE⟩ | ⟨-, x50_2, x50_4, ox_50, fx_50, hx_50, -, -, -, -, -, (⟨h1, hE⟩ | ⟨h1, (⟨h2, hE⟩ | ⟨h2, z9, h3, (⟨h4, z12, h5, hE⟩ | ⟨h4, tf13, h5, z22, h6, hE⟩)⟩)⟩)⟩ | ⟨-, ox_96, fx_96, hx_96, -, -, -, -, -, (⟨h1, e0, e1, e2, e3, e4⟩ | ⟨h1, z4, h2, e0, e1, e2, e3, e4⟩)⟩ | h
    · exact NFq.tr (NFq.st (NFq.tr NFq.rf (nfr_ex_parse (nfl_RLp 61) (nfl_RLo 61) h2)) NFq.rf h3) (ih _ _ _ _ _ _ _ _ _ _ _ hE)
    · exact NFq.tr NFq.rf (ih _ _ _ _ _ _ _ _ _ _ _ hE)
    · exact NFq.tr NFq.rf (ih _ _ _ _ _ _ _ _ _ _ _ hE)
    · exact NFq.tr NFq.rf (ih _ _ _ _ _ _ _ _ _ _ _ hE)
    · exact NFq.tr NFq.rf (ih _ _ _ _ _ _ _ _ _ _ _ hE)
    · rw [e3]; exact NFq.rf
    · rw [e3]; exact NFq.rf
    · exact h.elim
theorem nfr_tc_labelCase  {ta : Nat → Nat → Int32} {cn : Nat} {na : Nat → Nat → Int32} {own : Bool} {lf : Nat → Int32} {lg : Nat → Option Nat} {ff : Nat → Int32} {fg : Nat → Option Nat} {P : va_W} {p0 : Int32} {cf : Nat → Int32} {ca : Nat → Nat → Int32} {tf : Nat → Int32} {fp : Nat → Int32} {cd : Nat → Int32} {cf' : Nat → Int32} {ca' : Nat → Nat → Int32} {tf' : Nat → Int32} {fp' : Nat → Int32} {cd' : Nat → Int32}  (h : R_tc_labelCase  ta cn na own lf lg ff fg P p0 cf ca tf fp cd cf' ca' tf' fp' cd') : NFq cn fp fp' := by
  obtain ⟨k, h⟩ := h
  exact nfe_tc_labelCase  k _ _ _ _ _ _ _ _ _ _ _ h
theorem nfe_tc_leap  {ta : Nat → Nat → Int32} {cn : Nat} {p0 : Int32}  {cf' : Nat → Int32} {tf' : Nat → Int32} {fp' : Nat → Int32} {cd' : Nat → Int32}  : ∀ (k pc_ : Nat) (ls_ : List Int32) (lw_ : List Int64) (qs_ : List (Option Nat)) (fs_ : List (Nat → Int32)) (ad_ : List Nat) (cf : Nat → Int32) (tf : Nat → Int32) (fp : Nat → Int32) (cd : Nat → Int32), E_tc_leap  ta cn p0 cf' tf' fp' cd'  k pc_ ls_ lw_ qs_ fs_ ad_ cf tf fp cd → NFq cn fp fp' := by
  intro k
  induction k with
  | zero => intro _ _ _ _ _ _ _ _ _ _ h; exact h.elim
  | succ k ih =>
    intro pc_ ls_ lw_ qs_ fs_ ad_ cf tf fp cd h
    rcases h with ⟨-, (⟨h1, (⟨h2, fp29, cd30, v32, h3, hE⟩ | ⟨h2, tf36, h3, hE⟩)⟩ | ⟨h1, (⟨h2, fp51, cd52, v54, h3, hE⟩ | ⟨h2, tf58, h3, hE⟩)⟩)⟩ | ⟨-, -, -, -, -, -, tf1, h1, tf12, h2, e0, e1, e2, e3⟩ | h
    · exact NFq.tr (NFq.tr NFq.rf (nfr_pe_emitc h3)) (ih _ _ _ _ _ _ _ _ _ _ hE)
    · exact NFq.tr NFq.rf (ih _ _ _ _ _ _ _ _ _ _ hE)
    · exact NFq.tr (NFq.tr NFq.rf (nfr_pe_emitc h3)) (ih _ _ _ _ _ _ _ _ _ _ hE)
    · exact NFq.tr NFq.rf (ih _ _ _ _ _ _ _ _ _ _ hE)
    · rw [e2]; exact NFq.rf
    · exact h.elim
theorem nfr_tc_leap  {ta : Nat → Nat → Int32} {cn : Nat} {p0 : Int32} {cf : Nat → Int32} {tf : Nat → Int32} {fp : Nat → Int32} {cd : Nat → Int32} {cf' : Nat → Int32} {tf' : Nat → Int32} {fp' : Nat → Int32} {cd' : Nat → Int32}  (h : R_tc_leap  ta cn p0 cf tf fp cd cf' tf' fp' cd') : NFq cn fp fp' := by
  obtain ⟨k, h⟩ := h
  exact nfe_tc_leap  k _ _ _ _ _ _ _ _ _ _ h
theorem nfe_tc_giveBack  {fo : Option Nat} {ta : Nat → Nat → Int32} {cn : Nat} {na : Nat → Nat → Int32} {own : Bool} {lf : Nat → Int32} {lg : Nat → Option Nat} {ff : Nat → Int32} {fg : Nat → Option Nat} {P : va_W}  {cf' : Nat → Int32} {tf' : Nat → Int32} {fp' : Nat → Int32} {cd' : Nat → Int32}  : ∀ (k pc_ : Nat) (ls_ : List Int32) (lw_ : List Int64) (qs_ : List (Option Nat)) (fs_ : List (Nat → Int32)) (ad_ : List Nat) (cf : Nat → Int32) (tf : Nat → Int32) (fp : Nat → Int32) (cd : Nat → Int32), E_tc_giveBack  fo ta cn na own lf lg ff fg P cf' tf' fp' cd'  k pc_ ls_ lw_ qs_ fs_ ad_ cf tf fp cd → NFq cn fp fp' := by
  intro k
  induction k with
  | zero => intro _ _ _ _ _ _ _ _ _ _ h; exact h.elim
  | succ k ih =>
    intro pc_ ls_ lw_ qs_ fs_ ad_ cf tf fp cd h
    rcases h with ⟨-, (⟨h1, tf176, h2, v188, h3, (⟨h4, hE⟩ | ⟨h4, tf198, h5, hE⟩)⟩ | ⟨q127, h1, j129, s130, h2, tf132, h3, v144, h4, (⟨h5, (⟨h6, tf153, h7, hE⟩ | ⟨h6, hE⟩)⟩ | ⟨h5, (⟨h6, hE⟩ | ⟨h6, tf167, h7, hE⟩)⟩)⟩)⟩ | ⟨-, x76_2, x76_3, -, -, -, -, -, (⟨h1, (⟨h2, cf53, tf54, fp55, cd56, h3, hE⟩ | ⟨h2, tf86, fp87, cd88, hx89, ox90, fx91, h3, hE⟩)⟩ | ⟨h1, fp120, cd121, v123, h2, hE⟩)⟩ | ⟨-, x116_2, -, -, -, -, -, (⟨h1, fp5, cd6, v8, h2, tf11, h3, e0, e1, e2, e3⟩ | ⟨h1, fp22, cd23, v25, h2, fp30, cd31, v33, h3, tf36, h4, e0, e1, e2, e3⟩)⟩ | h
    · exact NFq.tr NFq.rf (ih _ _ _ _ _ _ _ _ _ _ hE)
    · exact NFq.tr NFq.rf (ih _ _ _ _ _ _ _ _ _ _ hE)
    · exact NFq.tr NFq.rf (ih _ _ _ _ _ _ _ _ _ _ hE)
    · exact NFq.tr NFq.rf (ih _ _ _ _ _ _ _ _ _ _ hE)
    · exact NFq.tr NFq.rf (ih _ _ _ _ _ _ _ _ _ _ hE)
    · exact NFq.tr NFq.rf (ih _ _ _ _ _ _ _ _ _ _ hE)
    · exact NFq.tr (NFq.tr NFq.rf (nfr_tc_wholeNumber h3)) (ih _ _ _ _ _ _ _ _ _ _ hE)
    · exact NFq.tr (NFq.tr NFq.rf (nfr_ex_parse (nfl_RLp 61) (nfl_RLo 61) h3)) (ih _ _ _ _ _ _ _ _ _ _ hE)
    · exact NFq.tr (NFq.tr NFq.rf (nfr_pe_emit h2)) (ih _ _ _ _ _ _ _ _ _ _ hE)
    · rw [e2]; exact (NFq.tr NFq.rf (nfr_pe_emit h2))
    · rw [e2]; exact (NFq.tr (NFq.tr NFq.rf (nfr_pe_emit h2)) (nfr_pe_emit h3))
    · exact h.elim
theorem nfr_tc_giveBack  {fo : Option Nat} {ta : Nat → Nat → Int32} {cn : Nat} {na : Nat → Nat → Int32} {own : Bool} {lf : Nat → Int32} {lg : Nat → Option Nat} {ff : Nat → Int32} {fg : Nat → Option Nat} {P : va_W} {cf : Nat → Int32} {tf : Nat → Int32} {fp : Nat → Int32} {cd : Nat → Int32} {cf' : Nat → Int32} {tf' : Nat → Int32} {fp' : Nat → Int32} {cd' : Nat → Int32}  (h : R_tc_giveBack  fo ta cn na own lf lg ff fg P cf tf fp cd cf' tf' fp' cd') : NFq cn fp fp' := by
  obtain ⟨k, h⟩ := h
  exact nfe_tc_giveBack  k _ _ _ _ _ _ _ _ _ _ h
def NF_tc_statement (R : T_tc_statement) : Prop := ∀ (fo : Option Nat) (ta : Nat → Nat → Int32) (cn : Nat) (na : Nat → Nat → Int32) (ff : Nat → Int32) (fg : Nat → Option Nat) (sn : Nat) (cf : Nat → Int32) (ca : Nat → Nat → Int32) (tf : Nat → Int32) (fp : Nat → Int32) (cd : Nat → Int32) (nf : Nat → Int32) (own : Bool) (lq : Nat) (lc : Nat) (lf : Nat → Int32) (lg : Nat → Option Nat) (P : va_W) (fs : Nat → Int32) (sd : Nat → Int32) (cf' : Nat → Int32) (ca' : Nat → Nat → Int32) (tf' : Nat → Int32) (fp' : Nat → Int32) (cd' : Nat → Int32) (nf' : Nat → Int32) (own' : Bool) (lq' : Nat) (lc' : Nat) (lf' : Nat → Int32) (lg' : Nat → Option Nat) (P' : va_W) (fs' : Nat → Int32) (sd' : Nat → Int32), R fo ta cn na ff fg sn cf ca tf fp cd nf own lq lc lf lg P fs sd cf' ca' tf' fp' cd' nf' own' lq' lc' lf' lg' P' fs' sd' → NFq cn fp fp'
theorem nfe_tc_compareCases  {ca : Nat → Nat → Int32} {cn : Nat} {p0 : Int32} {p1 : Int32}  {cf' : Nat → Int32} {fp' : Nat → Int32} {cd' : Nat → Int32}  : ∀ (k pc_ : Nat) (ls_ : List Int32) (lw_ : List Int64) (qs_ : List (Option Nat)) (fs_ : List (Nat → Int32)) (ad_ : List Nat) (cf : Nat → Int32) (fp : Nat → Int32) (cd : Nat → Int32), E_tc_compareCases  ca cn p0 p1 cf' fp' cd'  k pc_ ls_ lw_ qs_ fs_ ad_ cf fp cd → NFq cn fp fp' := by
  intro k
  induction k with
  | zero => intro _ _ _ _ _ _ _ _ _ h; exact h.elim
  | succ k ih =>
    intro pc_ ls_ lw_ qs_ fs_ ad_ cf fp cd h
    rcases h with ⟨-, hE⟩ | ⟨-, x2_3, -, -, -, -, -, (⟨h1, fp5, cd6, v8, h2, (⟨h3, e0, e1, e2⟩ | ⟨h3, fp15, cd16, v18, h4, e0, e1, e2⟩)⟩ | ⟨h1, z21, h2, z22, h3, fp25, cd26, v28, h4, z31, h5, hE⟩)⟩ | h
    · exact NFq.tr NFq.rf (ih _ _ _ _ _ _ _ _ _ hE)
    · rw [e1]; exact (NFq.tr NFq.rf (nfr_pe_emit h2))
    · rw [e1]; exact (NFq.tr (NFq.tr NFq.rf (nfr_pe_emit h2)) (nfr_pe_emit h4))
    · exact NFq.tr (NFq.tr NFq.rf (nfr_pe_emit h4)) (ih _ _ _ _ _ _ _ _ _ hE)
    · exact h.elim
theorem nfr_tc_compareCases  {ca : Nat → Nat → Int32} {cn : Nat} {p0 : Int32} {p1 : Int32} {cf : Nat → Int32} {fp : Nat → Int32} {cd : Nat → Int32} {cf' : Nat → Int32} {fp' : Nat → Int32} {cd' : Nat → Int32}  (h : R_tc_compareCases  ca cn p0 p1 cf fp cd cf' fp' cd') : NFq cn fp fp' := by
  obtain ⟨k, h⟩ := h
  exact nfe_tc_compareCases  k _ _ _ _ _ _ _ _ _ h
theorem nfr_tc_loopBody {RLs : T_tc_statement} {fo : Option Nat} {ta : Nat → Nat → Int32} {cn : Nat} {na : Nat → Nat → Int32} {ff : Nat → Int32} {fg : Nat → Option Nat} {sn : Nat} {cf : Nat → Int32} {ca : Nat → Nat → Int32} {tf : Nat → Int32} {fp : Nat → Int32} {cd : Nat → Int32} {nf : Nat → Int32} {own : Bool} {lq : Nat} {lc : Nat} {lf : Nat → Int32} {lg : Nat → Option Nat} {P : va_W} {fs : Nat → Int32} {sd : Nat → Int32} {cf' : Nat → Int32} {ca' : Nat → Nat → Int32} {tf' : Nat → Int32} {fp' : Nat → Int32} {cd' : Nat → Int32} {nf' : Nat → Int32} {own' : Bool} {lq' : Nat} {lc' : Nat} {lf' : Nat → Int32} {lg' : Nat → Option Nat} {P' : va_W} {fs' : Nat → Int32} {sd' : Nat → Int32} (hS : NF_tc_statement RLs) (h : R_tc_loopBody RLs fo ta cn na ff fg sn cf ca tf fp cd nf own lq lc lf lg P fs sd cf' ca' tf' fp' cd' nf' own' lq' lc' lf' lg' P' fs' sd') : NFq cn fp fp' := by
  rcases h with ⟨z2, h1, z4, h2, fp7, cd8, v10, h3, cf28, ca29, tf30, fp31, cd32, nf33, own34, lq35, lc36, lf37, lg38, P39, fs40, sd41, h4, z81, h5, z83, h6, e0, e1, e2, e3, e4, e5, e6, e7, e8, e9, e10, e11, e12, e13⟩ | h
  · rw [e3]; exact (NFq.tr (NFq.tr NFq.rf (nfr_pe_emit h3)) (hS _ _ _ _ _ _ _ _ _ _ _ _ _ _ _ _ _ _ _ _ _ _ _ _ _ _ _ _ _ _ _ _ _ _ _ h4))
  · exact h.elim
theorem nfe_tc_statements {RLs : T_tc_statement} {fo : Option Nat} {ta : Nat → Nat → Int32} {cn : Nat} {na : Nat → Nat → Int32} {ff : Nat → Int32} {fg : Nat → Option Nat} {sn : Nat}  {cf' : Nat → Int32} {ca' : Nat → Nat → Int32} {tf' : Nat → Int32} {fp' : Nat → Int32} {cd' : Nat → Int32} {nf' : Nat → Int32} {own' : Bool} {lq' : Nat} {lc' : Nat} {lf' : Nat → Int32} {lg' : Nat → Option Nat} {P' : va_W} {fs' : Nat → Int32} {sd' : Nat → Int32} (hS : NF_tc_statement RLs) : ∀ (k pc_ : Nat) (ls_ : List Int32) (lw_ : List Int64) (qs_ : List (Option Nat)) (fs_ : List (Nat → Int32)) (ad_ : List Nat) (cf : Nat → Int32) (ca : Nat → Nat → Int32) (tf : Nat → Int32) (fp : Nat → Int32) (cd : Nat → Int32) (nf : Nat → Int32) (own : Bool) (lq : Nat) (lc : Nat) (lf : Nat → Int32) (lg : Nat → Option Nat) (P : va_W) (fs : Nat → Int32) (sd : Nat → Int32), E_tc_statements RLs fo ta cn na ff fg sn cf' ca' tf' fp' cd' nf' own' lq' lc' lf' lg' P' fs' sd'  k pc_ ls_ lw_ qs_ fs_ ad_ cf ca tf fp cd nf own lq lc lf lg P fs sd → NFq cn fp fp' := by
  intro k
  induction k with
  | zero => intro _ _ _ _ _ _ _ _ _ _ _ _ _ _ _ _ _ _ _ _ h; exact h.elim
  | succ k ih =>
    intro pc_ ls_ lw_ qs_ fs_ ad_ cf ca tf fp cd nf own lq lc lf lg P fs sd h
    rcases h with ⟨-, hE⟩ | ⟨-, x2_1, -, -, -, -, -, (⟨h1, e0, e1, e2, e3, e4, e5, e6, e7, e8, e9, e10, e11, e12, e13⟩ | ⟨h1, (⟨h2, e0, e1, e2, e3, e4, e5, e6, e7, e8, e9, e10, e11, e12, e13⟩ | ⟨h2, v6, h3, (⟨h4, e0, e1, e2, e3, e4, e5, e6, e7, e8, e9, e10, e11, e12, e13⟩ | ⟨h4, cf27, ca28, tf29, fp30, cd31, nf32, own33, lq34, lc35, lf36, lg37, P38, fs39, sd40, h5, z79, h6, hE⟩)⟩)⟩)⟩ | h
    · exact NFq.tr NFq.rf (ih _ _ _ _ _ _ _ _ _ _ _ _ _ _ _ _ _ _ _ _ hE)
    · rw [e3]; exact NFq.rf
    · rw [e3]; exact NFq.rf
    · rw [e3]; exact NFq.rf
    · exact NFq.tr (NFq.tr NFq.rf (hS _ _ _ _ _ _ _ _ _ _ _ _ _ _ _ _ _ _ _ _ _ _ _ _ _ _ _ _ _ _ _ _ _ _ _ h5)) (ih _ _ _ _ _ _ _ _ _ _ _ _ _ _ _ _ _ _ _ _ hE)
    · exact h.elim
theorem nfr_tc_statements {RLs : T_tc_statement} {fo : Option Nat} {ta : Nat → Nat → Int32} {cn : Nat} {na : Nat → Nat → Int32} {ff : Nat → Int32} {fg : Nat → Option Nat} {sn : Nat} {cf : Nat → Int32} {ca : Nat → Nat → Int32} {tf : Nat → Int32} {fp : Nat → Int32} {cd : Nat → Int32} {nf : Nat → Int32} {own : Bool} {lq : Nat} {lc : Nat} {lf : Nat → Int32} {lg : Nat → Option Nat} {P : va_W} {fs : Nat → Int32} {sd : Nat → Int32} {cf' : Nat → Int32} {ca' : Nat → Nat → Int32} {tf' : Nat → Int32} {fp' : Nat → Int32} {cd' : Nat → Int32} {nf' : Nat → Int32} {own' : Bool} {lq' : Nat} {lc' : Nat} {lf' : Nat → Int32} {lg' : Nat → Option Nat} {P' : va_W} {fs' : Nat → Int32} {sd' : Nat → Int32} (hS : NF_tc_statement RLs) (h : R_tc_statements RLs fo ta cn na ff fg sn cf ca tf fp cd nf own lq lc lf lg P fs sd cf' ca' tf' fp' cd' nf' own' lq' lc' lf' lg' P' fs' sd') : NFq cn fp fp' := by
  obtain ⟨k, h⟩ := h
  exact nfe_tc_statements hS k _ _ _ _ _ _ _ _ _ _ _ _ _ _ _ _ _ _ _ _ h
theorem nfe_tc_choice {RLs : T_tc_statement} {fo : Option Nat} {ta : Nat → Nat → Int32} {cn : Nat} {na : Nat → Nat → Int32} {ff : Nat → Int32} {fg : Nat → Option Nat} {sn : Nat}  {cf' : Nat → Int32} {ca' : Nat → Nat → Int32} {tf' : Nat → Int32} {fp' : Nat → Int32} {cd' : Nat → Int32} {nf' : Nat → Int32} {own' : Bool} {lq' : Nat} {lc' : Nat} {lf' : Nat → Int32} {lg' : Nat → Option Nat} {P' : va_W} {fs' : Nat → Int32} {sd' : Nat → Int32} (hS : NF_tc_statement RLs) : ∀ (k pc_ : Nat) (ls_ : List Int32) (lw_ : List Int64) (qs_ : List (Option Nat)) (fs_ : List (Nat → Int32)) (ad_ : List Nat) (cf : Nat → Int32) (ca : Nat → Nat → Int32) (tf : Nat → Int32) (fp : Nat → Int32) (cd : Nat → Int32) (nf : Nat → Int32) (own : Bool) (lq : Nat) (lc : Nat) (lf : Nat → Int32) (lg : Nat → Option Nat) (P : va_W) (fs : Nat → Int32) (sd : Nat → Int32), E_tc_choice RLs fo ta cn na ff fg sn cf' ca' tf' fp' cd' nf' own' lq' lc' lf' lg' P' fs' sd'  k pc_ ls_ lw_ qs_ fs_ ad_ cf ca tf fp cd nf own lq lc lf lg P fs sd → NFq cn fp fp' := by
  intro k
  induction k with
  | zero => intro _ _ _ _ _ _ _ _ _ _ _ _ _ _ _ _ _ _ _ _ h; exact h.elim
  | succ k ih =>
    intro pc_ ls_ lw_ qs_ fs_ ad_ cf ca tf fp cd nf own lq lc lf lg P fs sd h
    rcases h with ⟨-, tf122, h1, cf135, tf136, fp137, cd138, h2, fp167, cd168, v170, h3, cf188, ca189, tf190, fp191, cd192, nf193, own194, lq195, lc196, lf197, lg198, P199, fs200, sd201, h4, hE⟩ | ⟨-, x29_1, -, -, -, -, -, tf15, v17, h1, (⟨h2, cd30, h3, tf33, h4, e0, e1, e2, e3, e4, e5, e6, e7, e8, e9, e10, e11, e12, e13⟩ | ⟨h2, fp44, cd45, v47, h3, cd52, h4, cf70, ca71, tf72, fp73, cd74, nf75, own76, lq77, lc78, lf79, lg80, P81, fs82, sd83, h5, hE⟩)⟩ | ⟨-, x73_2, -, -, -, -, -, cd3, h1, tf6, h2, e0, e1, e2, e3, e4, e5, e6, e7, e8, e9, e10, e11, e12, e13⟩ | h
    · exact NFq.tr (NFq.tr (NFq.tr (NFq.tr NFq.rf (nfr_tc_condition h2)) (nfr_pe_emit h3)) (hS _ _ _ _ _ _ _ _ _ _ _ _ _ _ _ _ _ _ _ _ _ _ _ _ _ _ _ _ _ _ _ _ _ _ _ h4)) (ih _ _ _ _ _ _ _ _ _ _ _ _ _ _ _ _ _ _ _ _ hE)
    · rw [e3]; exact NFq.rf
    · exact NFq.tr (NFq.tr (NFq.tr NFq.rf (nfr_pe_emit h3)) (hS _ _ _ _ _ _ _ _ _ _ _ _ _ _ _ _ _ _ _ _ _ _ _ _ _ _ _ _ _ _ _ _ _ _ _ h5)) (ih _ _ _ _ _ _ _ _ _ _ _ _ _ _ _ _ _ _ _ _ hE)
    · rw [e3]; exact NFq.rf
    · exact h.elim
theorem nfr_tc_choice {RLs : T_tc_statement} {fo : Option Nat} {ta : Nat → Nat → Int32} {cn : Nat} {na : Nat → Nat → Int32} {ff : Nat → Int32} {fg : Nat → Option Nat} {sn : Nat} {cf : Nat → Int32} {ca : Nat → Nat → Int32} {tf : Nat → Int32} {fp : Nat → Int32} {cd : Nat → Int32} {nf : Nat → Int32} {own : Bool} {lq : Nat} {lc : Nat} {lf : Nat → Int32} {lg : Nat → Option Nat} {P : va_W} {fs : Nat → Int32} {sd : Nat → Int32} {cf' : Nat → Int32} {ca' : Nat → Nat → Int32} {tf' : Nat → Int32} {fp' : Nat → Int32} {cd' : Nat → Int32} {nf' : Nat → Int32} {own' : Bool} {lq' : Nat} {lc' : Nat} {lf' : Nat → Int32} {lg' : Nat → Option Nat} {P' : va_W} {fs' : Nat → Int32} {sd' : Nat → Int32} (hS : NF_tc_statement RLs) (h : R_tc_choice RLs fo ta cn na ff fg sn cf ca tf fp cd nf own lq lc lf lg P fs sd cf' ca' tf' fp' cd' nf' own' lq' lc' lf' lg' P' fs' sd') : NFq cn fp fp' := by
  obtain ⟨k, h⟩ := h
  exact nfe_tc_choice hS k _ _ _ _ _ _ _ _ _ _ _ _ _ _ _ _ _ _ _ _ h
theorem nfr_tc_block {RLs : T_tc_statement} {fo : Option Nat} {ta : Nat → Nat → Int32} {cn : Nat} {na : Nat → Nat → Int32} {ff : Nat → Int32} {fg : Nat → Option Nat} {sn : Nat} {cf : Nat → Int32} {ca : Nat → Nat → Int32} {tf : Nat → Int32} {fp : Nat → Int32} {cd : Nat → Int32} {nf : Nat → Int32} {own : Bool} {lq : Nat} {lc : Nat} {lf : Nat → Int32} {lg : Nat → Option Nat} {P : va_W} {fs : Nat → Int32} {sd : Nat → Int32} {cf' : Nat → Int32} {ca' : Nat → Nat → Int32} {tf' : Nat → Int32} {fp' : Nat → Int32} {cd' : Nat → Int32} {nf' : Nat → Int32} {own' : Bool} {lq' : Nat} {lc' : Nat} {lf' : Nat → Int32} {lg' : Nat → Option Nat} {P' : va_W} {fs' : Nat → Int32} {sd' : Nat → Int32} (hS : NF_tc_statement RLs) (h : R_tc_block RLs fo ta cn na ff fg sn cf ca tf fp cd nf own lq lc lf lg P fs sd cf' ca' tf' fp' cd' nf' own' lq' lc' lf' lg' P' fs' sd') : NFq cn fp fp' := by
  rcases h with ⟨nf2, v4, h1, tf10, h2, cf34, ca35, tf36, fp37, cd38, nf39, own40, lq41, lc42, lf43, lg44, P45, fs46, sd47, h3, tf85, h4, nf97, lf98, lg99, h5, e0, e1, e2, e3, e4, e5, e6, e7, e8, e9, e10, e11, e12, e13⟩ | h
  · rw [e3]; exact (NFq.tr NFq.rf (nfr_tc_statements hS h3))
  · exact h.elim
theorem nfe_tc_whileLoop {RLs : T_tc_statement} {fo : Option Nat} {ta : Nat → Nat → Int32} {cn : Nat} {na : Nat → Nat → Int32} {ff : Nat → Int32} {fg : Nat → Option Nat} {sn : Nat} {cf0 : Nat → Int32} {cf' : Nat → Int32} {ca' : Nat → Nat → Int32} {tf' : Nat → Int32} {fp' : Nat → Int32} {cd' : Nat → Int32} {nf' : Nat → Int32} {own' : Bool} {lq' : Nat} {lc' : Nat} {lf' : Nat → Int32} {lg' : Nat → Option Nat} {P' : va_W} {fs' : Nat → Int32} {sd' : Nat → Int32} (hS : NF_tc_statement RLs) : ∀ (k pc_ : Nat) (ls_ : List Int32) (lw_ : List Int64) (qs_ : List (Option Nat)) (fs_ : List (Nat → Int32)) (ad_ : List Nat) (cf : Nat → Int32) (ca : Nat → Nat → Int32) (tf : Nat → Int32) (fp : Nat → Int32) (cd : Nat → Int32) (nf : Nat → Int32) (own : Bool) (lq : Nat) (lc : Nat) (lf : Nat → Int32) (lg : Nat → Option Nat) (P : va_W) (fs : Nat → Int32) (sd : Nat → Int32), E_tc_whileLoop RLs fo ta cn na ff fg sn cf' ca' tf' fp' cd' nf' own' lq' lc' lf' lg' P' fs' sd' cf0 k pc_ ls_ lw_ qs_ fs_ ad_ cf ca tf fp cd nf own lq lc lf lg P fs sd → NFq cn fp fp' := by
  intro k
  induction k with
  | zero => intro _ _ _ _ _ _ _ _ _ _ _ _ _ _ _ _ _ _ _ _ h; exact h.elim
  | succ k ih =>
    intro pc_ ls_ lw_ qs_ fs_ ad_ cf ca tf fp cd nf own lq lc lf lg P fs sd h
    rcases h with ⟨-, tf26, h1, cf39, tf40, fp41, cd42, h2, fp71, cd72, v74, h3, cf93, ca94, tf95, fp96, cd97, nf98, own99, lq100, lc101, lf102, lg103, P104, fs105, sd106, h4, hE⟩ | ⟨-, x56_3, -, -, -, -, -, fp3, cd4, v6, h1, cd10, h2, cd14, h3, tf17, h4, e0, e1, e2, e3, e4, e5, e6, e7, e8, e9, e10, e11, e12, e13⟩ | h
    · exact NFq.tr (NFq.tr (NFq.tr (NFq.tr NFq.rf (nfr_tc_condition h2)) (nfr_pe_emitc h3)) (nfr_tc_loopBody hS h4)) (ih _ _ _ _ _ _ _ _ _ _ _ _ _ _ _ _ _ _ _ _ hE)
    · rw [e3]; exact (NFq.tr NFq.rf (nfr_pe_emit h1))
    · exact h.elim
theorem nfr_tc_whileLoop {RLs : T_tc_statement} {fo : Option Nat} {ta : Nat → Nat → Int32} {cn : Nat} {na : Nat → Nat → Int32} {ff : Nat → Int32} {fg : Nat → Option Nat} {sn : Nat} {cf : Nat → Int32} {ca : Nat → Nat → Int32} {tf : Nat → Int32} {fp : Nat → Int32} {cd : Nat → Int32} {nf : Nat → Int32} {own : Bool} {lq : Nat} {lc : Nat} {lf : Nat → Int32} {lg : Nat → Option Nat} {P : va_W} {fs : Nat → Int32} {sd : Nat → Int32} {cf' : Nat → Int32} {ca' : Nat → Nat → Int32} {tf' : Nat → Int32} {fp' : Nat → Int32} {cd' : Nat → Int32} {nf' : Nat → Int32} {own' : Bool} {lq' : Nat} {lc' : Nat} {lf' : Nat → Int32} {lg' : Nat → Option Nat} {P' : va_W} {fs' : Nat → Int32} {sd' : Nat → Int32} (hS : NF_tc_statement RLs) (h : R_tc_whileLoop RLs fo ta cn na ff fg sn cf ca tf fp cd nf own lq lc lf lg P fs sd cf' ca' tf' fp' cd' nf' own' lq' lc' lf' lg' P' fs' sd') : NFq cn fp fp' := by
  obtain ⟨k, h⟩ := h
  exact nfe_tc_whileLoop hS k _ _ _ _ _ _ _ _ _ _ _ _ _ _ _ _ _ _ _ _ h
theorem nfe_tc_doLoop {RLs : T_tc_statement} {fo : Option Nat} {ta : Nat → Nat → Int32} {cn : Nat} {na : Nat → Nat → Int32} {ff : Nat → Int32} {fg : Nat → Option Nat} {sn : Nat} {cf0 : Nat → Int32} {cf' : Nat → Int32} {ca' : Nat → Nat → Int32} {tf' : Nat → Int32} {fp' : Nat → Int32} {cd' : Nat → Int32} {nf' : Nat → Int32} {own' : Bool} {lq' : Nat} {lc' : Nat} {lf' : Nat → Int32} {lg' : Nat → Option Nat} {P' : va_W} {fs' : Nat → Int32} {sd' : Nat → Int32} (hS : NF_tc_statement RLs) : ∀ (k pc_ : Nat) (ls_ : List Int32) (lw_ : List Int64) (qs_ : List (Option Nat)) (fs_ : List (Nat → Int32)) (ad_ : List Nat) (cf : Nat → Int32) (ca : Nat → Nat → Int32) (tf : Nat → Int32) (fp : Nat → Int32) (cd : Nat → Int32) (nf : Nat → Int32) (own : Bool) (lq : Nat) (lc : Nat) (lf : Nat → Int32) (lg : Nat → Option Nat) (P : va_W) (fs : Nat → Int32) (sd : Nat → Int32), E_tc_doLoop RLs fo ta cn na ff fg sn cf' ca' tf' fp' cd' nf' own' lq' lc' lf' lg' P' fs' sd' cf0 k pc_ ls_ lw_ qs_ fs_ ad_ cf ca tf fp cd nf own lq lc lf lg P fs sd → NFq cn fp fp' := by
  intro k
  induction k with
  | zero => intro _ _ _ _ _ _ _ _ _ _ _ _ _ _ _ _ _ _ _ _ h; exact h.elim
  | succ k ih =>
    intro pc_ ls_ lw_ qs_ fs_ ad_ cf ca tf fp cd nf own lq lc lf lg P fs sd h
    rcases h with ⟨-, tf78, h1, cf102, ca103, tf104, fp105, cd106, nf107, own108, lq109, lc110, lf111, lg112, P113, fs114, sd115, h2, hE⟩ | ⟨-, x41_3, -, -, -, -, -, cd2, h1, tf5, h2, cf18, tf19, fp20, cd21, h3, tf48, h4, fp59, cd60, v62, h5, cd66, h6, tf69, h7, e0, e1, e2, e3, e4, e5, e6, e7, e8, e9, e10, e11, e12, e13⟩ | h
    · exact NFq.tr (NFq.tr NFq.rf (nfr_tc_loopBody hS h2)) (ih _ _ _ _ _ _ _ _ _ _ _ _ _ _ _ _ _ _ _ _ hE)
    · rw [e3]; exact (NFq.tr (NFq.tr NFq.rf (nfr_tc_condition h3)) (nfr_pe_emit h5))
    · exact h.elim
theorem nfr_tc_doLoop {RLs : T_tc_statement} {fo : Option Nat} {ta : Nat → Nat → Int32} {cn : Nat} {na : Nat → Nat → Int32} {ff : Nat → Int32} {fg : Nat → Option Nat} {sn : Nat} {cf : Nat → Int32} {ca : Nat → Nat → Int32} {tf : Nat → Int32} {fp : Nat → Int32} {cd : Nat → Int32} {nf : Nat → Int32} {own : Bool} {lq : Nat} {lc : Nat} {lf : Nat → Int32} {lg : Nat → Option Nat} {P : va_W} {fs : Nat → Int32} {sd : Nat → Int32} {cf' : Nat → Int32} {ca' : Nat → Nat → Int32} {tf' : Nat → Int32} {fp' : Nat → Int32} {cd' : Nat → Int32} {nf' : Nat → Int32} {own' : Bool} {lq' : Nat} {lc' : Nat} {lf' : Nat → Int32} {lg' : Nat → Option Nat} {P' : va_W} {fs' : Nat → Int32} {sd' : Nat → Int32} (hS : NF_tc_statement RLs) (h : R_tc_doLoop RLs fo ta cn na ff fg sn cf ca tf fp cd nf own lq lc lf lg P fs sd cf' ca' tf' fp' cd' nf' own' lq' lc' lf' lg' P' fs' sd') : NFq cn fp fp' := by
  obtain ⟨k, h⟩ := h
  exact nfe_tc_doLoop hS k _ _ _ _ _ _ _ _ _ _ _ _ _ _ _ _ _ _ _ _ h
theorem nfe_tc_forLoop {RLs : T_tc_statement} {fo : Option Nat} {ta : Nat → Nat → Int32} {cn : Nat} {na : Nat → Nat → Int32} {ff : Nat → Int32} {fg : Nat → Option Nat} {sn : Nat} {cf0 : Nat → Int32} {cf' : Nat → Int32} {ca' : Nat → Nat → Int32} {tf' : Nat → Int32} {fp' : Nat → Int32} {cd' : Nat → Int32} {nf' : Nat → Int32} {own' : Bool} {lq' : Nat} {lc' : Nat} {lf' : Nat → Int32} {lg' : Nat → Option Nat} {P' : va_W} {fs' : Nat → Int32} {sd' : Nat → Int32} (hS : NF_tc_statement RLs) : ∀ (k pc_ : Nat) (ls_ : List Int32) (lw_ : List Int64) (qs_ : List (Option Nat)) (fs_ : List (Nat → Int32)) (ad_ : List Nat) (cf : Nat → Int32) (ca : Nat → Nat → Int32) (tf : Nat → Int32) (fp : Nat → Int32) (cd : Nat → Int32) (nf : Nat → Int32) (own : Bool) (lq : Nat) (lc : Nat) (lf : Nat → Int32) (lg : Nat → Option Nat) (P : va_W) (fs : Nat → Int32) (sd : Nat → Int32), E_tc_forLoop RLs fo ta cn na ff fg sn cf' ca' tf' fp' cd' nf' own' lq' lc' lf' lg' P' fs' sd' cf0 k pc_ ls_ lw_ qs_ fs_ ad_ cf ca tf fp cd nf own lq lc lf lg P fs sd → NFq cn fp fp' := by
  intro k
  induction k with
  | zero => intro _ _ _ _ _ _ _ _ _ _ _ _ _ _ _ _ _ _ _ _ h; exact h.elim
  | succ k ih =>
    intro pc_ ls_ lw_ qs_ fs_ ad_ cf ca tf fp cd nf own lq lc lf lg P fs sd h
    rcases h with ⟨-, nf247, v249, h1, tf255, h2, tf264, h3, v274, h4, (⟨h5, tf280, h6, cf303, tf304, fp305, cd306, own307, lq308, lc309, lf310, lg311, P312, fs313, sd314, h7, hE⟩ | ⟨h5, (⟨h6, (⟨h7, hE⟩ | ⟨h7, cf357, tf358, fp359, cd360, h8, hE⟩)⟩ | ⟨h6, tf387, h7, cf410, tf411, fp412, cd413, own414, lq415, lc416, lf417, lg418, P419, fs420, sd421, h8, hE⟩)⟩)⟩ | ⟨-, x94_3, -, -, -, -, -, tf187, h1, v197, h2, (⟨h3, hE⟩ | ⟨h3, cf207, tf208, fp209, cd210, h4, fp239, cd240, v242, h5, hE⟩)⟩ | ⟨-, x144_3, x144_5, -, -, -, -, -, tf116, h1, v126, h2, (⟨h3, hE⟩ | ⟨h3, fp134, cd135, v137, h4, cf144, tf145, fp146, cd147, h5, fp176, cd177, v179, h6, cd184, h7, hE⟩)⟩ | ⟨-, x226_3, x226_6, -, -, -, -, -, tf1, h1, cf25, ca26, tf27, fp28, cd29, nf30, own31, lq32, lc33, lf34, lg35, P36, fs37, sd38, h2, fp79, cd80, v82, h3, cd86, h4, cd90, h5, nf96, lf97, lg98, h6, tf107, h7, e0, e1, e2, e3, e4, e5, e6, e7, e8, e9, e10, e11, e12, e13⟩ | h
    · exact NFq.tr (NFq.tr NFq.rf (nfr_tc_variables h7)) (ih _ _ _ _ _ _ _ _ _ _ _ _ _ _ _ _ _ _ _ _ hE)
    · exact NFq.tr NFq.rf (ih _ _ _ _ _ _ _ _ _ _ _ _ _ _ _ _ _ _ _ _ hE)
    · exact NFq.tr (NFq.tr NFq.rf (nfr_tc_effect h8)) (ih _ _ _ _ _ _ _ _ _ _ _ _ _ _ _ _ _ _ _ _ hE)
    · exact NFq.tr (NFq.tr NFq.rf (nfr_tc_variables h8)) (ih _ _ _ _ _ _ _ _ _ _ _ _ _ _ _ _ _ _ _ _ hE)
    · exact NFq.tr NFq.rf (ih _ _ _ _ _ _ _ _ _ _ _ _ _ _ _ _ _ _ _ _ hE)
    · exact NFq.tr (NFq.tr (NFq.tr NFq.rf (nfr_tc_wholeNumber h4)) (nfr_pe_emitc h5)) (ih _ _ _ _ _ _ _ _ _ _ _ _ _ _ _ _ _ _ _ _ hE)
    · exact NFq.tr NFq.rf (ih _ _ _ _ _ _ _ _ _ _ _ _ _ _ _ _ _ _ _ _ hE)
    · exact NFq.tr (NFq.tr (NFq.tr (NFq.tr NFq.rf (nfr_pe_emit h4)) (nfr_tc_effect h5)) (nfr_pe_emit h6)) (ih _ _ _ _ _ _ _ _ _ _ _ _ _ _ _ _ _ _ _ _ hE)
    · rw [e3]; exact (NFq.tr (NFq.tr NFq.rf (nfr_tc_loopBody hS h2)) (nfr_pe_emit h3))
    · exact h.elim
theorem nfr_tc_forLoop {RLs : T_tc_statement} {fo : Option Nat} {ta : Nat → Nat → Int32} {cn : Nat} {na : Nat → Nat → Int32} {ff : Nat → Int32} {fg : Nat → Option Nat} {sn : Nat} {cf : Nat → Int32} {ca : Nat → Nat → Int32} {tf : Nat → Int32} {fp : Nat → Int32} {cd : Nat → Int32} {nf : Nat → Int32} {own : Bool} {lq : Nat} {lc : Nat} {lf : Nat → Int32} {lg : Nat → Option Nat} {P : va_W} {fs : Nat → Int32} {sd : Nat → Int32} {cf' : Nat → Int32} {ca' : Nat → Nat → Int32} {tf' : Nat → Int32} {fp' : Nat → Int32} {cd' : Nat → Int32} {nf' : Nat → Int32} {own' : Bool} {lq' : Nat} {lc' : Nat} {lf' : Nat → Int32} {lg' : Nat → Option Nat} {P' : va_W} {fs' : Nat → Int32} {sd' : Nat → Int32} (hS : NF_tc_statement RLs) (h : R_tc_forLoop RLs fo ta cn na ff fg sn cf ca tf fp cd nf own lq lc lf lg P fs sd cf' ca' tf' fp' cd' nf' own' lq' lc' lf' lg' P' fs' sd') : NFq cn fp fp' := by
  obtain ⟨k, h⟩ := h
  exact nfe_tc_forLoop hS k _ _ _ _ _ _ _ _ _ _ _ _ _ _ _ _ _ _ _ _ h
theorem nfe_tc_selection {RLs : T_tc_statement} {fo : Option Nat} {ta : Nat → Nat → Int32} {cn : Nat} {na : Nat → Nat → Int32} {ff : Nat → Int32} {fg : Nat → Option Nat} {sn : Nat} {cf0 : Nat → Int32} {cf' : Nat → Int32} {ca' : Nat → Nat → Int32} {tf' : Nat → Int32} {fp' : Nat → Int32} {cd' : Nat → Int32} {nf' : Nat → Int32} {own' : Bool} {lq' : Nat} {lc' : Nat} {lf' : Nat → Int32} {lg' : Nat → Option Nat} {P' : va_W} {fs' : Nat → Int32} {sd' : Nat → Int32} (hS : NF_tc_statement RLs) : ∀ (k pc_ : Nat) (ls_ : List Int32) (lw_ : List Int64) (qs_ : List (Option Nat)) (fs_ : List (Nat → Int32)) (ad_ : List Nat) (cf : Nat → Int32) (ca : Nat → Nat → Int32) (tf : Nat → Int32) (fp : Nat → Int32) (cd : Nat → Int32) (nf : Nat → Int32) (own : Bool) (lq : Nat) (lc : Nat) (lf : Nat → Int32) (lg : Nat → Option Nat) (P : va_W) (fs : Nat → Int32) (sd : Nat → Int32), E_tc_selection RLs fo ta cn na ff fg sn cf' ca' tf' fp' cd' nf' own' lq' lc' lf' lg' P' fs' sd' cf0 k pc_ ls_ lw_ qs_ fs_ ad_ cf ca tf fp cd nf own lq lc lf lg P fs sd → NFq cn fp fp' := by
  intro k
  induction k with
  | zero => intro _ _ _ _ _ _ _ _ _ _ _ _ _ _ _ _ _ _ _ _ h; exact h.elim
  | succ k ih =>
    intro pc_ ls_ lw_ qs_ fs_ ad_ cf ca tf fp cd nf own lq lc lf lg P fs sd h
    rcases h with ⟨-, nf222, v224, h1, tf230, h2, cf243, tf244, fp245, cd246, h3, fp275, cd276, v278, h4, z282, h5, tf283, h6, hE⟩ | ⟨-, x78_2, x78_3, x78_4, x78_5, x78_6, x78_7, -, -, -, -, -, (⟨h1, hE⟩ | ⟨h1, (⟨h2, hE⟩ | ⟨h2, v78, h3, (⟨h4, hE⟩ | ⟨h4, v85, h5, (⟨h6, (⟨h7, (⟨h8, tf95, h9, hE⟩ | ⟨h8, cf119, ca120, tf121, fp122, cd123, nf124, own125, lq126, lc127, lf128, lg129, P130, fs131, sd132, h9, hE⟩)⟩ | ⟨h7, tf172, h8, hE⟩)⟩ | ⟨h6, cf189, ca190, tf191, fp192, cd193, h7, hE⟩)⟩)⟩)⟩)⟩ | ⟨-, x176_2, x176_3, x176_4, x176_5, x176_7, -, -, -, -, -, z72, h1, hE⟩ | ⟨-, x185_2, x185_3, x185_4, x185_5, -, -, -, -, -, tf1, h1, z11, h2, fp14, cd15, v17, h3, cd23, h4, cf29, fp30, cd31, h5, cd46, h6, nf52, lf53, lg54, h7, tf63, h8, e0, e1, e2, e3, e4, e5, e6, e7, e8, e9, e10, e11, e12, e13⟩ | h
    · exact NFq.tr (NFq.tr (NFq.tr NFq.rf (nfr_tc_condition h3)) (nfr_pe_emit h4)) (ih _ _ _ _ _ _ _ _ _ _ _ _ _ _ _ _ _ _ _ _ hE)
    · exact NFq.tr NFq.rf (ih _ _ _ _ _ _ _ _ _ _ _ _ _ _ _ _ _ _ _ _ hE)
    · exact NFq.tr NFq.rf (ih _ _ _ _ _ _ _ _ _ _ _ _ _ _ _ _ _ _ _ _ hE)
    · exact NFq.tr NFq.rf (ih _ _ _ _ _ _ _ _ _ _ _ _ _ _ _ _ _ _ _ _ hE)
    · exact NFq.tr NFq.rf (ih _ _ _ _ _ _ _ _ _ _ _ _ _ _ _ _ _ _ _ _ hE)
    · exact NFq.tr (NFq.tr NFq.rf (hS _ _ _ _ _ _ _ _ _ _ _ _ _ _ _ _ _ _ _ _ _ _ _ _ _ _ _ _ _ _ _ _ _ _ _ h9)) (ih _ _ _ _ _ _ _ _ _ _ _ _ _ _ _ _ _ _ _ _ hE)
    · exact NFq.tr NFq.rf (ih _ _ _ _ _ _ _ _ _ _ _ _ _ _ _ _ _ _ _ _ hE)
    · exact NFq.tr (NFq.tr NFq.rf (nfr_tc_labelCase h7)) (ih _ _ _ _ _ _ _ _ _ _ _ _ _ _ _ _ _ _ _ _ hE)
    · exact NFq.tr NFq.rf (ih _ _ _ _ _ _ _ _ _ _ _ _ _ _ _ _ _ _ _ _ hE)
    · rw [e3]; exact (NFq.tr (NFq.tr NFq.rf (nfr_pe_emitc h3)) (nfr_tc_compareCases h5))
    · exact h.elim
theorem nfr_tc_selection {RLs : T_tc_statement} {fo : Option Nat} {ta : Nat → Nat → Int32} {cn : Nat} {na : Nat → Nat → Int32} {ff : Nat → Int32} {fg : Nat → Option Nat} {sn : Nat} {cf : Nat → Int32} {ca : Nat → Nat → Int32} {tf : Nat → Int32} {fp : Nat → Int32} {cd : Nat → Int32} {nf : Nat → Int32} {own : Bool} {lq : Nat} {lc : Nat} {lf : Nat → Int32} {lg : Nat → Option Nat} {P : va_W} {fs : Nat → Int32} {sd : Nat → Int32} {cf' : Nat → Int32} {ca' : Nat → Nat → Int32} {tf' : Nat → Int32} {fp' : Nat → Int32} {cd' : Nat → Int32} {nf' : Nat → Int32} {own' : Bool} {lq' : Nat} {lc' : Nat} {lf' : Nat → Int32} {lg' : Nat → Option Nat} {P' : va_W} {fs' : Nat → Int32} {sd' : Nat → Int32} (hS : NF_tc_statement RLs) (h : R_tc_selection RLs fo ta cn na ff fg sn cf ca tf fp cd nf own lq lc lf lg P fs sd cf' ca' tf' fp' cd' nf' own' lq' lc' lf' lg' P' fs' sd') : NFq cn fp fp' := by
  obtain ⟨k, h⟩ := h
  exact nfe_tc_selection hS k _ _ _ _ _ _ _ _ _ _ _ _ _ _ _ _ _ _ _ _ h
theorem nfe_tc_statement {RLs : T_tc_statement} {fo : Option Nat} {ta : Nat → Nat → Int32} {cn : Nat} {na : Nat → Nat → Int32} {ff : Nat → Int32} {fg : Nat → Option Nat} {sn : Nat}  {cf' : Nat → Int32} {ca' : Nat → Nat → Int32} {tf' : Nat → Int32} {fp' : Nat → Int32} {cd' : Nat → Int32} {nf' : Nat → Int32} {own' : Bool} {lq' : Nat} {lc' : Nat} {lf' : Nat → Int32} {lg' : Nat → Option Nat} {P' : va_W} {fs' : Nat → Int32} {sd' : Nat → Int32} (hS : NF_tc_statement RLs) : ∀ (k pc_ : Nat) (ls_ : List Int32) (lw_ : List Int64) (qs_ : List (Option Nat)) (fs_ : List (Nat → Int32)) (ad_ : List Nat) (cf : Nat → Int32) (ca : Nat → Nat → Int32) (tf : Nat → Int32) (fp : Nat → Int32) (cd : Nat → Int32) (nf : Nat → Int32) (own : Bool) (lq : Nat) (lc : Nat) (lf : Nat → Int32) (lg : Nat → Option Nat) (P : va_W) (fs : Nat → Int32) (sd : Nat → Int32), E_tc_statement RLs fo ta cn na ff fg sn cf' ca' tf' fp' cd' nf' own' lq' lc' lf' lg' P' fs' sd'  k pc_ ls_ lw_ qs_ fs_ ad_ cf ca tf fp cd nf own lq lc lf lg P fs sd → NFq cn fp fp' := by
  intro k
  induction k with
  | zero => intro _ _ _ _ _ _ _ _ _ _ _ _ _ _ _ _ _ _ _ _ h; exact h.elim
  | succ k ih =>
    intro pc_ ls_ lw_ qs_ fs_ ad_ cf ca tf fp cd nf own lq lc lf lg P fs sd h
    rcases h with ⟨-, v2, h1, (⟨h2, cf11, tf12, fp13, cd14, h3, tf41, h4, hE⟩ | ⟨h2, tf51, h3, cf74, tf75, fp76, cd77, own78, lq79, lc80, lf81, lg82, P83, fs84, sd85, h4, tf120, h5, hE⟩ | ⟨h2, cf144, ca145, tf146, fp147, cd148, nf149, own150, lq151, lc152, lf153, lg154, P155, fs156, sd157, h3, hE⟩ | ⟨h2, cf211, ca212, tf213, fp214, cd215, nf216, own217, lq218, lc219, lf220, lg221, P222, fs223, sd224, h3, hE⟩ | ⟨h2, cf278, ca279, tf280, fp281, cd282, nf283, own284, lq285, lc286, lf287, lg288, P289, fs290, sd291, h3, hE⟩ | ⟨h2, cf345, ca346, tf347, fp348, cd349, nf350, own351, lq352, lc353, lf354, lg355, P356, fs357, sd358, h3, hE⟩ | ⟨h2, cf412, ca413, tf414, fp415, cd416, nf417, own418, lq419, lc420, lf421, lg422, P423, fs424, sd425, h3, hE⟩ | ⟨h2, cf469, tf470, fp471, cd472, h3, hE⟩ | ⟨h2, cf501, tf502, fp503, cd504, h3, hE⟩ | ⟨h2, tf531, h3, hE⟩ | ⟨h2, cf557, ca558, tf559, fp560, cd561, nf562, own563, lq564, lc565, lf566, lg567, P568, fs569, sd570, h3, hE⟩)⟩ | ⟨-, -, -, -, -, -, e0, e1, e2, e3, e4, e5, e6, e7, e8, e9, e10, e11, e12, e13⟩ | h
    · exact NFq.tr (NFq.tr NFq.rf (nfr_tc_effect h3)) (ih _ _ _ _ _ _ _ _ _ _ _ _ _ _ _ _ _ _ _ _ hE)
    · exact NFq.tr (NFq.tr NFq.rf (nfr_tc_variables h4)) (ih _ _ _ _ _ _ _ _ _ _ _ _ _ _ _ _ _ _ _ _ hE)
    · exact NFq.tr (NFq.tr NFq.rf (nfr_tc_choice hS h3)) (ih _ _ _ _ _ _ _ _ _ _ _ _ _ _ _ _ _ _ _ _ hE)
    · exact NFq.tr (NFq.tr NFq.rf (nfr_tc_whileLoop hS h3)) (ih _ _ _ _ _ _ _ _ _ _ _ _ _ _ _ _ _ _ _ _ hE)
    · exact NFq.tr (NFq.tr NFq.rf (nfr_tc_doLoop hS h3)) (ih _ _ _ _ _ _ _ _ _ _ _ _ _ _ _ _ _ _ _ _ hE)
    · exact NFq.tr (NFq.tr NFq.rf (nfr_tc_forLoop hS h3)) (ih _ _ _ _ _ _ _ _ _ _ _ _ _ _ _ _ _ _ _ _ hE)
    · exact NFq.tr (NFq.tr NFq.rf (nfr_tc_selection hS h3)) (ih _ _ _ _ _ _ _ _ _ _ _ _ _ _ _ _ _ _ _ _ hE)
    · exact NFq.tr (NFq.tr NFq.rf (nfr_tc_leap h3)) (ih _ _ _ _ _ _ _ _ _ _ _ _ _ _ _ _ _ _ _ _ hE)
    · exact NFq.tr (NFq.tr NFq.rf (nfr_tc_giveBack h3)) (ih _ _ _ _ _ _ _ _ _ _ _ _ _ _ _ _ _ _ _ _ hE)
    · exact NFq.tr NFq.rf (ih _ _ _ _ _ _ _ _ _ _ _ _ _ _ _ _ _ _ _ _ hE)
    · exact NFq.tr (NFq.tr NFq.rf (nfr_tc_block hS h3)) (ih _ _ _ _ _ _ _ _ _ _ _ _ _ _ _ _ _ _ _ _ hE)
    · rw [e3]; exact NFq.rf
    · exact h.elim
theorem nfr_tc_statement {RLs : T_tc_statement} {fo : Option Nat} {ta : Nat → Nat → Int32} {cn : Nat} {na : Nat → Nat → Int32} {ff : Nat → Int32} {fg : Nat → Option Nat} {sn : Nat} {cf : Nat → Int32} {ca : Nat → Nat → Int32} {tf : Nat → Int32} {fp : Nat → Int32} {cd : Nat → Int32} {nf : Nat → Int32} {own : Bool} {lq : Nat} {lc : Nat} {lf : Nat → Int32} {lg : Nat → Option Nat} {P : va_W} {fs : Nat → Int32} {sd : Nat → Int32} {cf' : Nat → Int32} {ca' : Nat → Nat → Int32} {tf' : Nat → Int32} {fp' : Nat → Int32} {cd' : Nat → Int32} {nf' : Nat → Int32} {own' : Bool} {lq' : Nat} {lc' : Nat} {lf' : Nat → Int32} {lg' : Nat → Option Nat} {P' : va_W} {fs' : Nat → Int32} {sd' : Nat → Int32} (hS : NF_tc_statement RLs) (h : R_tc_statement RLs fo ta cn na ff fg sn cf ca tf fp cd nf own lq lc lf lg P fs sd cf' ca' tf' fp' cd' nf' own' lq' lc' lf' lg' P' fs' sd') : NFq cn fp fp' := by
  obtain ⟨k, h⟩ := h
  exact nfe_tc_statement hS k _ _ _ _ _ _ _ _ _ _ _ _ _ _ _ _ _ _ _ _ h
theorem nfl_st : ∀ n : Nat, NF_tc_statement (RL_tc_statement n)
  | 0 => fun _ _ _ _ _ _ _ _ _ _ _ _ _ _ _ _ _ _ _ _ _ _ _ _ _ _ _ _ _ _ _ _ _ _ _ h => h.elim
  | n + 1 => fun _ _ _ _ _ _ _ _ _ _ _ _ _ _ _ _ _ _ _ _ _ _ _ _ _ _ _ _ _ _ _ _ _ _ _ h => nfr_tc_statement (nfl_st n) h
theorem nfl_RLs (n : Nat) : NF_tc_statement (RL_tc_statement n) := (nfl_st n)
