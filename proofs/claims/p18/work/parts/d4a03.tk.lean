/-- what the cursor's steps keep: all but now, open, failed, failedAt and the two of what is wrong; and that it has failed -/
def TK (tf tf' : Nat → Int32) : Prop := (∀ i : Nat, i ≠ 13 → i ≠ 14 → i ≠ 15 → i ≠ 16 → i ≠ 17 → i ≠ 18 → tf' i = tf i) ∧ (Flq tf → Flq tf')
def okK (k : Nat) : Bool := k == 13 || k == 14 || k == 16 || k == 17 || k == 18
theorem TK.rf {a : Nat → Int32} : TK a a := ⟨fun _ _ _ _ _ _ _ => rfl, id⟩
theorem TK.tr {a b c : Nat → Int32} (h : TK a b) (k : TK b c) : TK a c := ⟨fun i h1 h2 h3 h4 h5 h6 => (k.1 i h1 h2 h3 h4 h5 h6).trans (h.1 i h1 h2 h3 h4 h5 h6), fun x => k.2 (h.2 x)⟩
theorem TK.up {a b : Nat → Int32} (h : TK a b) {k : Nat} {v : Int32} (hk : okK k = true) : TK a (upd b k v) := by
  have e : k = 13 ∨ k = 14 ∨ k = 16 ∨ k = 17 ∨ k = 18 := by simpa [okK, or_assoc] using hk
  refine ⟨fun i h1 h2 h3 h4 h5 h6 => ?_, fun x => ?_⟩
  · rw [pk_un (by omega)]; exact h.1 i h1 h2 h3 h4 h5 h6
  · unfold Flq; rw [pk_un (by omega)]; exact h.2 x
theorem TK.u15 {a b : Nat → Int32} (h : TK a b) : TK a (upd b 15 1) :=
  ⟨fun i h1 h2 h3 h4 h5 h6 => by rw [pk_un h3]; exact h.1 i h1 h2 h3 h4 h5 h6, fun _ => by unfold Flq; rw [pk_us]; rfl⟩
theorem tkr_tk_step  {tf : Nat → Int32} {tf' : Nat → Int32}  (h : R_tk_step   tf tf') : TK tf tf' := by
  rcases h with ⟨z2, h1, (⟨h2, e0⟩ | ⟨h2, z6, h3, e0⟩)⟩ | h
  · rw [e0]; exact TK.rf
  · rw [e0]; exact (TK.up TK.rf (by decide : okK 13 = true))
  · exact h.elim
theorem tkr_tk_fail  {ta : Nat → Nat → Int32} {tf : Nat → Int32} {tf' : Nat → Int32}  (h : R_tk_fail  ta tf tf') : TK tf tf' := by
  rcases h with (⟨h1, e0⟩ | ⟨h1, (⟨h2, e0⟩ | ⟨h2, z5, h3, e0⟩)⟩) | h
  · rw [e0]; exact TK.rf
  · rw [e0]; exact (TK.up (TK.u15 TK.rf) (by decide : okK 16 = true))
  · rw [e0]; exact (TK.up (TK.u15 TK.rf) (by decide : okK 16 = true))
  · exact h.elim
theorem tkr_tk_accept  {ta : Nat → Nat → Int32} {p0 : Int32} {tf : Nat → Int32} {tf' : Nat → Int32} {v : Int32}  (h : R_tk_accept  ta p0 tf tf' v) : TK tf tf' := by
  rcases h with ⟨v2, h1, (⟨h2, e0, ev⟩ | ⟨h2, tf10, h3, e0, ev⟩)⟩ | h
  · rw [e0]; exact TK.rf
  · rw [e0]; exact (TK.tr TK.rf (tkr_tk_step h3))
  · exact h.elim
theorem tkr_tk_expect  {ta : Nat → Nat → Int32} {p0 : Int32} {tf : Nat → Int32} {tf' : Nat → Int32}  (h : R_tk_expect  ta p0 tf tf') : TK tf tf' := by
  rcases h with ⟨v2, h1, (⟨h2, tf8, h3, e0⟩ | ⟨h2, tf17, h3, e0⟩)⟩ | h
  · rw [e0]; exact (TK.tr TK.rf (tkr_tk_fail h3))
  · rw [e0]; exact (TK.tr TK.rf (tkr_tk_step h3))
  · exact h.elim
theorem tkr_tk_open  {ta : Nat → Nat → Int32} {p0 : Int32} {tf : Nat → Int32} {tf' : Nat → Int32}  (h : R_tk_open  ta p0 tf tf') : TK tf tf' := by
  rcases h with ⟨v2, h1, (⟨h2, tf8, h3, e0⟩ | ⟨h2, (⟨h3, tf19, h4, e0⟩ | ⟨h3, z29, h4, tf30, h5, e0⟩)⟩)⟩ | h
  · rw [e0]; exact (TK.tr TK.rf (tkr_tk_fail h3))
  · rw [e0]; exact (TK.tr TK.rf (tkr_tk_fail h4))
  · rw [e0]; exact (TK.tr (TK.up TK.rf (by decide : okK 14 = true)) (tkr_tk_step h5))
  · exact h.elim
theorem tkr_tk_openBehind  {ta : Nat → Nat → Int32} {p0 : Int32} {tf : Nat → Int32} {tf' : Nat → Int32}  (h : R_tk_openBehind  ta p0 tf tf') : TK tf tf' := by
  rcases h with ⟨z2, h1, (⟨h2, tf5, h3, e0⟩ | ⟨h2, (⟨h3, tf16, h4, e0⟩ | ⟨h3, z26, h4, tf27, h5, e0⟩)⟩)⟩ | h
  · rw [e0]; exact (TK.tr TK.rf (tkr_tk_fail h3))
  · rw [e0]; exact (TK.tr TK.rf (tkr_tk_fail h4))
  · rw [e0]; exact (TK.tr (TK.up TK.rf (by decide : okK 14 = true)) (tkr_tk_step h5))
  · exact h.elim
theorem tkr_tk_stepBehind  {ta : Nat → Nat → Int32} {p0 : Int32} {tf : Nat → Int32} {tf' : Nat → Int32}  (h : R_tk_stepBehind  ta p0 tf tf') : TK tf tf' := by
  rcases h with ⟨z2, h1, (⟨h2, tf5, h3, e0⟩ | ⟨h2, tf14, h3, e0⟩)⟩ | h
  · rw [e0]; exact (TK.tr TK.rf (tkr_tk_fail h3))
  · rw [e0]; exact (TK.tr TK.rf (tkr_tk_step h3))
  · exact h.elim
theorem tkr_tk_close  {ta : Nat → Nat → Int32} {p0 : Int32} {tf : Nat → Int32} {tf' : Nat → Int32}  (h : R_tk_close  ta p0 tf tf') : TK tf tf' := by
  rcases h with ⟨v2, h1, (⟨h2, tf8, h3, z18, h4, e0⟩ | ⟨h2, tf19, h3, z31, h4, e0⟩)⟩ | h
  · rw [e0]; exact (TK.up (TK.tr TK.rf (tkr_tk_fail h3)) (by decide : okK 14 = true))
  · rw [e0]; exact (TK.up (TK.tr TK.rf (tkr_tk_step h3)) (by decide : okK 14 = true))
  · exact h.elim
theorem tkr_tk_shut  {tf : Nat → Int32} {tf' : Nat → Int32}  (h : R_tk_shut   tf tf') : TK tf tf' := by
  rcases h with ⟨z2, h1, e0⟩ | h
  · rw [e0]; exact (TK.up TK.rf (by decide : okK 14 = true))
  · exact h.elim
theorem tkr_tk_blame  {p0 : Int32} {p1 : Int32} {tf : Nat → Int32} {tf' : Nat → Int32}  (h : R_tk_blame  p0 p1 tf tf') : TK tf tf' := by
  rcases h with (⟨h1, e0⟩ | ⟨h1, (⟨h2, e0⟩ | ⟨h2, (⟨h3, e0⟩ | ⟨h3, e0⟩)⟩)⟩) | h
  · rw [e0]; exact (TK.up (TK.up TK.rf (by decide : okK 17 = true)) (by decide : okK 18 = true))
  · rw [e0]; exact TK.rf
  · rw [e0]; exact TK.rf
  · rw [e0]; exact (TK.up (TK.up TK.rf (by decide : okK 17 = true)) (by decide : okK 18 = true))
  · exact h.elim
theorem tkr_ex_number  {cn : Nat} {P : va_W} {ox : Option Nat} {tf : Nat → Int32} {fp : Nat → Int32} {cd : Nat → Int32} {fx : Nat → Int32} {tf' : Nat → Int32} {fp' : Nat → Int32} {cd' : Nat → Int32} {fx' : Nat → Int32}  (h : R_ex_number  cn P ox tf fp cd fx tf' fp' cd' fx') : TK tf tf' := by
  rcases h with (⟨h1, (⟨h2, (⟨h3, e0, e1, e2, e3⟩ | ⟨h3, (⟨h4, e0, e1, e2, e3⟩ | ⟨q8, h4, j10, s11, h5, fp15, cd16, v18, h6, e0, e1, e2, e3⟩)⟩)⟩ | ⟨h2, tf21, h3, e0, e1, e2, e3⟩)⟩ | ⟨h1, tf30, h2, e0, e1, e2, e3⟩) | h
  · rw [e0]; exact TK.rf
  · rw [e0]; exact TK.rf
  · rw [e0]; exact TK.rf
  · rw [e0]; exact (TK.tr TK.rf (tkr_tk_blame h3))
  · rw [e0]; exact (TK.tr TK.rf (tkr_tk_blame h2))
  · exact h.elim
theorem tke_ex_isTarget  {ox : Option Nat} {fx : Nat → Int32}  {tf' : Nat → Int32} {v : Int32}  : ∀ (k pc_ : Nat) (ls_ : List Int32) (lw_ : List Int64) (qs_ : List (Option Nat)) (fs_ : List (Nat → Int32)) (ad_ : List Nat) (tf : Nat → Int32), E_ex_isTarget  ox fx tf' v  k pc_ ls_ lw_ qs_ fs_ ad_ tf → TK tf tf' := by
  intro k
  induction k with
  | zero => intro _ _ _ _ _ _ _ h; exact h.elim
  | succ k ih =>
    intro pc_ ls_ lw_ qs_ fs_ ad_ tf h
    rcases h with ⟨-, (⟨h1, (⟨h2, tf10, h3, hE⟩ | ⟨h2, (⟨h3, hE⟩ | ⟨h3, tf21, h4, hE⟩)⟩)⟩ | ⟨h1, tf30, h2, hE⟩)⟩ | ⟨-, -, -, -, -, -, (⟨h1, e0, ev⟩ | ⟨h1, (⟨h2, e0, ev⟩ | ⟨q4, h2, e0, ev⟩)⟩)⟩ | h
    · exact TK.tr (TK.tr TK.rf (tkr_tk_blame h3)) (ih _ _ _ _ _ _ _ hE)
    · exact TK.tr TK.rf (ih _ _ _ _ _ _ _ hE)
    · exact TK.tr (TK.tr TK.rf (tkr_tk_blame h4)) (ih _ _ _ _ _ _ _ hE)
    · exact TK.tr (TK.tr TK.rf (tkr_tk_blame h2)) (ih _ _ _ _ _ _ _ hE)
    · rw [e0]; exact TK.rf
    · rw [e0]; exact TK.rf
    · rw [e0]; exact TK.rf
    · exact h.elim
theorem tkr_ex_isTarget  {ox : Option Nat} {fx : Nat → Int32} {tf : Nat → Int32} {tf' : Nat → Int32} {v : Int32}  (h : R_ex_isTarget  ox fx tf tf' v) : TK tf tf' := by
  obtain ⟨k, h⟩ := h
  exact tke_ex_isTarget  k _ _ _ _ _ _ _ h
theorem tke_ex_hand  {cn : Nat} {P : va_W} {ox : Option Nat} {fx : Nat → Int32} {p0 : Int32}  {tf' : Nat → Int32} {fp' : Nat → Int32} {cd' : Nat → Int32}  : ∀ (k pc_ : Nat) (ls_ : List Int32) (lw_ : List Int64) (qs_ : List (Option Nat)) (fs_ : List (Nat → Int32)) (ad_ : List Nat) (tf : Nat → Int32) (fp : Nat → Int32) (cd : Nat → Int32), E_ex_hand  cn P ox fx p0 tf' fp' cd'  k pc_ ls_ lw_ qs_ fs_ ad_ tf fp cd → TK tf tf' := by
  intro k
  induction k with
  | zero => intro _ _ _ _ _ _ _ _ _ h; exact h.elim
  | succ k ih =>
    intro pc_ ls_ lw_ qs_ fs_ ad_ tf fp cd h
    rcases h with ⟨-, (⟨h1, (⟨h2, (⟨h3, hE⟩ | ⟨h3, hE⟩)⟩ | ⟨h2, fp22, cd23, v25, h3, hE⟩)⟩ | ⟨h1, (⟨h2, (⟨h3, hE⟩ | ⟨h3, (⟨h4, hE⟩ | ⟨q33, h4, (⟨h5, j37, s38, h6, fp42, cd43, v45, h7, hE⟩ | ⟨h5, v49, h6, z51, h7, (⟨h8, hE⟩ | ⟨h8, j54, s55, h9, fp59, cd60, v62, h10, hE⟩)⟩)⟩)⟩)⟩ | ⟨h2, fp67, cd68, v70, h3, hE⟩)⟩)⟩ | ⟨-, -, -, -, -, -, (⟨h1, hE⟩ | ⟨h1, (⟨h2, hE⟩ | ⟨h2, tf5, h3, hE⟩)⟩)⟩ | ⟨-, -, -, -, -, -, e0, e1, e2⟩ | h
    · exact TK.tr TK.rf (ih _ _ _ _ _ _ _ _ _ hE)
    · exact TK.tr TK.rf (ih _ _ _ _ _ _ _ _ _ hE)
    · exact TK.tr TK.rf (ih _ _ _ _ _ _ _ _ _ hE)
    · exact TK.tr TK.rf (ih _ _ _ _ _ _ _ _ _ hE)
    · exact TK.tr TK.rf (ih _ _ _ _ _ _ _ _ _ hE)
    · exact TK.tr TK.rf (ih _ _ _ _ _ _ _ _ _ hE)
    · exact TK.tr TK.rf (ih _ _ _ _ _ _ _ _ _ hE)
    · exact TK.tr TK.rf (ih _ _ _ _ _ _ _ _ _ hE)
    · exact TK.tr TK.rf (ih _ _ _ _ _ _ _ _ _ hE)
    · exact TK.tr TK.rf (ih _ _ _ _ _ _ _ _ _ hE)
    · exact TK.tr TK.rf (ih _ _ _ _ _ _ _ _ _ hE)
    · exact TK.tr (TK.tr TK.rf (tkr_tk_blame h3)) (ih _ _ _ _ _ _ _ _ _ hE)
    · rw [e0]; exact TK.rf
    · exact h.elim
theorem tkr_ex_hand  {cn : Nat} {P : va_W} {ox : Option Nat} {fx : Nat → Int32} {p0 : Int32} {tf : Nat → Int32} {fp : Nat → Int32} {cd : Nat → Int32} {tf' : Nat → Int32} {fp' : Nat → Int32} {cd' : Nat → Int32}  (h : R_ex_hand  cn P ox fx p0 tf fp cd tf' fp' cd') : TK tf tf' := by
  obtain ⟨k, h⟩ := h
  exact tke_ex_hand  k _ _ _ _ _ _ _ _ _ h
theorem tkr_ex_conclude_n  {p0 : Int32} {tf : Nat → Int32} {fp : Nat → Int32} {cd : Nat → Int32} {fx : Nat → Int32} {tf' : Nat → Int32} {fp' : Nat → Int32} {cd' : Nat → Int32} {fx' : Nat → Int32}  (h : R_ex_conclude_n  p0 tf fp cd fx tf' fp' cd' fx') : TK tf tf' := by
  rcases h with ⟨tf1, h1, e0, e1, e2, e3⟩ | h
  · rw [e0]; exact (TK.tr TK.rf (tkr_tk_blame h1))
  · exact h.elim
theorem tke_ex_conclude_r  {cn : Nat} {P : va_W} {fa : Nat} {p0 : Int32}  {tf' : Nat → Int32} {fp' : Nat → Int32} {cd' : Nat → Int32} {fx' : Nat → Int32}  : ∀ (k pc_ : Nat) (ls_ : List Int32) (lw_ : List Int64) (qs_ : List (Option Nat)) (fs_ : List (Nat → Int32)) (ad_ : List Nat) (tf : Nat → Int32) (fp : Nat → Int32) (cd : Nat → Int32) (fx : Nat → Int32), E_ex_conclude_r  cn P fa p0 tf' fp' cd' fx'  k pc_ ls_ lw_ qs_ fs_ ad_ tf fp cd fx → TK tf tf' := by
  intro k
  induction k with
  | zero => intro _ _ _ _ _ _ _ _ _ _ h; exact h.elim
  | succ k ih =>
    intro pc_ ls_ lw_ qs_ fs_ ad_ tf fp cd fx h
    rcases h with ⟨-, jf, sf, h1, (⟨h2, hE⟩ | ⟨h2, tf65, h3, hE⟩)⟩ | ⟨-, -, -, -, -, -, jf, sf, h1, (⟨h2, (⟨h3, (⟨h4, z8, h5, fp11, cd12, v14, h6, e0, e1, e2, e3⟩ | ⟨h4, fp19, cd20, v22, h5, e0, e1, e2, e3⟩)⟩ | ⟨h3, fp27, cd28, v30, h4, e0, e1, e2, e3⟩)⟩ | ⟨h2, (⟨h3, (⟨h4, z38, h5, fp41, cd42, v44, h6, e0, e1, e2, e3⟩ | ⟨h4, fp49, cd50, v52, h5, e0, e1, e2, e3⟩)⟩ | ⟨h3, fp57, cd58, v60, h4, e0, e1, e2, e3⟩)⟩)⟩ | h
    · exact TK.tr TK.rf (ih _ _ _ _ _ _ _ _ _ _ hE)
    · exact TK.tr (TK.tr TK.rf (tkr_tk_blame h3)) (ih _ _ _ _ _ _ _ _ _ _ hE)
    · rw [e0]; exact TK.rf
    · rw [e0]; exact TK.rf
    · rw [e0]; exact TK.rf
    · rw [e0]; exact TK.rf
    · rw [e0]; exact TK.rf
    · rw [e0]; exact TK.rf
    · exact h.elim
theorem tkr_ex_conclude_r  {cn : Nat} {P : va_W} {fa : Nat} {p0 : Int32} {tf : Nat → Int32} {fp : Nat → Int32} {cd : Nat → Int32} {fx : Nat → Int32} {tf' : Nat → Int32} {fp' : Nat → Int32} {cd' : Nat → Int32} {fx' : Nat → Int32}  (h : R_ex_conclude_r  cn P fa p0 tf fp cd fx tf' fp' cd' fx') : TK tf tf' := by
  obtain ⟨k, h⟩ := h
  exact tke_ex_conclude_r  k _ _ _ _ _ _ _ _ _ _ h
theorem tkr_ex_conclude {cn : Nat} {P : va_W} {fo : Option Nat} {p0 : Int32} {tf fp cd fx tf' fp' cd' fx' : Nat → Int32} (h : R_ex_conclude cn P fo p0 tf fp cd fx tf' fp' cd' fx') : TK tf tf' := by
  cases fo with
  | none => exact tkr_ex_conclude_n (p0 := p0) h
  | some fa => exact tkr_ex_conclude_r (p0 := p0) h
