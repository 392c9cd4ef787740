/-- nothing is wrong yet; something is -/
def Un (tf : Nat → Int32) : Prop := (tf 18).toInt = 0 ∧ (tf 17).toInt = (tf 10).toInt
def Bd (tf : Nat → Int32) : Prop := (tf 18).toInt ≠ 0
/-- what is wrong stays wrong -/
def BK (a b : Nat → Int32) : Prop := Bd a → Bd b
def okB (k : Nat) : Bool := k != 18
def okS (k : Nat) : Bool := k == 13 || k == 14 || k == 15 || k == 16
theorem BK.rf {a : Nat → Int32} : BK a a := id
theorem BK.tr {a b c : Nat → Int32} (h : BK a b) (k : BK b c) : BK a c := fun x => k (h x)
theorem BK.up {a b : Nat → Int32} (h : BK a b) {k : Nat} {v : Int32} (hk : okB k = true) : BK a (upd b k v) := by
  intro x
  have e : k ≠ 18 := by simpa [okB] using hk
  unfold Bd
  rw [pk_un (Ne.symm e)]
  exact h x
theorem SmC.up {a b : Nat → Int32} (h : SmC a b) {k : Nat} {v : Int32} (hk : okS k = true) : SmC a (upd b k v) := by
  intro i h1 h2 h3 h4
  have e : k = 13 ∨ k = 14 ∨ k = 15 ∨ k = 16 := by simpa [okS, or_assoc] using hk
  rw [pk_un (by omega)]
  exact h i h1 h2 h3 h4
theorem SmC.un {a b : Nat → Int32} (h : SmC a b) (u : Un a) : Un b := by
  unfold Un at *
  rw [h 18 (by decide) (by decide) (by decide) (by decide), h 17 (by decide) (by decide) (by decide) (by decide), h 10 (by decide) (by decide) (by decide) (by decide)]
  exact u
theorem SmC.bd {a b : Nat → Int32} (h : SmC a b) (u : Bd a) : Bd b := by
  unfold Bd at *
  rw [h 18 (by decide) (by decide) (by decide) (by decide)]
  exact u
/-- all stays but what is wrong -/
def SmB (a b : Nat → Int32) : Prop := ∀ i : Nat, i ≠ 17 → i ≠ 18 → b i = a i
theorem SmB.rf {a : Nat → Int32} : SmB a a := fun _ _ _ => rfl
theorem SmB.tr {a b c : Nat → Int32} (h : SmB a b) (k : SmB b c) : SmB a c := fun i h1 h2 => (k i h1 h2).trans (h i h1 h2)
theorem SmB.cur {a b : Nat → Int32} {c t : Nat} {o : Int} (h : SmB a b) (hc : Cur a c t o) : Cur b c t o := by
  obtain ⟨p, q, r, s, u⟩ := hc
  refine ⟨?_, ?_, ?_, ?_, u⟩
  · rw [h 10 (by decide) (by decide)]; exact p
  · rw [h 13 (by decide) (by decide)]; exact q
  · rw [h 14 (by decide) (by decide)]; exact r
  · rw [h 15 (by decide) (by decide)]; exact s
theorem SmB.fl {a b : Nat → Int32} (h : SmB a b) (hf : Flq a) : Flq b := by
  unfold Flq at *
  rw [h 15 (by decide) (by decide)]
  exact hf
theorem blame_b {p0 p1 : Int32} {a b : Nat → Int32} (h : R_tk_blame p0 p1 a b) : SmB a b := by
  rcases h with (⟨h1, e0⟩ | ⟨h1, (⟨h2, e0⟩ | ⟨h2, (⟨h3, e0⟩ | ⟨h3, e0⟩)⟩)⟩) | h
  · rw [e0]; intro i h17 h18; rw [pk_un h18, pk_un h17]
  · rw [e0]; exact SmB.rf
  · rw [e0]; exact SmB.rf
  · rw [e0]; intro i h17 h18; rw [pk_un h18, pk_un h17]
  · exact h.elim
theorem bkr_tk_blame {p0 p1 : Int32} {tf tf' : Nat → Int32} (hp : p0.toInt ≠ 0) (h : R_tk_blame p0 p1 tf tf') : BK tf tf' := by
  intro x
  rcases h with (⟨h1, e0⟩ | ⟨h1, (⟨h2, e0⟩ | ⟨h2, (⟨h3, e0⟩ | ⟨h3, e0⟩)⟩)⟩) | h
  · rw [e0]; unfold Bd; rw [pk_us]; exact hp
  · rw [e0]; exact x
  · rw [e0]; exact x
  · rw [e0]; unfold Bd; rw [pk_us]; exact hp
  · exact h.elim
theorem blame_un {p0 p1 : Int32} {a b : Nat → Int32} (h : R_tk_blame p0 p1 a b) (hp : p0.toInt ≠ 0) (ht : p1.toInt < (a 10).toInt) (u : Un a) : Bd b := by
  obtain ⟨u1, u2⟩ := u
  rcases h with (⟨h1, e0⟩ | ⟨h1, (⟨h2, e0⟩ | ⟨h2, (⟨h3, e0⟩ | ⟨h3, e0⟩)⟩)⟩) | h
  · rw [e0]; unfold Bd; rw [pk_us]; exact hp
  · exact absurd (by omega) h1
  · omega
  · rw [e0]; unfold Bd; rw [pk_us]; exact hp
  · exact h.elim
/-- a step of what is right or wrong: x tells -/
def AT {α : Type} (a b : Nat → Int32) (x : Option α) (M : α → Prop) : Prop := Un a → match x with
  | none => Bd b
  | some y => Un b ∧ M y
theorem AT.sm {α : Type} {a b d : Nat → Int32} {x : Option α} {M : α → Prop} (h : SmC a b) (k : AT b d x M) : AT a d x M := fun u => k (SmC.un h u)
theorem AT.ms {α : Type} {a b d : Nat → Int32} {x : Option α} {M : α → Prop} (k : AT a b x M) (h : SmC b d) : AT a d x M := by
  intro u
  have q := k u
  cases x with
  | none => exact SmC.bd h q
  | some y => exact ⟨SmC.un h q.1, q.2⟩
theorem AT.bd {α : Type} {a b d : Nat → Int32} {M : α → Prop} (k : AT a b none M) (h : BK b d) {N : α → Prop} : AT a d none N := fun u => h (k u)
theorem AT.bind {α β : Type} {a b d : Nat → Int32} {x : Option α} {f : α → Option β} {M : α → Prop} {N : β → Prop} (k : AT a b x M) (l : ∀ y, M y → AT b d (f y) N) (m : BK b d) : AT a d (x.bind f) N := by
  intro u
  have q := k u
  cases x with
  | none => exact m q
  | some y => exact l y q.2 q.1
theorem AT.imp {α : Type} {a b : Nat → Int32} {x : Option α} {M N : α → Prop} (k : AT a b x M) (l : ∀ y, M y → N y) : AT a b x N := by
  intro u
  have q := k u
  cases x with
  | none => exact q
  | some y => exact ⟨q.1, l y q.2⟩
theorem AT.ret {α : Type} {a : Nat → Int32} {y : α} {N : α → Prop} (h : N y) : AT a a (some y) N := fun u => ⟨u, h⟩
theorem AT.bad {α : Type} {p0 p1 : Int32} {a b : Nat → Int32} {M : α → Prop} (h : R_tk_blame p0 p1 a b) (hp : p0.toInt ≠ 0) (ht : p1.toInt < (a 10).toInt) : AT a b none M := fun u => blame_un h hp ht u
theorem smr_tk_step  {tf : Nat → Int32} {tf' : Nat → Int32}  (h : R_tk_step   tf tf') : SmC tf tf' := by
  rcases h with ⟨z2, h1, (⟨h2, e0⟩ | ⟨h2, z6, h3, e0⟩)⟩ | h
  · rw [e0]; exact SmC.rf
  · rw [e0]; exact (SmC.up SmC.rf (by decide : okS 13 = true))
  · exact h.elim
theorem smr_tk_fail  {ta : Nat → Nat → Int32} {tf : Nat → Int32} {tf' : Nat → Int32}  (h : R_tk_fail  ta tf tf') : SmC tf tf' := by
  rcases h with (⟨h1, e0⟩ | ⟨h1, (⟨h2, e0⟩ | ⟨h2, z5, h3, e0⟩)⟩) | h
  · rw [e0]; exact SmC.rf
  · rw [e0]; exact (SmC.up (SmC.up SmC.rf (by decide : okS 15 = true)) (by decide : okS 16 = true))
  · rw [e0]; exact (SmC.up (SmC.up SmC.rf (by decide : okS 15 = true)) (by decide : okS 16 = true))
  · exact h.elim
theorem smr_tk_accept  {ta : Nat → Nat → Int32} {p0 : Int32} {tf : Nat → Int32} {tf' : Nat → Int32} {v : Int32}  (h : R_tk_accept  ta p0 tf tf' v) : SmC tf tf' := by
  rcases h with ⟨v2, h1, (⟨h2, e0, ev⟩ | ⟨h2, tf10, h3, e0, ev⟩)⟩ | h
  · rw [e0]; exact SmC.rf
  · rw [e0]; exact (SmC.tr SmC.rf (smr_tk_step h3))
  · exact h.elim
theorem smr_tk_expect  {ta : Nat → Nat → Int32} {p0 : Int32} {tf : Nat → Int32} {tf' : Nat → Int32}  (h : R_tk_expect  ta p0 tf tf') : SmC tf tf' := by
  rcases h with ⟨v2, h1, (⟨h2, tf8, h3, e0⟩ | ⟨h2, tf17, h3, e0⟩)⟩ | h
  · rw [e0]; exact (SmC.tr SmC.rf (smr_tk_fail h3))
  · rw [e0]; exact (SmC.tr SmC.rf (smr_tk_step h3))
  · exact h.elim
theorem smr_tk_open  {ta : Nat → Nat → Int32} {p0 : Int32} {tf : Nat → Int32} {tf' : Nat → Int32}  (h : R_tk_open  ta p0 tf tf') : SmC tf tf' := by
  rcases h with ⟨v2, h1, (⟨h2, tf8, h3, e0⟩ | ⟨h2, (⟨h3, tf19, h4, e0⟩ | ⟨h3, z29, h4, tf30, h5, e0⟩)⟩)⟩ | h
  · rw [e0]; exact (SmC.tr SmC.rf (smr_tk_fail h3))
  · rw [e0]; exact (SmC.tr SmC.rf (smr_tk_fail h4))
  · rw [e0]; exact (SmC.tr (SmC.up SmC.rf (by decide : okS 14 = true)) (smr_tk_step h5))
  · exact h.elim
theorem smr_tk_openBehind  {ta : Nat → Nat → Int32} {p0 : Int32} {tf : Nat → Int32} {tf' : Nat → Int32}  (h : R_tk_openBehind  ta p0 tf tf') : SmC tf tf' := by
  rcases h with ⟨z2, h1, (⟨h2, tf5, h3, e0⟩ | ⟨h2, (⟨h3, tf16, h4, e0⟩ | ⟨h3, z26, h4, tf27, h5, e0⟩)⟩)⟩ | h
  · rw [e0]; exact (SmC.tr SmC.rf (smr_tk_fail h3))
  · rw [e0]; exact (SmC.tr SmC.rf (smr_tk_fail h4))
  · rw [e0]; exact (SmC.tr (SmC.up SmC.rf (by decide : okS 14 = true)) (smr_tk_step h5))
  · exact h.elim
theorem smr_tk_stepBehind  {ta : Nat → Nat → Int32} {p0 : Int32} {tf : Nat → Int32} {tf' : Nat → Int32}  (h : R_tk_stepBehind  ta p0 tf tf') : SmC tf tf' := by
  rcases h with ⟨z2, h1, (⟨h2, tf5, h3, e0⟩ | ⟨h2, tf14, h3, e0⟩)⟩ | h
  · rw [e0]; exact (SmC.tr SmC.rf (smr_tk_fail h3))
  · rw [e0]; exact (SmC.tr SmC.rf (smr_tk_step h3))
  · exact h.elim
theorem smr_tk_close  {ta : Nat → Nat → Int32} {p0 : Int32} {tf : Nat → Int32} {tf' : Nat → Int32}  (h : R_tk_close  ta p0 tf tf') : SmC tf tf' := by
  rcases h with ⟨v2, h1, (⟨h2, tf8, h3, z18, h4, e0⟩ | ⟨h2, tf19, h3, z31, h4, e0⟩)⟩ | h
  · rw [e0]; exact (SmC.up (SmC.tr SmC.rf (smr_tk_fail h3)) (by decide : okS 14 = true))
  · rw [e0]; exact (SmC.up (SmC.tr SmC.rf (smr_tk_step h3)) (by decide : okS 14 = true))
  · exact h.elim
theorem smr_tk_shut  {tf : Nat → Int32} {tf' : Nat → Int32}  (h : R_tk_shut   tf tf') : SmC tf tf' := by
  rcases h with ⟨z2, h1, e0⟩ | h
  · rw [e0]; exact (SmC.up SmC.rf (by decide : okS 14 = true))
  · exact h.elim
theorem bkr_tk_step  {tf : Nat → Int32} {tf' : Nat → Int32}  (h : R_tk_step   tf tf') : BK tf tf' := by
  rcases h with ⟨z2, h1, (⟨h2, e0⟩ | ⟨h2, z6, h3, e0⟩)⟩ | h
  · rw [e0]; exact BK.rf
  · rw [e0]; exact (BK.up BK.rf (by decide : okB 13 = true))
  · exact h.elim
theorem bkr_tk_fail  {ta : Nat → Nat → Int32} {tf : Nat → Int32} {tf' : Nat → Int32}  (h : R_tk_fail  ta tf tf') : BK tf tf' := by
  rcases h with (⟨h1, e0⟩ | ⟨h1, (⟨h2, e0⟩ | ⟨h2, z5, h3, e0⟩)⟩) | h
  · rw [e0]; exact BK.rf
  · rw [e0]; exact (BK.up (BK.up BK.rf (by decide : okB 15 = true)) (by decide : okB 16 = true))
  · rw [e0]; exact (BK.up (BK.up BK.rf (by decide : okB 15 = true)) (by decide : okB 16 = true))
  · exact h.elim
theorem bkr_tk_accept  {ta : Nat → Nat → Int32} {p0 : Int32} {tf : Nat → Int32} {tf' : Nat → Int32} {v : Int32}  (h : R_tk_accept  ta p0 tf tf' v) : BK tf tf' := by
  rcases h with ⟨v2, h1, (⟨h2, e0, ev⟩ | ⟨h2, tf10, h3, e0, ev⟩)⟩ | h
  · rw [e0]; exact BK.rf
  · rw [e0]; exact (BK.tr BK.rf (bkr_tk_step h3))
  · exact h.elim
theorem bkr_tk_expect  {ta : Nat → Nat → Int32} {p0 : Int32} {tf : Nat → Int32} {tf' : Nat → Int32}  (h : R_tk_expect  ta p0 tf tf') : BK tf tf' := by
  rcases h with ⟨v2, h1, (⟨h2, tf8, h3, e0⟩ | ⟨h2, tf17, h3, e0⟩)⟩ | h
  · rw [e0]; exact (BK.tr BK.rf (bkr_tk_fail h3))
  · rw [e0]; exact (BK.tr BK.rf (bkr_tk_step h3))
  · exact h.elim
theorem bkr_tk_open  {ta : Nat → Nat → Int32} {p0 : Int32} {tf : Nat → Int32} {tf' : Nat → Int32}  (h : R_tk_open  ta p0 tf tf') : BK tf tf' := by
  rcases h with ⟨v2, h1, (⟨h2, tf8, h3, e0⟩ | ⟨h2, (⟨h3, tf19, h4, e0⟩ | ⟨h3, z29, h4, tf30, h5, e0⟩)⟩)⟩ | h
  · rw [e0]; exact (BK.tr BK.rf (bkr_tk_fail h3))
  · rw [e0]; exact (BK.tr BK.rf (bkr_tk_fail h4))
  · rw [e0]; exact (BK.tr (BK.up BK.rf (by decide : okB 14 = true)) (bkr_tk_step h5))
  · exact h.elim
theorem bkr_tk_openBehind  {ta : Nat → Nat → Int32} {p0 : Int32} {tf : Nat → Int32} {tf' : Nat → Int32}  (h : R_tk_openBehind  ta p0 tf tf') : BK tf tf' := by
  rcases h with ⟨z2, h1, (⟨h2, tf5, h3, e0⟩ | ⟨h2, (⟨h3, tf16, h4, e0⟩ | ⟨h3, z26, h4, tf27, h5, e0⟩)⟩)⟩ | h
  · rw [e0]; exact (BK.tr BK.rf (bkr_tk_fail h3))
  · rw [e0]; exact (BK.tr BK.rf (bkr_tk_fail h4))
  · rw [e0]; exact (BK.tr (BK.up BK.rf (by decide : okB 14 = true)) (bkr_tk_step h5))
  · exact h.elim
theorem bkr_tk_stepBehind  {ta : Nat → Nat → Int32} {p0 : Int32} {tf : Nat → Int32} {tf' : Nat → Int32}  (h : R_tk_stepBehind  ta p0 tf tf') : BK tf tf' := by
  rcases h with ⟨z2, h1, (⟨h2, tf5, h3, e0⟩ | ⟨h2, tf14, h3, e0⟩)⟩ | h
  · rw [e0]; exact (BK.tr BK.rf (bkr_tk_fail h3))
  · rw [e0]; exact (BK.tr BK.rf (bkr_tk_step h3))
  · exact h.elim
theorem bkr_tk_close  {ta : Nat → Nat → Int32} {p0 : Int32} {tf : Nat → Int32} {tf' : Nat → Int32}  (h : R_tk_close  ta p0 tf tf') : BK tf tf' := by
  rcases h with ⟨v2, h1, (⟨h2, tf8, h3, z18, h4, e0⟩ | ⟨h2, tf19, h3, z31, h4, e0⟩)⟩ | h
  · rw [e0]; exact (BK.up (BK.tr BK.rf (bkr_tk_fail h3)) (by decide : okB 14 = true))
  · rw [e0]; exact (BK.up (BK.tr BK.rf (bkr_tk_step h3)) (by decide : okB 14 = true))
  · exact h.elim
theorem bkr_tk_shut  {tf : Nat → Int32} {tf' : Nat → Int32}  (h : R_tk_shut   tf tf') : BK tf tf' := by
  rcases h with ⟨z2, h1, e0⟩ | h
  · rw [e0]; exact (BK.up BK.rf (by decide : okB 14 = true))
  · exact h.elim
theorem bkr_ex_number  {cn : Nat} {P : va_W} {ox : Option Nat} {tf : Nat → Int32} {fp : Nat → Int32} {cd : Nat → Int32} {fx : Nat → Int32} {tf' : Nat → Int32} {fp' : Nat → Int32} {cd' : Nat → Int32} {fx' : Nat → Int32}  (h : R_ex_number  cn P ox tf fp cd fx tf' fp' cd' fx') : BK tf tf' := by
  rcases h with (⟨h1, (⟨h2, (⟨h3, e0, e1, e2, e3⟩ | ⟨h3, (⟨h4, e0, e1, e2, e3⟩ | ⟨q8, h4, j10, s11, h5, fp15, cd16, v18, h6, e0, e1, e2, e3⟩)⟩)⟩ | ⟨h2, tf21, h3, e0, e1, e2, e3⟩)⟩ | ⟨h1, tf30, h2, e0, e1, e2, e3⟩) | h
  · rw [e0]; exact BK.rf
  · rw [e0]; exact BK.rf
  · rw [e0]; exact BK.rf
  · rw [e0]; exact (BK.tr BK.rf (bkr_tk_blame (by decide) h3))
  · rw [e0]; exact (BK.tr BK.rf (bkr_tk_blame (by decide) h2))
  · exact h.elim
theorem bke_ex_isTarget  {ox : Option Nat} {fx : Nat → Int32}  {tf' : Nat → Int32} {v : Int32}  : ∀ (k pc_ : Nat) (ls_ : List Int32) (lw_ : List Int64) (qs_ : List (Option Nat)) (fs_ : List (Nat → Int32)) (ad_ : List Nat) (tf : Nat → Int32), E_ex_isTarget  ox fx tf' v  k pc_ ls_ lw_ qs_ fs_ ad_ tf → BK tf tf' := by
  intro k
  induction k with
  | zero => intro _ _ _ _ _ _ _ h; exact h.elim
  | succ k ih =>
    intro pc_ ls_ lw_ qs_ fs_ ad_ tf h
    rcases h with ⟨-, (⟨h1, (⟨h2, tf10, h3, hE⟩ | ⟨h2, (⟨h3, hE⟩ | ⟨h3, tf21, h4, hE⟩)⟩)⟩ | ⟨h1, tf30, h2, hE⟩)⟩ | ⟨-, -, -, -, -, -, (⟨h1, e0, ev⟩ | ⟨h1, (⟨h2, e0, ev⟩ | ⟨q4, h2, e0, ev⟩)⟩)⟩ | h
    · exact BK.tr (BK.tr BK.rf (bkr_tk_blame (by decide) h3)) (ih _ _ _ _ _ _ _ hE)
    · exact BK.tr BK.rf (ih _ _ _ _ _ _ _ hE)
    · exact BK.tr (BK.tr BK.rf (bkr_tk_blame (by decide) h4)) (ih _ _ _ _ _ _ _ hE)
    · exact BK.tr (BK.tr BK.rf (bkr_tk_blame (by decide) h2)) (ih _ _ _ _ _ _ _ hE)
    · rw [e0]; exact BK.rf
    · rw [e0]; exact BK.rf
    · rw [e0]; exact BK.rf
    · exact h.elim
theorem bkr_ex_isTarget  {ox : Option Nat} {fx : Nat → Int32} {tf : Nat → Int32} {tf' : Nat → Int32} {v : Int32}  (h : R_ex_isTarget  ox fx tf tf' v) : BK tf tf' := by
  obtain ⟨k, h⟩ := h
  exact bke_ex_isTarget  k _ _ _ _ _ _ _ h
theorem bke_ex_hand  {cn : Nat} {P : va_W} {ox : Option Nat} {fx : Nat → Int32} {p0 : Int32}  {tf' : Nat → Int32} {fp' : Nat → Int32} {cd' : Nat → Int32}  : ∀ (k pc_ : Nat) (ls_ : List Int32) (lw_ : List Int64) (qs_ : List (Option Nat)) (fs_ : List (Nat → Int32)) (ad_ : List Nat) (tf : Nat → Int32) (fp : Nat → Int32) (cd : Nat → Int32), E_ex_hand  cn P ox fx p0 tf' fp' cd'  k pc_ ls_ lw_ qs_ fs_ ad_ tf fp cd → BK tf tf' := by
  intro k
  induction k with
  | zero => intro _ _ _ _ _ _ _ _ _ h; exact h.elim
  | succ k ih =>
    intro pc_ ls_ lw_ qs_ fs_ ad_ tf fp cd h
    rcases h with ⟨-, (⟨h1, (⟨h2, (⟨h3, hE⟩ | ⟨h3, hE⟩)⟩ | ⟨h2, fp22, cd23, v25, h3, hE⟩)⟩ | ⟨h1, (⟨h2, (⟨h3, hE⟩ | ⟨h3, (⟨h4, hE⟩ | ⟨q33, h4, (⟨h5, j37, s38, h6, fp42, cd43, v45, h7, hE⟩ | ⟨h5, v49, h6, z51, h7, (⟨h8, hE⟩ | ⟨h8, j54, s55, h9, fp59, cd60, v62, h10, hE⟩)⟩)⟩)⟩)⟩ | ⟨h2, fp67, cd68, v70, h3, hE⟩)⟩)⟩ | ⟨-, -, -, -, -, -, (⟨h1, hE⟩ | ⟨h1, (⟨h2, hE⟩ | ⟨h2, tf5, h3, hE⟩)⟩)⟩ | ⟨-, -, -, -, -, -, e0, e1, e2⟩ | h
    · exact BK.tr BK.rf (ih _ _ _ _ _ _ _ _ _ hE)
    · exact BK.tr BK.rf (ih _ _ _ _ _ _ _ _ _ hE)
    · exact BK.tr BK.rf (ih _ _ _ _ _ _ _ _ _ hE)
    · exact BK.tr BK.rf (ih _ _ _ _ _ _ _ _ _ hE)
    · exact BK.tr BK.rf (ih _ _ _ _ _ _ _ _ _ hE)
    · exact BK.tr BK.rf (ih _ _ _ _ _ _ _ _ _ hE)
    · exact BK.tr BK.rf (ih _ _ _ _ _ _ _ _ _ hE)
    · exact BK.tr BK.rf (ih _ _ _ _ _ _ _ _ _ hE)
    · exact BK.tr BK.rf (ih _ _ _ _ _ _ _ _ _ hE)
    · exact BK.tr BK.rf (ih _ _ _ _ _ _ _ _ _ hE)
    · exact BK.tr BK.rf (ih _ _ _ _ _ _ _ _ _ hE)
    · exact BK.tr (BK.tr BK.rf (bkr_tk_blame (by decide) h3)) (ih _ _ _ _ _ _ _ _ _ hE)
    · rw [e0]; exact BK.rf
    · exact h.elim
theorem bkr_ex_hand  {cn : Nat} {P : va_W} {ox : Option Nat} {fx : Nat → Int32} {p0 : Int32} {tf : Nat → Int32} {fp : Nat → Int32} {cd : Nat → Int32} {tf' : Nat → Int32} {fp' : Nat → Int32} {cd' : Nat → Int32}  (h : R_ex_hand  cn P ox fx p0 tf fp cd tf' fp' cd') : BK tf tf' := by
  obtain ⟨k, h⟩ := h
  exact bke_ex_hand  k _ _ _ _ _ _ _ _ _ h
theorem bkr_ex_conclude_n  {p0 : Int32} {tf : Nat → Int32} {fp : Nat → Int32} {cd : Nat → Int32} {fx : Nat → Int32} {tf' : Nat → Int32} {fp' : Nat → Int32} {cd' : Nat → Int32} {fx' : Nat → Int32}  (h : R_ex_conclude_n  p0 tf fp cd fx tf' fp' cd' fx') : BK tf tf' := by
  rcases h with ⟨tf1, h1, e0, e1, e2, e3⟩ | h
  · rw [e0]; exact (BK.tr BK.rf (bkr_tk_blame (by decide) h1))
  · exact h.elim
theorem bke_ex_conclude_r  {cn : Nat} {P : va_W} {fa : Nat} {p0 : Int32}  {tf' : Nat → Int32} {fp' : Nat → Int32} {cd' : Nat → Int32} {fx' : Nat → Int32}  : ∀ (k pc_ : Nat) (ls_ : List Int32) (lw_ : List Int64) (qs_ : List (Option Nat)) (fs_ : List (Nat → Int32)) (ad_ : List Nat) (tf : Nat → Int32) (fp : Nat → Int32) (cd : Nat → Int32) (fx : Nat → Int32), E_ex_conclude_r  cn P fa p0 tf' fp' cd' fx'  k pc_ ls_ lw_ qs_ fs_ ad_ tf fp cd fx → BK tf tf' := by
  intro k
  induction k with
  | zero => intro _ _ _ _ _ _ _ _ _ _ h; exact h.elim
  | succ k ih =>
    intro pc_ ls_ lw_ qs_ fs_ ad_ tf fp cd fx h
    rcases h with ⟨-, jf, sf, h1, (⟨h2, hE⟩ | ⟨h2, tf65, h3, hE⟩)⟩ | ⟨-, -, -, -, -, -, jf, sf, h1, (⟨h2, (⟨h3, (⟨h4, z8, h5, fp11, cd12, v14, h6, e0, e1, e2, e3⟩ | ⟨h4, fp19, cd20, v22, h5, e0, e1, e2, e3⟩)⟩ | ⟨h3, fp27, cd28, v30, h4, e0, e1, e2, e3⟩)⟩ | ⟨h2, (⟨h3, (⟨h4, z38, h5, fp41, cd42, v44, h6, e0, e1, e2, e3⟩ | ⟨h4, fp49, cd50, v52, h5, e0, e1, e2, e3⟩)⟩ | ⟨h3, fp57, cd58, v60, h4, e0, e1, e2, e3⟩)⟩)⟩ | h
    · exact BK.tr BK.rf (ih _ _ _ _ _ _ _ _ _ _ hE)
    · exact BK.tr (BK.tr BK.rf (bkr_tk_blame (by decide) h3)) (ih _ _ _ _ _ _ _ _ _ _ hE)
    · rw [e0]; exact BK.rf
    · rw [e0]; exact BK.rf
    · rw [e0]; exact BK.rf
    · rw [e0]; exact BK.rf
    · rw [e0]; exact BK.rf
    · rw [e0]; exact BK.rf
    · exact h.elim
theorem bkr_ex_conclude_r  {cn : Nat} {P : va_W} {fa : Nat} {p0 : Int32} {tf : Nat → Int32} {fp : Nat → Int32} {cd : Nat → Int32} {fx : Nat → Int32} {tf' : Nat → Int32} {fp' : Nat → Int32} {cd' : Nat → Int32} {fx' : Nat → Int32}  (h : R_ex_conclude_r  cn P fa p0 tf fp cd fx tf' fp' cd' fx') : BK tf tf' := by
  obtain ⟨k, h⟩ := h
  exact bke_ex_conclude_r  k _ _ _ _ _ _ _ _ _ _ h
theorem bkr_ex_conclude {cn : Nat} {P : va_W} {fo : Option Nat} {p0 : Int32} {tf fp cd fx tf' fp' cd' fx' : Nat → Int32} (h : R_ex_conclude cn P fo p0 tf fp cd fx tf' fp' cd' fx') : BK tf tf' := by
  cases fo with
  | none => exact bkr_ex_conclude_n (p0 := p0) h
  | some fa => exact bkr_ex_conclude_r (p0 := p0) h
