theorem cn_of {x : Int32} {t : Nat} (h : x.toInt = (t : Int)) : x.toNatClampNeg = t := by
  have := cl_nat (x := x) (by omega)
  omega
theorem ti_add {x y z : Int32} {a b : Int} (e : z = x + y) (hx : x.toInt = a) (hy : y.toInt = b) (h0 : -2147483648 ≤ a + b) (h1 : a + b < 2147483648) : z.toInt = a + b := by
  rw [e, i_add, hx, hy]
  omega
theorem ti_sub {x y z : Int32} {a b : Int} (e : z = x - y) (hx : x.toInt = a) (hy : y.toInt = b) (h0 : -2147483648 ≤ a - b) (h1 : a - b < 2147483648) : z.toInt = a - b := by
  rw [e, i_sub, hx, hy]
  omega
/-- the cursor stands at token t of c, o are open, nothing has failed -/
def Cur (tf : Nat → Int32) (c t : Nat) (o : Int) : Prop := (tf 10).toInt = (c : Int) ∧ (tf 13).toInt = (t : Int) ∧ (tf 14).toInt = o ∧ (tf 15).toInt = 0 ∧ t < c ∧ c ≤ 2049 ∧ 0 ≤ o ∧ o ≤ 61
/-- it has failed -/
def Flq (tf : Nat → Int32) : Prop := (tf 15).toInt = 1
/-- all but the cursor's own stays: now 13, open 14, failed 15, failedAt 16 -/
def SmC (tf tf' : Nat → Int32) : Prop := ∀ i : Nat, i ≠ 13 → i ≠ 14 → i ≠ 15 → i ≠ 16 → tf' i = tf i
theorem SmC.rf {tf : Nat → Int32} : SmC tf tf := fun _ _ _ _ _ => rfl
theorem SmC.tr {a b c : Nat → Int32} (h : SmC a b) (k : SmC b c) : SmC a c := fun i h1 h2 h3 h4 => (k i h1 h2 h3 h4).trans (h i h1 h2 h3 h4)
/-- the last token is the end, or one that can't stand -/
def Lst0 (ta : Nat → Nat → Int32) (c : Nat) : Prop := ∀ i : Nat, i + 1 = c → (ta 0 i).toInt = 0 ∨ (ta 0 i).toInt = 19
theorem kind_cur {ta : Nat → Nat → Int32} {tf : Nat → Int32} {v : Int32} {c t : Nat} {o : Int} (h : R_tk_kind ta tf v) (hc : Cur tf c t o) : v = ta 0 t := by
  obtain ⟨a, b, c1, d, e1, -⟩ := hc
  rcases h with (⟨h1, -⟩ | ⟨-, ⟨-, z, e, e'⟩ | ⟨h2, -⟩⟩) | h
  · exact absurd d h1
  · rw [e', e, cn_of b]
  · exact absurd (by omega) h2
  · exact h.elim
theorem kind_fl {ta : Nat → Nat → Int32} {tf : Nat → Int32} {v : Int32} (h : R_tk_kind ta tf v) (hf : Flq tf) : v = 19 := by
  unfold Flq at hf
  rcases h with (⟨-, e⟩ | ⟨h1, -⟩) | h
  · exact e
  · omega
  · exact h.elim
theorem step_cur {tf tf' : Nat → Int32} {c t : Nat} {o : Int} (h : R_tk_step tf tf') (hc : Cur tf c t o) (hl : t + 1 < c) : Cur tf' c (t + 1) o ∧ SmC tf tf' := by
  obtain ⟨a, b, c1, d, e1, e2, e3, e4⟩ := hc
  rcases h with ⟨z, ez, ⟨h1, -⟩ | ⟨-, y, ey, e⟩⟩ | h
  · have hz := ti_sub ez a (show (1 : Int32).toInt = 1 from rfl) (by omega) (by omega)
    exact absurd h1 (by omega)
  · have hy := ti_add ey b (show (1 : Int32).toInt = 1 from rfl) (by omega) (by omega)
    rw [e]
    refine ⟨⟨?_, ?_, ?_, ?_, hl, e2, e3, e4⟩, fun i h13 _ _ _ => pk_un h13⟩
    · rw [pk_un (by decide)]; exact a
    · rw [pk_us]; omega
    · rw [pk_un (by decide)]; exact c1
    · rw [pk_un (by decide)]; exact d
  · exact h.elim
theorem step_fl {tf tf' : Nat → Int32} (h : R_tk_step tf tf') (hf : Flq tf) : Flq tf' ∧ SmC tf tf' := by
  rcases h with ⟨z, -, ⟨-, e⟩ | ⟨-, y, -, e⟩⟩ | h
  · rw [e]; exact ⟨hf, SmC.rf⟩
  · rw [e]; exact ⟨by unfold Flq; rw [pk_un (by decide)]; exact hf, fun i h13 _ _ _ => pk_un h13⟩
  · exact h.elim
theorem fail_r {ta : Nat → Nat → Int32} {tf tf' : Nat → Int32} (h : R_tk_fail ta tf tf') (hb : (tf 15).toInt = 0 ∨ Flq tf) : Flq tf' ∧ SmC tf tf' := by
  rcases h with (⟨h1, e⟩ | ⟨-, ⟨-, e⟩ | ⟨-, z, -, e⟩⟩) | h
  · rw [e]
    exact ⟨hb.elim (fun q => absurd q h1) id, SmC.rf⟩
  · rw [e]
    exact ⟨by unfold Flq; rw [pk_un (by decide), pk_us]; rfl, fun i _ _ h15 h16 => by rw [pk_un h16, pk_un h15]⟩
  · rw [e]
    exact ⟨by unfold Flq; rw [pk_un (by decide), pk_us]; rfl, fun i _ _ h15 h16 => by rw [pk_un h16, pk_un h15]⟩
  · exact h.elim
theorem accept_cur {ta : Nat → Nat → Int32} {tf tf' : Nat → Int32} {p0 v : Int32} {c t : Nat} {o : Int} (h : R_tk_accept ta p0 tf tf' v) (hc : Cur tf c t o) (hl : Lst0 ta c) (h0 : p0.toInt ≠ 0) (h19 : p0.toInt ≠ 19) :
    (ta 0 t = p0 ∧ v = 1 ∧ Cur tf' c (t + 1) o ∧ SmC tf tf') ∨ (¬ ta 0 t = p0 ∧ v = 0 ∧ tf' = tf) := by
  rcases h with ⟨k, hk, ⟨h1, e, ev⟩ | ⟨h1, t1, hs, e, ev⟩⟩ | h
  · rw [kind_cur hk hc] at h1
    exact Or.inr ⟨fun q => h1 (by rw [q]), ev, e⟩
  · rw [kind_cur hk hc] at h1
    have hlt : t + 1 < c := by
      rcases Nat.lt_or_ge (t + 1) c with q | q
      · exact q
      · have := hc.2.2.2.2.1
        have := hl t (by omega)
        omega
    rw [e]
    exact Or.inl ⟨i_eq.mpr h1, ev, step_cur hs hc hlt⟩
  · exact h.elim
theorem expect_cur {ta : Nat → Nat → Int32} {tf tf' : Nat → Int32} {p0 : Int32} {c t : Nat} {o : Int} (h : R_tk_expect ta p0 tf tf') (hc : Cur tf c t o) (hl : Lst0 ta c) (h0 : p0.toInt ≠ 0) (h19 : p0.toInt ≠ 19) :
    ((ta 0 t = p0 ∧ Cur tf' c (t + 1) o) ∨ (¬ ta 0 t = p0 ∧ Flq tf')) ∧ SmC tf tf' := by
  rcases h with ⟨k, hk, ⟨h1, t1, hs, e⟩ | ⟨h1, t1, hs, e⟩⟩ | h
  · rw [kind_cur hk hc] at h1
    rw [e]
    have := fail_r hs (Or.inl hc.2.2.2.1)
    exact ⟨Or.inr ⟨fun q => h1 (by rw [q]), this.1⟩, this.2⟩
  · rw [kind_cur hk hc] at h1
    have hlt : t + 1 < c := by
      rcases Nat.lt_or_ge (t + 1) c with q | q
      · exact q
      · have := hc.2.2.2.2.1
        have := hl t (by omega)
        omega
    rw [e]
    have := step_cur hs hc hlt
    exact ⟨Or.inl ⟨i_eq.mpr h1, this.1⟩, this.2⟩
  · exact h.elim
theorem lst_lt {ta : Nat → Nat → Int32} {tf : Nat → Int32} {p0 : Int32} {c t : Nat} {o : Int} (hc : Cur tf c t o) (hl : Lst0 ta c) (h0 : p0.toInt ≠ 0) (h19 : p0.toInt ≠ 19) (e : (ta 0 t).toInt = p0.toInt) : t + 1 < c := by
  rcases Nat.lt_or_ge (t + 1) c with q | q
  · exact q
  · have := hc.2.2.2.2.1
    have := hl t (by omega)
    omega
theorem open_cur {ta : Nat → Nat → Int32} {tf tf' : Nat → Int32} {p0 : Int32} {c t : Nat} {o : Int} (h : R_tk_open ta p0 tf tf') (hc : Cur tf c t o) (hl : Lst0 ta c) (h0 : p0.toInt ≠ 0) (h19 : p0.toInt ≠ 19) :
    (ta 0 t = p0 ∧ o < 60 ∧ Cur tf' c (t + 1) (o + 1)) ∨ (¬ (ta 0 t = p0 ∧ o < 60) ∧ Flq tf') := by
  have hc1 := hc.2.2.1
  have hc8 := hc.2.2.2.2.2.2.1
  rcases h with ⟨k, hk, ⟨h1, t1, hs, e⟩ | ⟨h1, ⟨h2, t1, hs, e⟩ | ⟨h2, z, ez, t1, hs, e⟩⟩⟩ | h
  · rw [kind_cur hk hc] at h1
    rw [e]
    exact Or.inr ⟨fun q => h1 (by rw [q.1]), (fail_r hs (Or.inl hc.2.2.2.1)).1⟩
  · rw [e]
    exact Or.inr ⟨fun q => by have := q.2; omega, (fail_r hs (Or.inl hc.2.2.2.1)).1⟩
  · rw [kind_cur hk hc] at h1
    have hlt := lst_lt hc hl h0 h19 h1
    have hz := ti_add ez hc1 (show (1 : Int32).toInt = 1 from rfl) (by omega) (by omega)
    obtain ⟨a, b, c1, d, e1, e2, e3, e4⟩ := hc
    have hu : Cur (upd tf 14 z) c t (o + 1) := by
      refine ⟨?_, ?_, ?_, ?_, e1, e2, by omega, by omega⟩
      · rw [pk_un (by decide)]; exact a
      · rw [pk_un (by decide)]; exact b
      · rw [pk_us]; exact hz
      · rw [pk_un (by decide)]; exact d
    rw [e]
    exact Or.inl ⟨i_eq.mpr h1, by omega, (step_cur hs hu hlt).1⟩
  · exact h.elim
theorem openB_cur {ta : Nat → Nat → Int32} {tf tf' : Nat → Int32} {p0 : Int32} {c t : Nat} {o d : Int} (h : R_tk_openBehind ta p0 tf tf') (hc : Cur tf c t o) (hd : p0.toInt = d) (hd0 : 0 ≤ d) (hd1 : d ≤ 3000) (hlt : t + 1 < c) :
    (o + d < 60 ∧ Cur tf' c (t + 1) (o + 1)) ∨ (¬ o + d < 60 ∧ Flq tf') := by
  have hc1 := hc.2.2.1
  have hc7 := hc.2.2.2.2.2.2.1
  have hc8 := hc.2.2.2.2.2.2.2
  rcases h with ⟨y, ey, ⟨h1, t1, hs, e⟩ | ⟨h1, ⟨h2, t1, hs, e⟩ | ⟨h2, z, ez, t1, hs, e⟩⟩⟩ | h
  · have hy := ti_add ey hc1 hd (by omega) (by omega)
    rw [e]
    exact Or.inr ⟨by omega, (fail_r hs (Or.inl hc.2.2.2.1)).1⟩
  · exact absurd hc.2.2.2.1 h2
  · have hy := ti_add ey hc1 hd (by omega) (by omega)
    have hz := ti_add ez hc1 (show (1 : Int32).toInt = 1 from rfl) (by omega) (by omega)
    obtain ⟨a, b, c1, d1, e1, e2, e3, e4⟩ := hc
    have hu : Cur (upd tf 14 z) c t (o + 1) := by
      refine ⟨?_, ?_, ?_, ?_, e1, e2, by omega, by omega⟩
      · rw [pk_un (by decide)]; exact a
      · rw [pk_un (by decide)]; exact b
      · rw [pk_us]; exact hz
      · rw [pk_un (by decide)]; exact d1
    rw [e]
    exact Or.inl ⟨by omega, (step_cur hs hu hlt).1⟩
  · exact h.elim
theorem close_cur {ta : Nat → Nat → Int32} {tf tf' : Nat → Int32} {p0 : Int32} {c t : Nat} {o : Int} (h : R_tk_close ta p0 tf tf') (hc : Cur tf c t o) (ho : 1 ≤ o) (hl : Lst0 ta c) (h0 : p0.toInt ≠ 0) (h19 : p0.toInt ≠ 19) :
    (ta 0 t = p0 ∧ Cur tf' c (t + 1) (o - 1)) ∨ (¬ ta 0 t = p0 ∧ Flq tf') := by
  rcases h with ⟨k, hk, ⟨h1, t1, hs, z, ez, e⟩ | ⟨h1, t1, hs, z, ez, e⟩⟩ | h
  · rw [kind_cur hk hc] at h1
    rw [e]
    have := (fail_r hs (Or.inl hc.2.2.2.1)).1
    exact Or.inr ⟨fun q => h1 (by rw [q]), by unfold Flq; rw [pk_un (by decide)]; exact this⟩
  · rw [kind_cur hk hc] at h1
    obtain ⟨a, b, c1, d, e1, e2, e3, e4⟩ := (step_cur hs hc (lst_lt hc hl h0 h19 h1)).1
    have hz := ti_sub ez c1 (show (1 : Int32).toInt = 1 from rfl) (by omega) (by omega)
    rw [e]
    refine Or.inl ⟨i_eq.mpr h1, ?_, ?_, ?_, ?_, e1, e2, by omega, by omega⟩
    · rw [pk_un (by decide)]; exact a
    · rw [pk_un (by decide)]; exact b
    · rw [pk_us]; exact hz
    · rw [pk_un (by decide)]; exact d
  · exact h.elim
theorem shut_cur {tf tf' : Nat → Int32} {c t : Nat} {o : Int} (h : R_tk_shut tf tf') (hc : Cur tf c t o) (ho : 1 ≤ o) : Cur tf' c t (o - 1) := by
  rcases h with ⟨z, ez, e⟩ | h
  · obtain ⟨a, b, c1, d, e1, e2, e3, e4⟩ := hc
    have hz := ti_sub ez c1 (show (1 : Int32).toInt = 1 from rfl) (by omega) (by omega)
    rw [e]
    refine ⟨?_, ?_, ?_, ?_, e1, e2, by omega, by omega⟩
    · rw [pk_un (by decide)]; exact a
    · rw [pk_un (by decide)]; exact b
    · rw [pk_us]; exact hz
    · rw [pk_un (by decide)]; exact d
  · exact h.elim
theorem stepB_cur {ta : Nat → Nat → Int32} {tf tf' : Nat → Int32} {p0 : Int32} {c t : Nat} {o d : Int} (h : R_tk_stepBehind ta p0 tf tf') (hc : Cur tf c t o) (hd : p0.toInt = d) (hd0 : 0 ≤ d) (hd1 : d ≤ 3000) (hlt : t + 1 < c) :
    (o + d < 60 ∧ Cur tf' c (t + 1) o) ∨ (¬ o + d < 60 ∧ Flq tf') := by
  have hc1 := hc.2.2.1
  have hc7 := hc.2.2.2.2.2.2.1
  have hc8 := hc.2.2.2.2.2.2.2
  rcases h with ⟨y, ey, ⟨h1, t1, hs, e⟩ | ⟨h1, t1, hs, e⟩⟩ | h
  · have hy := ti_add ey hc1 hd (by omega) (by omega)
    rw [e]
    exact Or.inr ⟨by omega, (fail_r hs (Or.inl hc.2.2.2.1)).1⟩
  · have hy := ti_add ey hc1 hd (by omega) (by omega)
    rw [e]
    exact Or.inl ⟨by omega, (step_cur hs hc hlt).1⟩
  · exact h.elim
