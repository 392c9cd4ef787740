/-! both: the class's numbers of names, figures and strings are what the reference's text asks -/
section TN
variable {tf : Nat → Int32} {ta a : Nat → Nat → Int32} {f : Nat → Int32} {b : Nat → Int} {n c c' Q t j : Nat} {NL R' : List (List Int)}
/-- the names that are there before any text -/
def RS0 : List (List Int) := (List.range 10).map owW ++ [mnW]
set_option maxRecDepth 100000 in
theorem rs_ix : ∀ j : Nat, j < 11 → fIx ((KWL ++ RS0).getD (15 + j) []) (KWL ++ RS0) = 15 + j := by decide
set_option maxRecDepth 100000 in
theorem rs_len : (KWL ++ RS0).length = 26 := by decide
set_option maxRecDepth 100000 in
theorem rs_ow : ∀ j : Nat, j < 10 → (KWL ++ RS0).getD (15 + j) [] = owW j := by decide
set_option maxRecDepth 100000 in
theorem rs_mn : (KWL ++ RS0).getD 25 [] = mnW := by decide
theorem gv_nm {e : FnE} (h : GV[j]? = some e) : e.1.toInt = 15 + (j : Int) := by
  have hj : j < 10 := (List.getElem?_eq_some_iff.mp h).1
  have c : j = 0 ∨ j = 1 ∨ j = 2 ∨ j = 3 ∨ j = 4 ∨ j = 5 ∨ j = 6 ∨ j = 7 ∨ j = 8 ∨ j = 9 := by omega
  rcases c with rfl | rfl | rfl | rfl | rfl | rfl | rfl | rfl | rfl | rfl
  all_goals
    injection h with h
    rw [← h]
    rfl
/-- kind 16: a word -/
theorem lx_isl (h : LxR b n tf ta c) (ht : t < c) (k16 : lxK KWL b n (posN b n t) = 16) : isL (b (posN b n t)) = true := by
  obtain ⟨-, -, h1 | h1 | ⟨-, -, -, -, h1 | h1 | h1 | h1 | h1⟩⟩ := h.2.2.2.1 t ht
  · exfalso; omega
  · exfalso; omega
  · exact h1.2.1
  · exact h1.2.1
  · exfalso; omega
  · exfalso; omega
  · obtain ⟨-, k', k1, -, k2, -⟩ := h1
    have := mkC_b k' k1
    exfalso; omega
theorem lx_wd (h : isL (b (posN b n t)) = true) : wdI b n t = wdL b (posN b n t) (nmE b (n - posN b n t) (posN b n t)) := by
  have e : lxE b n (posN b n t) = nmE b (n - posN b n t) (posN b n t) := by unfold lxE; rw [if_pos h]
  unfold wdI
  rw [e]
/-- the number of a word of the text -/
theorem nm_ix (hx : LxR b n tf ta c) (h : LxC KWL b n f a c NL Q) (ht : t < c) (k16 : lxK KWL b n (posN b n t) = 16) : (a 2 t).toInt = ((fIx (wdI b n t) NL : Nat) : Int) ∧ fIx (wdI b n t) NL < NL.length := by
  have hl := lx_isl hx ht k16
  rw [lx_wd hl]
  exact (h.2.2.2.1 t ht).2.1 hl (by omega)
theorem ix_w {w : List Int} (hNL : NL = KWL ++ RS0 ++ R') (hj : j < 11) (hw : fIx w NL < NL.length) : fIx w NL = 15 + j ↔ w = (KWL ++ RS0).getD (15 + j) [] := by
  have l26 := rs_len
  have i1 := rs_ix j hj
  have i2 : fIx ((KWL ++ RS0).getD (15 + j) []) NL = 15 + j := by
    rw [hNL, fIx_ap (by rw [i1, l26]; omega), i1]
  constructor
  · intro q
    have g1 := fIx_get hw
    have g2 := fIx_get (w := (KWL ++ RS0).getD (15 + j) []) (NL := NL) (by rw [i2]; omega)
    rw [q] at g1
    rw [i2, g1] at g2
    exact Option.some.inj g2
  · intro q
    rw [q]; exact i2
theorem nv_c (hx : LxR b n tf ta c) (h : LxC KWL b n f a c' NL Q) (hNL : NL = KWL ++ RS0 ++ R') (hs : ∀ i : Nat, i < c' → b (posN b n i) = 34 → ¬ lxK KWL b n (posN b n i) = 19 → (a 2 i).toInt < 2048) : (∀ i : Nat, i < c → kd a i = lxK KWL b n (posN b n i)) ∧ NmV b n c (vd a) ∧ NuV b n c (vd a) (qlS a) := by
  have ec : c = c' := lxc_u (lxc0 hx) ⟨h.2.1, h.2.2.2.2.1, h.2.2.2.2.2.1⟩
  subst ec
  have tk := h.2.2.2.1
  refine ⟨fun i hi => (tk i hi).1, ⟨fun s t hs' ht k1 k2 => ?_, fun t ht k16 j e he => ?_, fun t ht k16 => ?_⟩, fun t ht k17 => ?_, fun t ht k18 => ?_⟩
  · obtain ⟨s1, s2⟩ := nm_ix hx h hs' k1
    obtain ⟨t1, t2⟩ := nm_ix hx h ht k2
    show a 2 s = a 2 t ↔ _
    constructor
    · intro q
      have q' : fIx (wdI b n s) NL = fIx (wdI b n t) NL := by rw [q] at s1; omega
      have g1 := fIx_get s2
      have g2 := fIx_get t2
      rw [q', g2] at g1
      exact (Option.some.inj g1).symm
    · intro q
      rw [q] at s1
      exact Int32.toInt_inj.mp (by omega)
  · obtain ⟨t1, t2⟩ := nm_ix hx h ht k16
    have hj := (gv_at he).2
    have en := gv_nm he
    rw [← rs_ow j hj, ← ix_w hNL (by omega) t2]
    show a 2 t = e.1 ↔ _
    constructor
    · intro q; rw [q] at t1; omega
    · intro q; exact Int32.toInt_inj.mp (by omega)
  · obtain ⟨t1, t2⟩ := nm_ix hx h ht k16
    have w := ix_w (j := 10) hNL (by omega) t2
    rw [show 15 + 10 = 25 from rfl, rs_mn] at w
    rw [← w]
    show a 2 t = 25 ↔ _
    have e25 : (25 : Int32).toInt = 25 := rfl
    constructor
    · intro q; rw [q] at t1; omega
    · intro q; exact Int32.toInt_inj.mp (by omega)
  · obtain ⟨-, -, h1 | h1 | ⟨-, -, -, -, h1 | h1 | h1 | h1 | h1⟩⟩ := hx.2.2.2.1 t ht
    · exfalso; omega
    · exfalso; omega
    · exfalso; omega
    · exfalso; obtain ⟨-, -, a1, a2⟩ := h1; omega
    · obtain ⟨-, -, g⟩ := h1
      rcases g with ⟨g1, -⟩ | ⟨g1, -⟩
      · exact Or.inl ⟨g1, (tk t ht).2.2.1 g1 (by omega)⟩
      · exact Or.inr ⟨g1, (tk t ht).2.2.2.1 g1 (by omega)⟩
    · exfalso; omega
    · obtain ⟨-, k', k1, -, k2, -⟩ := h1
      have := mkC_b k' k1
      exfalso; omega
  · obtain ⟨-, -, h1 | h1 | ⟨-, -, -, -, h1 | h1 | h1 | h1 | h1⟩⟩ := hx.2.2.2.1 t ht
    · exfalso; omega
    · exfalso; omega
    · exfalso; omega
    · exfalso; obtain ⟨-, -, a1, a2⟩ := h1; omega
    · exfalso; omega
    · obtain ⟨-, -, g, -⟩ := h1
      obtain ⟨q, q1, q2, q3⟩ := (tk t ht).2.2.2.2 g (by omega)
      have q4 := hs t ht g (by omega)
      unfold qlS
      rw [if_pos ⟨by omega, q4⟩, cn_of q2]
      exact q3
    · obtain ⟨-, k', k1, -, k2, -⟩ := h1
      have := mkC_b k' k1
      exfalso; omega
/-- the count, for the class's cursor -/
theorem lst_c (h : LxC KWL b n f a c NL Q) (hn : n ≤ 2048) : (f 10).toInt = (c : Int) ∧ 1 ≤ c ∧ c ≤ 2049 ∧ Lst0 a c ∧ (c : Int) ≤ (n : Int) + 1 := by
  obtain ⟨h1, h2, h3, h4, h5, h6, h7⟩ := h
  refine ⟨h1, h2, by omega, fun i hi => ?_, by omega⟩
  have e : i = c - 1 := by omega
  rw [e, (h4 (c - 1) (by omega)).1]
  exact h6
end TN
