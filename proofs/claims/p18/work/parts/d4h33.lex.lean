/-! THE LETTERS of a text: b its bytes (-1 behind them), n how many. -/
def bt (tb : Nat → Int32) (n i : Nat) : Int := if i < n then (tb i &&& 255).toInt else -1
def isL (c : Int) : Bool := decide ((97 ≤ c ∧ c ≤ 122) ∨ (65 ≤ c ∧ c ≤ 90) ∨ c = 95)
def isD (c : Int) : Bool := decide (48 ≤ c ∧ c ≤ 57)
/-- the end of a line; of a comment (or p, where it has none); d: how many bytes are left -/
def lnE (b : Nat → Int) : Nat → Nat → Nat
  | 0, i => i
  | d + 1, i => if b i = 10 then i else lnE b d (i + 1)
def cmE (b : Nat → Int) (p : Nat) : Nat → Nat → Nat
  | 0, _ => p
  | d + 1, i => if b i = 42 ∧ b (i + 1) = 47 then i + 2 else cmE b p d (i + 1)
/-- one step over blanks and comments -/
def sk1 (b : Nat → Int) (n p : Nat) : Nat := if b p = 32 ∨ b p = 9 ∨ b p = 10 ∨ b p = 13 then p + 1 else if b p = 47 ∧ b (p + 1) = 47 then lnE b (n - p) p else if b p = 47 ∧ b (p + 1) = 42 then cmE b p (n - (p + 2)) (p + 2) else p
def skp (b : Nat → Int) (n : Nat) : Nat → Nat → Nat
  | 0, p => p
  | k + 1, p => if p < sk1 b n p then skp b n k (sk1 b n p) else p
theorem bt_rng {tb : Nat → Int32} {n i : Nat} (h : i < n) : 0 ≤ bt tb n i ∧ bt tb n i ≤ 255 := by
  unfold bt
  rw [if_pos h]
  have := i_andm (tb i) (m := 255) 8 (by decide) (by decide)
  have e : (2 : Int) ^ 8 = 256 := by decide
  omega
theorem bt_end {tb : Nat → Int32} {n i : Nat} (h : n ≤ i) : bt tb n i = -1 := by
  unfold bt
  rw [if_neg (by omega)]
theorem lnE_b {b : Nat → Int} : ∀ (d i : Nat), i ≤ lnE b d i ∧ lnE b d i ≤ i + d
  | 0, i => ⟨Nat.le_refl _, Nat.le_refl _⟩
  | d + 1, i => by
    unfold lnE
    by_cases h : b i = 10
    · rw [if_pos h]; omega
    · rw [if_neg h]
      have := lnE_b (b := b) d (i + 1)
      omega
theorem cmE_b {b : Nat → Int} {p : Nat} : ∀ (d i : Nat), p ≤ i → p ≤ cmE b p d i ∧ (cmE b p d i = p ∨ (i + 2 ≤ cmE b p d i ∧ cmE b p d i ≤ i + d + 1))
  | 0, i, h => ⟨Nat.le_refl _, Or.inl rfl⟩
  | d + 1, i, h => by
    unfold cmE
    by_cases q : b i = 42 ∧ b (i + 1) = 47
    · rw [if_pos q]; omega
    · rw [if_neg q]
      have := cmE_b (b := b) (p := p) d (i + 1) (by omega)
      omega
section SU
variable {tb : Nat → Int32} {f : Nat → Int32} {n : Nat}
theorem byte_r {p0 v : Int32} {p : Nat} (hn : (f 7).toInt = (n : Int)) (hb : n ≤ 2048) (hp : p0.toInt = (p : Int)) (h : R_t2_byteAt tb f p0 v) : v.toInt = bt tb n p := by
  rcases h with (⟨h1, ev⟩ | ⟨h1, (⟨h2, ev⟩ | ⟨h2, (⟨h3, ev⟩ | ⟨h3, z7, h4, z8, h5, ev⟩)⟩)⟩) | h
  · exfalso; omega
  · rw [ev, bt_end (by omega)]; rfl
  · rw [ev, bt_end (by omega)]; rfl
  · unfold bt
    rw [ev, h5, h4, cn_of hp, if_pos (by omega)]
  · exact h.elim
theorem letter_r {p0 v : Int32} (h : R_t2_isLetter p0 v) : v.toInt = if isL p0.toInt then 1 else 0 := by
  unfold isL
  rcases h with (⟨h1, (⟨h2, (⟨h3, ev⟩ | ⟨h3, ev⟩)⟩ | ⟨h2, (⟨h3, ev⟩ | ⟨h3, (⟨h4, ev⟩ | ⟨h4, ev⟩)⟩)⟩)⟩ | ⟨h1, (⟨h2, ev⟩ | ⟨h2, (⟨h3, (⟨h4, ev⟩ | ⟨h4, ev⟩)⟩ | ⟨h3, (⟨h4, ev⟩ | ⟨h4, (⟨h5, ev⟩ | ⟨h5, ev⟩)⟩)⟩)⟩)⟩) | h
  all_goals first
    | exact h.elim
    | (rw [ev, if_neg (by simp only [decide_eq_true_eq]; omega)]; rfl)
    | (rw [ev, if_pos (by simp only [decide_eq_true_eq]; omega)]; rfl)
theorem digit_r {p0 v : Int32} (h : R_t2_isDigit p0 v) : v.toInt = if isD p0.toInt then 1 else 0 := by
  unfold isD
  rcases h with (⟨h1, ev⟩ | ⟨h1, (⟨h2, ev⟩ | ⟨h2, ev⟩)⟩) | h
  all_goals first
    | exact h.elim
    | (rw [ev, if_neg (by simp only [decide_eq_true_eq]; omega)]; rfl)
    | (rw [ev, if_pos (by simp only [decide_eq_true_eq]; omega)]; rfl)
theorem line_5 (hn : (f 7).toInt = (n : Int)) (hb : n ≤ 2048) {v : Int32} : ∀ (d i k : Nat) (x : Int32), E_t2_lineEnd tb f v k 5 [x] [] [] [] [] () → x.toInt = (i : Int) → i + d = n → v.toInt = ((lnE (bt tb n) d i : Nat) : Int) := by
  intro d
  induction d with
  | zero =>
    intro i k x h hx hd
    rcases iv_t2_lineEnd_5 h with ⟨k, (⟨h1, ev⟩ | ⟨h1, v4, h2, (⟨h3, z12, h4, hE⟩ | ⟨h3, ev⟩)⟩)⟩
    · rw [ev, hn]; show (n : Int) = (i : Int); omega
    · exfalso; omega
    · exfalso; omega
  | succ d ih =>
    intro i k x h hx hd
    have un : lnE (bt tb n) (d + 1) i = if bt tb n i = 10 then i else lnE (bt tb n) d (i + 1) := by first | rfl | simp [lnE]
    rw [un]
    rcases iv_t2_lineEnd_5 h with ⟨k, (⟨h1, ev⟩ | ⟨h1, v4, h2, (⟨h3, z12, h4, hE⟩ | ⟨h3, ev⟩)⟩)⟩
    · exfalso; omega
    · have e := byte_r hn hb hx h2
      rw [if_neg (by omega)]
      have hz := ti_add h4 hx (show (1 : Int32).toInt = 1 from rfl) (by omega) (by omega)
      exact ih (i + 1) k _ hE (by omega) (by omega)
    · have e := byte_r hn hb hx h2
      rw [if_pos (by omega), ev]; exact hx
theorem line_ok (hn : (f 7).toInt = (n : Int)) (hb : n ≤ 2048) {p : Nat} (hp : (f 8).toInt = (p : Int)) (hpn : p ≤ n) {v : Int32} (h : R_t2_lineEnd tb f v) : v.toInt = ((lnE (bt tb n) (n - p) p : Nat) : Int) := by
  obtain ⟨k, h⟩ := h
  obtain ⟨k, hE⟩ := iv_t2_lineEnd_0 h
  exact line_5 hn hb (n - p) p k _ hE hp (by omega)
theorem com_7 (hn : (f 7).toInt = (n : Int)) (hb : n ≤ 2048) {p : Nat} (hp : (f 8).toInt = (p : Int)) {v : Int32} : ∀ (d i k : Nat) (x : Int32), E_t2_commentEnd tb f v k 7 [x] [] [] [] [] () → x.toInt = (i : Int) → i + d = n ∨ (d = 0 ∧ n ≤ i) → i ≤ 5000 → v.toInt = ((cmE (bt tb n) p d i : Nat) : Int) := by
  intro d
  induction d with
  | zero =>
    intro i k x h hx hd hi
    rcases iv_t2_commentEnd_7 h with ⟨k, z2, h1, (⟨h2, ev⟩ | ⟨h2, v6, h3, (⟨h4, z14, h5, hE⟩ | ⟨h4, z15, h5, v17, h6, (⟨h7, z25, h8, hE⟩ | ⟨h7, z26, h8, ev⟩)⟩)⟩)⟩
    · rw [ev, hp]; rfl
    · exfalso
      have hz := ti_sub h1 hn (show (1 : Int32).toInt = 1 from rfl) (by omega) (by omega)
      omega
    · exfalso
      have hz := ti_sub h1 hn (show (1 : Int32).toInt = 1 from rfl) (by omega) (by omega)
      omega
    · exfalso
      have hz := ti_sub h1 hn (show (1 : Int32).toInt = 1 from rfl) (by omega) (by omega)
      omega
  | succ d ih =>
    intro i k x h hx hd hi
    have un : cmE (bt tb n) p (d + 1) i = if bt tb n i = 42 ∧ bt tb n (i + 1) = 47 then i + 2 else cmE (bt tb n) p d (i + 1) := by first | rfl | simp [cmE]
    rw [un]
    rcases iv_t2_commentEnd_7 h with ⟨k, z2, h1, (⟨h2, ev⟩ | ⟨h2, v6, h3, (⟨h4, z14, h5, hE⟩ | ⟨h4, z15, h5, v17, h6, (⟨h7, z25, h8, hE⟩ | ⟨h7, z26, h8, ev⟩)⟩)⟩)⟩
    · have hz := ti_sub h1 hn (show (1 : Int32).toInt = 1 from rfl) (by omega) (by omega)
      have e0 : bt tb n (i + 1) = -1 := bt_end (by omega)
      have d0 : d = 0 := by omega
      subst d0
      rw [if_neg (by omega), ev, hp]
      rfl
    · have hz := ti_sub h1 hn (show (1 : Int32).toInt = 1 from rfl) (by omega) (by omega)
      have e := byte_r hn hb hx h3
      rw [if_neg (by omega)]
      have hz2 := ti_add h5 hx (show (1 : Int32).toInt = 1 from rfl) (by omega) (by omega)
      exact ih (i + 1) k _ hE (by omega) (by omega) (by omega)
    · have hz := ti_sub h1 hn (show (1 : Int32).toInt = 1 from rfl) (by omega) (by omega)
      have hz1 := ti_add h5 hx (show (1 : Int32).toInt = 1 from rfl) (by omega) (by omega)
      have e := byte_r (p := i + 1) hn hb (by omega) h6
      rw [if_neg (by omega)]
      have hz2 := ti_add h8 hx (show (1 : Int32).toInt = 1 from rfl) (by omega) (by omega)
      exact ih (i + 1) k _ hE (by omega) (by omega) (by omega)
    · have hz := ti_sub h1 hn (show (1 : Int32).toInt = 1 from rfl) (by omega) (by omega)
      have hz1 := ti_add h5 hx (show (1 : Int32).toInt = 1 from rfl) (by omega) (by omega)
      have e := byte_r hn hb hx h3
      have e2 := byte_r (p := i + 1) hn hb (by omega) h6
      have hz2 := ti_add h8 hx (show (2 : Int32).toInt = 2 from rfl) (by omega) (by omega)
      rw [if_pos (by omega), ev]
      omega
theorem com_ok (hn : (f 7).toInt = (n : Int)) (hb : n ≤ 2048) {p : Nat} (hp : (f 8).toInt = (p : Int)) (hpn : p ≤ n) {v : Int32} (h : R_t2_commentEnd tb f v) : v.toInt = ((cmE (bt tb n) p (n - (p + 2)) (p + 2) : Nat) : Int) := by
  obtain ⟨k, h⟩ := h
  obtain ⟨k, z28, h1, hE⟩ := iv_t2_commentEnd_0 h
  have hz := ti_add h1 hp (show (2 : Int32).toInt = 2 from rfl) (by omega) (by omega)
  exact com_7 hn hb hp (n - (p + 2)) (p + 2) k _ hE (by omega) (by omega) (by omega)
end SU
theorem cmE_n {tb : Nat → Int32} {n p : Nat} (hp : p ≤ n) : ∀ d i : Nat, cmE (bt tb n) p d i ≤ n
  | 0, i => hp
  | d + 1, i => by
    have un : cmE (bt tb n) p (d + 1) i = if bt tb n i = 42 ∧ bt tb n (i + 1) = 47 then i + 2 else cmE (bt tb n) p d (i + 1) := by first | rfl | simp [cmE]
    rw [un]
    by_cases q : bt tb n i = 42 ∧ bt tb n (i + 1) = 47
    · rw [if_pos q]
      rcases Nat.lt_or_ge (i + 1) n with y | y
      · omega
      · have := q.2
        rw [bt_end y] at this
        omega
    · rw [if_neg q]
      exact cmE_n hp d (i + 1)
/-- a step never goes beyond the end -/
theorem sk1_b {tb : Nat → Int32} {n p : Nat} (h : p ≤ n) : p ≤ sk1 (bt tb n) n p ∧ sk1 (bt tb n) n p ≤ n := by
  unfold sk1
  have lt : ∀ {v : Int}, bt tb n p = v → 0 ≤ v → p < n := by
    intro v e hv
    rcases Nat.lt_or_ge p n with q | q
    · exact q
    · rw [bt_end q] at e; omega
  by_cases h1 : bt tb n p = 32 ∨ bt tb n p = 9 ∨ bt tb n p = 10 ∨ bt tb n p = 13
  · rw [if_pos h1]
    have : p < n := by
      rcases h1 with q | q | q | q
      · exact lt q (by omega)
      · exact lt q (by omega)
      · exact lt q (by omega)
      · exact lt q (by omega)
    omega
  · rw [if_neg h1]
    by_cases h2 : bt tb n p = 47 ∧ bt tb n (p + 1) = 47
    · rw [if_pos h2]
      have := lnE_b (b := bt tb n) (n - p) p
      omega
    · rw [if_neg h2]
      by_cases h3 : bt tb n p = 47 ∧ bt tb n (p + 1) = 42
      · rw [if_pos h3]
        have := lt h3.1 (by omega)
        have := cmE_b (b := bt tb n) (p := p) (n - (p + 2)) (p + 2) (by omega)
        have := cmE_n (tb := tb) h (n - (p + 2)) (p + 2)
        omega
      · rw [if_neg h3]; omega
section SV
variable {tb : Nat → Int32} {f' : Nat → Int32} {a' : Nat → Nat → Int32} {n : Nat}
theorem skip_4 (hb : n ≤ 2048) : ∀ (d i k : Nat) (x1 x2 : Int32) (f : Nat → Int32) (a : Nat → Nat → Int32) (p : Nat), E_t2_skip tb f' a' k 4 [x1, x2] [] [] [] [] f a → (f 7).toInt = (n : Int) → (f 8).toInt = (p : Int) → p ≤ n → x2.toInt = (i : Int) → i + d = n + 1 → (x1.toInt = 1 ∨ (x1.toInt = 0 ∧ skp (bt tb n) n d p = p)) → (∃ z : Int32, f' = upd f 8 z ∧ z.toInt = ((skp (bt tb n) n d p : Nat) : Int)) ∧ a' = a := by
  intro d
  have same : ∀ {f : Nat → Int32}, ∃ z : Int32, f = upd f 8 z ∧ z = f 8 := by
    intro f
    refine ⟨f 8, ?_, rfl⟩
    funext i
    by_cases q : i = 8
    · subst q; rw [pk_us]
    · rw [pk_un q]
  induction d with
  | zero =>
    intro i k x1 x2 f a p h hn hp hpn hx2 hd hx1
    rcases iv_t2_skip_4 h with ⟨k, (⟨h1, e0, e1⟩ | ⟨h1, (⟨h2, e0, e1⟩ | ⟨h2, v6, h3, (⟨h4, z15, h5, (⟨h6, z18, h7, hE⟩ | ⟨h6, z19, h7, hE⟩)⟩ | ⟨h4, (⟨h5, z23, h6, (⟨h7, z26, h8, hE⟩ | ⟨h7, z27, h8, hE⟩)⟩ | ⟨h5, (⟨h6, z31, h7, (⟨h8, z34, h9, hE⟩ | ⟨h8, z35, h9, hE⟩)⟩ | ⟨h6, (⟨h7, (⟨h8, (⟨h9, (⟨h10, z44, h11, hE⟩ | ⟨h10, z45, h11, hE⟩)⟩ | ⟨h9, z47, h10, v49, h11, (⟨h12, (⟨h13, z59, h14, hE⟩ | ⟨h13, z60, h14, hE⟩)⟩ | ⟨h12, v62, h13, (⟨h14, z69, h15, hE⟩ | ⟨h14, z70, h15, hE⟩)⟩)⟩)⟩ | ⟨h8, z72, h9, v74, h10, (⟨h11, (⟨h12, (⟨h13, z86, h14, hE⟩ | ⟨h13, z87, h14, hE⟩)⟩ | ⟨h12, z89, h13, v91, h14, (⟨h15, (⟨h16, z101, h17, hE⟩ | ⟨h16, z102, h17, hE⟩)⟩ | ⟨h15, v104, h16, (⟨h17, z111, h18, hE⟩ | ⟨h17, z112, h18, hE⟩)⟩)⟩)⟩ | ⟨h11, v114, h12, (⟨h13, z121, h14, hE⟩ | ⟨h13, z122, h14, hE⟩)⟩)⟩)⟩ | ⟨h7, z124, h8, (⟨h9, z127, h10, hE⟩ | ⟨h9, z128, h10, hE⟩)⟩)⟩)⟩)⟩)⟩)⟩)⟩
    · obtain ⟨z, ez, ez'⟩ := same (f := f)
      refine ⟨⟨z, by rw [e0]; exact ez, ?_⟩, e1⟩
      rw [ez']; exact hp
    all_goals (exfalso; omega)
  | succ d ih =>
    intro i k x1 x2 f a p h hn hp hpn hx2 hd hx1
    have un : skp (bt tb n) n (d + 1) p = if p < sk1 (bt tb n) n p then skp (bt tb n) n d (sk1 (bt tb n) n p) else p := by first | rfl | simp [skp]
    have sb := sk1_b (tb := tb) hpn
    /- one step -/
    have go : ∀ {k : Nat} {x z y : Int32}, E_t2_skip tb f' a' k 4 [x, y] [] [] [] [] (upd f 8 z) a → z.toInt = ((sk1 (bt tb n) n p : Nat) : Int) → ((x.toInt = 1 ∧ p < sk1 (bt tb n) n p) ∨ (x.toInt = 0 ∧ ¬ p < sk1 (bt tb n) n p)) → y.toInt = ((i + 1 : Nat) : Int) → (∃ z : Int32, f' = upd f 8 z ∧ z.toInt = ((skp (bt tb n) n (d + 1) p : Nat) : Int)) ∧ a' = a := by
      intro k x z y hE hz hx hy
      have u7 : (upd f 8 z 7).toInt = (n : Int) := by rw [pk_un (by decide)]; exact hn
      have uu : ∀ {w : Int32}, upd (upd f 8 z) 8 w = upd f 8 w := by
        intro w
        funext j
        by_cases q : j = 8
        · subst q; rw [pk_us, pk_us]
        · rw [pk_un q, pk_un q, pk_un q]
      rcases hx with ⟨q1, q2⟩ | ⟨q1, q2⟩
      · obtain ⟨⟨w, w1, w2⟩, w3⟩ := ih (i + 1) k x y (upd f 8 z) a (sk1 (bt tb n) n p) hE u7 (by rw [pk_us]; exact hz) sb.2 hy (by omega) (Or.inl q1)
        refine ⟨⟨w, by rw [w1, uu], ?_⟩, w3⟩
        rw [un, if_pos q2]; exact w2
      · have ep : sk1 (bt tb n) n p = p := by omega
        have sd : ∀ m : Nat, skp (bt tb n) n m p = p := by
          intro m
          cases m with
          | zero => rfl
          | succ m =>
            have : skp (bt tb n) n (m + 1) p = if p < sk1 (bt tb n) n p then skp (bt tb n) n m (sk1 (bt tb n) n p) else p := by first | rfl | simp [skp]
            rw [this, if_neg q2]
        obtain ⟨⟨w, w1, w2⟩, w3⟩ := ih (i + 1) k x y (upd f 8 z) a p hE u7 (by rw [pk_us, hz, ep]) hpn hy (by omega) (Or.inr ⟨q1, sd d⟩)
        refine ⟨⟨w, by rw [w1, uu], ?_⟩, w3⟩
        rw [un, if_neg q2]
        rw [sd d] at w2
        exact w2
    have bl : ∀ {k : Nat} {x z y : Int32}, (bt tb n p = 32 ∨ bt tb n p = 9 ∨ bt tb n p = 10 ∨ bt tb n p = 13) → z = f 8 + 1 → y = x2 + 1 → E_t2_skip tb f' a' k 4 [x, y] [] [] [] [] (upd f 8 z) a → ((x = 0 ∧ z.toInt ≤ (f 8).toInt) ∨ (x = 1 ∧ ¬ z.toInt ≤ (f 8).toInt)) → (∃ z : Int32, f' = upd f 8 z ∧ z.toInt = ((skp (bt tb n) n (d + 1) p : Nat) : Int)) ∧ a' = a := by
      intro k x z y hbl hz hy hE hx
      have hz' := ti_add hz hp (show (1 : Int32).toInt = 1 from rfl) (by omega) (by omega)
      have hy' := ti_add hy hx2 (show (1 : Int32).toInt = 1 from rfl) (by omega) (by omega)
      have es : sk1 (bt tb n) n p = p + 1 := by unfold sk1; rw [if_pos hbl]
      refine go hE (by rw [es]; omega) ?_ (by omega)
      rcases hx with ⟨q1, q2⟩ | ⟨q1, q2⟩
      · exfalso; omega
      · exact Or.inl ⟨by rw [q1]; rfl, by omega⟩
    have st : ∀ {k : Nat} {x z y : Int32}, sk1 (bt tb n) n p = p → z = f 8 → y = x2 + 1 → E_t2_skip tb f' a' k 4 [x, y] [] [] [] [] (upd f 8 z) a → ((x = 0 ∧ z.toInt ≤ (f 8).toInt) ∨ (x = 1 ∧ ¬ z.toInt ≤ (f 8).toInt)) → (∃ z : Int32, f' = upd f 8 z ∧ z.toInt = ((skp (bt tb n) n (d + 1) p : Nat) : Int)) ∧ a' = a := by
      intro k x z y es hz hy hE hx
      have hy' := ti_add hy hx2 (show (1 : Int32).toInt = 1 from rfl) (by omega) (by omega)
      refine go hE (by rw [es, hz]; exact hp) ?_ (by omega)
      rcases hx with ⟨q1, q2⟩ | ⟨q1, q2⟩
      · exact Or.inr ⟨by rw [q1]; rfl, by omega⟩
      · exfalso; rw [hz] at q2; omega
    have mv : ∀ {k : Nat} {x z y : Int32}, z.toInt = ((sk1 (bt tb n) n p : Nat) : Int) → y = x2 + 1 → E_t2_skip tb f' a' k 4 [x, y] [] [] [] [] (upd f 8 z) a → ((x = 0 ∧ z.toInt ≤ (f 8).toInt) ∨ (x = 1 ∧ ¬ z.toInt ≤ (f 8).toInt)) → (∃ z : Int32, f' = upd f 8 z ∧ z.toInt = ((skp (bt tb n) n (d + 1) p : Nat) : Int)) ∧ a' = a := by
      intro k x z y hz hy hE hx
      have hy' := ti_add hy hx2 (show (1 : Int32).toInt = 1 from rfl) (by omega) (by omega)
      refine go hE hz ?_ (by omega)
      rcases hx with ⟨q1, q2⟩ | ⟨q1, q2⟩
      · exact Or.inr ⟨by rw [q1]; rfl, by omega⟩
      · exact Or.inl ⟨by rw [q1]; rfl, by omega⟩
    have b1 : ∀ {z v : Int32}, z = f 8 + 1 → R_t2_byteAt tb f z v → v.toInt = bt tb n (p + 1) := by
      intro z v hz hv
      have hz' := ti_add hz hp (show (1 : Int32).toInt = 1 from rfl) (by omega) (by omega)
      exact byte_r (p := p + 1) hn hb (by omega) hv
    have done : x1.toInt = 0 → f' = f → a' = a → (∃ z : Int32, f' = upd f 8 z ∧ z.toInt = ((skp (bt tb n) n (d + 1) p : Nat) : Int)) ∧ a' = a := by
      intro q e0 e1
      rcases hx1 with q' | ⟨-, q'⟩
      · exfalso; omega
      · obtain ⟨z, ez, ez'⟩ := same (f := f)
        refine ⟨⟨z, by rw [e0]; exact ez, ?_⟩, e1⟩
        rw [ez', q']; exact hp
    rcases iv_t2_skip_4 h with ⟨k, (⟨h1, e0, e1⟩ | ⟨h1, (⟨h2, e0, e1⟩ | ⟨h2, v6, h3, (⟨h4, z15, h5, (⟨h6, z18, h7, hE⟩ | ⟨h6, z19, h7, hE⟩)⟩ | ⟨h4, (⟨h5, z23, h6, (⟨h7, z26, h8, hE⟩ | ⟨h7, z27, h8, hE⟩)⟩ | ⟨h5, (⟨h6, z31, h7, (⟨h8, z34, h9, hE⟩ | ⟨h8, z35, h9, hE⟩)⟩ | ⟨h6, (⟨h7, (⟨h8, (⟨h9, (⟨h10, z44, h11, hE⟩ | ⟨h10, z45, h11, hE⟩)⟩ | ⟨h9, z47, h10, v49, h11, (⟨h12, (⟨h13, z59, h14, hE⟩ | ⟨h13, z60, h14, hE⟩)⟩ | ⟨h12, v62, h13, (⟨h14, z69, h15, hE⟩ | ⟨h14, z70, h15, hE⟩)⟩)⟩)⟩ | ⟨h8, z72, h9, v74, h10, (⟨h11, (⟨h12, (⟨h13, z86, h14, hE⟩ | ⟨h13, z87, h14, hE⟩)⟩ | ⟨h12, z89, h13, v91, h14, (⟨h15, (⟨h16, z101, h17, hE⟩ | ⟨h16, z102, h17, hE⟩)⟩ | ⟨h15, v104, h16, (⟨h17, z111, h18, hE⟩ | ⟨h17, z112, h18, hE⟩)⟩)⟩)⟩ | ⟨h11, v114, h12, (⟨h13, z121, h14, hE⟩ | ⟨h13, z122, h14, hE⟩)⟩)⟩)⟩ | ⟨h7, z124, h8, (⟨h9, z127, h10, hE⟩ | ⟨h9, z128, h10, hE⟩)⟩)⟩)⟩)⟩)⟩)⟩)⟩
    · exfalso; omega
    · exact done h2 e0 e1
    all_goals have hv := byte_r hn hb hp h3
    · exact bl (by omega) h5 h7 hE (Or.inl ⟨rfl, h6⟩)
    · exact bl (by omega) h5 h7 hE (Or.inr ⟨rfl, h6⟩)
    · exact bl (by omega) h6 h8 hE (Or.inl ⟨rfl, h7⟩)
    · exact bl (by omega) h6 h8 hE (Or.inr ⟨rfl, h7⟩)
    · exact bl (by omega) h7 h9 hE (Or.inl ⟨rfl, h8⟩)
    · exact bl (by omega) h7 h9 hE (Or.inr ⟨rfl, h8⟩)
    · exact st (by unfold sk1; rw [if_neg (by omega), if_neg (by omega), if_neg (by omega)]) rfl h11 hE (Or.inl ⟨rfl, h10⟩)
    · exact st (by unfold sk1; rw [if_neg (by omega), if_neg (by omega), if_neg (by omega)]) rfl h11 hE (Or.inr ⟨rfl, h10⟩)
    · exact absurd h9 h8
    · exact absurd h9 h8
    · exact absurd h9 h8
    · exact absurd h9 h8
    · exact absurd h8 h12
    · exact absurd h8 h12
    · have w1 := b1 h9 h10
      have w2 := b1 h13 h14
      exact st (by unfold sk1; rw [if_neg (by omega), if_neg (by omega), if_neg (by omega)]) rfl h17 hE (Or.inl ⟨rfl, h16⟩)
    · have w1 := b1 h9 h10
      have w2 := b1 h13 h14
      exact st (by unfold sk1; rw [if_neg (by omega), if_neg (by omega), if_neg (by omega)]) rfl h17 hE (Or.inr ⟨rfl, h16⟩)
    · have w1 := b1 h9 h10
      have w2 := b1 h13 h14
      have w3 := com_ok hn hb hp hpn h16
      have es : sk1 (bt tb n) n p = cmE (bt tb n) p (n - (p + 2)) (p + 2) := by unfold sk1; rw [if_neg (by omega), if_neg (by omega), if_pos (by omega)]
      exact mv (by rw [es]; exact w3) h18 hE (Or.inl ⟨rfl, h17⟩)
    · have w1 := b1 h9 h10
      have w2 := b1 h13 h14
      have w3 := com_ok hn hb hp hpn h16
      have es : sk1 (bt tb n) n p = cmE (bt tb n) p (n - (p + 2)) (p + 2) := by unfold sk1; rw [if_neg (by omega), if_neg (by omega), if_pos (by omega)]
      exact mv (by rw [es]; exact w3) h18 hE (Or.inr ⟨rfl, h17⟩)
    · have w1 := b1 h9 h10
      have w3 := line_ok hn hb hp hpn h12
      have es : sk1 (bt tb n) n p = lnE (bt tb n) (n - p) p := by unfold sk1; rw [if_neg (by omega), if_pos (by omega)]
      exact mv (by rw [es]; exact w3) h14 hE (Or.inl ⟨rfl, h13⟩)
    · have w1 := b1 h9 h10
      have w3 := line_ok hn hb hp hpn h12
      have es : sk1 (bt tb n) n p = lnE (bt tb n) (n - p) p := by unfold sk1; rw [if_neg (by omega), if_pos (by omega)]
      exact mv (by rw [es]; exact w3) h14 hE (Or.inr ⟨rfl, h13⟩)
    · exact bl (by omega) h8 h10 hE (Or.inl ⟨rfl, h9⟩)
    · exact bl (by omega) h8 h10 hE (Or.inr ⟨rfl, h9⟩)
theorem skip_ok (hb : n ≤ 2048) {f : Nat → Int32} {a : Nat → Nat → Int32} {p : Nat} (h : R_t2_skip tb f a f' a') (hn : (f 7).toInt = (n : Int)) (hp : (f 8).toInt = (p : Int)) (hpn : p ≤ n) : (∃ z : Int32, f' = upd f 8 z ∧ z.toInt = ((skp (bt tb n) n (n + 1) p : Nat) : Int)) ∧ a' = a := by
  obtain ⟨k, h⟩ := h
  obtain ⟨k, hE⟩ := iv_t2_skip_0 h
  exact skip_4 hb (n + 1) 0 k _ _ f a p hE hn hp hpn (by rfl) (by omega) (Or.inl (by rfl))
end SV
theorem skp_b {tb : Nat → Int32} {n : Nat} : ∀ (k p : Nat), p ≤ n → p ≤ skp (bt tb n) n k p ∧ skp (bt tb n) n k p ≤ n
  | 0, p, h => ⟨Nat.le_refl _, h⟩
  | k + 1, p, h => by
    have un : skp (bt tb n) n (k + 1) p = if p < sk1 (bt tb n) n p then skp (bt tb n) n k (sk1 (bt tb n) n p) else p := by first | rfl | simp [skp]
    rw [un]
    have sb := sk1_b (tb := tb) h
    by_cases q : p < sk1 (bt tb n) n p
    · rw [if_pos q]
      have := skp_b (tb := tb) (n := n) k (sk1 (bt tb n) n p) sb.2
      omega
    · rw [if_neg q]; omega
