/-! THE REFERENCE's tokens: bytes, blanks, words, characters, strings -/
/-- a byte of the reference (with its sign), of the class (without) -/
def BtR (v c : Int) : Prop := (0 ≤ c ∧ c < 128 ∧ v = c) ∨ (128 ≤ c ∧ v < 0) ∨ (c = -1 ∧ v = -1)
/-- the reference's text: n bytes -/
def RTx (tf : Nat → Int32) (ta : Nat → Nat → Int32) (b : Nat → Int) (n : Nat) : Prop := (tf 5).toInt = (n : Int) ∧ n ≤ 2048 ∧ (∀ i : Nat, n ≤ i → b i = -1) ∧ ∀ i : Nat, i < n → 0 ≤ b i ∧ BtR (ta 4 i).toInt (b i)
section TA
variable {tf : Nat → Int32} {ta : Nat → Nat → Int32} {b : Nat → Int} {n p : Nat} {p0 p1 v : Int32} {c : Int}
theorem RTx.lt (hT : RTx tf ta b n) (h : 0 ≤ b p) : p < n := by
  by_cases q : p < n
  · exact q
  · have := hT.2.2.1 p (by omega)
    omega
theorem byt_r (hT : RTx tf ta b n) (hp : p0.toInt = (p : Int)) (h : R_mp_byteAt tf ta p0 v) : BtR v.toInt (b p) := by
  obtain ⟨t1, t2, t3, t4⟩ := hT
  rcases h with (⟨h1, ev⟩ | ⟨h1, z3, h2, ev⟩) | h
  · rw [ev]
    exact Or.inr (Or.inr ⟨t3 p (by omega), rfl⟩)
  · rw [cn_of hp] at h2
    rw [ev, h2]
    exact (t4 p (by omega)).2
  · exact h.elim
theorem rlet_r (hc : BtR p0.toInt c) (h : R_mp_isLetter p0 v) : (v.toInt = 0 ∧ isL c = false) ∨ (v.toInt = 1 ∧ isL c = true) := by
  unfold BtR at hc
  unfold isL
  rcases h with (⟨h1, (⟨h2, (⟨h3, ev⟩ | ⟨h3, ev⟩)⟩ | ⟨h2, (⟨h3, ev⟩ | ⟨h3, (⟨h4, ev⟩ | ⟨h4, ev⟩)⟩)⟩)⟩ | ⟨h1, (⟨h2, ev⟩ | ⟨h2, (⟨h3, (⟨h4, ev⟩ | ⟨h4, ev⟩)⟩ | ⟨h3, (⟨h4, ev⟩ | ⟨h4, (⟨h5, ev⟩ | ⟨h5, ev⟩)⟩)⟩)⟩)⟩) | h
  all_goals first
    | exact h.elim
    | exact Or.inl ⟨by rw [ev]; rfl, decide_eq_false (by omega)⟩
    | exact Or.inr ⟨by rw [ev]; rfl, decide_eq_true (by omega)⟩
    | (exfalso; omega)
theorem rdig_r (hc : BtR p0.toInt c) (h : R_mp_isDigit p0 v) : (v.toInt = 0 ∧ isD c = false) ∨ (v.toInt = 1 ∧ isD c = true) := by
  unfold BtR at hc
  unfold isD
  rcases h with (⟨h1, ev⟩ | ⟨h1, (⟨h2, ev⟩ | ⟨h2, ev⟩)⟩) | h
  all_goals first
    | exact h.elim
    | exact Or.inl ⟨by rw [ev]; rfl, decide_eq_false (by omega)⟩
    | exact Or.inr ⟨by rw [ev]; rfl, decide_eq_true (by omega)⟩
theorem rfig_r (hc : BtR p0.toInt c) (h : R_mp_figure p0 v) : v.toInt = dgV true c := by
  have cc := hc
  unfold BtR at cc
  unfold dgV
  have tt : ∀ x y : Int, (true = true ∧ x ≤ c ∧ c ≤ y) ↔ (x ≤ c ∧ c ≤ y) := fun x y => ⟨fun q => q.2, fun q => ⟨rfl, q⟩⟩
  rcases h with ⟨v2, h1, (⟨h2, (⟨h3, (⟨h4, ev⟩ | ⟨h4, (⟨h5, ev⟩ | ⟨h5, z15, h6, z16, h7, ev⟩)⟩)⟩ | ⟨h3, (⟨h4, (⟨h5, ev⟩ | ⟨h5, (⟨h6, ev⟩ | ⟨h6, z23, h7, z24, h8, ev⟩)⟩)⟩ | ⟨h4, z25, h5, z26, h6, ev⟩)⟩)⟩ | ⟨h2, z27, h3, ev⟩)⟩ | h
  case inr => exact h.elim
  all_goals rcases rdig_r hc h1 with ⟨d1, d2⟩ | ⟨d1, d2⟩
  all_goals unfold isD at d2
  all_goals first
    | (exfalso; omega)
    | (have d3 := of_decide_eq_false d2
       rw [if_neg d3, if_neg (by omega), if_neg (by omega), ev]; rfl)
    | (have d3 := of_decide_eq_false d2
       have y1 := ti_sub h4 rfl (show (65 : Int32).toInt = 65 from rfl) (by omega) (by omega)
       have y2 := ti_add h5 y1 (show (10 : Int32).toInt = 10 from rfl) (by omega) (by omega)
       rw [if_neg d3, if_neg (by omega), if_pos ⟨rfl, by omega, by omega⟩, ev, y2]; omega)
    | (have d3 := of_decide_eq_false d2
       have y1 := ti_sub h5 rfl (show (65 : Int32).toInt = 65 from rfl) (by omega) (by omega)
       have y2 := ti_add h6 y1 (show (10 : Int32).toInt = 10 from rfl) (by omega) (by omega)
       rw [if_neg d3, if_neg (by omega), if_pos ⟨rfl, by omega, by omega⟩, ev, y2]; omega)
    | (have d3 := of_decide_eq_false d2
       have y1 := ti_sub h6 rfl (show (65 : Int32).toInt = 65 from rfl) (by omega) (by omega)
       have y2 := ti_add h7 y1 (show (10 : Int32).toInt = 10 from rfl) (by omega) (by omega)
       rw [if_neg d3, if_neg (by omega), if_pos ⟨rfl, by omega, by omega⟩, ev, y2]; omega)
    | (have d3 := of_decide_eq_false d2
       have y1 := ti_sub h5 rfl (show (97 : Int32).toInt = 97 from rfl) (by omega) (by omega)
       have y2 := ti_add h6 y1 (show (10 : Int32).toInt = 10 from rfl) (by omega) (by omega)
       rw [if_neg d3, if_pos ⟨rfl, by omega, by omega⟩, ev, y2]; omega)
    | (have d3 := of_decide_eq_true d2
       have y1 := ti_sub h3 rfl (show (48 : Int32).toInt = 48 from rfl) (by omega) (by omega)
       rw [if_pos d3, ev, y1]; omega)
/-! blanks and comments -/
theorem sk_68 (hT : RTx tf ta b n) : ∀ (d m i : Nat) (x x3 : Int32), E_mp_skip tf ta p0 v m 68 [x, x3] [] [] [] [] () → x.toInt = (i : Int) → i + d = n → ∃ (m' : Nat) (y : Int32), E_mp_skip tf ta p0 v m' 4 [y, x3] [] [] [] [] () ∧ y.toInt = ((lnE b d i : Nat) : Int) := by
  have t1 := hT.1
  have t2 := hT.2.1
  intro d
  induction d with
  | zero =>
    intro m i x x3 h hx hi
    rcases iv_mp_skip_68 h with ⟨m', (⟨h1, hQ⟩ | ⟨h1, z3, h2, (⟨h3, hQ⟩ | ⟨h3, z6, h4, hQ⟩)⟩)⟩
    · exact ⟨m', x, hQ, hx⟩
    · exfalso; omega
    · exfalso; omega
  | succ d ih =>
    intro m i x x3 h hx hi
    have xi : x.toNatClampNeg = i := cn_of hx
    have bb := (hT.2.2.2 i (by omega)).2
    unfold BtR at bb
    have el : lnE b (d + 1) i = if b i = 10 then i else lnE b d (i + 1) := rfl
    rcases iv_mp_skip_68 h with ⟨m', (⟨h1, hQ⟩ | ⟨h1, z3, h2, (⟨h3, hQ⟩ | ⟨h3, z6, h4, hQ⟩)⟩)⟩
    · exfalso; omega
    · rw [xi] at h2
      rw [h2] at h3
      exact ⟨m', x, hQ, by rw [el, if_pos (by omega)]; exact hx⟩
    · rw [xi] at h2
      rw [h2] at h3
      have z1 := ti_add h4 hx (show (1 : Int32).toInt = 1 from rfl) (by omega) (by omega)
      rw [el, if_neg (by omega)]
      exact ih m' (i + 1) z6 x3 hQ (by omega) (by omega)
theorem cm_n (hT : RTx tf ta b n) {pp : Nat} (hp : pp ≤ n) : ∀ (d i : Nat), i + d = n → cmE b pp d i ≤ n := by
  intro d
  induction d with
  | zero => intro i _; exact hp
  | succ d ih =>
    intro i h
    have e : cmE b pp (d + 1) i = if b i = 42 ∧ b (i + 1) = 47 then i + 2 else cmE b pp d (i + 1) := rfl
    rw [e]
    by_cases q : b i = 42 ∧ b (i + 1) = 47
    · rw [if_pos q]
      have := hT.lt (p := i + 1) (by omega)
      omega
    · rw [if_neg q]; exact ih (i + 1) (by omega)
theorem sk_117 (hT : RTx tf ta b n) {pp : Nat} {x2 x3 : Int32} (hx2 : x2.toInt = (pp : Int)) : ∀ (d m i : Nat) (x5 : Int32), E_mp_skip tf ta p0 v m 117 [x2, x3, x5] [] [] [] [] () → x5.toInt = (i : Int) → pp + 2 ≤ i → i + d = n → ∃ (m' : Nat) (y y3 : Int32), E_mp_skip tf ta p0 v m' 4 [y, y3] [] [] [] [] () ∧ ((y.toInt = (pp : Int) ∧ y3.toInt = 0 ∧ cmE b pp d i = pp) ∨ (¬ y3.toInt = 0 ∧ y.toInt = ((cmE b pp d i : Nat) : Int) ∧ pp < cmE b pp d i)) := by
  have t1 := hT.1
  have t2 := hT.2.1
  intro d
  induction d with
  | zero =>
    intro m i x5 h hx hpi hi
    rcases iv_mp_skip_117 h with ⟨m', (⟨h1, (⟨h2, hQ⟩ | ⟨h2, z13, h3, hQ⟩)⟩ | ⟨h1, z14, h2, (⟨h3, z17, h4, hQ⟩ | ⟨h3, z18, h4, v20, h5, (⟨h6, (⟨h7, hQ⟩ | ⟨h7, z30, h8, hQ⟩)⟩ | ⟨h6, z31, h7, hQ⟩)⟩)⟩)⟩
    · exact ⟨m', x2, 0, hQ, Or.inl ⟨hx2, rfl, rfl⟩⟩
    all_goals (exfalso; omega)
  | succ d ih =>
    intro m i x5 h hx hpi hi
    have xi : x5.toNatClampNeg = i := cn_of hx
    have bb := (hT.2.2.2 i (by omega)).2
    unfold BtR at bb
    have el : cmE b pp (d + 1) i = if b i = 42 ∧ b (i + 1) = 47 then i + 2 else cmE b pp d (i + 1) := rfl
    rcases iv_mp_skip_117 h with ⟨m', (⟨h1, (⟨h2, hQ⟩ | ⟨h2, z13, h3, hQ⟩)⟩ | ⟨h1, z14, h2, (⟨h3, z17, h4, hQ⟩ | ⟨h3, z18, h4, v20, h5, (⟨h6, (⟨h7, hQ⟩ | ⟨h7, z30, h8, hQ⟩)⟩ | ⟨h6, z31, h7, hQ⟩)⟩)⟩)⟩
    · exfalso; omega
    · exfalso; omega
    · rw [xi] at h2
      rw [h2] at h3
      have z1 := ti_add h4 hx (show (1 : Int32).toInt = 1 from rfl) (by omega) (by omega)
      rw [el, if_neg (by omega)]
      exact ih m' (i + 1) z17 hQ (by omega) (by omega) (by omega)
    · exfalso; omega
    · rw [xi] at h2
      rw [h2] at h3
      have z1 := ti_add h4 hx (show (1 : Int32).toInt = 1 from rfl) (by omega) (by omega)
      have b1 := byt_r hT (p := i + 1) (by omega) h5
      unfold BtR at b1
      have z2 := ti_add h8 hx (show (2 : Int32).toInt = 2 from rfl) (by omega) (by omega)
      rw [el, if_pos ⟨by omega, by omega⟩]
      exact ⟨m', z30, 1, hQ, Or.inr ⟨by decide, by omega, by omega⟩⟩
    · rw [xi] at h2
      rw [h2] at h3
      have z1 := ti_add h4 hx (show (1 : Int32).toInt = 1 from rfl) (by omega) (by omega)
      have b1 := byt_r hT (p := i + 1) (by omega) h5
      unfold BtR at b1
      have z2 := ti_add h7 hx (show (1 : Int32).toInt = 1 from rfl) (by omega) (by omega)
      rw [el, if_neg (by omega)]
      exact ih m' (i + 1) z31 hQ (by omega) (by omega) (by omega)
theorem sk_0 {m : Nat} {x x3 : Int32} (h3 : x3.toInt = 0) (h : E_mp_skip tf ta p0 v m 4 [x, x3] [] [] [] [] ()) : v = x := by
  rcases iv_mp_skip_4 h with ⟨m', (⟨g1, ev⟩ | ⟨g1, v35, h2, (⟨g3, z41, h4, hQ⟩ | ⟨g3, (⟨h4, z44, h5, hQ⟩ | ⟨h4, (⟨h5, z47, h6, hQ⟩ | ⟨h5, (⟨h6, (⟨h7, (⟨h8, hQ⟩ | ⟨h8, z54, h9, v56, h10, (⟨h11, hQ⟩ | ⟨h11, z62, h12, hQ⟩)⟩)⟩ | ⟨h7, z63, h8, v65, h9, (⟨h10, (⟨h11, hQ⟩ | ⟨h11, z73, h12, v75, h13, (⟨h14, hQ⟩ | ⟨h14, z81, h15, hQ⟩)⟩)⟩ | ⟨h10, hQ⟩)⟩)⟩ | ⟨h6, z82, h7, hQ⟩)⟩)⟩)⟩)⟩)⟩
  · exact ev
  all_goals exact absurd h3 g1
theorem sk_4 (hT : RTx tf ta b n) : ∀ (k m p : Nat) (x x3 : Int32), E_mp_skip tf ta p0 v m 4 [x, x3] [] [] [] [] () → ¬ x3.toInt = 0 → x.toInt = (p : Int) → p ≤ n → n < k + p → v.toInt = ((skp b n k p : Nat) : Int) ∧ p ≤ skp b n k p ∧ skp b n k p ≤ n := by
  have t1 := hT.1
  have t2 := hT.2.1
  intro k
  induction k with
  | zero => intro m p x x3 _ _ _ hp hk; exfalso; omega
  | succ k ih =>
    intro m p x x3 h hx3 hx hp hk
    have el : skp b n (k + 1) p = if p < sk1 b n p then skp b n k (sk1 b n p) else p := rfl
    have go : ∀ {m' : Nat} {y y3 : Int32}, E_mp_skip tf ta p0 v m' 4 [y, y3] [] [] [] [] () → ¬ y3.toInt = 0 → y.toInt = ((sk1 b n p : Nat) : Int) → p < sk1 b n p → sk1 b n p ≤ n → v.toInt = ((skp b n (k + 1) p : Nat) : Int) ∧ p ≤ skp b n (k + 1) p ∧ skp b n (k + 1) p ≤ n := by
      intro m' y y3 hE hy3 hy h1 h2
      rw [el, if_pos h1]
      obtain ⟨g1, g2, g3⟩ := ih m' (sk1 b n p) y y3 hE hy3 hy h2 (by omega)
      exact ⟨g1, by omega, g3⟩
    have st : ∀ {y : Int32}, v = y → y.toInt = (p : Int) → sk1 b n p = p → v.toInt = ((skp b n (k + 1) p : Nat) : Int) ∧ p ≤ skp b n (k + 1) p ∧ skp b n (k + 1) p ≤ n := by
      intro y e hy hs
      rw [el, if_neg (by omega), e]
      exact ⟨hy, Nat.le_refl _, hp⟩
    have one : (b p = 32 ∨ b p = 9 ∨ b p = 10 ∨ b p = 13) → sk1 b n p = p + 1 ∧ p < n := fun q => ⟨by unfold sk1; rw [if_pos q], hT.lt (by omega)⟩
    have non : ¬ (b p = 32 ∨ b p = 9 ∨ b p = 10 ∨ b p = 13) → ¬ (b p = 47 ∧ b (p + 1) = 47) → ¬ (b p = 47 ∧ b (p + 1) = 42) → sk1 b n p = p := fun q1 q2 q3 => by unfold sk1; rw [if_neg q1, if_neg q2, if_neg q3]
    have com : ∀ {m' : Nat} {z : Int32}, ¬ (b p = 32 ∨ b p = 9 ∨ b p = 10 ∨ b p = 13) → b p = 47 → b (p + 1) = 42 → z = x + (2 : Int32) → E_mp_skip tf ta p0 v m' 117 [x, x3, z] [] [] [] [] () → v.toInt = ((skp b n (k + 1) p : Nat) : Int) ∧ p ≤ skp b n (k + 1) p ∧ skp b n (k + 1) p ≤ n := by
      intro m' z q1 q2 q3 hz hE
      have l1 := hT.lt (p := p + 1) (by omega)
      have z1 := ti_add hz hx (show (2 : Int32).toInt = 2 from rfl) (by omega) (by omega)
      have es : sk1 b n p = cmE b p (n - (p + 2)) (p + 2) := by unfold sk1; rw [if_neg q1, if_neg (by omega), if_pos ⟨q2, q3⟩]
      have cb := cmE_b (b := b) (p := p) (n - (p + 2)) (p + 2) (by omega)
      obtain ⟨m2, y, y3, g1, g2⟩ := sk_117 hT hx (n - (p + 2)) m' (p + 2) z hE (by omega) (Nat.le_refl _) (by omega)
      rcases g2 with ⟨g2, g3, g4⟩ | ⟨g2, g3, g4⟩
      · exact st (sk_0 g3 g1) g2 (by rw [es, g4])
      · exact go g1 g2 (by rw [es]; exact g3) (by rw [es]; exact g4) (by rw [es]; exact cm_n hT hp (n - (p + 2)) (p + 2) (by omega))
    rcases iv_mp_skip_4 h with ⟨m', (⟨h1, ev⟩ | ⟨h1, v35, h2, (⟨h3, z41, h4, hQ⟩ | ⟨h3, (⟨h4, z44, h5, hQ⟩ | ⟨h4, (⟨h5, z47, h6, hQ⟩ | ⟨h5, (⟨h6, (⟨h7, (⟨h8, hQ⟩ | ⟨h8, z54, h9, v56, h10, (⟨h11, hQ⟩ | ⟨h11, z62, h12, hQ⟩)⟩)⟩ | ⟨h7, z63, h8, v65, h9, (⟨h10, (⟨h11, hQ⟩ | ⟨h11, z73, h12, v75, h13, (⟨h14, hQ⟩ | ⟨h14, z81, h15, hQ⟩)⟩)⟩ | ⟨h10, hQ⟩)⟩)⟩ | ⟨h6, z82, h7, hQ⟩)⟩)⟩)⟩)⟩)⟩
    · exact absurd h1 hx3
    all_goals
      have b0 := byt_r hT hx h2
      unfold BtR at b0
    · obtain ⟨o1, o2⟩ := one (by omega)
      have z1 := ti_add h4 hx (show (1 : Int32).toInt = 1 from rfl) (by omega) (by omega)
      exact go hQ hx3 (by rw [o1]; omega) (by omega) (by omega)
    · obtain ⟨o1, o2⟩ := one (by omega)
      have z1 := ti_add h5 hx (show (1 : Int32).toInt = 1 from rfl) (by omega) (by omega)
      exact go hQ hx3 (by rw [o1]; omega) (by omega) (by omega)
    · obtain ⟨o1, o2⟩ := one (by omega)
      have z1 := ti_add h6 hx (show (1 : Int32).toInt = 1 from rfl) (by omega) (by omega)
      exact go hQ hx3 (by rw [o1]; omega) (by omega) (by omega)
    · exact st (sk_0 rfl hQ) hx (non (by omega) (by omega) (by omega))
    · exfalso; omega
    · exfalso; omega
    · exfalso; omega
    · have z1 := ti_add h8 hx (show (1 : Int32).toInt = 1 from rfl) (by omega) (by omega)
      have b1 := byt_r hT (p := p + 1) (by omega) h9
      unfold BtR at b1
      have z2 := ti_add h12 hx (show (1 : Int32).toInt = 1 from rfl) (by omega) (by omega)
      have b2 := byt_r hT (p := p + 1) (by omega) h13
      unfold BtR at b2
      exact st (sk_0 rfl hQ) hx (non (by omega) (by omega) (by omega))
    · have z1 := ti_add h8 hx (show (1 : Int32).toInt = 1 from rfl) (by omega) (by omega)
      have z2 := ti_add h12 hx (show (1 : Int32).toInt = 1 from rfl) (by omega) (by omega)
      have b2 := byt_r hT (p := p + 1) (by omega) h13
      unfold BtR at b2
      exact com (by omega) (by omega) (by omega) h15 hQ
    · have z1 := ti_add h8 hx (show (1 : Int32).toInt = 1 from rfl) (by omega) (by omega)
      have b1 := byt_r hT (p := p + 1) (by omega) h9
      unfold BtR at b1
      have l1 := hT.lt (p := p + 1) (by omega)
      have es : sk1 b n p = lnE b (n - p) p := by unfold sk1; rw [if_neg (by omega), if_pos ⟨by omega, by omega⟩]
      have lb := lnE_b (b := b) (n - p) p
      obtain ⟨m2, y, g1, g2⟩ := sk_68 hT (n - p) m' p x x3 hQ hx (by omega)
      have gt : p < lnE b (n - p) p := by
        have e1 : n - p = (n - p - 1) + 1 := by omega
        rw [e1]
        show p < (if b p = 10 then p else lnE b (n - p - 1) (p + 1))
        rw [if_neg (by omega)]
        have := lnE_b (b := b) (n - p - 1) (p + 1)
        omega
      exact go g1 hx3 (by rw [es]; exact g2) (by rw [es]; exact gt) (by rw [es]; omega)
    · obtain ⟨o1, o2⟩ := one (by omega)
      have z1 := ti_add h7 hx (show (1 : Int32).toInt = 1 from rfl) (by omega) (by omega)
      exact go hQ hx3 (by rw [o1]; omega) (by omega) (by omega)
theorem skip_q (hT : RTx tf ta b n) (hp : p0.toInt = (p : Int)) (hpn : p ≤ n) (h : R_mp_skip tf ta p0 v) : v.toInt = ((skp b n (n + 1) p : Nat) : Int) ∧ p ≤ skp b n (n + 1) p ∧ skp b n (n + 1) p ≤ n := by
  obtain ⟨m, h⟩ := h
  obtain ⟨m', h⟩ := iv_mp_skip_0 h
  exact sk_4 hT (n + 1) m' p p0 (1 : Int32) h (by decide) hp hpn (by omega)
/-! characters -/
theorem chr_r {q : Int} (hT : RTx tf ta b n) (hp : p0.toInt = (p : Int)) (hpn : p ≤ 100000) (hq : p1.toInt = q) (hq2 : q = 34 ∨ q = 39) (h : R_mp_character tf ta p0 p1 v) : (v.toInt < 0 ∧ qV b p q < 0) ∨ (0 ≤ qV b p q ∧ qV b p q ≤ 126 ∧ ((v.toInt = qV b p q ∧ qW b p = 1) ∨ (v.toInt = qV b p q + 1000 ∧ qW b p = 2))) := by
  have w2 : b p = 92 → qW b p = 2 := fun w => if_pos w
  have w1 : ¬ b p = 92 → qW b p = 1 := fun w => if_neg w
  unfold qV
  rcases h with ⟨v2, h1, (⟨h2, (⟨h3, ev⟩ | ⟨h3, (⟨h4, ev⟩ | ⟨h4, (⟨h5, ev⟩ | ⟨h5, ev⟩)⟩)⟩)⟩ | ⟨h2, z14, h3, v16, h4, (⟨h5, (⟨h6, (⟨h7, (⟨h8, z28, h9, ev⟩ | ⟨h8, ev⟩)⟩ | ⟨h7, (⟨h8, ev⟩ | ⟨h8, (⟨h9, z34, h10, ev⟩ | ⟨h9, ev⟩)⟩)⟩)⟩ | ⟨h6, z36, h7, ev⟩)⟩ | ⟨h5, z38, h6, ev⟩)⟩)⟩ | h
  case inr => exact h.elim
  all_goals
    have b0 := byt_r hT hp h1
    unfold BtR at b0
  · left
    rw [if_neg (by omega), if_neg (by omega), ev]; decide
  · left
    rw [if_neg (by omega), if_neg (by omega), ev]; decide
  · right
    rw [if_neg (by omega), if_pos (by omega), ev]
    exact ⟨by omega, by omega, Or.inl ⟨by omega, w1 (by omega)⟩⟩
  · left
    rw [if_neg (by omega), if_neg (by omega), ev]; decide
  all_goals
    have z1 := ti_add h3 hp (show (1 : Int32).toInt = 1 from rfl) (by omega) (by omega)
    have b1 := byt_r hT (p := p + 1) (by omega) h4
    unfold BtR at b1
  · right
    have y := ti_add h9 rfl (show (1000 : Int32).toInt = 1000 from rfl) (by omega) (by omega)
    rw [if_pos (by omega), if_neg (by omega), if_neg (by omega), if_pos (by omega), ev]
    exact ⟨by omega, by omega, Or.inr ⟨by omega, w2 (by omega)⟩⟩
  · exfalso; omega
  · left
    rw [if_pos (by omega), if_neg (by omega), if_neg (by omega), if_neg (by omega), ev]; decide
  · right
    have y := ti_add h10 rfl (show (1000 : Int32).toInt = 1000 from rfl) (by omega) (by omega)
    rw [if_pos (by omega), if_neg (by omega), if_neg (by omega), if_pos (by omega), ev]
    exact ⟨by omega, by omega, Or.inr ⟨by omega, w2 (by omega)⟩⟩
  · exfalso; omega
  · right
    have y : z36.toInt = 1000 := by rw [h7]; rfl
    rw [if_pos (by omega), if_neg (by omega), if_pos (by omega), ev]
    exact ⟨by decide, by decide, Or.inr ⟨by omega, w2 (by omega)⟩⟩
  · right
    have y : z38.toInt = 1010 := by rw [h6]; rfl
    rw [if_pos (by omega), if_pos (by omega), ev]
    exact ⟨by decide, by decide, Or.inr ⟨by omega, w2 (by omega)⟩⟩
/-! a token is kept -/
theorem tok_k {p2 p3 : Int32} {tf' : Nat → Int32} {ta' : Nat → Nat → Int32} {i : Nat} (hi : (tf 6).toInt = (i : Int)) (hi2 : i ≤ 100000) {s : Int} (hs : (vp_nar .byte p2.toInt8.toInt32).toInt = s) (h : R_mp_token p0 p1 p2 p3 tf ta tf' ta') : (tf' 6).toInt = (i : Int) + 1 ∧ (∀ j : Nat, ¬ j = 6 → tf' j = tf j) ∧ (ta' 7 i = p0 ∧ ta' 8 i = p1 ∧ (ta' 9 i).toInt = s ∧ ta' 10 i = p3) ∧ ∀ f j : Nat, (¬ j = i ∨ f < 7 ∨ 10 < f) → ta' f j = ta f j := by
  rcases h with ⟨z1, g1, z3, g2, e0, e1⟩ | h
  · have z := ti_add g2 hi (show (1 : Int32).toInt = 1 from rfl) (by omega) (by omega)
    rw [cn_of hi] at e1
    have e1' : ta' = vu (vu (vu (vu ta 7 i p0) 8 i p1) 9 i (vp_nar .byte z1)) 10 i p3 := e1
    refine ⟨by rw [e0, pk_us]; exact z, fun j q => by rw [e0]; exact pk_un q, ⟨?_, ?_, ?_, ?_⟩, fun f j q => ?_⟩
    · rw [e1', vu_p (by omega), vu_p (by omega), vu_p (by omega), vu_s]
    · rw [e1', vu_p (by omega), vu_p (by omega), vu_s]
    · rw [e1', vu_p (by omega), vu_s, g1]
      exact hs
    · rw [e1', vu_s]
    · rw [e1', vu_p (by omega), vu_p (by omega), vu_p (by omega), vu_p (by omega)]
  · exact h.elim
end TA
