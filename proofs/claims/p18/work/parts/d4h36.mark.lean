/-! CHARACTERS, STRINGS, MARKS -/
/-- the character that begins at i within quotes of q, or -1; how many bytes it takes -/
def qV (b : Nat → Int) (i : Nat) (q : Int) : Int := if b i = 92 then (if b (i + 1) = 110 then 10 else if b (i + 1) = 48 then 0 else if b (i + 1) = q ∨ b (i + 1) = 92 then b (i + 1) else -1) else if 32 ≤ b i ∧ b i ≤ 126 ∧ ¬ b i = q then b i else -1
def qW (b : Nat → Int) (i : Nat) : Nat := if b i = 92 then 2 else 1
/-- the characters of a string: how many, and where they end -/
def sC (b : Nat → Int) : Nat → Nat → Nat × Nat
  | 0, i => (0, i)
  | d + 1, i => if 0 ≤ qV b i 34 then ((sC b d (i + qW b i)).1 + 1, (sC b d (i + qW b i)).2) else (0, i)
def isMk (c : Int) : Bool := decide (c = 40 ∨ c = 41 ∨ c = 123 ∨ c = 125 ∨ c = 91 ∨ c = 93 ∨ c = 44 ∨ c = 59 ∨ c = 58 ∨ c = 63 ∨ c = 61 ∨ c = 124 ∨ c = 94 ∨ c = 38 ∨ c = 60 ∨ c = 62 ∨ c = 43 ∨ c = 45 ∨ c = 42 ∨ c = 47 ∨ c = 37 ∨ c = 33 ∨ c = 126)
def dblK (c : Int) : Int := if c = 38 then 136 else if c = 43 then 138 else if c = 45 then 139 else if c = 60 then 134 else if c = 62 then 135 else if c = 124 then 137 else 0
def weqK (k : Int) : Int := if k = 33 then 131 else if k = 60 then 132 else if k = 62 then 133 else if k = 256 then 130 else if k = 37 ∨ k = 38 ∨ k = 42 ∨ k = 43 ∨ k = 45 ∨ k = 47 ∨ k = 94 ∨ k = 124 ∨ k = 134 ∨ k = 135 then 256 + k else 0
def mkA (b : Nat → Int) (p : Nat) : Int := if b (p + 1) = b p then dblK (b p) else 0
def mk1 (b : Nat → Int) (p : Nat) : Int := if 0 < mkA b p then mkA b p else if b p = 61 then 256 else b p
def mkS (b : Nat → Int) (p : Nat) : Nat := if 0 < mkA b p then 2 else 1
def mkW (b : Nat → Int) (p : Nat) : Int := if b (p + mkS b p) = 61 then weqK (mk1 b p) else 0
/-- the kind of a mark, and how long it is -/
def mkK (b : Nat → Int) (p : Nat) : Int := if 0 < mkW b p then mkW b p else mk1 b p
def mkE (b : Nat → Int) (p : Nat) : Nat := if 0 < mkW b p then p + mkS b p + 1 else p + mkS b p
def mkO (b : Nat → Int) (p : Nat) : Bool := isMk (b p) && !decide (b p = 47 ∧ b (p + 1) = 42)
theorem dbl_r {p0 v : Int32} (h : R_t2_doubled p0 v) : v.toInt = dblK p0.toInt := by
  unfold dblK
  rcases h with (⟨h1, ev⟩ | ⟨h1, ev⟩ | ⟨h1, ev⟩ | ⟨h1, ev⟩ | ⟨h1, ev⟩ | ⟨h1, ev⟩ | ⟨h1, ev⟩) | h
  · have q : ∀ k ∈ ([38, 43, 45, 60, 62, 124] : List Int), ¬ p0.toInt = k := h1
    rw [ev, if_neg (q 38 (by simp)), if_neg (q 43 (by simp)), if_neg (q 45 (by simp)), if_neg (q 60 (by simp)), if_neg (q 62 (by simp)), if_neg (q 124 (by simp))]
    rfl
  all_goals first
    | exact h.elim
    | (rw [ev, h1]; rfl)
theorem weq_r {p0 v : Int32} (h : R_t2_withEquals p0 v) : v.toInt = weqK p0.toInt := by
  unfold weqK
  rcases h with (⟨h1, ev⟩ | ⟨h1, ev⟩ | ⟨h1, z3, h2, ev⟩ | ⟨h1, ev⟩ | ⟨h1, ev⟩ | ⟨h1, ev⟩) | h
  · have q : ∀ k ∈ ([33, 37, 38, 42, 43, 45, 47, 60, 62, 94, 124, 134, 135, 256] : List Int), ¬ p0.toInt = k := h1
    have q33 := q 33 (by simp)
    have q37 := q 37 (by simp)
    have q38 := q 38 (by simp)
    have q42 := q 42 (by simp)
    have q43 := q 43 (by simp)
    have q45 := q 45 (by simp)
    have q47 := q 47 (by simp)
    have q60 := q 60 (by simp)
    have q62 := q 62 (by simp)
    have q94 := q 94 (by simp)
    have q124 := q 124 (by simp)
    have q134 := q 134 (by simp)
    have q135 := q 135 (by simp)
    have q256 := q 256 (by simp)
    rw [ev, if_neg q33, if_neg q60, if_neg q62, if_neg q256, if_neg (by omega)]
    rfl
  · rw [ev, h1]; rfl
  · have z := ti_add h2 (show (256 : Int32).toInt = 256 from rfl) (rfl : p0.toInt = p0.toInt) (by omega) (by omega)
    rw [ev, z, if_neg (by omega), if_neg (by omega), if_neg (by omega), if_neg (by omega), if_pos h1]
  · rw [ev, h1]; rfl
  · rw [ev, h1]; rfl
  · rw [ev, h1]; rfl
  · exact h.elim
/-- what a string does: s characters stand before, r: the others and where they end -/
def StRq (tb : Nat → Int32) (n : Nat) (f : Nat → Int32) (a : Nat → Nat → Int32) (f' : Nat → Int32) (a' : Nat → Nat → Int32) (v : Int32) (Q s : Nat) (r : Nat × Nat) (i : Nat) : Prop :=
  ((s + r.1 ≤ 200 ∧ bt tb n r.2 = 34) ∧ v = 18 ∧ (f' 8).toInt = ((r.2 + 1 : Nat) : Int) ∧ f' 9 = f 12 ∧ (f' 12).toInt = ((Q + (s + r.1) + 1 : Nat) : Int) ∧ (a' 5 Q).toInt = ((s + r.1 : Nat) : Int) ∧ (∀ j : Nat, ¬ j = 8 → ¬ j = 9 → ¬ j = 12 → f' j = f j) ∧ (∀ j : Nat, ¬ j = 5 → a' j = a j) ∧ (∀ j : Nat, j < Q → a' 5 j = a 5 j) ∧ r.2 < n ∧ i + r.1 ≤ r.2) ∨ (¬ (s + r.1 ≤ 200 ∧ bt tb n r.2 = 34) ∧ v = 19 ∧ (∀ j : Nat, f' j = f j) ∧ (∀ j : Nat, ¬ j = 5 → a' j = a j) ∧ (∀ j : Nat, j < Q → a' 5 j = a 5 j))
section SY
variable {tb : Nat → Int32} {n : Nat}
theorem qat_r {f : Nat → Int32} {p0 p1 v : Int32} {i : Nat} (hn : (f 7).toInt = (n : Int)) (hb : n ≤ 2048) (hp : p0.toInt = (i : Int)) (hi : i ≤ 5000) (h : R_t2_quotedAt tb f p0 p1 v) : v.toInt = qV (bt tb n) i p1.toInt := by
  unfold qV
  have b1 : ∀ {z w : Int32}, z = p0 + 1 → R_t2_byteAt tb f z w → w.toInt = bt tb n (i + 1) := by
    intro z w hz hw
    have := ti_add hz hp (show (1 : Int32).toInt = 1 from rfl) (by omega) (by omega)
    exact byte_r (p := i + 1) hn hb (by omega) hw
  rcases h with ⟨v2, h1, (⟨h2, (⟨h3, ev⟩ | ⟨h3, (⟨h4, ev⟩ | ⟨h4, (⟨h5, ev⟩ | ⟨h5, ev⟩)⟩)⟩)⟩ | ⟨h2, z16, h3, v18, h4, (⟨h5, (⟨h6, (⟨h7, ev⟩ | ⟨h7, (⟨h8, ev⟩ | ⟨h8, ev⟩)⟩)⟩ | ⟨h6, ev⟩)⟩ | ⟨h5, ev⟩)⟩)⟩ | h
  all_goals first
    | exact h.elim
    | skip
  all_goals have e := byte_r hn hb hp h1
  · rw [ev, if_neg (by omega), if_neg (by omega)]; rfl
  · rw [ev, if_neg (by omega), if_neg (by omega)]; rfl
  · rw [ev, if_neg (by omega), if_neg (by omega)]; rfl
  · rw [ev, if_neg (by omega), if_pos (by omega)]; exact e
  · have e2 := b1 h3 h4
    rw [ev, if_pos (by omega), if_neg (by omega), if_neg (by omega), if_pos (by omega)]; exact e2
  · have e2 := b1 h3 h4
    rw [ev, if_pos (by omega), if_neg (by omega), if_neg (by omega), if_neg (by omega)]; rfl
  · have e2 := b1 h3 h4
    rw [ev, if_pos (by omega), if_neg (by omega), if_neg (by omega), if_pos (by omega)]; exact e2
  · have e2 := b1 h3 h4
    rw [ev, if_pos (by omega), if_neg (by omega), if_pos (by omega)]; rfl
  · have e2 := b1 h3 h4
    rw [ev, if_pos (by omega), if_pos (by omega)]; rfl
theorem qwd_r {f : Nat → Int32} {p0 v : Int32} {i : Nat} (hn : (f 7).toInt = (n : Int)) (hb : n ≤ 2048) (hp : p0.toInt = (i : Int)) (h : R_t2_quotedWidth tb f p0 v) : v.toInt = ((qW (bt tb n) i : Nat) : Int) := by
  unfold qW
  rcases h with ⟨v2, h1, (⟨h2, ev⟩ | ⟨h2, ev⟩)⟩ | h
  · have e := byte_r hn hb hp h1
    rw [ev, if_neg (by omega)]; rfl
  · have e := byte_r hn hb hp h1
    rw [ev, if_pos (by omega)]; rfl
  · exact h.elim
theorem qW_b {b : Nat → Int} {i : Nat} : 1 ≤ qW b i ∧ qW b i ≤ 2 := by
  unfold qW
  split <;> omega
/-- a character that can stand lies within the text -/
theorem qV_in {i : Nat} {q : Int} (h : 0 ≤ qV (bt tb n) i q) : i + qW (bt tb n) i ≤ n := by
  unfold qV at h
  unfold qW
  by_cases h1 : bt tb n i = 92
  · rw [if_pos h1] at h ⊢
    rcases Nat.lt_or_ge (i + 1) n with y | y
    · omega
    · rw [bt_end y] at h
      exfalso
      rcases Nat.lt_or_ge i n with y' | y'
      · split at h
        · omega
        · split at h
          · omega
          · split at h <;> omega
      · rw [bt_end y'] at h1; omega
  · rw [if_neg h1] at h ⊢
    rcases Nat.lt_or_ge i n with y | y
    · omega
    · rw [bt_end y] at h
      exfalso
      split at h <;> omega
theorem chr_ok {f f' : Nat → Int32} {a a' : Nat → Nat → Int32} {v : Int32} {p : Nat} (hb : n ≤ 2048) (hn : (f 7).toInt = (n : Int)) (hp : (f 8).toInt = (p : Int)) (hpn : p < n) (h : R_t2_character tb f a f' a' v) :
    a' = a ∧ (∀ i : Nat, ¬ i = 8 → ¬ i = 9 → f' i = f i) ∧ (((0 ≤ qV (bt tb n) (p + 1) 39 ∧ bt tb n (p + 1 + qW (bt tb n) (p + 1)) = 39) ∧ v = 17 ∧ (f' 8).toInt = ((p + 2 + qW (bt tb n) (p + 1) : Nat) : Int) ∧ (f' 9).toInt = qV (bt tb n) (p + 1) 39) ∨ (¬ (0 ≤ qV (bt tb n) (p + 1) 39 ∧ bt tb n (p + 1 + qW (bt tb n) (p + 1)) = 39) ∧ v = 19)) := by
  have wb := qW_b (b := bt tb n) (i := p + 1)
  rcases h with ⟨z2, h1, v4, h2, z10, h3, z12, h4, v14, h5, z18, h6, (⟨h7, e0, e1, ev⟩ | ⟨h7, v22, h8, (⟨h9, z30, h10, e0, e1, ev⟩ | ⟨h9, e0, e1, ev⟩)⟩)⟩ | h
  all_goals first
    | exact h.elim
    | skip
  all_goals have z1 := ti_add h1 hp (show (1 : Int32).toInt = 1 from rfl) (by omega) (by omega)
  all_goals have z3 := ti_add h3 hp (show (1 : Int32).toInt = 1 from rfl) (by omega) (by omega)
  all_goals have z4 := ti_add h4 hp (show (1 : Int32).toInt = 1 from rfl) (by omega) (by omega)
  all_goals have e2 := qat_r (i := p + 1) hn hb (by omega) (by omega) h2
  all_goals have e5 := qwd_r (i := p + 1) hn hb (by omega) h5
  all_goals have z6 := ti_add h6 z3 e5 (by omega) (by omega)
  all_goals rw [show (39 : Int32).toInt = 39 from rfl] at e2
  · rw [e0]
    exact ⟨e1, fun _ _ _ => rfl, Or.inr ⟨fun y => by omega, ev⟩⟩
  · have e8 := byte_r (p := p + 1 + qW (bt tb n) (p + 1)) hn hb (by omega) h8
    have z10 := ti_add h10 z6 (show (1 : Int32).toInt = 1 from rfl) (by omega) (by omega)
    rw [e0]
    refine ⟨e1, fun i a b => by rw [pk_un b, pk_un a], Or.inl ⟨⟨by omega, by omega⟩, ev, ?_, ?_⟩⟩
    · rw [pk_un (by decide), pk_us]; omega
    · rw [pk_us]; exact e2
  · have e8 := byte_r (p := p + 1 + qW (bt tb n) (p + 1)) hn hb (by omega) h8
    rw [e0]
    exact ⟨e1, fun _ _ _ => rfl, Or.inr ⟨fun y => by omega, ev⟩⟩
theorem str_17 {f' : Nat → Int32} {a' : Nat → Nat → Int32} {v : Int32} {f : Nat → Int32} {p Q : Nat} (hb : n ≤ 2048) (hn : (f 7).toInt = (n : Int)) (hQ : (f 12).toInt = (Q : Int)) (hQp : Q ≤ p) :
    ∀ (d i s k : Nat) (x1 x2 x3 : Int32) (a : Nat → Nat → Int32), E_t2_string tb f' a' v k 17 [x1, x2, x3] [] [] [] [] f a → x1.toInt = (i : Int) → x2.toInt = (s : Int) → x3.toInt = qV (bt tb n) i 34 → p + 1 + s ≤ i → n ≤ i + d → i ≤ n + 1 → s ≤ 201 →
      StRq tb n f a f' a' v Q s (sC (bt tb n) d i) i := by
  intro d
  have lt : ∀ {i : Nat} {w : Int}, bt tb n i = w → 0 ≤ w → i < n := by
    intro i w e hw
    rcases Nat.lt_or_ge i n with q | q
    · exact q
    · rw [bt_end q] at e; omega
  /- where the characters end -/
  have stop : ∀ (i s k : Nat) (x1 x2 x3 : Int32) (a : Nat → Nat → Int32), E_t2_string tb f' a' v k 17 [x1, x2, x3] [] [] [] [] f a → x1.toInt = (i : Int) → x2.toInt = (s : Int) → x3.toInt < 0 → p + 1 + s ≤ i → i ≤ n + 1 → s ≤ 201 → StRq tb n f a f' a' v Q s (0, i) i := by
    intro i s k x1 x2 x3 a h hx1 hx2 hx3 hps hi hs
    rcases iv_t2_string_17 h with ⟨k, (⟨g1, (⟨g2, e0, e1, ev⟩ | ⟨g2, v6, g3, (⟨g4, e0, e1, ev⟩ | ⟨g4, z15, g5, (⟨g6, z18, g7, z20, g8, z21, g9, e0, e1, ev⟩ | ⟨g6, e0, e1, ev⟩)⟩)⟩)⟩ | ⟨g1, (⟨g2, (⟨g3, e0, e1, ev⟩ | ⟨g3, v27, g4, (⟨g5, e0, e1, ev⟩ | ⟨g5, z36, g6, (⟨g7, z39, g8, z41, g9, z42, g10, e0, e1, ev⟩ | ⟨g7, e0, e1, ev⟩)⟩)⟩)⟩ | ⟨g2, z44, g3, z45, g4, (⟨g5, z48, g6, v50, g7, z54, g8, v56, g9, hE⟩ | ⟨g5, z62, g6, z63, g7, z64, g8, v66, g9, z70, g10, v72, g11, hE⟩)⟩)⟩)⟩
    · exact Or.inr ⟨fun y => by have y1 : s + 0 ≤ 200 := y.1; omega, ev, fun _ => by rw [e0], fun _ _ => by rw [e1], fun _ _ => by rw [e1]⟩
    · have e3 := byte_r hn hb hx1 g3
      exact Or.inr ⟨fun y => by have y2 : bt tb n i = 34 := y.2; omega, ev, fun _ => by rw [e0], fun _ _ => by rw [e1], fun _ _ => by rw [e1]⟩
    · have e3 := byte_r hn hb hx1 g3
      have hin : i < n := lt (w := 34) (by omega) (by omega)
      have z5 := ti_add g5 hQ hx2 (by omega) (by omega)
      have z7 := ti_add g7 hx2 (show (1 : Int32).toInt = 1 from rfl) (by omega) (by omega)
      have z8 := ti_add g8 hQ z7 (by omega) (by omega)
      have z9 := ti_add g9 hx1 (show (1 : Int32).toInt = 1 from rfl) (by omega) (by omega)
      have hk : (f 12).toNatClampNeg = Q := cn_of hQ
      refine Or.inl ⟨⟨by show s + 0 ≤ 200; omega, by show bt tb n i = 34; omega⟩, ev, ?_, ?_, ?_, ?_, ?_, ?_, ?_, hin, Nat.le_refl _⟩
      · rw [e0, pk_un (by decide), pk_un (by decide), pk_us]; show _ = ((i + 1 : Nat) : Int); omega
      · rw [e0, pk_un (by decide), pk_us]
      · rw [e0, pk_us, z8]; show _ = ((Q + (s + 0) + 1 : Nat) : Int); omega
      · rw [e1, va_up_s, hk, pk_us]; show _ = ((s + 0 : Nat) : Int); omega
      · intro j j1 j2 j3; rw [e0, pk_un j3, pk_un j2, pk_un j1]
      · intro j j1; rw [e1, va_up_n j1]
      · intro j j1; rw [e1, va_up_s, hk, pk_un (by omega)]
    · exfalso
      have e3 := byte_r hn hb hx1 g3
      have hin : i < n := lt (w := 34) (by omega) (by omega)
      have z5 := ti_add g5 hQ hx2 (by omega) (by omega)
      omega
    all_goals (exfalso; omega)
  induction d with
  | zero =>
    intro i s k x1 x2 x3 a h hx1 hx2 hx3 hps hd hi hs
    have q0 : qV (bt tb n) i 34 = -1 := by
      unfold qV
      rw [bt_end (by omega), if_neg (by decide), if_neg (by decide)]
    exact stop i s k x1 x2 x3 a h hx1 hx2 (by omega) hps hi hs
  | succ d ih =>
    intro i s k x1 x2 x3 a h hx1 hx2 hx3 hps hd hi hs
    have un : sC (bt tb n) (d + 1) i = if 0 ≤ qV (bt tb n) i 34 then ((sC (bt tb n) d (i + qW (bt tb n) i)).1 + 1, (sC (bt tb n) d (i + qW (bt tb n) i)).2) else (0, i) := by first | rfl | simp [sC]
    rw [un]
    by_cases hv : 0 ≤ qV (bt tb n) i 34
    · rw [if_pos hv]
      have wb := qW_b (b := bt tb n) (i := i)
      have wi := qV_in (tb := tb) (n := n) (i := i) (q := 34) hv
      rcases iv_t2_string_17 h with ⟨k, (⟨g1, (⟨g2, e0, e1, ev⟩ | ⟨g2, v6, g3, (⟨g4, e0, e1, ev⟩ | ⟨g4, z15, g5, (⟨g6, z18, g7, z20, g8, z21, g9, e0, e1, ev⟩ | ⟨g6, e0, e1, ev⟩)⟩)⟩)⟩ | ⟨g1, (⟨g2, (⟨g3, e0, e1, ev⟩ | ⟨g3, v27, g4, (⟨g5, e0, e1, ev⟩ | ⟨g5, z36, g6, (⟨g7, z39, g8, z41, g9, z42, g10, e0, e1, ev⟩ | ⟨g7, e0, e1, ev⟩)⟩)⟩)⟩ | ⟨g2, z44, g3, z45, g4, (⟨g5, z48, g6, v50, g7, z54, g8, v56, g9, hE⟩ | ⟨g5, z62, g6, z63, g7, z64, g8, v66, g9, z70, g10, v72, g11, hE⟩)⟩)⟩)⟩
      · exfalso; omega
      · exfalso; omega
      · exfalso; omega
      · exfalso; omega
      · exact Or.inr ⟨fun y => by have y1 : s + ((sC (bt tb n) d (i + qW (bt tb n) i)).1 + 1) ≤ 200 := y.1; omega, ev, fun _ => by rw [e0], fun _ _ => by rw [e1], fun _ _ => by rw [e1]⟩
      · exact absurd g2 g3
      · exact absurd g2 g3
      · exact absurd g2 g3
      · exfalso
        have z3 := ti_add g3 hQ (show (1 : Int32).toInt = 1 from rfl) (by omega) (by omega)
        have z4 := ti_add g4 z3 hx2 (by omega) (by omega)
        omega
      · have z6 := ti_add g6 hQ (show (1 : Int32).toInt = 1 from rfl) (by omega) (by omega)
        have z7 := ti_add g7 z6 hx2 (by omega) (by omega)
        have z8 := ti_add g8 hx2 (show (1 : Int32).toInt = 1 from rfl) (by omega) (by omega)
        have e9 := qwd_r hn hb hx1 g9
        have z10 := ti_add g10 hx1 e9 (by omega) (by omega)
        have e11 := qat_r (i := i + qW (bt tb n) i) hn hb (by omega) (by omega) g11
        rw [show (34 : Int32).toInt = 34 from rfl] at e11
        have hk : z63.toNatClampNeg = Q + 1 + s := cn_of (by omega)
        have o1 := ih (i + qW (bt tb n) i) (s + 1) k z70 z64 v72 _ hE (by omega) (by omega) e11 (by omega) (by omega) (by omega) (by omega)
        have k5 : ∀ j : Nat, ¬ j = 5 → va_up a 5 (upd (a 5) z63.toNatClampNeg x3) j = a j := fun j hj => va_up_n hj
        have k6 : ∀ j : Nat, j < Q → va_up a 5 (upd (a 5) z63.toNatClampNeg x3) 5 j = a 5 j := fun j hj => by rw [va_up_s, hk, pk_un (by omega)]
        have ee : s + ((sC (bt tb n) d (i + qW (bt tb n) i)).1 + 1) = s + 1 + (sC (bt tb n) d (i + qW (bt tb n) i)).1 := by omega
        unfold StRq at o1 ⊢
        dsimp only
        rw [ee]
        rcases o1 with ⟨r1, r2, r3, r4, r5, r6, r7, r8, r9, r10, r11⟩ | ⟨r1, r2, r3, r4, r5⟩
        · exact Or.inl ⟨r1, r2, r3, r4, r5, r6, r7, fun j hj => (r8 j hj).trans (k5 j hj), fun j hj => (r9 j hj).trans (k6 j hj), r10, by omega⟩
        · exact Or.inr ⟨r1, r2, r3, fun j hj => (r4 j hj).trans (k5 j hj), fun j hj => (r5 j hj).trans (k6 j hj)⟩
    · rw [if_neg hv]
      exact stop i s k x1 x2 x3 a h hx1 hx2 (by omega) hps hi hs
theorem lstr_ok {f f' : Nat → Int32} {a a' : Nat → Nat → Int32} {v : Int32} {p Q : Nat} (hb : n ≤ 2048) (hn : (f 7).toInt = (n : Int)) (hp : (f 8).toInt = (p : Int)) (hpn : p < n) (hQ : (f 12).toInt = (Q : Int)) (hQp : Q ≤ p) (h : R_t2_string tb f a f' a' v) : StRq tb n f a f' a' v Q 0 (sC (bt tb n) n (p + 1)) (p + 1) := by
  obtain ⟨k, h⟩ := h
  obtain ⟨k, z78, h1, v80, h2, hE⟩ := iv_t2_string_0 h
  have z1 := ti_add h1 hp (show (1 : Int32).toInt = 1 from rfl) (by omega) (by omega)
  have e2 := qat_r (i := p + 1) hn hb (by omega) (by omega) h2
  rw [show (34 : Int32).toInt = 34 from rfl] at e2
  exact str_17 hb hn hQ hQp n (p + 1) 0 k _ _ _ a hE (by omega) (by rfl) e2 (by omega) (by omega) (by omega) (by omega)
end SY
section SZ
variable {tb : Nat → Int32} {n sn : Nat} {sb : Nat → Int32}
theorem nar16 {x : Int32} (h0 : 0 ≤ x.toInt) (h1 : x.toInt ≤ 255) : (x.toUInt32 % 65536).toInt32 = x := by
  have hx : x.toBitVec.toNat < 65536 := by
    have e : x.toInt = x.toBitVec.toInt := rfl
    have lt := x.toBitVec.isLt
    rw [BitVec.toInt_eq_toNat_cond] at e
    split at e <;> omega
  apply Int32.toBitVec_inj.mp
  apply BitVec.eq_of_toNat_eq
  show (x.toUInt32 % 65536).toNat = x.toUInt32.toNat
  rw [UInt32.toNat_mod]
  exact Nat.mod_eq_of_lt hx
/-- a mark: its kind and where it ends -/
theorem mark_ok {f f' : Nat → Int32} {a a' : Nat → Nat → Int32} {p0 v : Int32} {p : Nat} (hM : ∀ z w : Int32, R_String_indexOf1 sn sb z w → 0 ≤ z.toInt → z.toInt ≤ 255 → (w.toInt < 0 ↔ isMk z.toInt = false)) (hb : n ≤ 2048) (hn : (f 7).toInt = (n : Int)) (hp : (f 8).toInt = (p : Int)) (hpn : p < n) (hc : p0.toInt = bt tb n p) (h : R_t2_mark sn sb tb p0 f a f' a' v) :
    a' = a ∧ ((mkO (bt tb n) p = true ∧ v.toInt = mkK (bt tb n) p ∧ ∃ z : Int32, f' = upd f 8 z ∧ z.toInt = ((mkE (bt tb n) p : Nat) : Int)) ∨ (mkO (bt tb n) p = false ∧ v = 19 ∧ f' = f)) := by
  have rg := bt_rng (tb := tb) hpn
  have ix : ∀ {z w : Int32}, z = (p0.toUInt32 % 65536).toInt32 → R_String_indexOf1 sn sb z w → (w.toInt < 0 ↔ isMk (bt tb n p) = false) := by
    intro z w hz hw
    rw [nar16 (by omega) (by omega)] at hz
    rw [hz] at hw
    rw [← hc]
    exact hM _ _ hw (by omega) (by omega)
  have bad1 : isMk (bt tb n p) = false → mkO (bt tb n) p = false := fun q => by unfold mkO; rw [q]; rfl
  have bad2 : bt tb n p = 47 → bt tb n (p + 1) = 42 → mkO (bt tb n) p = false := fun q r => by unfold mkO; rw [decide_eq_true ⟨q, r⟩, Bool.not_true, Bool.and_false]
  have good : ¬ isMk (bt tb n p) = false → ¬ (bt tb n p = 47 ∧ bt tb n (p + 1) = 42) → mkO (bt tb n) p = true := fun q r => by
    unfold mkO
    rw [decide_eq_false r]
    cases hk : isMk (bt tb n p) with
    | true => rfl
    | false => exact absurd hk q
  rcases h with (⟨h1, z3, h2, v5, h3, (⟨h4, e0, e1, ev⟩ | ⟨h4, (⟨h5, z12, h6, v14, h7, (⟨h8, z24, h9, v26, h10, (⟨h11, z36, h12, e0, e1, ev⟩ | ⟨h11, v38, h12, (⟨h13, z43, h14, e0, e1, ev⟩ | ⟨h13, z44, h14, z46, h15, e0, e1, ev⟩)⟩)⟩ | ⟨h8, v48, h9, (⟨h10, z53, h11, v55, h12, (⟨h13, z65, h14, e0, e1, ev⟩ | ⟨h13, v67, h14, (⟨h15, z72, h16, e0, e1, ev⟩ | ⟨h15, z73, h16, z75, h17, e0, e1, ev⟩)⟩)⟩ | ⟨h10, z77, h11, v79, h12, (⟨h13, z89, h14, e0, e1, ev⟩ | ⟨h13, v91, h14, (⟨h15, z96, h16, e0, e1, ev⟩ | ⟨h15, z97, h16, z99, h17, e0, e1, ev⟩)⟩)⟩)⟩)⟩ | ⟨h5, z101, h6, v103, h7, (⟨h8, z112, h9, v114, h10, (⟨h11, z124, h12, v126, h13, (⟨h14, z136, h15, e0, e1, ev⟩ | ⟨h14, v138, h15, (⟨h16, z143, h17, e0, e1, ev⟩ | ⟨h16, z144, h17, z146, h18, e0, e1, ev⟩)⟩)⟩ | ⟨h11, v148, h12, (⟨h13, z153, h14, v155, h15, (⟨h16, z165, h17, e0, e1, ev⟩ | ⟨h16, v167, h17, (⟨h18, z172, h19, e0, e1, ev⟩ | ⟨h18, z173, h19, z175, h20, e0, e1, ev⟩)⟩)⟩ | ⟨h13, z177, h14, v179, h15, (⟨h16, z189, h17, e0, e1, ev⟩ | ⟨h16, v191, h17, (⟨h18, z196, h19, e0, e1, ev⟩ | ⟨h18, z197, h19, z199, h20, e0, e1, ev⟩)⟩)⟩)⟩)⟩ | ⟨h8, e0, e1, ev⟩)⟩)⟩)⟩ | ⟨h1, z200, h2, v202, h3, (⟨h4, e0, e1, ev⟩ | ⟨h4, (⟨h5, z209, h6, v211, h7, (⟨h8, z221, h9, v223, h10, (⟨h11, z233, h12, e0, e1, ev⟩ | ⟨h11, v235, h12, (⟨h13, z240, h14, e0, e1, ev⟩ | ⟨h13, z241, h14, z243, h15, e0, e1, ev⟩)⟩)⟩ | ⟨h8, v245, h9, (⟨h10, z250, h11, v252, h12, (⟨h13, z262, h14, e0, e1, ev⟩ | ⟨h13, v264, h14, (⟨h15, z269, h16, e0, e1, ev⟩ | ⟨h15, z270, h16, z272, h17, e0, e1, ev⟩)⟩)⟩ | ⟨h10, z274, h11, v276, h12, (⟨h13, z286, h14, e0, e1, ev⟩ | ⟨h13, v288, h14, (⟨h15, z293, h16, e0, e1, ev⟩ | ⟨h15, z294, h16, z296, h17, e0, e1, ev⟩)⟩)⟩)⟩)⟩ | ⟨h5, z298, h6, v300, h7, (⟨h8, z309, h9, v311, h10, (⟨h11, z321, h12, v323, h13, (⟨h14, z333, h15, e0, e1, ev⟩ | ⟨h14, v335, h15, (⟨h16, z340, h17, e0, e1, ev⟩ | ⟨h16, z341, h17, z343, h18, e0, e1, ev⟩)⟩)⟩ | ⟨h11, v345, h12, (⟨h13, z350, h14, v352, h15, (⟨h16, z362, h17, e0, e1, ev⟩ | ⟨h16, v364, h17, (⟨h18, z369, h19, e0, e1, ev⟩ | ⟨h18, z370, h19, z372, h20, e0, e1, ev⟩)⟩)⟩ | ⟨h13, z374, h14, v376, h15, (⟨h16, z386, h17, e0, e1, ev⟩ | ⟨h16, v388, h17, (⟨h18, z393, h19, e0, e1, ev⟩ | ⟨h18, z394, h19, z396, h20, e0, e1, ev⟩)⟩)⟩)⟩)⟩ | ⟨h8, e0, e1, ev⟩)⟩)⟩)⟩) | h
  · have hz_ := h2
    have k_ix := ix hz_ h3
    first
      | (exfalso; omega)
      | exact ⟨e1, Or.inr ⟨bad1 (k_ix.mp (by assumption)), ev, e0⟩⟩
      | exact ⟨e1, Or.inr ⟨bad2 (by omega) (by omega), ev, e0⟩⟩
  · have hz_ := h2
    have k_ix := ix hz_ h3
    have k_z12 := ti_add h6 hp (show (1 : Int32).toInt = 1 from rfl) (by omega) (by omega)
    have k_v14 := byte_r (p := p + 1) hn hb (by omega) h7
    have k_z24 := ti_add h9 hp (show (1 : Int32).toInt = 1 from rfl) (by omega) (by omega)
    have k_v26 := byte_r (p := p + 1) hn hb (by omega) h10
    have k_z36 := ti_add h12 hp (show (1 : Int32).toInt = 1 from rfl) (by omega) (by omega)
    have c256 : (256 : Int32).toInt = 256 := rfl
    have a0 : mkA (bt tb n) p = 0 := by unfold mkA; rw [if_neg (by omega)]
    have a1 : mk1 (bt tb n) p = bt tb n p := by unfold mk1; rw [if_neg (by omega), if_neg (by omega)]
    have a2 : mkS (bt tb n) p = 1 := by unfold mkS; rw [if_neg (by omega)]
    have a3 : mkW (bt tb n) p = 0 := by unfold mkW; rw [a2, if_neg (by omega)]
    refine ⟨e1, Or.inl ⟨good (fun y => absurd (k_ix.mpr y) (by assumption)) (by omega), ?_, _, e0, ?_⟩⟩
    · rw [ev]; unfold mkK; rw [if_neg (by omega)]; omega
    · unfold mkE; rw [if_neg (by omega), a2]; omega
  · have hz_ := h2
    have k_ix := ix hz_ h3
    have k_z12 := ti_add h6 hp (show (1 : Int32).toInt = 1 from rfl) (by omega) (by omega)
    have k_v14 := byte_r (p := p + 1) hn hb (by omega) h7
    have k_z24 := ti_add h9 hp (show (1 : Int32).toInt = 1 from rfl) (by omega) (by omega)
    have k_v26 := byte_r (p := p + 1) hn hb (by omega) h10
    have k_v38 := weq_r h12
    rw [hc] at k_v38
    have k_z43 := ti_add h14 hp (show (1 : Int32).toInt = 1 from rfl) (by omega) (by omega)
    have c256 : (256 : Int32).toInt = 256 := rfl
    have a0 : mkA (bt tb n) p = 0 := by unfold mkA; rw [if_neg (by omega)]
    have a1 : mk1 (bt tb n) p = bt tb n p := by unfold mk1; rw [if_neg (by omega), if_neg (by omega)]
    have a2 : mkS (bt tb n) p = 1 := by unfold mkS; rw [if_neg (by omega)]
    have a3 : mkW (bt tb n) p = weqK (bt tb n p) := by unfold mkW; rw [a2, if_pos (by omega), a1]
    refine ⟨e1, Or.inl ⟨good (fun y => absurd (k_ix.mpr y) (by assumption)) (by omega), ?_, _, e0, ?_⟩⟩
    · rw [ev]; unfold mkK; rw [if_neg (by omega)]; omega
    · unfold mkE; rw [if_neg (by omega), a2]; omega
  · have hz_ := h2
    have k_ix := ix hz_ h3
    have k_z12 := ti_add h6 hp (show (1 : Int32).toInt = 1 from rfl) (by omega) (by omega)
    have k_v14 := byte_r (p := p + 1) hn hb (by omega) h7
    have k_z24 := ti_add h9 hp (show (1 : Int32).toInt = 1 from rfl) (by omega) (by omega)
    have k_v26 := byte_r (p := p + 1) hn hb (by omega) h10
    have k_v38 := weq_r h12
    rw [hc] at k_v38
    have k_z44 := ti_add h14 (show (1 : Int32).toInt = 1 from rfl) (show (1 : Int32).toInt = 1 from rfl) (by omega) (by omega)
    have k_z46 := ti_add h15 hp k_z44 (by omega) (by omega)
    have c256 : (256 : Int32).toInt = 256 := rfl
    have a0 : mkA (bt tb n) p = 0 := by unfold mkA; rw [if_neg (by omega)]
    have a1 : mk1 (bt tb n) p = bt tb n p := by unfold mk1; rw [if_neg (by omega), if_neg (by omega)]
    have a2 : mkS (bt tb n) p = 1 := by unfold mkS; rw [if_neg (by omega)]
    have a3 : mkW (bt tb n) p = weqK (bt tb n p) := by unfold mkW; rw [a2, if_pos (by omega), a1]
    refine ⟨e1, Or.inl ⟨good (fun y => absurd (k_ix.mpr y) (by assumption)) (by omega), ?_, _, e0, ?_⟩⟩
    · rw [ev]; unfold mkK; rw [if_pos (by omega)]; omega
    · unfold mkE; rw [if_pos (by omega), a2]; omega
  · have hz_ := h2
    have k_ix := ix hz_ h3
    have k_z12 := ti_add h6 hp (show (1 : Int32).toInt = 1 from rfl) (by omega) (by omega)
    have k_v14 := byte_r (p := p + 1) hn hb (by omega) h7
    have k_v48 := dbl_r h9
    rw [hc] at k_v48
    have k_z53 := ti_add h11 hp (show (1 : Int32).toInt = 1 from rfl) (by omega) (by omega)
    have k_v55 := byte_r (p := p + 1) hn hb (by omega) h12
    have k_z65 := ti_add h14 hp (show (1 : Int32).toInt = 1 from rfl) (by omega) (by omega)
    have c256 : (256 : Int32).toInt = 256 := rfl
    have a0 : mkA (bt tb n) p = dblK (bt tb n p) := by unfold mkA; rw [if_pos (by omega)]
    have a1 : mk1 (bt tb n) p = bt tb n p := by unfold mk1; rw [if_neg (by omega), if_neg (by omega)]
    have a2 : mkS (bt tb n) p = 1 := by unfold mkS; rw [if_neg (by omega)]
    have a3 : mkW (bt tb n) p = 0 := by unfold mkW; rw [a2, if_neg (by omega)]
    refine ⟨e1, Or.inl ⟨good (fun y => absurd (k_ix.mpr y) (by assumption)) (by omega), ?_, _, e0, ?_⟩⟩
    · rw [ev]; unfold mkK; rw [if_neg (by omega)]; omega
    · unfold mkE; rw [if_neg (by omega), a2]; omega
  · have hz_ := h2
    have k_ix := ix hz_ h3
    have k_z12 := ti_add h6 hp (show (1 : Int32).toInt = 1 from rfl) (by omega) (by omega)
    have k_v14 := byte_r (p := p + 1) hn hb (by omega) h7
    have k_v48 := dbl_r h9
    rw [hc] at k_v48
    have k_z53 := ti_add h11 hp (show (1 : Int32).toInt = 1 from rfl) (by omega) (by omega)
    have k_v55 := byte_r (p := p + 1) hn hb (by omega) h12
    have k_v67 := weq_r h14
    rw [hc] at k_v67
    have k_z72 := ti_add h16 hp (show (1 : Int32).toInt = 1 from rfl) (by omega) (by omega)
    have c256 : (256 : Int32).toInt = 256 := rfl
    have a0 : mkA (bt tb n) p = dblK (bt tb n p) := by unfold mkA; rw [if_pos (by omega)]
    have a1 : mk1 (bt tb n) p = bt tb n p := by unfold mk1; rw [if_neg (by omega), if_neg (by omega)]
    have a2 : mkS (bt tb n) p = 1 := by unfold mkS; rw [if_neg (by omega)]
    have a3 : mkW (bt tb n) p = weqK (bt tb n p) := by unfold mkW; rw [a2, if_pos (by omega), a1]
    refine ⟨e1, Or.inl ⟨good (fun y => absurd (k_ix.mpr y) (by assumption)) (by omega), ?_, _, e0, ?_⟩⟩
    · rw [ev]; unfold mkK; rw [if_neg (by omega)]; omega
    · unfold mkE; rw [if_neg (by omega), a2]; omega
  · have hz_ := h2
    have k_ix := ix hz_ h3
    have k_z12 := ti_add h6 hp (show (1 : Int32).toInt = 1 from rfl) (by omega) (by omega)
    have k_v14 := byte_r (p := p + 1) hn hb (by omega) h7
    have k_v48 := dbl_r h9
    rw [hc] at k_v48
    have k_z53 := ti_add h11 hp (show (1 : Int32).toInt = 1 from rfl) (by omega) (by omega)
    have k_v55 := byte_r (p := p + 1) hn hb (by omega) h12
    have k_v67 := weq_r h14
    rw [hc] at k_v67
    have k_z73 := ti_add h16 (show (1 : Int32).toInt = 1 from rfl) (show (1 : Int32).toInt = 1 from rfl) (by omega) (by omega)
    have k_z75 := ti_add h17 hp k_z73 (by omega) (by omega)
    have c256 : (256 : Int32).toInt = 256 := rfl
    have a0 : mkA (bt tb n) p = dblK (bt tb n p) := by unfold mkA; rw [if_pos (by omega)]
    have a1 : mk1 (bt tb n) p = bt tb n p := by unfold mk1; rw [if_neg (by omega), if_neg (by omega)]
    have a2 : mkS (bt tb n) p = 1 := by unfold mkS; rw [if_neg (by omega)]
    have a3 : mkW (bt tb n) p = weqK (bt tb n p) := by unfold mkW; rw [a2, if_pos (by omega), a1]
    refine ⟨e1, Or.inl ⟨good (fun y => absurd (k_ix.mpr y) (by assumption)) (by omega), ?_, _, e0, ?_⟩⟩
    · rw [ev]; unfold mkK; rw [if_pos (by omega)]; omega
    · unfold mkE; rw [if_pos (by omega), a2]; omega
  · have hz_ := h2
    have k_ix := ix hz_ h3
    have k_z12 := ti_add h6 hp (show (1 : Int32).toInt = 1 from rfl) (by omega) (by omega)
    have k_v14 := byte_r (p := p + 1) hn hb (by omega) h7
    have k_v48 := dbl_r h9
    rw [hc] at k_v48
    have k_z77 := ti_add h11 hp (show (2 : Int32).toInt = 2 from rfl) (by omega) (by omega)
    have k_v79 := byte_r (p := p + 2) hn hb (by omega) h12
    have k_z89 := ti_add h14 hp (show (2 : Int32).toInt = 2 from rfl) (by omega) (by omega)
    have c256 : (256 : Int32).toInt = 256 := rfl
    have a0 : mkA (bt tb n) p = dblK (bt tb n p) := by unfold mkA; rw [if_pos (by omega)]
    have a1 : mk1 (bt tb n) p = dblK (bt tb n p) := by unfold mk1; rw [if_pos (by omega), a0]
    have a2 : mkS (bt tb n) p = 2 := by unfold mkS; rw [if_pos (by omega)]
    have a3 : mkW (bt tb n) p = 0 := by unfold mkW; rw [a2, if_neg (by omega)]
    refine ⟨e1, Or.inl ⟨good (fun y => absurd (k_ix.mpr y) (by assumption)) (by omega), ?_, _, e0, ?_⟩⟩
    · rw [ev]; unfold mkK; rw [if_neg (by omega)]; omega
    · unfold mkE; rw [if_neg (by omega), a2]; omega
  · have hz_ := h2
    have k_ix := ix hz_ h3
    have k_z12 := ti_add h6 hp (show (1 : Int32).toInt = 1 from rfl) (by omega) (by omega)
    have k_v14 := byte_r (p := p + 1) hn hb (by omega) h7
    have k_v48 := dbl_r h9
    rw [hc] at k_v48
    have k_z77 := ti_add h11 hp (show (2 : Int32).toInt = 2 from rfl) (by omega) (by omega)
    have k_v79 := byte_r (p := p + 2) hn hb (by omega) h12
    have k_v91 := weq_r h14
    rw [k_v48] at k_v91
    have k_z96 := ti_add h16 hp (show (2 : Int32).toInt = 2 from rfl) (by omega) (by omega)
    have c256 : (256 : Int32).toInt = 256 := rfl
    have a0 : mkA (bt tb n) p = dblK (bt tb n p) := by unfold mkA; rw [if_pos (by omega)]
    have a1 : mk1 (bt tb n) p = dblK (bt tb n p) := by unfold mk1; rw [if_pos (by omega), a0]
    have a2 : mkS (bt tb n) p = 2 := by unfold mkS; rw [if_pos (by omega)]
    have a3 : mkW (bt tb n) p = weqK (dblK (bt tb n p)) := by unfold mkW; rw [a2, if_pos (by omega), a1]
    refine ⟨e1, Or.inl ⟨good (fun y => absurd (k_ix.mpr y) (by assumption)) (by omega), ?_, _, e0, ?_⟩⟩
    · rw [ev]; unfold mkK; rw [if_neg (by omega)]; omega
    · unfold mkE; rw [if_neg (by omega), a2]; omega
  · have hz_ := h2
    have k_ix := ix hz_ h3
    have k_z12 := ti_add h6 hp (show (1 : Int32).toInt = 1 from rfl) (by omega) (by omega)
    have k_v14 := byte_r (p := p + 1) hn hb (by omega) h7
    have k_v48 := dbl_r h9
    rw [hc] at k_v48
    have k_z77 := ti_add h11 hp (show (2 : Int32).toInt = 2 from rfl) (by omega) (by omega)
    have k_v79 := byte_r (p := p + 2) hn hb (by omega) h12
    have k_v91 := weq_r h14
    rw [k_v48] at k_v91
    have k_z97 := ti_add h16 (show (2 : Int32).toInt = 2 from rfl) (show (1 : Int32).toInt = 1 from rfl) (by omega) (by omega)
    have k_z99 := ti_add h17 hp k_z97 (by omega) (by omega)
    have c256 : (256 : Int32).toInt = 256 := rfl
    have a0 : mkA (bt tb n) p = dblK (bt tb n p) := by unfold mkA; rw [if_pos (by omega)]
    have a1 : mk1 (bt tb n) p = dblK (bt tb n p) := by unfold mk1; rw [if_pos (by omega), a0]
    have a2 : mkS (bt tb n) p = 2 := by unfold mkS; rw [if_pos (by omega)]
    have a3 : mkW (bt tb n) p = weqK (dblK (bt tb n p)) := by unfold mkW; rw [a2, if_pos (by omega), a1]
    refine ⟨e1, Or.inl ⟨good (fun y => absurd (k_ix.mpr y) (by assumption)) (by omega), ?_, _, e0, ?_⟩⟩
    · rw [ev]; unfold mkK; rw [if_pos (by omega)]; omega
    · unfold mkE; rw [if_pos (by omega), a2]; omega
  · have hz_ := h2
    have k_ix := ix hz_ h3
    have k_z101 := ti_add h6 hp (show (1 : Int32).toInt = 1 from rfl) (by omega) (by omega)
    have k_v103 := byte_r (p := p + 1) hn hb (by omega) h7
    have k_z112 := ti_add h9 hp (show (1 : Int32).toInt = 1 from rfl) (by omega) (by omega)
    have k_v114 := byte_r (p := p + 1) hn hb (by omega) h10
    have k_z124 := ti_add h12 hp (show (1 : Int32).toInt = 1 from rfl) (by omega) (by omega)
    have k_v126 := byte_r (p := p + 1) hn hb (by omega) h13
    have k_z136 := ti_add h15 hp (show (1 : Int32).toInt = 1 from rfl) (by omega) (by omega)
    have c256 : (256 : Int32).toInt = 256 := rfl
    have a0 : mkA (bt tb n) p = 0 := by unfold mkA; rw [if_neg (by omega)]
    have a1 : mk1 (bt tb n) p = bt tb n p := by unfold mk1; rw [if_neg (by omega), if_neg (by omega)]
    have a2 : mkS (bt tb n) p = 1 := by unfold mkS; rw [if_neg (by omega)]
    have a3 : mkW (bt tb n) p = 0 := by unfold mkW; rw [a2, if_neg (by omega)]
    refine ⟨e1, Or.inl ⟨good (fun y => absurd (k_ix.mpr y) (by assumption)) (by omega), ?_, _, e0, ?_⟩⟩
    · rw [ev]; unfold mkK; rw [if_neg (by omega)]; omega
    · unfold mkE; rw [if_neg (by omega), a2]; omega
  · have hz_ := h2
    have k_ix := ix hz_ h3
    have k_z101 := ti_add h6 hp (show (1 : Int32).toInt = 1 from rfl) (by omega) (by omega)
    have k_v103 := byte_r (p := p + 1) hn hb (by omega) h7
    have k_z112 := ti_add h9 hp (show (1 : Int32).toInt = 1 from rfl) (by omega) (by omega)
    have k_v114 := byte_r (p := p + 1) hn hb (by omega) h10
    have k_z124 := ti_add h12 hp (show (1 : Int32).toInt = 1 from rfl) (by omega) (by omega)
    have k_v126 := byte_r (p := p + 1) hn hb (by omega) h13
    have k_v138 := weq_r h15
    rw [hc] at k_v138
    have k_z143 := ti_add h17 hp (show (1 : Int32).toInt = 1 from rfl) (by omega) (by omega)
    have c256 : (256 : Int32).toInt = 256 := rfl
    have a0 : mkA (bt tb n) p = 0 := by unfold mkA; rw [if_neg (by omega)]
    have a1 : mk1 (bt tb n) p = bt tb n p := by unfold mk1; rw [if_neg (by omega), if_neg (by omega)]
    have a2 : mkS (bt tb n) p = 1 := by unfold mkS; rw [if_neg (by omega)]
    have a3 : mkW (bt tb n) p = weqK (bt tb n p) := by unfold mkW; rw [a2, if_pos (by omega), a1]
    refine ⟨e1, Or.inl ⟨good (fun y => absurd (k_ix.mpr y) (by assumption)) (by omega), ?_, _, e0, ?_⟩⟩
    · rw [ev]; unfold mkK; rw [if_neg (by omega)]; omega
    · unfold mkE; rw [if_neg (by omega), a2]; omega
  · have hz_ := h2
    have k_ix := ix hz_ h3
    have k_z101 := ti_add h6 hp (show (1 : Int32).toInt = 1 from rfl) (by omega) (by omega)
    have k_v103 := byte_r (p := p + 1) hn hb (by omega) h7
    have k_z112 := ti_add h9 hp (show (1 : Int32).toInt = 1 from rfl) (by omega) (by omega)
    have k_v114 := byte_r (p := p + 1) hn hb (by omega) h10
    have k_z124 := ti_add h12 hp (show (1 : Int32).toInt = 1 from rfl) (by omega) (by omega)
    have k_v126 := byte_r (p := p + 1) hn hb (by omega) h13
    have k_v138 := weq_r h15
    rw [hc] at k_v138
    have k_z144 := ti_add h17 (show (1 : Int32).toInt = 1 from rfl) (show (1 : Int32).toInt = 1 from rfl) (by omega) (by omega)
    have k_z146 := ti_add h18 hp k_z144 (by omega) (by omega)
    have c256 : (256 : Int32).toInt = 256 := rfl
    have a0 : mkA (bt tb n) p = 0 := by unfold mkA; rw [if_neg (by omega)]
    have a1 : mk1 (bt tb n) p = bt tb n p := by unfold mk1; rw [if_neg (by omega), if_neg (by omega)]
    have a2 : mkS (bt tb n) p = 1 := by unfold mkS; rw [if_neg (by omega)]
    have a3 : mkW (bt tb n) p = weqK (bt tb n p) := by unfold mkW; rw [a2, if_pos (by omega), a1]
    refine ⟨e1, Or.inl ⟨good (fun y => absurd (k_ix.mpr y) (by assumption)) (by omega), ?_, _, e0, ?_⟩⟩
    · rw [ev]; unfold mkK; rw [if_pos (by omega)]; omega
    · unfold mkE; rw [if_pos (by omega), a2]; omega
  · have hz_ := h2
    have k_ix := ix hz_ h3
    have k_z101 := ti_add h6 hp (show (1 : Int32).toInt = 1 from rfl) (by omega) (by omega)
    have k_v103 := byte_r (p := p + 1) hn hb (by omega) h7
    have k_z112 := ti_add h9 hp (show (1 : Int32).toInt = 1 from rfl) (by omega) (by omega)
    have k_v114 := byte_r (p := p + 1) hn hb (by omega) h10
    have k_v148 := dbl_r h12
    rw [hc] at k_v148
    have k_z153 := ti_add h14 hp (show (1 : Int32).toInt = 1 from rfl) (by omega) (by omega)
    have k_v155 := byte_r (p := p + 1) hn hb (by omega) h15
    have k_z165 := ti_add h17 hp (show (1 : Int32).toInt = 1 from rfl) (by omega) (by omega)
    have c256 : (256 : Int32).toInt = 256 := rfl
    have a0 : mkA (bt tb n) p = dblK (bt tb n p) := by unfold mkA; rw [if_pos (by omega)]
    have a1 : mk1 (bt tb n) p = bt tb n p := by unfold mk1; rw [if_neg (by omega), if_neg (by omega)]
    have a2 : mkS (bt tb n) p = 1 := by unfold mkS; rw [if_neg (by omega)]
    have a3 : mkW (bt tb n) p = 0 := by unfold mkW; rw [a2, if_neg (by omega)]
    refine ⟨e1, Or.inl ⟨good (fun y => absurd (k_ix.mpr y) (by assumption)) (by omega), ?_, _, e0, ?_⟩⟩
    · rw [ev]; unfold mkK; rw [if_neg (by omega)]; omega
    · unfold mkE; rw [if_neg (by omega), a2]; omega
  · have hz_ := h2
    have k_ix := ix hz_ h3
    have k_z101 := ti_add h6 hp (show (1 : Int32).toInt = 1 from rfl) (by omega) (by omega)
    have k_v103 := byte_r (p := p + 1) hn hb (by omega) h7
    have k_z112 := ti_add h9 hp (show (1 : Int32).toInt = 1 from rfl) (by omega) (by omega)
    have k_v114 := byte_r (p := p + 1) hn hb (by omega) h10
    have k_v148 := dbl_r h12
    rw [hc] at k_v148
    have k_z153 := ti_add h14 hp (show (1 : Int32).toInt = 1 from rfl) (by omega) (by omega)
    have k_v155 := byte_r (p := p + 1) hn hb (by omega) h15
    have k_v167 := weq_r h17
    rw [hc] at k_v167
    have k_z172 := ti_add h19 hp (show (1 : Int32).toInt = 1 from rfl) (by omega) (by omega)
    have c256 : (256 : Int32).toInt = 256 := rfl
    have a0 : mkA (bt tb n) p = dblK (bt tb n p) := by unfold mkA; rw [if_pos (by omega)]
    have a1 : mk1 (bt tb n) p = bt tb n p := by unfold mk1; rw [if_neg (by omega), if_neg (by omega)]
    have a2 : mkS (bt tb n) p = 1 := by unfold mkS; rw [if_neg (by omega)]
    have a3 : mkW (bt tb n) p = weqK (bt tb n p) := by unfold mkW; rw [a2, if_pos (by omega), a1]
    refine ⟨e1, Or.inl ⟨good (fun y => absurd (k_ix.mpr y) (by assumption)) (by omega), ?_, _, e0, ?_⟩⟩
    · rw [ev]; unfold mkK; rw [if_neg (by omega)]; omega
    · unfold mkE; rw [if_neg (by omega), a2]; omega
  · have hz_ := h2
    have k_ix := ix hz_ h3
    have k_z101 := ti_add h6 hp (show (1 : Int32).toInt = 1 from rfl) (by omega) (by omega)
    have k_v103 := byte_r (p := p + 1) hn hb (by omega) h7
    have k_z112 := ti_add h9 hp (show (1 : Int32).toInt = 1 from rfl) (by omega) (by omega)
    have k_v114 := byte_r (p := p + 1) hn hb (by omega) h10
    have k_v148 := dbl_r h12
    rw [hc] at k_v148
    have k_z153 := ti_add h14 hp (show (1 : Int32).toInt = 1 from rfl) (by omega) (by omega)
    have k_v155 := byte_r (p := p + 1) hn hb (by omega) h15
    have k_v167 := weq_r h17
    rw [hc] at k_v167
    have k_z173 := ti_add h19 (show (1 : Int32).toInt = 1 from rfl) (show (1 : Int32).toInt = 1 from rfl) (by omega) (by omega)
    have k_z175 := ti_add h20 hp k_z173 (by omega) (by omega)
    have c256 : (256 : Int32).toInt = 256 := rfl
    have a0 : mkA (bt tb n) p = dblK (bt tb n p) := by unfold mkA; rw [if_pos (by omega)]
    have a1 : mk1 (bt tb n) p = bt tb n p := by unfold mk1; rw [if_neg (by omega), if_neg (by omega)]
    have a2 : mkS (bt tb n) p = 1 := by unfold mkS; rw [if_neg (by omega)]
    have a3 : mkW (bt tb n) p = weqK (bt tb n p) := by unfold mkW; rw [a2, if_pos (by omega), a1]
    refine ⟨e1, Or.inl ⟨good (fun y => absurd (k_ix.mpr y) (by assumption)) (by omega), ?_, _, e0, ?_⟩⟩
    · rw [ev]; unfold mkK; rw [if_pos (by omega)]; omega
    · unfold mkE; rw [if_pos (by omega), a2]; omega
  · have hz_ := h2
    have k_ix := ix hz_ h3
    have k_z101 := ti_add h6 hp (show (1 : Int32).toInt = 1 from rfl) (by omega) (by omega)
    have k_v103 := byte_r (p := p + 1) hn hb (by omega) h7
    have k_z112 := ti_add h9 hp (show (1 : Int32).toInt = 1 from rfl) (by omega) (by omega)
    have k_v114 := byte_r (p := p + 1) hn hb (by omega) h10
    have k_v148 := dbl_r h12
    rw [hc] at k_v148
    have k_z177 := ti_add h14 hp (show (2 : Int32).toInt = 2 from rfl) (by omega) (by omega)
    have k_v179 := byte_r (p := p + 2) hn hb (by omega) h15
    have k_z189 := ti_add h17 hp (show (2 : Int32).toInt = 2 from rfl) (by omega) (by omega)
    have c256 : (256 : Int32).toInt = 256 := rfl
    have a0 : mkA (bt tb n) p = dblK (bt tb n p) := by unfold mkA; rw [if_pos (by omega)]
    have a1 : mk1 (bt tb n) p = dblK (bt tb n p) := by unfold mk1; rw [if_pos (by omega), a0]
    have a2 : mkS (bt tb n) p = 2 := by unfold mkS; rw [if_pos (by omega)]
    have a3 : mkW (bt tb n) p = 0 := by unfold mkW; rw [a2, if_neg (by omega)]
    refine ⟨e1, Or.inl ⟨good (fun y => absurd (k_ix.mpr y) (by assumption)) (by omega), ?_, _, e0, ?_⟩⟩
    · rw [ev]; unfold mkK; rw [if_neg (by omega)]; omega
    · unfold mkE; rw [if_neg (by omega), a2]; omega
  · have hz_ := h2
    have k_ix := ix hz_ h3
    have k_z101 := ti_add h6 hp (show (1 : Int32).toInt = 1 from rfl) (by omega) (by omega)
    have k_v103 := byte_r (p := p + 1) hn hb (by omega) h7
    have k_z112 := ti_add h9 hp (show (1 : Int32).toInt = 1 from rfl) (by omega) (by omega)
    have k_v114 := byte_r (p := p + 1) hn hb (by omega) h10
    have k_v148 := dbl_r h12
    rw [hc] at k_v148
    have k_z177 := ti_add h14 hp (show (2 : Int32).toInt = 2 from rfl) (by omega) (by omega)
    have k_v179 := byte_r (p := p + 2) hn hb (by omega) h15
    have k_v191 := weq_r h17
    rw [k_v148] at k_v191
    have k_z196 := ti_add h19 hp (show (2 : Int32).toInt = 2 from rfl) (by omega) (by omega)
    have c256 : (256 : Int32).toInt = 256 := rfl
    have a0 : mkA (bt tb n) p = dblK (bt tb n p) := by unfold mkA; rw [if_pos (by omega)]
    have a1 : mk1 (bt tb n) p = dblK (bt tb n p) := by unfold mk1; rw [if_pos (by omega), a0]
    have a2 : mkS (bt tb n) p = 2 := by unfold mkS; rw [if_pos (by omega)]
    have a3 : mkW (bt tb n) p = weqK (dblK (bt tb n p)) := by unfold mkW; rw [a2, if_pos (by omega), a1]
    refine ⟨e1, Or.inl ⟨good (fun y => absurd (k_ix.mpr y) (by assumption)) (by omega), ?_, _, e0, ?_⟩⟩
    · rw [ev]; unfold mkK; rw [if_neg (by omega)]; omega
    · unfold mkE; rw [if_neg (by omega), a2]; omega
  · have hz_ := h2
    have k_ix := ix hz_ h3
    have k_z101 := ti_add h6 hp (show (1 : Int32).toInt = 1 from rfl) (by omega) (by omega)
    have k_v103 := byte_r (p := p + 1) hn hb (by omega) h7
    have k_z112 := ti_add h9 hp (show (1 : Int32).toInt = 1 from rfl) (by omega) (by omega)
    have k_v114 := byte_r (p := p + 1) hn hb (by omega) h10
    have k_v148 := dbl_r h12
    rw [hc] at k_v148
    have k_z177 := ti_add h14 hp (show (2 : Int32).toInt = 2 from rfl) (by omega) (by omega)
    have k_v179 := byte_r (p := p + 2) hn hb (by omega) h15
    have k_v191 := weq_r h17
    rw [k_v148] at k_v191
    have k_z197 := ti_add h19 (show (2 : Int32).toInt = 2 from rfl) (show (1 : Int32).toInt = 1 from rfl) (by omega) (by omega)
    have k_z199 := ti_add h20 hp k_z197 (by omega) (by omega)
    have c256 : (256 : Int32).toInt = 256 := rfl
    have a0 : mkA (bt tb n) p = dblK (bt tb n p) := by unfold mkA; rw [if_pos (by omega)]
    have a1 : mk1 (bt tb n) p = dblK (bt tb n p) := by unfold mk1; rw [if_pos (by omega), a0]
    have a2 : mkS (bt tb n) p = 2 := by unfold mkS; rw [if_pos (by omega)]
    have a3 : mkW (bt tb n) p = weqK (dblK (bt tb n p)) := by unfold mkW; rw [a2, if_pos (by omega), a1]
    refine ⟨e1, Or.inl ⟨good (fun y => absurd (k_ix.mpr y) (by assumption)) (by omega), ?_, _, e0, ?_⟩⟩
    · rw [ev]; unfold mkK; rw [if_pos (by omega)]; omega
    · unfold mkE; rw [if_pos (by omega), a2]; omega
  · have hz_ := h2
    have k_ix := ix hz_ h3
    have k_z101 := ti_add h6 hp (show (1 : Int32).toInt = 1 from rfl) (by omega) (by omega)
    have k_v103 := byte_r (p := p + 1) hn hb (by omega) h7
    first
      | (exfalso; omega)
      | exact ⟨e1, Or.inr ⟨bad1 (k_ix.mp (by assumption)), ev, e0⟩⟩
      | exact ⟨e1, Or.inr ⟨bad2 (by omega) (by omega), ev, e0⟩⟩
  · have hz_ := h2
    have k_ix := ix hz_ h3
    first
      | (exfalso; omega)
      | exact ⟨e1, Or.inr ⟨bad1 (k_ix.mp (by assumption)), ev, e0⟩⟩
      | exact ⟨e1, Or.inr ⟨bad2 (by omega) (by omega), ev, e0⟩⟩
  · have hz_ := h2
    have k_ix := ix hz_ h3
    have k_z209 := ti_add h6 hp (show (1 : Int32).toInt = 1 from rfl) (by omega) (by omega)
    have k_v211 := byte_r (p := p + 1) hn hb (by omega) h7
    have k_z221 := ti_add h9 hp (show (1 : Int32).toInt = 1 from rfl) (by omega) (by omega)
    have k_v223 := byte_r (p := p + 1) hn hb (by omega) h10
    have k_z233 := ti_add h12 hp (show (1 : Int32).toInt = 1 from rfl) (by omega) (by omega)
    have c256 : (256 : Int32).toInt = 256 := rfl
    have a0 : mkA (bt tb n) p = 0 := by unfold mkA; rw [if_neg (by omega)]
    have a1 : mk1 (bt tb n) p = 256 := by unfold mk1; rw [if_neg (by omega), if_pos (by omega)]
    have a2 : mkS (bt tb n) p = 1 := by unfold mkS; rw [if_neg (by omega)]
    have a3 : mkW (bt tb n) p = 0 := by unfold mkW; rw [a2, if_neg (by omega)]
    refine ⟨e1, Or.inl ⟨good (fun y => absurd (k_ix.mpr y) (by assumption)) (by omega), ?_, _, e0, ?_⟩⟩
    · rw [ev]; unfold mkK; rw [if_neg (by omega)]; omega
    · unfold mkE; rw [if_neg (by omega), a2]; omega
  · have hz_ := h2
    have k_ix := ix hz_ h3
    have k_z209 := ti_add h6 hp (show (1 : Int32).toInt = 1 from rfl) (by omega) (by omega)
    have k_v211 := byte_r (p := p + 1) hn hb (by omega) h7
    have k_z221 := ti_add h9 hp (show (1 : Int32).toInt = 1 from rfl) (by omega) (by omega)
    have k_v223 := byte_r (p := p + 1) hn hb (by omega) h10
    have k_v235 := weq_r h12
    rw [show (256 : Int32).toInt = 256 from rfl] at k_v235
    have k_z240 := ti_add h14 hp (show (1 : Int32).toInt = 1 from rfl) (by omega) (by omega)
    have c256 : (256 : Int32).toInt = 256 := rfl
    have a0 : mkA (bt tb n) p = 0 := by unfold mkA; rw [if_neg (by omega)]
    have a1 : mk1 (bt tb n) p = 256 := by unfold mk1; rw [if_neg (by omega), if_pos (by omega)]
    have a2 : mkS (bt tb n) p = 1 := by unfold mkS; rw [if_neg (by omega)]
    have a3 : mkW (bt tb n) p = weqK (256) := by unfold mkW; rw [a2, if_pos (by omega), a1]
    refine ⟨e1, Or.inl ⟨good (fun y => absurd (k_ix.mpr y) (by assumption)) (by omega), ?_, _, e0, ?_⟩⟩
    · rw [ev]; unfold mkK; rw [if_neg (by omega)]; omega
    · unfold mkE; rw [if_neg (by omega), a2]; omega
  · have hz_ := h2
    have k_ix := ix hz_ h3
    have k_z209 := ti_add h6 hp (show (1 : Int32).toInt = 1 from rfl) (by omega) (by omega)
    have k_v211 := byte_r (p := p + 1) hn hb (by omega) h7
    have k_z221 := ti_add h9 hp (show (1 : Int32).toInt = 1 from rfl) (by omega) (by omega)
    have k_v223 := byte_r (p := p + 1) hn hb (by omega) h10
    have k_v235 := weq_r h12
    rw [show (256 : Int32).toInt = 256 from rfl] at k_v235
    have k_z241 := ti_add h14 (show (1 : Int32).toInt = 1 from rfl) (show (1 : Int32).toInt = 1 from rfl) (by omega) (by omega)
    have k_z243 := ti_add h15 hp k_z241 (by omega) (by omega)
    have c256 : (256 : Int32).toInt = 256 := rfl
    have a0 : mkA (bt tb n) p = 0 := by unfold mkA; rw [if_neg (by omega)]
    have a1 : mk1 (bt tb n) p = 256 := by unfold mk1; rw [if_neg (by omega), if_pos (by omega)]
    have a2 : mkS (bt tb n) p = 1 := by unfold mkS; rw [if_neg (by omega)]
    have a3 : mkW (bt tb n) p = weqK (256) := by unfold mkW; rw [a2, if_pos (by omega), a1]
    refine ⟨e1, Or.inl ⟨good (fun y => absurd (k_ix.mpr y) (by assumption)) (by omega), ?_, _, e0, ?_⟩⟩
    · rw [ev]; unfold mkK; rw [if_pos (by omega)]; omega
    · unfold mkE; rw [if_pos (by omega), a2]; omega
  · have hz_ := h2
    have k_ix := ix hz_ h3
    have k_z209 := ti_add h6 hp (show (1 : Int32).toInt = 1 from rfl) (by omega) (by omega)
    have k_v211 := byte_r (p := p + 1) hn hb (by omega) h7
    have k_v245 := dbl_r h9
    rw [hc] at k_v245
    have k_z250 := ti_add h11 hp (show (1 : Int32).toInt = 1 from rfl) (by omega) (by omega)
    have k_v252 := byte_r (p := p + 1) hn hb (by omega) h12
    have k_z262 := ti_add h14 hp (show (1 : Int32).toInt = 1 from rfl) (by omega) (by omega)
    have c256 : (256 : Int32).toInt = 256 := rfl
    have a0 : mkA (bt tb n) p = dblK (bt tb n p) := by unfold mkA; rw [if_pos (by omega)]
    have a1 : mk1 (bt tb n) p = 256 := by unfold mk1; rw [if_neg (by omega), if_pos (by omega)]
    have a2 : mkS (bt tb n) p = 1 := by unfold mkS; rw [if_neg (by omega)]
    have a3 : mkW (bt tb n) p = 0 := by unfold mkW; rw [a2, if_neg (by omega)]
    refine ⟨e1, Or.inl ⟨good (fun y => absurd (k_ix.mpr y) (by assumption)) (by omega), ?_, _, e0, ?_⟩⟩
    · rw [ev]; unfold mkK; rw [if_neg (by omega)]; omega
    · unfold mkE; rw [if_neg (by omega), a2]; omega
  · have hz_ := h2
    have k_ix := ix hz_ h3
    have k_z209 := ti_add h6 hp (show (1 : Int32).toInt = 1 from rfl) (by omega) (by omega)
    have k_v211 := byte_r (p := p + 1) hn hb (by omega) h7
    have k_v245 := dbl_r h9
    rw [hc] at k_v245
    have k_z250 := ti_add h11 hp (show (1 : Int32).toInt = 1 from rfl) (by omega) (by omega)
    have k_v252 := byte_r (p := p + 1) hn hb (by omega) h12
    have k_v264 := weq_r h14
    rw [show (256 : Int32).toInt = 256 from rfl] at k_v264
    have k_z269 := ti_add h16 hp (show (1 : Int32).toInt = 1 from rfl) (by omega) (by omega)
    have c256 : (256 : Int32).toInt = 256 := rfl
    have a0 : mkA (bt tb n) p = dblK (bt tb n p) := by unfold mkA; rw [if_pos (by omega)]
    have a1 : mk1 (bt tb n) p = 256 := by unfold mk1; rw [if_neg (by omega), if_pos (by omega)]
    have a2 : mkS (bt tb n) p = 1 := by unfold mkS; rw [if_neg (by omega)]
    have a3 : mkW (bt tb n) p = weqK (256) := by unfold mkW; rw [a2, if_pos (by omega), a1]
    refine ⟨e1, Or.inl ⟨good (fun y => absurd (k_ix.mpr y) (by assumption)) (by omega), ?_, _, e0, ?_⟩⟩
    · rw [ev]; unfold mkK; rw [if_neg (by omega)]; omega
    · unfold mkE; rw [if_neg (by omega), a2]; omega
  · have hz_ := h2
    have k_ix := ix hz_ h3
    have k_z209 := ti_add h6 hp (show (1 : Int32).toInt = 1 from rfl) (by omega) (by omega)
    have k_v211 := byte_r (p := p + 1) hn hb (by omega) h7
    have k_v245 := dbl_r h9
    rw [hc] at k_v245
    have k_z250 := ti_add h11 hp (show (1 : Int32).toInt = 1 from rfl) (by omega) (by omega)
    have k_v252 := byte_r (p := p + 1) hn hb (by omega) h12
    have k_v264 := weq_r h14
    rw [show (256 : Int32).toInt = 256 from rfl] at k_v264
    have k_z270 := ti_add h16 (show (1 : Int32).toInt = 1 from rfl) (show (1 : Int32).toInt = 1 from rfl) (by omega) (by omega)
    have k_z272 := ti_add h17 hp k_z270 (by omega) (by omega)
    have c256 : (256 : Int32).toInt = 256 := rfl
    have a0 : mkA (bt tb n) p = dblK (bt tb n p) := by unfold mkA; rw [if_pos (by omega)]
    have a1 : mk1 (bt tb n) p = 256 := by unfold mk1; rw [if_neg (by omega), if_pos (by omega)]
    have a2 : mkS (bt tb n) p = 1 := by unfold mkS; rw [if_neg (by omega)]
    have a3 : mkW (bt tb n) p = weqK (256) := by unfold mkW; rw [a2, if_pos (by omega), a1]
    refine ⟨e1, Or.inl ⟨good (fun y => absurd (k_ix.mpr y) (by assumption)) (by omega), ?_, _, e0, ?_⟩⟩
    · rw [ev]; unfold mkK; rw [if_pos (by omega)]; omega
    · unfold mkE; rw [if_pos (by omega), a2]; omega
  · have hz_ := h2
    have k_ix := ix hz_ h3
    have k_z209 := ti_add h6 hp (show (1 : Int32).toInt = 1 from rfl) (by omega) (by omega)
    have k_v211 := byte_r (p := p + 1) hn hb (by omega) h7
    have k_v245 := dbl_r h9
    rw [hc] at k_v245
    have k_z274 := ti_add h11 hp (show (2 : Int32).toInt = 2 from rfl) (by omega) (by omega)
    have k_v276 := byte_r (p := p + 2) hn hb (by omega) h12
    have k_z286 := ti_add h14 hp (show (2 : Int32).toInt = 2 from rfl) (by omega) (by omega)
    have c256 : (256 : Int32).toInt = 256 := rfl
    have a0 : mkA (bt tb n) p = dblK (bt tb n p) := by unfold mkA; rw [if_pos (by omega)]
    have a1 : mk1 (bt tb n) p = dblK (bt tb n p) := by unfold mk1; rw [if_pos (by omega), a0]
    have a2 : mkS (bt tb n) p = 2 := by unfold mkS; rw [if_pos (by omega)]
    have a3 : mkW (bt tb n) p = 0 := by unfold mkW; rw [a2, if_neg (by omega)]
    refine ⟨e1, Or.inl ⟨good (fun y => absurd (k_ix.mpr y) (by assumption)) (by omega), ?_, _, e0, ?_⟩⟩
    · rw [ev]; unfold mkK; rw [if_neg (by omega)]; omega
    · unfold mkE; rw [if_neg (by omega), a2]; omega
  · have hz_ := h2
    have k_ix := ix hz_ h3
    have k_z209 := ti_add h6 hp (show (1 : Int32).toInt = 1 from rfl) (by omega) (by omega)
    have k_v211 := byte_r (p := p + 1) hn hb (by omega) h7
    have k_v245 := dbl_r h9
    rw [hc] at k_v245
    have k_z274 := ti_add h11 hp (show (2 : Int32).toInt = 2 from rfl) (by omega) (by omega)
    have k_v276 := byte_r (p := p + 2) hn hb (by omega) h12
    have k_v288 := weq_r h14
    rw [k_v245] at k_v288
    have k_z293 := ti_add h16 hp (show (2 : Int32).toInt = 2 from rfl) (by omega) (by omega)
    have c256 : (256 : Int32).toInt = 256 := rfl
    have a0 : mkA (bt tb n) p = dblK (bt tb n p) := by unfold mkA; rw [if_pos (by omega)]
    have a1 : mk1 (bt tb n) p = dblK (bt tb n p) := by unfold mk1; rw [if_pos (by omega), a0]
    have a2 : mkS (bt tb n) p = 2 := by unfold mkS; rw [if_pos (by omega)]
    have a3 : mkW (bt tb n) p = weqK (dblK (bt tb n p)) := by unfold mkW; rw [a2, if_pos (by omega), a1]
    refine ⟨e1, Or.inl ⟨good (fun y => absurd (k_ix.mpr y) (by assumption)) (by omega), ?_, _, e0, ?_⟩⟩
    · rw [ev]; unfold mkK; rw [if_neg (by omega)]; omega
    · unfold mkE; rw [if_neg (by omega), a2]; omega
  · have hz_ := h2
    have k_ix := ix hz_ h3
    have k_z209 := ti_add h6 hp (show (1 : Int32).toInt = 1 from rfl) (by omega) (by omega)
    have k_v211 := byte_r (p := p + 1) hn hb (by omega) h7
    have k_v245 := dbl_r h9
    rw [hc] at k_v245
    have k_z274 := ti_add h11 hp (show (2 : Int32).toInt = 2 from rfl) (by omega) (by omega)
    have k_v276 := byte_r (p := p + 2) hn hb (by omega) h12
    have k_v288 := weq_r h14
    rw [k_v245] at k_v288
    have k_z294 := ti_add h16 (show (2 : Int32).toInt = 2 from rfl) (show (1 : Int32).toInt = 1 from rfl) (by omega) (by omega)
    have k_z296 := ti_add h17 hp k_z294 (by omega) (by omega)
    have c256 : (256 : Int32).toInt = 256 := rfl
    have a0 : mkA (bt tb n) p = dblK (bt tb n p) := by unfold mkA; rw [if_pos (by omega)]
    have a1 : mk1 (bt tb n) p = dblK (bt tb n p) := by unfold mk1; rw [if_pos (by omega), a0]
    have a2 : mkS (bt tb n) p = 2 := by unfold mkS; rw [if_pos (by omega)]
    have a3 : mkW (bt tb n) p = weqK (dblK (bt tb n p)) := by unfold mkW; rw [a2, if_pos (by omega), a1]
    refine ⟨e1, Or.inl ⟨good (fun y => absurd (k_ix.mpr y) (by assumption)) (by omega), ?_, _, e0, ?_⟩⟩
    · rw [ev]; unfold mkK; rw [if_pos (by omega)]; omega
    · unfold mkE; rw [if_pos (by omega), a2]; omega
  · have hz_ := h2
    have k_ix := ix hz_ h3
    have k_z298 := ti_add h6 hp (show (1 : Int32).toInt = 1 from rfl) (by omega) (by omega)
    have k_v300 := byte_r (p := p + 1) hn hb (by omega) h7
    have k_z309 := ti_add h9 hp (show (1 : Int32).toInt = 1 from rfl) (by omega) (by omega)
    have k_v311 := byte_r (p := p + 1) hn hb (by omega) h10
    have k_z321 := ti_add h12 hp (show (1 : Int32).toInt = 1 from rfl) (by omega) (by omega)
    have k_v323 := byte_r (p := p + 1) hn hb (by omega) h13
    have k_z333 := ti_add h15 hp (show (1 : Int32).toInt = 1 from rfl) (by omega) (by omega)
    exfalso; omega
  · have hz_ := h2
    have k_ix := ix hz_ h3
    have k_z298 := ti_add h6 hp (show (1 : Int32).toInt = 1 from rfl) (by omega) (by omega)
    have k_v300 := byte_r (p := p + 1) hn hb (by omega) h7
    have k_z309 := ti_add h9 hp (show (1 : Int32).toInt = 1 from rfl) (by omega) (by omega)
    have k_v311 := byte_r (p := p + 1) hn hb (by omega) h10
    have k_z321 := ti_add h12 hp (show (1 : Int32).toInt = 1 from rfl) (by omega) (by omega)
    have k_v323 := byte_r (p := p + 1) hn hb (by omega) h13
    have k_v335 := weq_r h15
    rw [show (256 : Int32).toInt = 256 from rfl] at k_v335
    have k_z340 := ti_add h17 hp (show (1 : Int32).toInt = 1 from rfl) (by omega) (by omega)
    exfalso; omega
  · have hz_ := h2
    have k_ix := ix hz_ h3
    have k_z298 := ti_add h6 hp (show (1 : Int32).toInt = 1 from rfl) (by omega) (by omega)
    have k_v300 := byte_r (p := p + 1) hn hb (by omega) h7
    have k_z309 := ti_add h9 hp (show (1 : Int32).toInt = 1 from rfl) (by omega) (by omega)
    have k_v311 := byte_r (p := p + 1) hn hb (by omega) h10
    have k_z321 := ti_add h12 hp (show (1 : Int32).toInt = 1 from rfl) (by omega) (by omega)
    have k_v323 := byte_r (p := p + 1) hn hb (by omega) h13
    have k_v335 := weq_r h15
    rw [show (256 : Int32).toInt = 256 from rfl] at k_v335
    have k_z341 := ti_add h17 (show (1 : Int32).toInt = 1 from rfl) (show (1 : Int32).toInt = 1 from rfl) (by omega) (by omega)
    have k_z343 := ti_add h18 hp k_z341 (by omega) (by omega)
    exfalso; omega
  · have hz_ := h2
    have k_ix := ix hz_ h3
    have k_z298 := ti_add h6 hp (show (1 : Int32).toInt = 1 from rfl) (by omega) (by omega)
    have k_v300 := byte_r (p := p + 1) hn hb (by omega) h7
    have k_z309 := ti_add h9 hp (show (1 : Int32).toInt = 1 from rfl) (by omega) (by omega)
    have k_v311 := byte_r (p := p + 1) hn hb (by omega) h10
    have k_v345 := dbl_r h12
    rw [hc] at k_v345
    have k_z350 := ti_add h14 hp (show (1 : Int32).toInt = 1 from rfl) (by omega) (by omega)
    have k_v352 := byte_r (p := p + 1) hn hb (by omega) h15
    have k_z362 := ti_add h17 hp (show (1 : Int32).toInt = 1 from rfl) (by omega) (by omega)
    exfalso; omega
  · have hz_ := h2
    have k_ix := ix hz_ h3
    have k_z298 := ti_add h6 hp (show (1 : Int32).toInt = 1 from rfl) (by omega) (by omega)
    have k_v300 := byte_r (p := p + 1) hn hb (by omega) h7
    have k_z309 := ti_add h9 hp (show (1 : Int32).toInt = 1 from rfl) (by omega) (by omega)
    have k_v311 := byte_r (p := p + 1) hn hb (by omega) h10
    have k_v345 := dbl_r h12
    rw [hc] at k_v345
    have k_z350 := ti_add h14 hp (show (1 : Int32).toInt = 1 from rfl) (by omega) (by omega)
    have k_v352 := byte_r (p := p + 1) hn hb (by omega) h15
    have k_v364 := weq_r h17
    rw [show (256 : Int32).toInt = 256 from rfl] at k_v364
    have k_z369 := ti_add h19 hp (show (1 : Int32).toInt = 1 from rfl) (by omega) (by omega)
    exfalso; omega
  · have hz_ := h2
    have k_ix := ix hz_ h3
    have k_z298 := ti_add h6 hp (show (1 : Int32).toInt = 1 from rfl) (by omega) (by omega)
    have k_v300 := byte_r (p := p + 1) hn hb (by omega) h7
    have k_z309 := ti_add h9 hp (show (1 : Int32).toInt = 1 from rfl) (by omega) (by omega)
    have k_v311 := byte_r (p := p + 1) hn hb (by omega) h10
    have k_v345 := dbl_r h12
    rw [hc] at k_v345
    have k_z350 := ti_add h14 hp (show (1 : Int32).toInt = 1 from rfl) (by omega) (by omega)
    have k_v352 := byte_r (p := p + 1) hn hb (by omega) h15
    have k_v364 := weq_r h17
    rw [show (256 : Int32).toInt = 256 from rfl] at k_v364
    have k_z370 := ti_add h19 (show (1 : Int32).toInt = 1 from rfl) (show (1 : Int32).toInt = 1 from rfl) (by omega) (by omega)
    have k_z372 := ti_add h20 hp k_z370 (by omega) (by omega)
    exfalso; omega
  · have hz_ := h2
    have k_ix := ix hz_ h3
    have k_z298 := ti_add h6 hp (show (1 : Int32).toInt = 1 from rfl) (by omega) (by omega)
    have k_v300 := byte_r (p := p + 1) hn hb (by omega) h7
    have k_z309 := ti_add h9 hp (show (1 : Int32).toInt = 1 from rfl) (by omega) (by omega)
    have k_v311 := byte_r (p := p + 1) hn hb (by omega) h10
    have k_v345 := dbl_r h12
    rw [hc] at k_v345
    have k_z374 := ti_add h14 hp (show (2 : Int32).toInt = 2 from rfl) (by omega) (by omega)
    have k_v376 := byte_r (p := p + 2) hn hb (by omega) h15
    have k_z386 := ti_add h17 hp (show (2 : Int32).toInt = 2 from rfl) (by omega) (by omega)
    exfalso; omega
  · have hz_ := h2
    have k_ix := ix hz_ h3
    have k_z298 := ti_add h6 hp (show (1 : Int32).toInt = 1 from rfl) (by omega) (by omega)
    have k_v300 := byte_r (p := p + 1) hn hb (by omega) h7
    have k_z309 := ti_add h9 hp (show (1 : Int32).toInt = 1 from rfl) (by omega) (by omega)
    have k_v311 := byte_r (p := p + 1) hn hb (by omega) h10
    have k_v345 := dbl_r h12
    rw [hc] at k_v345
    have k_z374 := ti_add h14 hp (show (2 : Int32).toInt = 2 from rfl) (by omega) (by omega)
    have k_v376 := byte_r (p := p + 2) hn hb (by omega) h15
    have k_v388 := weq_r h17
    rw [k_v345] at k_v388
    have k_z393 := ti_add h19 hp (show (2 : Int32).toInt = 2 from rfl) (by omega) (by omega)
    exfalso; omega
  · have hz_ := h2
    have k_ix := ix hz_ h3
    have k_z298 := ti_add h6 hp (show (1 : Int32).toInt = 1 from rfl) (by omega) (by omega)
    have k_v300 := byte_r (p := p + 1) hn hb (by omega) h7
    have k_z309 := ti_add h9 hp (show (1 : Int32).toInt = 1 from rfl) (by omega) (by omega)
    have k_v311 := byte_r (p := p + 1) hn hb (by omega) h10
    have k_v345 := dbl_r h12
    rw [hc] at k_v345
    have k_z374 := ti_add h14 hp (show (2 : Int32).toInt = 2 from rfl) (by omega) (by omega)
    have k_v376 := byte_r (p := p + 2) hn hb (by omega) h15
    have k_v388 := weq_r h17
    rw [k_v345] at k_v388
    have k_z394 := ti_add h19 (show (2 : Int32).toInt = 2 from rfl) (show (1 : Int32).toInt = 1 from rfl) (by omega) (by omega)
    have k_z396 := ti_add h20 hp k_z394 (by omega) (by omega)
    exfalso; omega
  · have hz_ := h2
    have k_ix := ix hz_ h3
    have k_z298 := ti_add h6 hp (show (1 : Int32).toInt = 1 from rfl) (by omega) (by omega)
    have k_v300 := byte_r (p := p + 1) hn hb (by omega) h7
    first
      | (exfalso; omega)
      | exact ⟨e1, Or.inr ⟨bad1 (k_ix.mp (by assumption)), ev, e0⟩⟩
      | exact ⟨e1, Or.inr ⟨bad2 (by omega) (by omega), ev, e0⟩⟩
  · exact h.elim
end SZ
