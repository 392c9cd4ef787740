/-! NUMBERS, CHARACTERS, STRINGS -/
def dgV (hx : Bool) (c : Int) : Int := if 48 ≤ c ∧ c ≤ 57 then c - 48 else if hx = true ∧ 97 ≤ c ∧ c ≤ 102 then c - 87 else if hx = true ∧ 65 ≤ c ∧ c ≤ 70 then c - 55 else -1
/-- how many digits; what they make -/
def dgN (b : Nat → Int) (hx : Bool) : Nat → Nat → Nat
  | 0, _ => 0
  | d + 1, i => if 0 ≤ dgV hx (b i) then dgN b hx d (i + 1) + 1 else 0
def dgS (b : Nat → Int) (hx : Bool) : Nat → Nat → Int → Int
  | 0, _, s => s
  | m + 1, i, s => dgS b hx m (i + 1) (s * (if hx = true then 16 else 10) + dgV hx (b i))
def hexB (b : Nat → Int) (p : Nat) : Bool := decide (b p = 48 ∧ b (p + 1) = 120)
def nFr (b : Nat → Int) (p : Nat) : Nat := if hexB b p = true then p + 2 else p
def nCt (b : Nat → Int) (n p : Nat) : Nat := dgN b (hexB b p) (n - nFr b p) (nFr b p)
def nSm (b : Nat → Int) (n p : Nat) : Int := dgS b (hexB b p) (nCt b n p) (nFr b p) 0
def nOk (b : Nat → Int) (n p : Nat) : Bool := decide (1 ≤ nCt b n p ∧ nCt b n p ≤ (if hexB b p = true then 8 else 10) ∧ nSm b n p ≤ 4294967295)
def nVl (s : Int) : Int32 := (Int64.ofInt s).toInt32
theorem dgV_b {hx : Bool} {c : Int} : -1 ≤ dgV hx c ∧ (0 ≤ dgV hx c → dgV hx c < (if hx = true then 16 else 10)) := by
  unfold dgV
  cases hx with
  | true =>
    simp only [true_and, if_true]
    split
    · omega
    · split
      · omega
      · split <;> omega
  | false =>
    simp only [Bool.false_eq_true, false_and, if_false]
    split <;> omega
theorem dgS_snoc {b : Nat → Int} {hx : Bool} : ∀ (m i : Nat) (s : Int), dgS b hx (m + 1) i s = dgS b hx m i s * (if hx = true then 16 else 10) + dgV hx (b (i + m))
  | 0, i, s => by first | rfl | simp [dgS]
  | m + 1, i, s => by
    have e : dgS b hx (m + 1 + 1) i s = dgS b hx (m + 1) (i + 1) (s * (if hx = true then 16 else 10) + dgV hx (b i)) := by first | rfl | simp [dgS]
    have e' : dgS b hx (m + 1) i s = dgS b hx m (i + 1) (s * (if hx = true then 16 else 10) + dgV hx (b i)) := by first | rfl | simp [dgS]
    rw [e, e', dgS_snoc m (i + 1), show i + 1 + m = i + (m + 1) by omega]
/-- m digits make less than 16 ^ m -/
theorem dgS_b {b : Nat → Int} {hx : Bool} {i : Nat} : ∀ m : Nat, (∀ j : Nat, j < m → 0 ≤ dgV hx (b (i + j))) → 0 ≤ dgS b hx m i 0 ∧ dgS b hx m i 0 < ((16 ^ m : Nat) : Int)
  | 0, _ => by
    show (0 : Int) ≤ 0 ∧ (0 : Int) < ((1 : Nat) : Int)
    omega
  | m + 1, h => by
    have ih := dgS_b (b := b) (hx := hx) (i := i) m (fun j hj => h j (by omega))
    have v := h m (by omega)
    have vb := (dgV_b (hx := hx) (c := b (i + m))).2 v
    rw [dgS_snoc, Nat.pow_succ]
    cases hx with
    | true =>
      simp only [if_true] at vb ⊢
      omega
    | false =>
      simp only [Bool.false_eq_true, if_false] at vb ⊢
      omega
section SX
variable {tb : Nat → Int32} {n : Nat}
theorem dig_r {f : Nat → Int32} {p0 v : Int32} {p : Nat} {hx : Bool} (hn : (f 7).toInt = (n : Int)) (hb : n ≤ 2048) (hp : (f 8).toInt = (p : Int)) (hx' : p0.toInt = if hx = true then 16 else 10) (h : R_t2_digit tb f p0 v) : v.toInt = dgV hx (bt tb n p) := by
  have sb : ∀ {x z w : Int32} {k : Int}, x.toInt = bt tb n p → z = x - w → w.toInt = k → 0 ≤ k → k ≤ 100 → 0 ≤ bt tb n p → bt tb n p ≤ 255 → z.toInt = bt tb n p - k := by
    intro x z w k e1 e2 e3 k0 k1 b0 b1
    exact ti_sub e2 e1 e3 (by omega) (by omega)
  have h16 : hx = true ↔ p0.toInt = 16 := by
    cases hx with
    | true => simp at hx'; simp [hx']
    | false => simp at hx'; simp [hx']
  unfold dgV
  rcases h with ⟨v2, h1, v9, h2, (⟨h3, (⟨h4, (⟨h5, ev⟩ | ⟨h5, (⟨h6, ev⟩ | ⟨h6, (⟨h7, ev⟩ | ⟨h7, z23, h8, z24, h9, ev⟩)⟩)⟩)⟩ | ⟨h4, (⟨h5, (⟨h6, ev⟩ | ⟨h6, (⟨h7, ev⟩ | ⟨h7, (⟨h8, ev⟩ | ⟨h8, z33, h9, z34, h10, ev⟩)⟩)⟩)⟩ | ⟨h5, (⟨h6, (⟨h7, ev⟩ | ⟨h7, (⟨h8, ev⟩ | ⟨h8, (⟨h9, ev⟩ | ⟨h9, z43, h10, z44, h11, ev⟩)⟩)⟩)⟩ | ⟨h6, z45, h7, z46, h8, ev⟩)⟩)⟩)⟩ | ⟨h3, z47, h4, ev⟩)⟩ | h
  all_goals first
    | exact h.elim
    | skip
  all_goals have e := byte_r hn hb hp h1
  all_goals have e2 := digit_r h2
  all_goals unfold isD at e2
  all_goals rw [e] at e2
  · have hd : ¬ (48 ≤ bt tb n p ∧ bt tb n p ≤ 57) := fun q => by rw [if_pos (decide_eq_true q)] at e2; omega
    rw [ev, if_neg hd, if_neg (fun q => h4 (h16.mp q.1)), if_neg (fun q => h4 (h16.mp q.1))]
    rfl
  · exact absurd h5 h4
  · exact absurd h5 h4
  · exact absurd h5 h4
  · exact absurd h4 h6
  · have hd : ¬ (48 ≤ bt tb n p ∧ bt tb n p ≤ 57) := fun q => by rw [if_pos (decide_eq_true q)] at e2; omega
    rw [ev, if_neg hd, if_neg (by omega), if_neg (by omega)]
    rfl
  · have hd : ¬ (48 ≤ bt tb n p ∧ bt tb n p ≤ 57) := fun q => by rw [if_pos (decide_eq_true q)] at e2; omega
    rw [ev, if_neg hd, if_neg (by omega), if_neg (by omega)]
    rfl
  · have hd : ¬ (48 ≤ bt tb n p ∧ bt tb n p ≤ 57) := fun q => by rw [if_pos (decide_eq_true q)] at e2; omega
    have y := sb e h9 (show (65 : Int32).toInt = 65 from rfl) (by omega) (by omega) (by omega) (by omega)
    have y2 := ti_add h10 y (show (10 : Int32).toInt = 10 from rfl) (by omega) (by omega)
    rw [ev, y2, if_neg hd, if_neg (by omega), if_pos ⟨h16.mpr h4, by omega, by omega⟩]
    omega
  · exact absurd h4 h7
  · have hd : ¬ (48 ≤ bt tb n p ∧ bt tb n p ≤ 57) := fun q => by rw [if_pos (decide_eq_true q)] at e2; omega
    rw [ev, if_neg hd, if_neg (by omega), if_neg (by omega)]
    rfl
  · have hd : ¬ (48 ≤ bt tb n p ∧ bt tb n p ≤ 57) := fun q => by rw [if_pos (decide_eq_true q)] at e2; omega
    rw [ev, if_neg hd, if_neg (by omega), if_neg (by omega)]
    rfl
  · exfalso; omega
  · have hd : ¬ (48 ≤ bt tb n p ∧ bt tb n p ≤ 57) := fun q => by rw [if_pos (decide_eq_true q)] at e2; omega
    have y := sb e h7 (show (97 : Int32).toInt = 97 from rfl) (by omega) (by omega) (by omega) (by omega)
    have y2 := ti_add h8 y (show (10 : Int32).toInt = 10 from rfl) (by omega) (by omega)
    rw [ev, y2, if_neg hd, if_pos ⟨h16.mpr h4, by omega, by omega⟩]
    omega
  · have hd : 48 ≤ bt tb n p ∧ bt tb n p ≤ 57 := by
      by_cases q : 48 ≤ bt tb n p ∧ bt tb n p ≤ 57
      · exact q
      · rw [if_neg (by simp only [decide_eq_true_eq]; exact q)] at e2; exact absurd e2 h3
    have y := sb e h4 (show (48 : Int32).toInt = 48 from rfl) (by omega) (by omega) (by omega) (by omega)
    rw [ev, y, if_pos hd]
theorem num_89 {f' : Nat → Int32} {a' : Nat → Nat → Int32} {v : Int32} {hx : Bool} {q : Nat} (hb : n ≤ 2048) :
    ∀ (d j k : Nat) (x2 x3 x4 x7 : Int32) (x5 : Int64) (f : Nat → Int32) (a : Nat → Nat → Int32), E_t2_number tb f' a' v k 89 [x2, x3, x4, x7] [x5] [] [] [] f a → (f 7).toInt = (n : Int) → (f 8).toInt = ((q + j : Nat) : Int) → ((q + j) + d = n ∨ (d = 0 ∧ n ≤ q + j)) → q + j ≤ 5000 → (x2.toInt = if hx = true then 16 else 10) → (x3.toInt = if hx = true then 8 else 10) → x4.toInt = (j : Int) → x7.toInt = dgV hx (bt tb n (q + j)) → (∀ i : Nat, i < j → 0 ≤ dgV hx (bt tb n (q + i))) → ((j : Int) ≤ (if hx = true then 8 else 10) → x5.toInt = dgS (bt tb n) hx j q 0) →
      a' = a ∧ (∀ i : Nat, ¬ i = 8 → ¬ i = 9 → f' i = f i) ∧ ((1 ≤ j + dgN (bt tb n) hx d (q + j) ∧ ((j + dgN (bt tb n) hx d (q + j) : Nat) : Int) ≤ (if hx = true then 8 else 10) ∧ dgS (bt tb n) hx (j + dgN (bt tb n) hx d (q + j)) q 0 ≤ 4294967295 ∧ v = 17 ∧ (f' 8).toInt = ((q + (j + dgN (bt tb n) hx d (q + j)) : Nat) : Int) ∧ f' 9 = nVl (dgS (bt tb n) hx (j + dgN (bt tb n) hx d (q + j)) q 0)) ∨ (¬ (1 ≤ j + dgN (bt tb n) hx d (q + j) ∧ ((j + dgN (bt tb n) hx d (q + j) : Nat) : Int) ≤ (if hx = true then 8 else 10) ∧ dgS (bt tb n) hx (j + dgN (bt tb n) hx d (q + j)) q 0 ≤ 4294967295) ∧ v = 19)) := by
  intro d
  /- the end of the digits -/
  have fin : ∀ (j : Nat) (x3 x4 : Int32) (x5 : Int64) (f : Nat → Int32) (a : Nat → Nat → Int32), (f 8).toInt = ((q + j : Nat) : Int) → (x3.toInt = if hx = true then 8 else 10) → x4.toInt = (j : Int) → ((j : Int) ≤ (if hx = true then 8 else 10) → x5.toInt = dgS (bt tb n) hx j q 0) → a' = a → (((x4.toInt = 0 ∨ x3.toInt < x4.toInt ∨ (¬ x4.toInt = 0 ∧ ¬ x3.toInt < x4.toInt ∧ ∃ z : Int32, z = lg_cmp x5 4294967295 ∧ ¬ z.toInt ≤ 0)) ∧ f' = f ∧ v = 19) ∨ (¬ x4.toInt = 0 ∧ ¬ x3.toInt < x4.toInt ∧ (∃ z : Int32, z = lg_cmp x5 4294967295 ∧ z.toInt ≤ 0) ∧ (∃ w : Int32, w = x5.toInt32 ∧ f' = upd f 9 w) ∧ v = 17)) →
      a' = a ∧ (∀ i : Nat, ¬ i = 8 → ¬ i = 9 → f' i = f i) ∧ ((1 ≤ j ∧ ((j : Nat) : Int) ≤ (if hx = true then 8 else 10) ∧ dgS (bt tb n) hx j q 0 ≤ 4294967295 ∧ v = 17 ∧ (f' 8).toInt = ((q + j : Nat) : Int) ∧ f' 9 = nVl (dgS (bt tb n) hx j q 0)) ∨ (¬ (1 ≤ j ∧ ((j : Nat) : Int) ≤ (if hx = true then 8 else 10) ∧ dgS (bt tb n) hx j q 0 ≤ 4294967295) ∧ v = 19)) := by
    intro j x3 x4 x5 f a hf h3 h4 h5 ha h
    have cmp : ∀ {z : Int32}, z = lg_cmp x5 4294967295 → (z.toInt ≤ 0 ↔ x5.toInt ≤ 4294967295) := by
      intro z hz
      have c1 : (1 : Int32).toInt = 1 := rfl
      have c0 : (0 : Int32).toInt = 0 := rfl
      have cm : (-1 : Int32).toInt = -1 := rfl
      have cb : (4294967295 : Int64).toInt = 4294967295 := by decide
      unfold lg_cmp at hz
      simp only [gt_iff_lt, Int64.lt_iff_toInt_lt, ← Int64.toInt_inj] at hz
      split at hz
      · rw [hz]; omega
      · split at hz
        · rw [hz]; omega
        · rw [hz]; omega
    rcases h with ⟨hc, e1, e2⟩ | ⟨g1, g2, ⟨z, gz, g3⟩, ⟨w, gw, g4⟩, g5⟩
    · rw [e1]
      refine ⟨ha, fun _ _ _ => rfl, Or.inr ⟨fun y => ?_, e2⟩⟩
      obtain ⟨y1, y2, y3⟩ := y
      rcases hc with hc | hc | ⟨-, -, z, hz, hc⟩
      · omega
      · omega
      · have nq : ¬ x5.toInt ≤ 4294967295 := fun q => hc ((cmp hz).mpr q)
        rw [h5 y2] at nq
        omega
    · have jb : (j : Int) ≤ (if hx = true then 8 else 10) := by omega
      have y := (cmp gz).mp g3
      have e5 := h5 jb
      rw [e5] at y
      rw [g4]
      refine ⟨ha, fun i _ hi => pk_un hi, Or.inl ⟨by omega, jb, y, g5, by rw [pk_un (by decide)]; exact hf, ?_⟩⟩
      rw [pk_us, gw]
      unfold nVl
      rw [← e5, Int64.ofInt_toInt]
  induction d with
  | zero =>
    intro j k x2 x3 x4 x7 x5 f a h hn hp hd hj h2 h3 h4 h7 hdg h5
    rcases iv_t2_number_89 h with ⟨k, (⟨g1, (⟨g2, e0, e1, ev⟩ | ⟨g2, (⟨g3, e0, e1, ev⟩ | ⟨g3, z7, g4, (⟨g5, z10, g6, e0, e1, ev⟩ | ⟨g5, e0, e1, ev⟩)⟩)⟩)⟩ | ⟨g1, (⟨g2, (⟨g3, e0, e1, ev⟩ | ⟨g3, (⟨g4, e0, e1, ev⟩ | ⟨g4, z17, g5, (⟨g6, z20, g7, e0, e1, ev⟩ | ⟨g6, e0, e1, ev⟩)⟩)⟩)⟩ | ⟨g2, (⟨g3, z23, g4, z25, g5, v27, g6, hE⟩ | ⟨g3, z29, g4, z30, g5, z31, g6, z33, g7, v35, g8, hE⟩)⟩)⟩)⟩
    · exact fin j x3 x4 x5 f a hp h3 h4 h5 e1 (Or.inl ⟨Or.inl g2, e0, ev⟩)
    · exact fin j x3 x4 x5 f a hp h3 h4 h5 e1 (Or.inl ⟨Or.inr (Or.inl g3), e0, ev⟩)
    · exact fin j x3 x4 x5 f a hp h3 h4 h5 e1 (Or.inr ⟨g2, g3, ⟨_, g4, g5⟩, ⟨_, g6, e0⟩, ev⟩)
    · exact fin j x3 x4 x5 f a hp h3 h4 h5 e1 (Or.inl ⟨Or.inr (Or.inr ⟨g2, g3, _, g4, g5⟩), e0, ev⟩)
    all_goals (exfalso; omega)
  | succ d ih =>
    intro j k x2 x3 x4 x7 x5 f a h hn hp hd hj h2 h3 h4 h7 hdg h5
    have un : dgN (bt tb n) hx (d + 1) (q + j) = if 0 ≤ dgV hx (bt tb n (q + j)) then dgN (bt tb n) hx d (q + j + 1) + 1 else 0 := by first | rfl | simp [dgN]
    rw [un]
    have stop : ¬ 0 ≤ dgV hx (bt tb n (q + j)) → ∀ {P : Nat → Prop}, P j → P (j + (if 0 ≤ dgV hx (bt tb n (q + j)) then dgN (bt tb n) hx d (q + j + 1) + 1 else 0)) := by
      intro z P hP
      rw [if_neg z]
      exact hP
    have go : ∀ {k : Nat} {y z w : Int32} {s : Int64}, E_t2_number tb f' a' v k 89 [x2, x3, z, w] [s] [] [] [] (upd f 8 y) a → 0 ≤ x7.toInt → y = f 8 + 1 → z = x4 + 1 → R_t2_digit tb (upd f 8 y) x2 w → ((j : Int) < (if hx = true then 8 else 10) → s.toInt = dgS (bt tb n) hx (j + 1) q 0) → a' = a ∧ (∀ i : Nat, ¬ i = 8 → ¬ i = 9 → f' i = f i) ∧ ((1 ≤ j + (if 0 ≤ dgV hx (bt tb n (q + j)) then dgN (bt tb n) hx d (q + j + 1) + 1 else 0) ∧ ((j + (if 0 ≤ dgV hx (bt tb n (q + j)) then dgN (bt tb n) hx d (q + j + 1) + 1 else 0) : Nat) : Int) ≤ (if hx = true then 8 else 10) ∧ dgS (bt tb n) hx (j + (if 0 ≤ dgV hx (bt tb n (q + j)) then dgN (bt tb n) hx d (q + j + 1) + 1 else 0)) q 0 ≤ 4294967295 ∧ v = 17 ∧ (f' 8).toInt = ((q + (j + (if 0 ≤ dgV hx (bt tb n (q + j)) then dgN (bt tb n) hx d (q + j + 1) + 1 else 0)) : Nat) : Int) ∧ f' 9 = nVl (dgS (bt tb n) hx (j + (if 0 ≤ dgV hx (bt tb n (q + j)) then dgN (bt tb n) hx d (q + j + 1) + 1 else 0)) q 0)) ∨ (¬ (1 ≤ j + (if 0 ≤ dgV hx (bt tb n (q + j)) then dgN (bt tb n) hx d (q + j + 1) + 1 else 0) ∧ ((j + (if 0 ≤ dgV hx (bt tb n (q + j)) then dgN (bt tb n) hx d (q + j + 1) + 1 else 0) : Nat) : Int) ≤ (if hx = true then 8 else 10) ∧ dgS (bt tb n) hx (j + (if 0 ≤ dgV hx (bt tb n (q + j)) then dgN (bt tb n) hx d (q + j + 1) + 1 else 0)) q 0 ≤ 4294967295) ∧ v = 19)) := by
      intro k y z w s hE h70 hy hz hw hs
      have hy' := ti_add hy hp (show (1 : Int32).toInt = 1 from rfl) (by omega) (by omega)
      have hz' := ti_add hz h4 (show (1 : Int32).toInt = 1 from rfl) (by omega) (by omega)
      have u7 : (upd f 8 y 7).toInt = (n : Int) := by rw [pk_un (by decide)]; exact hn
      have u8 : (upd f 8 y 8).toInt = ((q + (j + 1) : Nat) : Int) := by rw [pk_us]; omega
      have hw' := dig_r (p := q + (j + 1)) u7 hb u8 h2 hw
      have yes : 0 ≤ dgV hx (bt tb n (q + j)) := by rw [← h7]; exact h70
      rw [if_pos yes]
      have i1 := ih (j + 1) k x2 x3 z w s (upd f 8 y) a hE u7 u8 (by omega) (by omega) h2 h3 (by omega) hw' (fun i hi => by
        rcases Nat.eq_or_lt_of_le (Nat.le_of_lt_succ hi) with r | r
        · rw [r]; exact yes
        · exact hdg i r) (fun r => hs (by omega))
      have e1 : q + (j + 1) = q + j + 1 := by omega
      have e2 : j + 1 + dgN (bt tb n) hx d (q + j + 1) = j + (dgN (bt tb n) hx d (q + j + 1) + 1) := by omega
      rw [e1, e2] at i1
      obtain ⟨r1, r2, r3⟩ := i1
      exact ⟨r1, fun i a b => (r2 i a b).trans (pk_un a), r3⟩
    rcases iv_t2_number_89 h with ⟨k, (⟨g1, (⟨g2, e0, e1, ev⟩ | ⟨g2, (⟨g3, e0, e1, ev⟩ | ⟨g3, z7, g4, (⟨g5, z10, g6, e0, e1, ev⟩ | ⟨g5, e0, e1, ev⟩)⟩)⟩)⟩ | ⟨g1, (⟨g2, (⟨g3, e0, e1, ev⟩ | ⟨g3, (⟨g4, e0, e1, ev⟩ | ⟨g4, z17, g5, (⟨g6, z20, g7, e0, e1, ev⟩ | ⟨g6, e0, e1, ev⟩)⟩)⟩)⟩ | ⟨g2, (⟨g3, z23, g4, z25, g5, v27, g6, hE⟩ | ⟨g3, z29, g4, z30, g5, z31, g6, z33, g7, v35, g8, hE⟩)⟩)⟩)⟩
    · exfalso; omega
    · exfalso; omega
    · exfalso; omega
    · exfalso; omega
    · rw [if_neg (by omega)]; exact fin j x3 x4 x5 f a hp h3 h4 h5 e1 (Or.inl ⟨Or.inl g3, e0, ev⟩)
    · rw [if_neg (by omega)]; exact fin j x3 x4 x5 f a hp h3 h4 h5 e1 (Or.inl ⟨Or.inr (Or.inl g4), e0, ev⟩)
    · rw [if_neg (by omega)]; exact fin j x3 x4 x5 f a hp h3 h4 h5 e1 (Or.inr ⟨g3, g4, ⟨_, g5, g6⟩, ⟨_, g7, e0⟩, ev⟩)
    · rw [if_neg (by omega)]; exact fin j x3 x4 x5 f a hp h3 h4 h5 e1 (Or.inl ⟨Or.inr (Or.inr ⟨g3, g4, _, g5, g6⟩), e0, ev⟩)
    · exact go hE (by omega) g5 g4 g6 (fun r => by exfalso; omega)
    · refine go hE (by omega) g7 g6 g8 (fun r => ?_)
      have e5 := h5 (by omega)
      have bd := dgS_b (b := bt tb n) (hx := hx) (i := q) j hdg
      have jb : j ≤ 10 := by
        cases hx with
        | true => simp only [if_true] at r; omega
        | false => simp only [Bool.false_eq_true, if_false] at r; omega
      have pw : 16 ^ j ≤ 16 ^ 10 := Nat.pow_le_pow_right (by decide) jb
      have pe : (16 : Nat) ^ 10 = 1099511627776 := by decide
      have vb := dgV_b (hx := hx) (c := bt tb n (q + j))
      have x20 : 10 ≤ x2.toInt ∧ x2.toInt ≤ 16 := by
        rw [h2]
        cases hx with
        | true => simp
        | false => simp
      have m1 : (x5 * x2.toInt64).toInt = x5.toInt * x2.toInt := by
        have c2 : x2.toInt64.toInt = x2.toInt := Int32.toInt_toInt64 x2
        have lo : 0 ≤ x5.toInt * x2.toInt := Int.mul_nonneg (by omega) (by omega)
        have hi : x5.toInt * x2.toInt ≤ 1099511627776 * 16 := Int.mul_le_mul (by omega) (by omega) (by omega) (by omega)
        rw [Int64.toInt_mul, c2, Int.bmod_eq_of_le] <;> omega
      have lo : 0 ≤ x5.toInt * x2.toInt := Int.mul_nonneg (by omega) (by omega)
      have hi : x5.toInt * x2.toInt ≤ 1099511627776 * 16 := Int.mul_le_mul (by omega) (by omega) (by omega) (by omega)
      have c7 : x7.toInt64.toInt = x7.toInt := Int32.toInt_toInt64 x7
      have v16 : x7.toInt < 16 := by
        have := vb.2 (by omega)
        rw [h7]
        cases hx with
        | true => simp only [if_true] at this; exact this
        | false => simp only [Bool.false_eq_true, if_false] at this; omega
      rw [g5, g4, Int64.toInt_add, m1, c7, Int.bmod_eq_of_le]
      · rw [e5, h2, h7, dgS_snoc]
      · omega
      · omega
theorem num_ok {f f' : Nat → Int32} {a a' : Nat → Nat → Int32} {v : Int32} {p : Nat} (hb : n ≤ 2048) (hn : (f 7).toInt = (n : Int)) (hp : (f 8).toInt = (p : Int)) (hpn : p < n) (h : R_t2_number tb f a f' a' v) :
    a' = a ∧ (∀ i : Nat, ¬ i = 8 → ¬ i = 9 → f' i = f i) ∧ ((nOk (bt tb n) n p = true ∧ v = 17 ∧ (f' 8).toInt = ((nFr (bt tb n) p + nCt (bt tb n) n p : Nat) : Int) ∧ f' 9 = nVl (nSm (bt tb n) n p)) ∨ (nOk (bt tb n) n p = false ∧ v = 19)) := by
  obtain ⟨k, h⟩ := h
  have main : ∀ {k : Nat} {x2 x3 x7 y : Int32} {hx : Bool} {q : Nat}, hexB (bt tb n) p = hx → nFr (bt tb n) p = q → E_t2_number tb f' a' v k 89 [x2, x3, 0, x7] [0] [] [] [] (upd f 8 y) a → y.toInt = (q : Int) → q ≤ p + 2 → (x2.toInt = if hx = true then 16 else 10) → (x3.toInt = if hx = true then 8 else 10) → R_t2_digit tb (upd f 8 y) x2 x7 → a' = a ∧ (∀ i : Nat, ¬ i = 8 → ¬ i = 9 → f' i = f i) ∧ ((nOk (bt tb n) n p = true ∧ v = 17 ∧ (f' 8).toInt = ((nFr (bt tb n) p + nCt (bt tb n) n p : Nat) : Int) ∧ f' 9 = nVl (nSm (bt tb n) n p)) ∨ (nOk (bt tb n) n p = false ∧ v = 19)) := by
    intro k x2 x3 x7 y hx q eh eq hE hy hq h2 h3 hd
    have u7 : (upd f 8 y 7).toInt = (n : Int) := by rw [pk_un (by decide)]; exact hn
    have u8 : (upd f 8 y 8).toInt = ((q + 0 : Nat) : Int) := by rw [pk_us]; exact hy
    have h7 := dig_r (p := q + 0) u7 hb u8 h2 hd
    obtain ⟨r1, r2, r3⟩ := num_89 (hx := hx) (q := q) hb (n - q) 0 k x2 x3 0 x7 0 (upd f 8 y) a hE u7 u8 (by omega) (by omega) h2 h3 rfl h7 (fun i hi => absurd hi (Nat.not_lt_zero _)) (fun _ => rfl)
    refine ⟨r1, fun i a b => (r2 i a b).trans (pk_un a), ?_⟩
    rw [Nat.zero_add, Nat.add_zero] at r3
    have ec : nCt (bt tb n) n p = dgN (bt tb n) hx (n - q) q := by unfold nCt; rw [eh, eq]
    have es : nSm (bt tb n) n p = dgS (bt tb n) hx (dgN (bt tb n) hx (n - q) q) q 0 := by unfold nSm; rw [ec, eh, eq]
    have cast : ((dgN (bt tb n) hx (n - q) q : Nat) : Int) ≤ (if hx = true then 8 else 10) ↔ dgN (bt tb n) hx (n - q) q ≤ (if hx = true then 8 else 10) := by
      cases hx with
      | true => simp only [if_true]; omega
      | false => simp only [Bool.false_eq_true, if_false]; omega
    unfold nOk
    rw [eh, ec, es, eq]
    rcases r3 with ⟨y1, y2, y3, y4, y5, y6⟩ | ⟨y1, y2⟩
    · exact Or.inl ⟨decide_eq_true ⟨y1, cast.mp y2, y3⟩, y4, y5, y6⟩
    · exact Or.inr ⟨decide_eq_false (fun z => y1 ⟨z.1, cast.mpr z.2.1, z.2.2⟩), y2⟩
  have nh : ¬ (bt tb n p = 48 ∧ bt tb n (p + 1) = 120) → hexB (bt tb n) p = false ∧ nFr (bt tb n) p = p := by
    intro z
    have e : hexB (bt tb n) p = false := decide_eq_false z
    refine ⟨e, ?_⟩
    unfold nFr
    rw [e, if_neg (by decide)]
  have yh : (bt tb n p = 48 ∧ bt tb n (p + 1) = 120) → hexB (bt tb n) p = true ∧ nFr (bt tb n) p = p + 2 := by
    intro z
    have e : hexB (bt tb n) p = true := decide_eq_true z
    refine ⟨e, ?_⟩
    unfold nFr
    rw [e, if_pos rfl]
  rcases iv_t2_number_0 h with ⟨k, v38, h1, (⟨h2, z50, h3, v52, h4, hE⟩ | ⟨h2, z55, h3, v57, h4, (⟨h5, z69, h6, v71, h7, hE⟩ | ⟨h5, z77, h6, v79, h7, hE⟩)⟩)⟩
  · have e := byte_r hn hb hp h1
    have z0 := ti_add h3 hp (show (0 : Int32).toInt = 0 from rfl) (by omega) (by omega)
    obtain ⟨y1, y2⟩ := nh (fun q => h2 (by omega))
    exact main y1 y2 hE (by omega) (by omega) rfl rfl h4
  · have e := byte_r hn hb hp h1
    have z1 := ti_add h3 hp (show (1 : Int32).toInt = 1 from rfl) (by omega) (by omega)
    have e2 := byte_r (p := p + 1) hn hb (by omega) h4
    have z0 := ti_add h6 hp (show (0 : Int32).toInt = 0 from rfl) (by omega) (by omega)
    obtain ⟨y1, y2⟩ := nh (fun q => h5 (by omega))
    exact main y1 y2 hE (by omega) (by omega) rfl rfl h7
  · have e := byte_r hn hb hp h1
    have z1 := ti_add h3 hp (show (1 : Int32).toInt = 1 from rfl) (by omega) (by omega)
    have e2 := byte_r (p := p + 1) hn hb (by omega) h4
    have z0 := ti_add h6 hp (show (2 : Int32).toInt = 2 from rfl) (by omega) (by omega)
    obtain ⟨y1, y2⟩ := yh ⟨by omega, by omega⟩
    exact main y1 y2 hE (by omega) (by omega) rfl rfl h7
end SX
