/-! NAMES of the class: each has a number, by its letters. -/
def offs : List (List Int) → Nat
  | [] => 0
  | x :: r => x.length + offs r
theorem offs_ap {A B : List (List Int)} : offs (A ++ B) = offs A + offs B := by
  induction A with
  | nil => show offs B = 0 + offs B; omega
  | cons x r ih =>
    show x.length + offs (r ++ B) = x.length + offs r + offs B
    rw [ih]; omega
theorem offs_take {NL : List (List Int)} {i : Nat} {w : List Int} (h : NL[i]? = some w) : offs (NL.take (i + 1)) = offs (NL.take i) + w.length := by
  have hl := (List.getElem?_eq_some_iff.mp h).1
  have e := (List.getElem?_eq_some_iff.mp h).2
  have e1 : NL.take (i + 1) = NL.take i ++ [w] := by
    first
      | (rw [List.take_succ, h]; rfl)
      | (rw [List.take_add_one, h]; rfl)
      | (rw [List.take_succ_eq_append_getElem hl, e])
  rw [e1, offs_ap]
  show _ + (w.length + 0) = _
  rw [Nat.add_zero]
theorem offs_le {NL : List (List Int)} {i : Nat} : offs (NL.take i) ≤ offs NL := by
  have e : offs NL = offs (NL.take i) + offs (NL.drop i) := by rw [← offs_ap, List.take_append_drop]
  omega
/-- the number of a name: where it stands, or behind all -/
def fIx (w : List Int) : List (List Int) → Nat
  | [] => 0
  | x :: r => if x = w then 0 else fIx w r + 1
theorem fIx_le {w : List Int} : ∀ {NL : List (List Int)}, fIx w NL ≤ NL.length
  | [] => Nat.le_refl _
  | x :: r => by
    show (if x = w then 0 else fIx w r + 1) ≤ r.length + 1
    have := fIx_le (w := w) (NL := r)
    by_cases h : x = w
    · rw [if_pos h]; omega
    · rw [if_neg h]; omega
theorem fIx_at {w : List Int} : ∀ {NL : List (List Int)} {i : Nat}, NL[i]? = some w → (∀ (j : Nat) (x : List Int), j < i → NL[j]? = some x → ¬ x = w) → fIx w NL = i
  | [], i, h, _ => by simp at h
  | x :: r, 0, h, _ => by
    have e : x = w := by simpa using h
    show (if x = w then 0 else fIx w r + 1) = 0
    rw [if_pos e]
  | x :: r, i + 1, h, k => by
    show (if x = w then 0 else fIx w r + 1) = i + 1
    rw [if_neg (k 0 x (Nat.succ_pos _) rfl)]
    have := fIx_at (w := w) (NL := r) (i := i) (by simpa using h) (fun j y hj hy => k (j + 1) y (by omega) (by simpa using hy))
    omega
theorem fIx_no {w : List Int} : ∀ {NL : List (List Int)}, (∀ (j : Nat) (x : List Int), NL[j]? = some x → ¬ x = w) → fIx w NL = NL.length
  | [], _ => rfl
  | x :: r, k => by
    show (if x = w then 0 else fIx w r + 1) = r.length + 1
    rw [if_neg (k 0 x rfl)]
    have := fIx_no (w := w) (NL := r) (fun j y hy => k (j + 1) y (by simpa using hy))
    omega
/-- the names with one more, if it is new -/
def nAdd (w : List Int) (NL : List (List Int)) : List (List Int) := if fIx w NL < NL.length then NL else NL ++ [w]
theorem fIx_get {w : List Int} : ∀ {NL : List (List Int)}, fIx w NL < NL.length → NL[fIx w NL]? = some w
  | [], h => by simp at h
  | x :: r, h => by
    have e : fIx w (x :: r) = if x = w then 0 else fIx w r + 1 := rfl
    by_cases q : x = w
    · rw [e, if_pos q, q]; rfl
    · rw [e, if_neg q] at h ⊢
      have := fIx_get (w := w) (NL := r) (by simpa using h)
      simpa using this
theorem fIx_ap {w : List Int} {A B : List (List Int)} (h : fIx w A < A.length) : fIx w (A ++ B) = fIx w A := by
  induction A with
  | nil => simp at h
  | cons x r ih =>
    have e : fIx w (x :: r ++ B) = if x = w then 0 else fIx w (r ++ B) + 1 := rfl
    have e' : fIx w (x :: r) = if x = w then 0 else fIx w r + 1 := rfl
    rw [e, e']
    rw [e'] at h
    by_cases q : x = w
    · rw [if_pos q, if_pos q]
    · rw [if_neg q] at h ⊢
      rw [if_neg q, ih (by simpa using h)]
theorem fIx_new {w : List Int} {NL : List (List Int)} (h : ¬ fIx w NL < NL.length) : fIx w (NL ++ [w]) = NL.length := by
  induction NL with
  | nil =>
    show (if w = w then 0 else fIx w [] + 1) = 0
    rw [if_pos rfl]
  | cons x r ih =>
    have e : fIx w (x :: r ++ [w]) = if x = w then 0 else fIx w (r ++ [w]) + 1 := rfl
    have e' : fIx w (x :: r) = if x = w then 0 else fIx w r + 1 := rfl
    rw [e]
    rw [e'] at h
    by_cases q : x = w
    · rw [if_pos q] at h; exact absurd (Nat.succ_pos _) h
    · rw [if_neg q] at h ⊢
      rw [ih (by simpa using h)]; rfl
theorem nAdd_ix {w : List Int} {NL : List (List Int)} : fIx w (nAdd w NL) = fIx w NL ∧ fIx w (nAdd w NL) < (nAdd w NL).length ∧ ∃ B, nAdd w NL = NL ++ B := by
  unfold nAdd
  by_cases h : fIx w NL < NL.length
  · rw [if_pos h]
    exact ⟨rfl, h, [], (List.append_nil _).symm⟩
  · rw [if_neg h]
    have := fIx_le (w := w) (NL := NL)
    have e := fIx_new h
    exact ⟨by omega, by rw [e, List.length_append]; simp, [w], rfl⟩
/-- the letters and the ends of the names -/
def NmT (f : Nat → Int32) (a : Nat → Nat → Int32) (NL : List (List Int)) : Prop := (f 11).toInt = (NL.length : Int) ∧ ∀ (i : Nat) (w : List Int), NL[i]? = some w → (a 4 i).toInt = ((offs (NL.take (i + 1)) : Nat) : Int) ∧ ∀ (j : Nat) (x : Int), w[j]? = some x → (a 3 (offs (NL.take i) + j)).toInt = x
section SW
variable {f' : Nat → Int32} {a a' : Nat → Nat → Int32}
theorem sl_3 {p0 p1 p2 v : Int32} {s q m : Nat} (h0 : p0.toInt = (s : Int)) (h1' : p1.toInt = (q : Int)) (h2' : p2.toInt = (m : Int)) (b1 : s + m ≤ 2181) (b2 : q + m ≤ 2181) : ∀ (d i k : Nat) (x : Int32), E_t2_sameLetters a p0 p1 p2 v k 3 [x] [] [] [] [] () → x.toInt = (i : Int) → i + d = m → (v.toInt = 0 ∨ v.toInt = 1) ∧ (v.toInt = 1 ↔ ∀ j : Nat, i ≤ j → j < m → (a 3 (s + j)).toInt = (a 3 (q + j)).toInt) := by
  intro d
  induction d with
  | zero =>
    intro i k x h hx hd
    rcases iv_t2_sameLetters_3 h with ⟨k, (⟨h1, ev⟩ | ⟨h1, z3, h2, (⟨h3, ev⟩ | ⟨h3, z6, h4, (⟨h5, ev⟩ | ⟨h5, z9, h6, z10, h7, z11, h8, z12, h9, (⟨h10, z15, h11, hE⟩ | ⟨h10, ev⟩)⟩)⟩)⟩)⟩
    · rw [ev]
      exact ⟨Or.inr rfl, fun _ j a b => by omega, fun _ => rfl⟩
    all_goals (exfalso; omega)
  | succ d ih =>
    intro i k x h hx hd
    have e1 : ∀ {z : Int32}, z = p0 + x → z.toInt = ((s + i : Nat) : Int) := fun hz => by
      have := ti_add hz h0 hx (by omega) (by omega)
      omega
    have e2 : ∀ {z : Int32}, z = p1 + x → z.toInt = ((q + i : Nat) : Int) := fun hz => by
      have := ti_add hz h1' hx (by omega) (by omega)
      omega
    rcases iv_t2_sameLetters_3 h with ⟨k, (⟨h1, ev⟩ | ⟨h1, z3, h2, (⟨h3, ev⟩ | ⟨h3, z6, h4, (⟨h5, ev⟩ | ⟨h5, z9, h6, z10, h7, z11, h8, z12, h9, (⟨h10, z15, h11, hE⟩ | ⟨h10, ev⟩)⟩)⟩)⟩)⟩
    · exfalso; omega
    · have := e1 h2; exfalso; omega
    · have := e2 h4; exfalso; omega
    · have y1 := cn_of (e1 h6)
      have y2 := cn_of (e2 h8)
      rw [y1] at h7
      rw [y2] at h9
      rw [h7, h9] at h10
      have hz := ti_add h11 hx (show (1 : Int32).toInt = 1 from rfl) (by omega) (by omega)
      obtain ⟨r1, r2⟩ := ih (i + 1) k _ hE (by omega) (by omega)
      refine ⟨r1, fun hv j hj hm => ?_, fun hv => r2.mpr (fun j hj hm => hv j (by omega) hm)⟩
      rcases Nat.eq_or_lt_of_le hj with y | y
      · subst y; exact h10
      · exact r2.mp hv j y hm
    · have y1 := cn_of (e1 h6)
      have y2 := cn_of (e2 h8)
      rw [y1] at h7
      rw [y2] at h9
      rw [h7, h9] at h10
      rw [ev]
      refine ⟨Or.inl rfl, fun hv => absurd hv (by decide), fun hv => absurd (hv i (Nat.le_refl _) (by omega)) h10⟩
theorem sl_ok {p0 p1 p2 v : Int32} {s q m : Nat} (h0 : p0.toInt = (s : Int)) (h1' : p1.toInt = (q : Int)) (h2' : p2.toInt = (m : Int)) (b1 : s + m ≤ 2181) (b2 : q + m ≤ 2181) (h : R_t2_sameLetters a p0 p1 p2 v) : (v.toInt = 0 ∨ v.toInt = 1) ∧ (v.toInt = 1 ↔ ∀ j : Nat, j < m → (a 3 (s + j)).toInt = (a 3 (q + j)).toInt) := by
  obtain ⟨k, h⟩ := h
  obtain ⟨k, hE⟩ := iv_t2_sameLetters_0 h
  obtain ⟨r1, r2⟩ := sl_3 h0 h1' h2' b1 b2 m 0 k _ hE (by rfl) (by omega)
  exact ⟨r1, fun hv j hj => r2.mp hv j (Nat.zero_le _) hj, fun hv => r2.mpr (fun j _ hj => hv j hj)⟩
/-- letters that stand behind those of all names -/
theorem in_5 {f : Nat → Int32} {NL : List (List Int)} {w : List Int} {p0 p1 v : Int32} (hT : NmT f a NL) (h0 : p0.toInt = ((offs NL : Nat) : Int)) (h1' : p1.toInt = (w.length : Int)) (hw : ∀ (j : Nat) (x : Int), w[j]? = some x → (a 3 (offs NL + j)).toInt = x) (hb : offs NL + w.length ≤ 2181) (hl : NL.length < 2074) :
    ∀ (d i k : Nat) (x3 x4 : Int32), E_t2_intern p0 p1 f' a' v k 5 [x3, x4] [] [] [] [] f a → x3.toInt = ((offs (NL.take i) : Nat) : Int) → x4.toInt = (i : Int) → i + d = NL.length → (∀ (j : Nat) (x : List Int), j < i → NL[j]? = some x → ¬ x = w) → v.toInt = ((fIx w NL : Nat) : Int) ∧ NmT f' a' (nAdd w NL) ∧ (∀ j : Nat, ¬ j = 11 → f' j = f j) ∧ (∀ j : Nat, ¬ j = 4 → a' j = a j) := by
  obtain ⟨t1, t2⟩ := hT
  intro d
  induction d with
  | zero =>
    intro i k x3 x4 h hx3 hx4 hd hno
    have e : fIx w NL = NL.length := fIx_no (fun j x hj => hno j x (by have := (List.getElem?_eq_some_iff.mp hj).1; omega) hj)
    rcases iv_t2_intern_5 h with ⟨k, (⟨h1, (⟨h2, z6, h3, e0, e1, ev⟩ | ⟨h2, z7, h3, z9, h4, z10, h5, e0, e1, ev⟩)⟩ | ⟨h1, z11, h2, z12, h3, (⟨h4, z15, h5, z16, h6, hE⟩ | ⟨h4, v18, h5, (⟨h6, z23, h7, z24, h8, hE⟩ | ⟨h6, e0, e1, ev⟩)⟩)⟩)⟩
    · exfalso; omega
    · have z1 := ti_add h3 h0 h1' (by omega) (by omega)
      have z2 := ti_add h4 t1 (show (1 : Int32).toInt = 1 from rfl) (by omega) (by omega)
      have z3 := ti_sub h5 z2 (show (1 : Int32).toInt = 1 from rfl) (by omega) (by omega)
      have en : nAdd w NL = NL ++ [w] := by unfold nAdd; rw [if_neg (by omega)]
      have hk : (f 11).toNatClampNeg = NL.length := cn_of t1
      rw [en, e0, e1, ev]
      refine ⟨by rw [z3, e]; omega, ⟨by rw [pk_us, z2, List.length_append]; rfl, fun i u hu => ?_⟩, fun j hj => pk_un hj, fun j hj => va_up_n hj⟩
      rcases Nat.lt_or_ge i NL.length with hi | hi
      · rw [List.getElem?_append_left hi] at hu
        obtain ⟨y1, y2⟩ := t2 i u hu
        rw [List.take_append_of_le_length (by omega), List.take_append_of_le_length (by omega)]
        refine ⟨?_, fun j x hj => ?_⟩
        · rw [va_up_s, hk, pk_un (by omega)]; exact y1
        · rw [va_up_n (by decide)]; exact y2 j x hj
      · have hi2 := (List.getElem?_eq_some_iff.mp hu).1
        rw [List.length_append] at hi2
        have hi3 : i = NL.length := by simp at hi2; omega
        subst hi3
        rw [List.getElem?_append_right (Nat.le_refl _), Nat.sub_self] at hu
        have eu : u = w := (Option.some.inj hu).symm
        subst eu
        refine ⟨?_, fun j x hj => ?_⟩
        · rw [va_up_s, hk, pk_us, z1]
          have e9 : (NL ++ [u]).take (NL.length + 1) = NL ++ [u] := List.take_of_length_le (by rw [List.length_append]; exact Nat.le_refl _)
          rw [e9, offs_ap]
          show _ = ((offs NL + (u.length + 0) : Nat) : Int)
          omega
        · rw [va_up_n (by decide)]
          have e9 : (NL ++ [u]).take NL.length = NL := by simp
          rw [e9]
          exact hw j x hj
    all_goals (exfalso; omega)
  | succ d ih =>
    intro i k x3 x4 h hx3 hx4 hd hno
    have hi : i < NL.length := by omega
    have hg : NL[i]? = some NL[i] := List.getElem?_eq_getElem hi
    obtain ⟨y1, y2⟩ := t2 i _ hg
    have ot := offs_take hg
    have ol := offs_le (NL := NL) (i := i + 1)
    have hxn : x4.toNatClampNeg = i := cn_of hx4
    have next : ∀ {k : Nat} {z z' : Int32}, ¬ NL[i] = w → z = a 4 x4.toNatClampNeg → z' = x4 + 1 → E_t2_intern p0 p1 f' a' v k 5 [z, z'] [] [] [] [] f a → v.toInt = ((fIx w NL : Nat) : Int) ∧ NmT f' a' (nAdd w NL) ∧ (∀ j : Nat, ¬ j = 11 → f' j = f j) ∧ (∀ j : Nat, ¬ j = 4 → a' j = a j) := by
      intro k z z' hne hz hz' hE
      have z2 := ti_add hz' hx4 (show (1 : Int32).toInt = 1 from rfl) (by omega) (by omega)
      refine ih (i + 1) k z z' hE (by rw [hz, hxn]; exact y1) (by omega) (by omega) (fun j x hj hx => ?_)
      rcases Nat.eq_or_lt_of_le (Nat.le_of_lt_succ hj) with q | q
      · subst q
        rw [hg] at hx
        obtain rfl := Option.some.inj hx
        exact hne
      · exact hno j x q hx
    have ln : ∀ {z z' : Int32}, z = a 4 x4.toNatClampNeg → z' = z - x3 → z'.toInt = (NL[i].length : Int) := by
      intro z z' hz hz'
      rw [hxn] at hz
      rw [← hz] at y1
      have := ti_sub hz' y1 hx3 (by omega) (by omega)
      omega
    rcases iv_t2_intern_5 h with ⟨k, (⟨h1, (⟨h2, z6, h3, e0, e1, ev⟩ | ⟨h2, z7, h3, z9, h4, z10, h5, e0, e1, ev⟩)⟩ | ⟨h1, z11, h2, z12, h3, (⟨h4, z15, h5, z16, h6, hE⟩ | ⟨h4, v18, h5, (⟨h6, z23, h7, z24, h8, hE⟩ | ⟨h6, e0, e1, ev⟩)⟩)⟩)⟩
    · exfalso; omega
    · exfalso; omega
    · have e9 := ln h2 h3
      exact next (fun q => h4 (by rw [e9, q]; exact h1'.symm)) h5 h6 hE
    · have e9 := ln h2 h3
      have sl := sl_ok (m := w.length) hx3 h0 h1' (by omega) hb h5
      refine next (fun q => ?_) h7 h8 hE
      have : v18.toInt = 1 := by
        refine sl.2.mpr (fun j hj => ?_)
        have hj' : w[j]? = some w[j] := List.getElem?_eq_getElem hj
        rw [hw j _ hj', y2 j w[j] (by rw [q]; exact hj')]
      omega
    · have e9 := ln h2 h3
      have sl := sl_ok (m := w.length) hx3 h0 h1' (by omega) hb h5
      have v1 : v18.toInt = 1 := by omega
      have hs := sl.2.mp v1
      have ew : NL[i] = w := by
        refine List.ext_getElem? (fun j => ?_)
        rcases Nat.lt_or_ge j w.length with hj | hj
        · have hj1 : j < NL[i].length := by omega
          have hj' : w[j]? = some w[j] := List.getElem?_eq_getElem hj
          have hj2 : NL[i][j]? = some NL[i][j] := List.getElem?_eq_getElem hj1
          rw [hj', hj2]
          have q1 := hw j _ hj'
          have q2 := y2 j _ hj2
          have q3 := hs j hj
          rw [q2, q1] at q3
          rw [q3]
        · rw [List.getElem?_eq_none hj, List.getElem?_eq_none (by omega)]
      have ef : fIx w NL = i := fIx_at (by rw [hg, ew]) hno
      have en : nAdd w NL = NL := by unfold nAdd; rw [if_pos (by omega)]
      rw [en, e0, e1, ev]
      exact ⟨by rw [ef]; exact hx4, ⟨t1, t2⟩, fun _ _ => rfl, fun _ _ => rfl⟩
theorem in_ok {f : Nat → Int32} {NL : List (List Int)} {w : List Int} {p0 p1 v : Int32} (hT : NmT f a NL) (h0 : p0.toInt = ((offs NL : Nat) : Int)) (h1' : p1.toInt = (w.length : Int)) (hw : ∀ (j : Nat) (x : Int), w[j]? = some x → (a 3 (offs NL + j)).toInt = x) (hb : offs NL + w.length ≤ 2181) (hl : NL.length < 2074) (h : R_t2_intern p0 p1 f a f' a' v) : v.toInt = ((fIx w NL : Nat) : Int) ∧ NmT f' a' (nAdd w NL) ∧ (∀ j : Nat, ¬ j = 11 → f' j = f j) ∧ (∀ j : Nat, ¬ j = 4 → a' j = a j) := by
  obtain ⟨k, h⟩ := h
  obtain ⟨k, hE⟩ := iv_t2_intern_0 h
  exact in_5 hT h0 h1' hw hb hl NL.length 0 k _ _ hE (by rfl) (by rfl) (by omega) (fun j x hj => absurd hj (Nat.not_lt_zero _))
end SW
