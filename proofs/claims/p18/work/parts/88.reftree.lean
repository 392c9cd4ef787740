theorem oz_6b950bf6e5 {a0 a1 a2 a3 : Int} (h0 : a1 ≤ a0) (h1 : a2 < a1) (h2 : a3 ≤ a2) (h3 : 0 ≤ a3) : 0 ≤ a0 := by omega
theorem oz_1241fa8cb7 {a0 a1 a2 a3 a4 a5 : Int} (h0 : a1 ≤ a0) (h1 : a2 < a1) (h2 : a3 ≤ a2) (h3 : a4 < a3) (h4 : a5 ≤ a4) (h5 : 0 ≤ a5) : 0 ≤ a0 := by omega
theorem oz_e9f4b93177 {a0 a1 a2 a3 a4 a5 a6 a7 : Int} (h0 : a1 ≤ a0) (h1 : a2 < a1) (h2 : a3 ≤ a2) (h3 : a4 < a3) (h4 : a5 ≤ a4) (h5 : a6 < a5) (h6 : a7 ≤ a6) (h7 : 0 ≤ a7) : 0 ≤ a0 := by omega
theorem oz_37dbe2a0a7 {a2 : Int} {n0 n1 : Nat} (h0 : a2 = (n1 : Int)) (h1 : (n0 : Int) = a2) : n0 = n1 := by omega
theorem oz_0b3665eba6 {a0 a1 a2 a3 a4 a5 a6 : Int} (h0 : a1 ≤ a0) (h1 : a2 < a1) (h2 : a3 ≤ a2) (h3 : a4 ≤ a3) (h4 : a5 < a4) (h5 : a6 ≤ a5) (h6 : 0 ≤ a6) : 0 ≤ a0 := by omega
/-! THE REFERENCE'S TREES: expressions as nodes in intervals; d: how deep, w: how much code at most -/
def NdT (ta : Nat → Nat → Int32) (c : Int) (na : Nat → Nat → Int32) (n : Nat) (s : Int) : Prop := 0 ≤ (na 15 n).toInt ∧ (na 15 n).toInt < c ∧ (ta 9 (na 15 n).toNatClampNeg).toInt = s
def MkD (ta : Nat → Nat → Int32) (c : Int) (ma : Nat → Nat → Int32) (n : Nat) : Prop := 0 ≤ (ma 20 n).toInt ∧ (ma 20 n).toInt < c ∧ (ta 9 (ma 20 n).toNatClampNeg).toInt = 5
/-- a row of nodes by nexts, each in an interval of its own; last: its last one -/
def Lq (na : Nat → Nat → Int32) (P : Nat → Nat → Nat → Nat → Prop) : Nat → Int → Nat → Nat → Nat → Int → Prop
  | 0 => fun _ _ _ _ _ => False
  | m + 1 => fun k lo hi w last => ∃ a mid wa : Nat, k = (a : Int) ∧ (lo ≤ a ∧ a < mid) ∧ mid ≤ hi ∧ P a lo mid wa ∧ (((na 21 a).toInt < 0 ∧ last = (a : Int) ∧ wa ≤ w) ∨ ∃ wr : Nat, Lq na P m (na 21 a).toInt mid hi wr last ∧ wa + wr ≤ w)
/-- such a row, or none -/
def Lz (na : Nat → Nat → Int32) (P : Nat → Nat → Nat → Nat → Prop) (k : Int) (lo hi w : Nat) : Prop := k < 0 ∨ ∃ (m : Nat) (last : Int), Lq na P m k lo hi w last
def Pc (ta : Nat → Nat → Int32) (c : Int) (ma : Nat → Nat → Int32) (P : Nat → Nat → Nat → Nat → Prop) (n : Nat) : Nat → Nat → Nat → Nat → Prop := fun a l h v => ∃ l' v' : Nat, l ≤ l' ∧ (n < l' ∨ h ≤ n) ∧ P a l' h v' ∧ v' + 1 ≤ v ∧ MkD ta c ma a
def Ex (ta : Nat → Nat → Int32) (c : Int) (na ma : Nat → Nat → Int32) : Nat → Nat → Nat → Nat → Nat → Prop
  | 0 => fun _ _ _ _ => False
  | d + 1 => fun n lo hi w => (lo ≤ n ∧ n < hi) ∧
     (((na 14 n).toInt = 1 ∧ NdT ta c na n 3 ∧ 1 ≤ w) ∨
      ((na 14 n).toInt = 2 ∧ NdT ta c na n 1 ∧ 1 ≤ w) ∨
      ((na 14 n).toInt = 3 ∧ NdT ta c na n 1 ∧ ∃ wr : Nat, Lz na (Ex ta c na ma d) (na 17 n).toInt (n + 1) hi wr ∧ wr + 1 ≤ w) ∨
      ((na 14 n).toInt = 4 ∧ NdT ta c na n 1 ∧ ∃ a wa : Nat, (na 17 n).toInt = (a : Int) ∧ Ex ta c na ma d a (n + 1) hi wa ∧ wa + 1 ≤ w) ∨
      (((na 14 n).toInt = 5 ∨ (na 14 n).toInt = 6) ∧ NdT ta c na n 5 ∧ ∃ a wa : Nat, (na 17 n).toInt = (a : Int) ∧ Ex ta c na ma d a lo n wa ∧ wa + 1 ≤ w ∧ ((na 14 n).toInt = 5 → PlT ta (na 15 n).toNatClampNeg → (na 23 n).toInt = (na 23 a).toInt ∧ (na 21 a).toInt < 0 ∧ (ma 20 a).toInt < 0)) ∨
      ((na 14 n).toInt = 7 ∧ NdT ta c na n 5 ∧ ∃ a mid wa m wr : Nat, (na 17 n).toInt = (a : Int) ∧ mid ≤ n ∧ Ex ta c na ma d a lo mid wa ∧ Lq na (Pc ta c ma (Ex ta c na ma d) n) m (na 21 a).toInt mid hi wr (ma 18 n).toInt ∧ wa + wr + (if (ma 22 n).toInt < 3 then 4 else 0) ≤ w) ∨
      ((na 14 n).toInt = 8 ∧ NdT ta c na n 5 ∧ ∃ a b e m1 m2 wa wb we : Nat, (na 17 n).toInt = (a : Int) ∧ (ma 18 n).toInt = (b : Int) ∧ (ma 19 n).toInt = (e : Int) ∧ m1 ≤ m2 ∧ m2 ≤ n ∧ Ex ta c na ma d a lo m1 wa ∧ Ex ta c na ma d b m1 m2 wb ∧ Ex ta c na ma d e m2 n we ∧ wa + wb + we + 2 ≤ w) ∨
      ((na 14 n).toInt = 9 ∧ NdT ta c na n 5 ∧ ∃ a b m1 wa wb : Nat, (na 17 n).toInt = (a : Int) ∧ (ma 18 n).toInt = (b : Int) ∧ m1 ≤ n ∧ Ex ta c na ma d a lo m1 wa ∧ Ex ta c na ma d b m1 n wb ∧ wa + wb + 1 ≤ w))
section TR
variable {ta : Nat → Nat → Int32} {c : Int} {na ma na' ma' : Nat → Nat → Int32}
theorem Ex.rng {d n lo hi w : Nat} (h : Ex ta c na ma d n lo hi w) : lo ≤ n ∧ n < hi := by
  cases d with
  | zero => exact h.elim
  | succ d => exact h.1
theorem Lq.wid {P P' : Nat → Nat → Nat → Nat → Prop} (hP : ∀ a l l' h v, l' ≤ l → P a l h v → P' a l' h v) : ∀ {m m' : Nat} {k : Int} {lo lo' hi hi' w w' : Nat} {last : Int}, Lq na P m k lo hi w last → m ≤ m' → lo' ≤ lo → hi ≤ hi' → w ≤ w' → Lq na P' m' k lo' hi' w' last
  | 0, _, _, _, _, _, _, _, _, _, h, _, _, _, _ => h.elim
  | m + 1, 0, _, _, _, _, _, _, _, _, _, hm, _, _, _ => absurd hm (by first | with_reducible rfl | with_reducible assumption | omega)
  | m + 1, m' + 1, k, lo, lo', hi, hi', w, w', last, h, hm, hl, hh, hw => by
    obtain ⟨a, mid, wa, h1, h2, h3, h4, h5⟩ := h
    refine ⟨a, mid, wa, h1, by first | with_reducible rfl | with_reducible assumption | omega, by first | with_reducible rfl | with_reducible assumption | omega, hP a lo lo' mid wa hl h4, ?_⟩
    rcases h5 with ⟨g1, g2, g3⟩ | ⟨wr, g1, g2⟩
    · exact Or.inl ⟨g1, g2, by first | with_reducible rfl | with_reducible assumption | omega⟩
    · exact Or.inr ⟨wr, Lq.wid hP g1 (by first | with_reducible rfl | with_reducible assumption | omega) (Nat.le_refl _) hh (Nat.le_refl _), by first | with_reducible rfl | with_reducible assumption | omega⟩
theorem Lz.wid {P P' : Nat → Nat → Nat → Nat → Prop} (hP : ∀ a l l' h v, l' ≤ l → P a l h v → P' a l' h v) {k : Int} {lo lo' hi hi' w w' : Nat} (h : Lz na P k lo hi w) (hl : lo' ≤ lo) (hh : hi ≤ hi') (hw : w ≤ w') : Lz na P' k lo' hi' w' := by
  rcases h with h | ⟨m, last, h⟩
  · exact Or.inl h
  · exact Or.inr ⟨m, last, h.wid hP (Nat.le_refl _) hl hh hw⟩
theorem Ex.wid : ∀ {d d' n lo lo' hi hi' w w' : Nat}, Ex ta c na ma d n lo hi w → d ≤ d' → lo' ≤ lo → hi ≤ hi' → w ≤ w' → Ex ta c na ma d' n lo' hi' w'
  | 0, _, _, _, _, _, _, _, _, h, _, _, _, _ => h.elim
  | d + 1, 0, _, _, _, _, _, _, _, _, hd, _, _, _ => absurd hd (by first | with_reducible rfl | with_reducible assumption | omega)
  | d + 1, d' + 1, n, lo, lo', hi, hi', w, w', h, hd, hl, hh, hw => by
    have hd' : d ≤ d' := by omega
    have hE : ∀ a l l' h v, l' ≤ l → Ex ta c na ma d a l h v → Ex ta c na ma d' a l' h v := fun a l l' h v g x => x.wid hd' g (Nat.le_refl _) (Nat.le_refl _)
    obtain ⟨h0, h1⟩ := h
    refine ⟨by first | with_reducible rfl | with_reducible assumption | omega, ?_⟩
    rcases h1 with h | h | ⟨g0, g1, wr, g2, g3⟩ | ⟨g0, g1, a, wa, g2, g3, g4⟩ | ⟨g0, g1, a, wa, g2, g3, g4, g5⟩ | ⟨g0, g1, a, mid, wa, m, wr, g2, g3, g4, g5, g6⟩ | ⟨g0, g1, a, b, e, m1, m2, wa, wb, we, g2, g3, g4, g5, g6, g7, g8, g9, g10⟩ | ⟨g0, g1, a, b, m1, wa, wb, g2, g3, g4, g5, g6, g7⟩
    · exact Or.inl ⟨h.1, h.2.1, by first | with_reducible rfl | with_reducible assumption | omega⟩
    · exact Or.inr (Or.inl ⟨h.1, h.2.1, by first | with_reducible rfl | with_reducible assumption | omega⟩)
    · exact Or.inr (Or.inr (Or.inl ⟨g0, g1, wr, g2.wid hE (Nat.le_refl _) hh (Nat.le_refl _), by first | with_reducible rfl | with_reducible assumption | omega⟩))
    · exact Or.inr (Or.inr (Or.inr (Or.inl ⟨g0, g1, a, wa, g2, g3.wid hd' (Nat.le_refl _) hh (Nat.le_refl _), by first | with_reducible rfl | with_reducible assumption | omega⟩)))
    · exact Or.inr (Or.inr (Or.inr (Or.inr (Or.inl ⟨g0, g1, a, wa, g2, g3.wid hd' hl (Nat.le_refl _) (Nat.le_refl _), by first | with_reducible rfl | with_reducible assumption | omega, g5⟩))))
    · refine Or.inr (Or.inr (Or.inr (Or.inr (Or.inr (Or.inl ⟨g0, g1, a, mid, wa, m, wr, g2, g3, g4.wid hd' hl (Nat.le_refl _) (Nat.le_refl _), g5.wid (fun x l l' h v g q => ?_) (Nat.le_refl _) (Nat.le_refl _) hh (Nat.le_refl _), by first | with_reducible rfl | with_reducible assumption | omega⟩)))))
      obtain ⟨l1, v1, q1, q2, q3, q4, q5⟩ := q
      exact ⟨l1, v1, by first | with_reducible rfl | with_reducible assumption | omega, q2, hE _ _ _ _ _ (Nat.le_refl _) q3, q4, q5⟩
    · exact Or.inr (Or.inr (Or.inr (Or.inr (Or.inr (Or.inr (Or.inl ⟨g0, g1, a, b, e, m1, m2, wa, wb, we, g2, g3, g4, g5, g6, g7.wid hd' hl (Nat.le_refl _) (Nat.le_refl _), g8.wid hd' (Nat.le_refl _) (Nat.le_refl _) (Nat.le_refl _), g9.wid hd' (Nat.le_refl _) (Nat.le_refl _) (Nat.le_refl _), by first | with_reducible rfl | with_reducible assumption | omega⟩))))))
    · exact Or.inr (Or.inr (Or.inr (Or.inr (Or.inr (Or.inr (Or.inr ⟨g0, g1, a, b, m1, wa, wb, g2, g3, g4, g5.wid hd' hl (Nat.le_refl _) (Nat.le_refl _), g6.wid hd' (Nat.le_refl _) (Nat.le_refl _) (Nat.le_refl _), by first | with_reducible rfl | with_reducible assumption | omega⟩))))))
/-- what may change of a tree: nothing but the root's nexts, kidD, firsts -/
def FrE (na ma na' ma' : Nat → Nat → Int32) (lo hi n : Nat) : Prop := (∀ x : Nat, lo ≤ x → x < hi → x ≠ n → (∀ k, na' k x = na k x) ∧ ∀ k, ma' k x = ma k x) ∧ (na' 14 n = na 14 n ∧ na' 15 n = na 15 n ∧ na' 17 n = na 17 n ∧ na' 23 n = na 23 n ∧ ma' 18 n = ma 18 n ∧ ma' 19 n = ma 19 n ∧ ma' 22 n = ma 22 n)
theorem Lq.fr {P P' : Nat → Nat → Nat → Nat → Prop} : ∀ {m : Nat} {k : Int} {lo hi w : Nat} {last : Int}, Lq na P m k lo hi w last → (∀ x : Nat, lo ≤ x → x < hi → na' 21 x = na 21 x) → (∀ a l h v, lo ≤ l → h ≤ hi → l ≤ a → a < h → P a l h v → P' a l h v) → Lq na' P' m k lo hi w last
  | 0, _, _, _, _, _, h, _, _ => h.elim
  | m + 1, k, lo, hi, w, last, h, hx, hP => by
    obtain ⟨a, mid, wa, h1, h2, h3, h4, h5⟩ := h
    refine ⟨a, mid, wa, h1, h2, h3, hP a lo mid wa (Nat.le_refl _) h3 h2.1 h2.2 h4, ?_⟩
    rw [hx a (by first | with_reducible rfl | with_reducible assumption | omega) (by first | with_reducible rfl | with_reducible assumption | omega)]
    rcases h5 with g | ⟨wr, g1, g2⟩
    · exact Or.inl g
    · exact Or.inr ⟨wr, Lq.fr g1 (fun x a1 a2 => hx x (by first | with_reducible rfl | with_reducible assumption | omega) a2) (fun a l h v a1 a2 a3 a4 q => hP a l h v (by first | with_reducible rfl | with_reducible assumption | omega) a2 a3 a4 q), g2⟩
/-- the same, where the rows' nodes are never n -/
theorem Lq.frn {P P' : Nat → Nat → Nat → Nat → Prop} (n : Nat) : ∀ {m : Nat} {k : Int} {lo hi w : Nat} {last : Int}, Lq na P m k lo hi w last → (∀ x : Nat, lo ≤ x → x < hi → x ≠ n → na' 21 x = na 21 x) → (∀ a l h v, lo ≤ l → h ≤ hi → l ≤ a → a < h → P a l h v → a ≠ n ∧ P' a l h v) → Lq na' P' m k lo hi w last
  | 0, _, _, _, _, _, h, _, _ => h.elim
  | m + 1, k, lo, hi, w, last, h, hx, hP => by
    obtain ⟨a, mid, wa, h1, h2, h3, h4, h5⟩ := h
    obtain ⟨hn, hp⟩ := hP a lo mid wa (Nat.le_refl _) h3 h2.1 h2.2 h4
    refine ⟨a, mid, wa, h1, h2, h3, hp, ?_⟩
    rw [hx a (by first | with_reducible rfl | with_reducible assumption | omega) (by first | with_reducible rfl | with_reducible assumption | omega) hn]
    rcases h5 with g | ⟨wr, g1, g2⟩
    · exact Or.inl g
    · exact Or.inr ⟨wr, Lq.frn n g1 (fun x a1 a2 a3 => hx x (by first | with_reducible rfl | with_reducible assumption | omega) a2 a3) (fun a l h v a1 a2 a3 a4 q => hP a l h v (by first | with_reducible rfl | with_reducible assumption | omega) a2 a3 a4 q), g2⟩
theorem Ex.fr : ∀ {d n lo hi w : Nat}, Ex ta c na ma d n lo hi w → FrE na ma na' ma' lo hi n → Ex ta c na' ma' d n lo hi w
  | 0, _, _, _, _, h, _ => h.elim
  | d + 1, n, lo, hi, w, h, hF => by
    obtain ⟨h0, h1⟩ := h
    obtain ⟨hA, e14, e15, e17, e23, e18, e19, e22⟩ := hF
    -- a subtree in an interval without n
    have sub : ∀ {a l h v : Nat}, lo ≤ l → h ≤ hi → (n < l ∨ h ≤ n) → Ex ta c na ma d a l h v → Ex ta c na' ma' d a l h v := fun {a l h v} q1 q2 q3 q => by
      have r := q.rng
      refine q.fr ⟨fun x a1 a2 a3 => hA x (by first | with_reducible rfl | with_reducible assumption | omega) (by first | with_reducible rfl | with_reducible assumption | omega) (by first | with_reducible rfl | with_reducible assumption | omega), ?_⟩
      obtain ⟨r1, r2⟩ := hA a (by first | with_reducible rfl | with_reducible assumption | omega) (by first | with_reducible rfl | with_reducible assumption | omega) (by first | with_reducible rfl | with_reducible assumption | omega)
      exact ⟨r1 14, r1 15, r1 17, r1 23, r2 18, r2 19, r2 22⟩
    have nd : ∀ {s : Int}, NdT ta c na n s → NdT ta c na' n s := fun {s} q => by unfold NdT at q ⊢; rw [e15]; exact q
    refine ⟨h0, ?_⟩
    rw [e14]
    rcases h1 with h | h | ⟨g0, g1, wr, g2, g3⟩ | ⟨g0, g1, a, wa, g2, g3, g4⟩ | ⟨g0, g1, a, wa, g2, g3, g4, g5⟩ | ⟨g0, g1, a, mid, wa, m, wr, g2, g3, g4, g5, g6⟩ | ⟨g0, g1, a, b, e, m1, m2, wa, wb, we, g2, g3, g4, g5, g6, g7, g8, g9, g10⟩ | ⟨g0, g1, a, b, m1, wa, wb, g2, g3, g4, g5, g6, g7⟩
    · exact Or.inl ⟨h.1, nd h.2.1, h.2.2⟩
    · exact Or.inr (Or.inl ⟨h.1, nd h.2.1, h.2.2⟩)
    · refine Or.inr (Or.inr (Or.inl ⟨g0, nd g1, wr, ?_, g3⟩))
      rw [e17]
      rcases g2 with g2 | ⟨m, last, g2⟩
      · exact Or.inl g2
      · exact Or.inr ⟨m, last, g2.fr (fun x a1 a2 => (hA x (by first | with_reducible rfl | with_reducible assumption | omega) (by first | with_reducible rfl | with_reducible assumption | omega) (by first | with_reducible rfl | with_reducible assumption | omega)).1 21) (fun a l h v a1 a2 a3 a4 q => sub (by first | with_reducible rfl | with_reducible assumption | omega) (by first | with_reducible rfl | with_reducible assumption | omega) (by first | with_reducible rfl | with_reducible assumption | omega) q)⟩
    · exact Or.inr (Or.inr (Or.inr (Or.inl ⟨g0, nd g1, a, wa, by rw [e17]; exact g2, sub (by first | with_reducible rfl | with_reducible assumption | omega) (by first | with_reducible rfl | with_reducible assumption | omega) (by first | with_reducible rfl | with_reducible assumption | omega) g3, g4⟩)))
    · have r3 := g3.rng
      exact Or.inr (Or.inr (Or.inr (Or.inr (Or.inl ⟨g0, nd g1, a, wa, by rw [e17]; exact g2, sub (by first | with_reducible rfl | with_reducible assumption | omega) (by first | with_reducible rfl | with_reducible assumption | omega) (by first | with_reducible rfl | with_reducible assumption | omega) g3, g4, by rw [e15, e23, (hA a (by first | with_reducible rfl | with_reducible assumption | omega) (by first | with_reducible rfl | with_reducible assumption | omega) (by first | with_reducible rfl | with_reducible assumption | omega)).1 23, (hA a (by first | with_reducible rfl | with_reducible assumption | omega) (by first | with_reducible rfl | with_reducible assumption | omega) (by first | with_reducible rfl | with_reducible assumption | omega)).1 21, (hA a (by first | with_reducible rfl | with_reducible assumption | omega) (by first | with_reducible rfl | with_reducible assumption | omega) (by first | with_reducible rfl | with_reducible assumption | omega)).2 20]; exact g5⟩))))
    · have r4 := g4.rng
      have e21 : na' 21 a = na 21 a := (hA a (by first | with_reducible rfl | with_reducible assumption | omega) (by first | with_reducible rfl | with_reducible assumption | omega) (by first | with_reducible rfl | with_reducible assumption | omega)).1 21
      refine Or.inr (Or.inr (Or.inr (Or.inr (Or.inr (Or.inl ⟨g0, nd g1, a, mid, wa, m, wr, by rw [e17]; exact g2, g3, sub (by first | with_reducible rfl | with_reducible assumption | omega) (by first | with_reducible rfl | with_reducible assumption | omega) (by first | with_reducible rfl | with_reducible assumption | omega) g4, ?_, by rw [e22]; exact g6⟩)))))
      rw [e21, e18]
      exact g5.frn n (fun x a1 a2 a3 => (hA x (by first | with_reducible rfl | with_reducible assumption | omega) (by first | with_reducible rfl | with_reducible assumption | omega) a3).1 21) (fun x l h v a1 a2 a3 a4 q => by
        obtain ⟨l1, v1, q1, q2, q3, q4, q5⟩ := q
        have rx := q3.rng
        refine ⟨by first | with_reducible rfl | with_reducible assumption | omega, l1, v1, q1, q2, sub (by first | with_reducible rfl | with_reducible assumption | omega) (by first | with_reducible rfl | with_reducible assumption | omega) q2 q3, q4, ?_⟩
        unfold MkD at q5 ⊢
        rw [(hA x (by first | with_reducible rfl | with_reducible assumption | omega) (by first | with_reducible rfl | with_reducible assumption | omega) (by first | with_reducible rfl | with_reducible assumption | omega)).2 20]
        exact q5)
    · have r7 := g7.rng
      have r8 := g8.rng
      have r9 := g9.rng
      exact Or.inr (Or.inr (Or.inr (Or.inr (Or.inr (Or.inr (Or.inl ⟨g0, nd g1, a, b, e, m1, m2, wa, wb, we, by rw [e17]; exact g2, by rw [e18]; exact g3, by rw [e19]; exact g4, g5, g6, sub (by first | with_reducible rfl | with_reducible assumption | omega) (by first | with_reducible rfl | with_reducible assumption | omega) (by first | with_reducible rfl | with_reducible assumption | omega) g7, sub (by first | with_reducible rfl | with_reducible assumption | omega) (by first | with_reducible rfl | with_reducible assumption | omega) (by first | with_reducible rfl | with_reducible assumption | omega) g8, sub (by first | with_reducible rfl | with_reducible assumption | omega) (by first | with_reducible rfl | with_reducible assumption | omega) (by first | with_reducible rfl | with_reducible assumption | omega) g9, g10⟩))))))
    · have r5 := g5.rng
      have r6 := g6.rng
      exact Or.inr (Or.inr (Or.inr (Or.inr (Or.inr (Or.inr (Or.inr ⟨g0, nd g1, a, b, m1, wa, wb, by rw [e17]; exact g2, by rw [e18]; exact g3, g4, sub (by first | with_reducible rfl | with_reducible assumption | omega) (by first | with_reducible rfl | with_reducible assumption | omega) (by first | with_reducible rfl | with_reducible assumption | omega) g5, sub (by first | with_reducible rfl | with_reducible assumption | omega) (by first | with_reducible rfl | with_reducible assumption | omega) (by first | with_reducible rfl | with_reducible assumption | omega) g6, g7⟩))))))
end TR
/-! THE PARSER'S RESULTS -/
def FrB (b : Int) (na ma na' ma' : Nat → Nat → Int32) : Prop := ∀ x : Nat, (x : Int) < b → (∀ k, na' k x = na k x) ∧ ∀ k, ma' k x = ma k x
theorem FrB.rf {b : Int} {na ma : Nat → Nat → Int32} : FrB b na ma na ma := fun _ _ => ⟨fun _ => rfl, fun _ => rfl⟩
theorem FrB.tr {b b' : Int} {na ma na1 ma1 na2 ma2 : Nat → Nat → Int32} (h : FrB b na ma na1 ma1) (k : FrB b' na1 ma1 na2 ma2) (hb : b ≤ b') : FrB b na ma na2 ma2 := fun x hx => ⟨fun j => ((k x (by first | with_reducible rfl | with_reducible assumption | omega)).1 j).trans ((h x hx).1 j), fun j => ((k x (by first | with_reducible rfl | with_reducible assumption | omega)).2 j).trans ((h x hx).2 j)⟩
theorem FrB.le {b b' : Int} {na ma na' ma' : Nat → Nat → Int32} (h : FrB b na ma na' ma') (hb : b' ≤ b) : FrB b' na ma na' ma' := fun x hx => h x (by first | with_reducible rfl | with_reducible assumption | omega)
theorem MkN.frb {na ma na' ma' : Nat → Nat → Int32} {n k t : Int32} (h : MkN na ma na' ma' n k t) {b : Int} (hb : b ≤ n.toInt) (h0 : 0 ≤ n.toInt) : FrB b na ma na' ma' := fun x hx => h.1 x (by have := cl_nat h0; omega)
/-- v is an expression, its nodes in [lo, hi), of weight W at most, no deeper than Dm -/
def ExV (ta : Nat → Nat → Int32) (c : Int) (na ma : Nat → Nat → Int32) (v : Int32) (lo hi W Dm : Int) : Prop := ∃ l h d w : Nat, lo ≤ (l : Int) ∧ (h : Int) ≤ hi ∧ 0 ≤ v.toInt ∧ Ex ta c na ma d v.toNatClampNeg l h w ∧ (w : Int) ≤ W ∧ (d : Int) ≤ Dm
section EV
variable {ta : Nat → Nat → Int32} {c : Int} {na ma na' ma' : Nat → Nat → Int32} {v : Int32} {lo hi W Dm : Int}
theorem ExV.rng (h : ExV ta c na ma v lo hi W Dm) : lo ≤ v.toInt ∧ v.toInt < hi := by
  obtain ⟨l, h1, d, w, a1, a2, a3, a4, -, -⟩ := h
  have := a4.rng
  have := cl_nat a3
  omega
theorem ExV.le {lo' hi' W' Dm' : Int} (h : ExV ta c na ma v lo hi W Dm) (h1 : lo' ≤ lo) (h2 : hi ≤ hi') (h3 : W ≤ W') (h4 : Dm ≤ Dm') : ExV ta c na ma v lo' hi' W' Dm' := by
  obtain ⟨l, h, d, w, a1, a2, a3, a4, a5, a6⟩ := h
  exact ⟨l, h, d, w, by first | with_reducible rfl | with_reducible assumption | omega, by first | with_reducible rfl | with_reducible assumption | omega, a3, a4, by first | with_reducible rfl | with_reducible assumption | omega, by first | with_reducible rfl | with_reducible assumption | omega⟩
/-- nothing below hi has changed -/
theorem ExV.kp (h : ExV ta c na ma v lo hi W Dm) (k : FrB hi na ma na' ma') : ExV ta c na' ma' v lo hi W Dm := by
  obtain ⟨l, h, d, w, a1, a2, a3, a4, a5, a6⟩ := h
  have r := a4.rng
  refine ⟨l, h, d, w, a1, a2, a3, a4.fr ⟨fun x b1 b2 b3 => k x (by first | with_reducible rfl | with_reducible assumption | omega), ?_⟩, a5, a6⟩
  obtain ⟨q1, q2⟩ := k v.toNatClampNeg (by first | with_reducible rfl | with_reducible assumption | omega)
  exact ⟨q1 14, q1 15, q1 17, q1 23, q2 18, q2 19, q2 22⟩
/-- the root's firsts, nexts, kidD may change too -/
theorem ExV.kr (h : ExV ta c na ma v lo hi W Dm) (k : ∀ x : Nat, (x : Int) < hi → x ≠ v.toNatClampNeg → (∀ j, na' j x = na j x) ∧ ∀ j, ma' j x = ma j x) (e : na' 14 v.toNatClampNeg = na 14 v.toNatClampNeg ∧ na' 15 v.toNatClampNeg = na 15 v.toNatClampNeg ∧ na' 17 v.toNatClampNeg = na 17 v.toNatClampNeg ∧ na' 23 v.toNatClampNeg = na 23 v.toNatClampNeg ∧ ma' 18 v.toNatClampNeg = ma 18 v.toNatClampNeg ∧ ma' 19 v.toNatClampNeg = ma 19 v.toNatClampNeg ∧ ma' 22 v.toNatClampNeg = ma 22 v.toNatClampNeg) : ExV ta c na' ma' v lo hi W Dm := by
  obtain ⟨l, h, d, w, a1, a2, a3, a4, a5, a6⟩ := h
  exact ⟨l, h, d, w, a1, a2, a3, a4.fr ⟨fun x b1 b2 b3 => k x (by first | with_reducible rfl | with_reducible assumption | omega) b3, e⟩, a5, a6⟩
/-- a leaf -/
theorem exv_leaf {n k t : Int32} (m : MkN na ma na' ma' n k t) (hk : k.toInt = 1 ∨ k.toInt = 2) (h0 : 0 ≤ n.toInt) (ht : 0 ≤ t.toInt ∧ t.toInt < c) (hs : so ta t = if k.toInt = 1 then 3 else 1) (h1 : lo ≤ n.toInt) (h2 : n.toInt + 1 ≤ hi) (h3 : 1 ≤ W) (h4 : 1 ≤ Dm) : ExV ta c na' ma' n lo hi W Dm := by
  have hc := cl_nat h0
  refine ⟨n.toNatClampNeg, n.toNatClampNeg + 1, 1, 1, by first | with_reducible rfl | with_reducible assumption | omega, by first | with_reducible rfl | with_reducible assumption | omega, h0, ⟨⟨Nat.le_refl _, by first | with_reducible rfl | with_reducible assumption | omega⟩, ?_⟩, by first | with_reducible rfl | with_reducible assumption | omega, by first | with_reducible rfl | with_reducible assumption | omega⟩
  have e14 := m.2.1 (by first | with_reducible rfl | with_reducible assumption | omega) (by first | with_reducible rfl | with_reducible assumption | omega)
  have e15 := m.2.2.1
  rcases hk with hk | hk
  · refine Or.inl ⟨by rw [e14]; exact hk, ?_, Nat.le_refl _⟩
    unfold NdT
    rw [e15]
    rw [if_pos hk] at hs
    exact ⟨ht.1, ht.2, hs⟩
  · refine Or.inr (Or.inl ⟨by rw [e14]; exact hk, ?_, Nat.le_refl _⟩)
    unfold NdT
    rw [e15]
    rw [if_neg (by first | with_reducible rfl | with_reducible assumption | omega)] at hs
    exact ⟨ht.1, ht.2, hs⟩
/-- node n over one kid: 4 (before it), 5 and 6 (behind it) -/
theorem exv_up {n a : Int32} (h : ExV ta c na ma a lo hi W Dm) (hn : hi ≤ n.toInt) (f : ∀ x : Nat, x ≠ n.toNatClampNeg → (∀ j, na' j x = na j x) ∧ ∀ j, ma' j x = ma j x) (h0 : 0 ≤ lo) (e14 : (na' 14 n.toNatClampNeg).toInt = 5 ∨ (na' 14 n.toNatClampNeg).toInt = 6) (e15 : NdT ta c na' n.toNatClampNeg 5) (e17 : na' 17 n.toNatClampNeg = a)
    (e23 : (na' 14 n.toNatClampNeg).toInt = 5 → PlT ta (na' 15 n.toNatClampNeg).toNatClampNeg → (na' 23 n.toNatClampNeg).toInt = (na 23 a.toNatClampNeg).toInt ∧ (na 21 a.toNatClampNeg).toInt < 0 ∧ (ma 20 a.toNatClampNeg).toInt < 0) : ExV ta c na' ma' n lo (n.toInt + 1) (W + 1) (Dm + 1) := by
  have r := h.rng
  have hnn : 0 ≤ n.toInt := by first | exact oz_6b950bf6e5 hn r.2 r.1 h0 | omega
  have hc := cl_nat hnn
  obtain ⟨l, hh, d, w, a1, a2, a3, a4, a5, a6⟩ := h
  have ha := cl_nat a3
  have ra := a4.rng
  refine ⟨l, n.toNatClampNeg + 1, d + 1, w + 1, a1, by first | with_reducible rfl | with_reducible assumption | omega, hnn, ⟨by first | with_reducible rfl | with_reducible assumption | omega, Or.inr (Or.inr (Or.inr (Or.inr (Or.inl ⟨e14, e15, a.toNatClampNeg, w, by rw [e17]; omega, ?_, Nat.le_refl _, ?_⟩))))⟩, by first | with_reducible rfl | with_reducible assumption | omega, by first | with_reducible rfl | with_reducible assumption | omega⟩
  · refine Ex.wid (a4.fr ⟨fun x b1 b2 b3 => f x (by first | with_reducible rfl | with_reducible assumption | omega), ?_⟩) (Nat.le_refl _) (Nat.le_refl _) (by first | with_reducible rfl | with_reducible assumption | omega) (Nat.le_refl _)
    obtain ⟨q1, q2⟩ := f a.toNatClampNeg (by first | with_reducible rfl | with_reducible assumption | omega)
    exact ⟨q1 14, q1 15, q1 17, q1 23, q2 18, q2 19, q2 22⟩
  · intro q1 q2
    rw [(f a.toNatClampNeg (by first | with_reducible rfl | with_reducible assumption | omega)).1 23, (f a.toNatClampNeg (by first | with_reducible rfl | with_reducible assumption | omega)).1 21, (f a.toNatClampNeg (by first | with_reducible rfl | with_reducible assumption | omega)).2 20]
    exact e23 q1 q2
theorem exv_index {n a : Int32} (h : ExV ta c na ma a lo hi W Dm) (hn : n.toInt + 1 ≤ lo) (h0 : 0 ≤ n.toInt) (f : ∀ x : Nat, x ≠ n.toNatClampNeg → (∀ j, na' j x = na j x) ∧ ∀ j, ma' j x = ma j x) (e14 : (na' 14 n.toNatClampNeg).toInt = 4) (e15 : NdT ta c na' n.toNatClampNeg 1) (e17 : na' 17 n.toNatClampNeg = a) : ExV ta c na' ma' n n.toInt hi (W + 1) (Dm + 1) := by
  have hc := cl_nat h0
  obtain ⟨l, hh, d, w, a1, a2, a3, a4, a5, a6⟩ := h
  have ha := cl_nat a3
  have ra := a4.rng
  refine ⟨n.toNatClampNeg, hh, d + 1, w + 1, by first | with_reducible rfl | with_reducible assumption | omega, a2, h0, ⟨by first | with_reducible rfl | with_reducible assumption | omega, Or.inr (Or.inr (Or.inr (Or.inl ⟨e14, e15, a.toNatClampNeg, w, by rw [e17]; omega, ?_, Nat.le_refl _⟩)))⟩, by first | with_reducible rfl | with_reducible assumption | omega, by first | with_reducible rfl | with_reducible assumption | omega⟩
  refine Ex.wid (a4.fr ⟨fun x b1 b2 b3 => f x (by first | with_reducible rfl | with_reducible assumption | omega), ?_⟩) (Nat.le_refl _) (by first | with_reducible rfl | with_reducible assumption | omega) (Nat.le_refl _) (Nat.le_refl _)
  obtain ⟨q1, q2⟩ := f a.toNatClampNeg (by first | with_reducible rfl | with_reducible assumption | omega)
  exact ⟨q1 14, q1 15, q1 17, q1 23, q2 18, q2 19, q2 22⟩
theorem exv_assign {n a b : Int32} {m1 W2 : Int} (h : ExV ta c na ma a lo m1 W Dm) (h2 : ExV ta c na ma b m1 hi W2 Dm) (hn : hi ≤ n.toInt) (h0 : 0 ≤ lo) (f : ∀ x : Nat, x ≠ n.toNatClampNeg → (∀ j, na' j x = na j x) ∧ ∀ j, ma' j x = ma j x) (e14 : (na' 14 n.toNatClampNeg).toInt = 9) (e15 : NdT ta c na' n.toNatClampNeg 5) (e17 : na' 17 n.toNatClampNeg = a) (e18 : ma' 18 n.toNatClampNeg = b) : ExV ta c na' ma' n lo (n.toInt + 1) (W + W2 + 1) (Dm + 1) := by
  have r := h.rng
  have r2 := h2.rng
  have hnn : 0 ≤ n.toInt := by first | exact oz_1241fa8cb7 hn r2.2 r2.1 r.2 r.1 h0 | omega
  have hc := cl_nat hnn
  obtain ⟨l, hh, d, w, a1, a2, a3, a4, a5, a6⟩ := h
  obtain ⟨l2, hh2, d2, w2, b1, b2, b3, b4, b5, b6⟩ := h2
  have ha := cl_nat a3
  have hb := cl_nat b3
  have ra := a4.rng
  have rb := b4.rng
  have kp : ∀ {x l h d w : Nat}, Ex ta c na ma d x l h w → (h : Int) ≤ n.toInt → Ex ta c na' ma' d x l h w := fun {x l h d w} q q1 => by
    have rq := q.rng
    refine q.fr ⟨fun y c1 c2 c3 => f y (by first | with_reducible rfl | with_reducible assumption | omega), ?_⟩
    obtain ⟨q1, q2⟩ := f x (by first | with_reducible rfl | with_reducible assumption | omega)
    exact ⟨q1 14, q1 15, q1 17, q1 23, q2 18, q2 19, q2 22⟩
  have m : max d d2 ≤ Dm.toNat := by omega
  exact ⟨l, n.toNatClampNeg + 1, Dm.toNat + 1, w + w2 + 1, a1, by first | with_reducible rfl | with_reducible assumption | omega, hnn, ⟨by first | with_reducible rfl | with_reducible assumption | omega, Or.inr (Or.inr (Or.inr (Or.inr (Or.inr (Or.inr (Or.inr ⟨e14, e15, a.toNatClampNeg, b.toNatClampNeg, l2, w, w2, by rw [e17]; omega, by rw [e18]; omega, by first | with_reducible rfl | with_reducible assumption | omega, (kp a4 (by first | with_reducible rfl | with_reducible assumption | omega)).wid (by first | with_reducible rfl | with_reducible assumption | omega) (Nat.le_refl _) (by first | with_reducible rfl | with_reducible assumption | omega) (Nat.le_refl _), (kp b4 (by first | with_reducible rfl | with_reducible assumption | omega)).wid (by first | with_reducible rfl | with_reducible assumption | omega) (Nat.le_refl _) (by first | with_reducible rfl | with_reducible assumption | omega) (Nat.le_refl _), Nat.le_refl _⟩))))))⟩, by first | with_reducible rfl | with_reducible assumption | omega, by first | with_reducible rfl | with_reducible assumption | omega⟩
theorem exv_cond {n a b e : Int32} {m1 m2 W2 W3 : Int} (h : ExV ta c na ma a lo m1 W Dm) (h2 : ExV ta c na ma b m1 m2 W2 Dm) (h3 : ExV ta c na ma e m2 hi W3 Dm) (hn : hi ≤ n.toInt) (h0 : 0 ≤ lo) (f : ∀ x : Nat, x ≠ n.toNatClampNeg → (∀ j, na' j x = na j x) ∧ ∀ j, ma' j x = ma j x) (e14 : (na' 14 n.toNatClampNeg).toInt = 8) (e15 : NdT ta c na' n.toNatClampNeg 5) (e17 : na' 17 n.toNatClampNeg = a) (e18 : ma' 18 n.toNatClampNeg = b) (e19 : ma' 19 n.toNatClampNeg = e) : ExV ta c na' ma' n lo (n.toInt + 1) (W + W2 + W3 + 2) (Dm + 1) := by
  have r := h.rng
  have r2 := h2.rng
  have r3 := h3.rng
  have hnn : 0 ≤ n.toInt := by first | exact oz_e9f4b93177 hn r3.2 r3.1 r2.2 r2.1 r.2 r.1 h0 | omega
  have hc := cl_nat hnn
  obtain ⟨l, hh, d, w, a1, a2, a3, a4, a5, a6⟩ := h
  obtain ⟨l2, hh2, d2, w2, b1, b2, b3, b4, b5, b6⟩ := h2
  obtain ⟨l3, hh3, d3, w3, c1, c2, c3, c4, c5, c6⟩ := h3
  have ha := cl_nat a3
  have hb := cl_nat b3
  have he := cl_nat c3
  have ra := a4.rng
  have rb := b4.rng
  have rc := c4.rng
  have kp : ∀ {x l h d w : Nat}, Ex ta c na ma d x l h w → (h : Int) ≤ n.toInt → Ex ta c na' ma' d x l h w := fun {x l h d w} q q1 => by
    have rq := q.rng
    refine q.fr ⟨fun y c1 c2 c3 => f y (by first | with_reducible rfl | with_reducible assumption | omega), ?_⟩
    obtain ⟨q1, q2⟩ := f x (by first | with_reducible rfl | with_reducible assumption | omega)
    exact ⟨q1 14, q1 15, q1 17, q1 23, q2 18, q2 19, q2 22⟩
  exact ⟨l, n.toNatClampNeg + 1, Dm.toNat + 1, w + w2 + w3 + 2, a1, by first | with_reducible rfl | with_reducible assumption | omega, hnn, ⟨by first | with_reducible rfl | with_reducible assumption | omega, Or.inr (Or.inr (Or.inr (Or.inr (Or.inr (Or.inr (Or.inl ⟨e14, e15, a.toNatClampNeg, b.toNatClampNeg, e.toNatClampNeg, l2, l3, w, w2, w3, by rw [e17]; omega, by rw [e18]; omega, by rw [e19]; omega, by first | with_reducible rfl | with_reducible assumption | omega, by first | with_reducible rfl | with_reducible assumption | omega, (kp a4 (by first | with_reducible rfl | with_reducible assumption | omega)).wid (by first | with_reducible rfl | with_reducible assumption | omega) (Nat.le_refl _) (by first | with_reducible rfl | with_reducible assumption | omega) (Nat.le_refl _), (kp b4 (by first | with_reducible rfl | with_reducible assumption | omega)).wid (by first | with_reducible rfl | with_reducible assumption | omega) (Nat.le_refl _) (by first | with_reducible rfl | with_reducible assumption | omega) (Nat.le_refl _), (kp c4 (by first | with_reducible rfl | with_reducible assumption | omega)).wid (by first | with_reducible rfl | with_reducible assumption | omega) (Nat.le_refl _) (by first | with_reducible rfl | with_reducible assumption | omega) (Nat.le_refl _), Nat.le_refl _⟩))))))⟩, by first | with_reducible rfl | with_reducible assumption | omega, by first | with_reducible rfl | with_reducible assumption | omega⟩
end EV
/-! ROWS THAT GROW: arguments, chains -/
section RG
variable {ta : Nat → Nat → Int32} {c : Int} {na ma na' ma' : Nat → Nat → Int32}
theorem Lq.last {P : Nat → Nat → Nat → Nat → Prop} : ∀ {m : Nat} {k : Int} {lo hi w : Nat} {last : Int}, Lq na P m k lo hi w last → ∃ a : Nat, last = (a : Int) ∧ lo ≤ a ∧ a < hi ∧ (na 21 a).toInt < 0
  | 0, _, _, _, _, _, h => h.elim
  | m + 1, k, lo, hi, w, last, h => by
    obtain ⟨a, mid, wa, h1, h2, h3, h4, h5⟩ := h
    rcases h5 with ⟨g1, g2, g3⟩ | ⟨wr, g1, g2⟩
    · exact ⟨a, g2, h2.1, by first | with_reducible rfl | with_reducible assumption | omega, g1⟩
    · obtain ⟨b, b1, b2, b3, b4⟩ := g1.last
      exact ⟨b, b1, by first | with_reducible rfl | with_reducible assumption | omega, b3, b4⟩
theorem Lq.app {P P' : Nat → Nat → Nat → Nat → Prop} {r h2 wr : Nat} {b : Nat} : ∀ {m : Nat} {k : Int} {lo hi w : Nat} {last : Int}, Lq na P m k lo hi w last → last = (b : Int) → (∀ l, l ≤ hi → P' r l h2 wr) → hi ≤ r → r < h2 → (na' 21 r).toInt < 0 → (na' 21 b).toInt = (r : Int) → (∀ x : Nat, lo ≤ x → x < hi → x ≠ b → ∀ l h v, P x l h v → na' 21 x = na 21 x) → (∀ a l h v, lo ≤ l → h ≤ hi → l ≤ a → a < h → (a = b ∨ h ≤ b) → P a l h v → P' a l h v) → Lq na' P' (m + 1) k lo h2 (w + wr) (r : Int)
  | 0, _, _, _, _, _, h, _, _, _, _, _, _, _, _ => h.elim
  | m + 1, k, lo, hi, w, last, h, hb, hr, q1, q2, q3, q4, hx, hP => by
    obtain ⟨a, mid, wa, h1, h2', h3, h4, h5⟩ := h
    rcases h5 with ⟨g1, g2, g3⟩ | ⟨wq, g1, g2⟩
    · have ea : a = b := by omega
      subst ea
      have p4 := hP a lo mid wa (Nat.le_refl _) h3 h2'.1 h2'.2 (Or.inl rfl) h4
      refine ⟨a, mid, wa, h1, h2', by first | with_reducible rfl | with_reducible assumption | omega, p4, Or.inr ⟨wr, ?_, by first | with_reducible rfl | with_reducible assumption | omega⟩⟩
      rw [q4]
      refine ⟨r, h2, wr, rfl, by first | with_reducible rfl | with_reducible assumption | omega, Nat.le_refl _, hr mid h3, Or.inl ⟨q3, rfl, Nat.le_refl _⟩⟩
    · obtain ⟨b', b1, b2, b3, b4⟩ := g1.last
      have hab : a ≠ b := by omega
      have p4 := hP a lo mid wa (Nat.le_refl _) h3 h2'.1 h2'.2 (Or.inr (by first | with_reducible rfl | with_reducible assumption | omega)) h4
      refine ⟨a, mid, wa, h1, h2', by first | with_reducible rfl | with_reducible assumption | omega, p4, Or.inr ⟨wq + wr, ?_, by first | with_reducible rfl | with_reducible assumption | omega⟩⟩
      rw [hx a (by first | with_reducible rfl | with_reducible assumption | omega) (by first | with_reducible rfl | with_reducible assumption | omega) hab _ _ _ h4]
      exact Lq.app g1 hb hr q1 q2 q3 q4 (fun x a1 a2 a3 l h v hv => hx x (by first | with_reducible rfl | with_reducible assumption | omega) a2 a3 l h v hv) (fun a l h v a1 a2 a3 a4 a5 q => hP a l h v (by first | with_reducible rfl | with_reducible assumption | omega) a2 a3 a4 a5 q)
/-- a call whose arguments are being read: the last one is x -/
def ArV (ta : Nat → Nat → Int32) (c : Int) (na ma : Nat → Nat → Int32) (n x : Int32) (hi W Dm : Int) : Prop := ∃ h d w m : Nat, (h : Int) ≤ hi ∧ 0 ≤ n.toInt ∧ 0 ≤ x.toInt ∧ (na 14 n.toNatClampNeg).toInt = 3 ∧ NdT ta c na n.toNatClampNeg 1 ∧ Lq na (Ex ta c na ma d) m (na 17 n.toNatClampNeg).toInt (n.toNatClampNeg + 1) h w x.toInt ∧ (w : Int) ≤ W ∧ (d : Int) ≤ Dm
theorem arv_0 {n a : Int32} {lo hi W Dm : Int} (h : ExV ta c na ma a lo hi W Dm) (hn : n.toInt + 1 ≤ lo) (h0 : 0 ≤ n.toInt) (f : ∀ x : Nat, x ≠ n.toNatClampNeg → (∀ j, na' j x = na j x) ∧ ∀ j, ma' j x = ma j x) (e14 : (na' 14 n.toNatClampNeg).toInt = 3) (e15 : NdT ta c na' n.toNatClampNeg 1) (e17 : na' 17 n.toNatClampNeg = a) (e21 : (na 21 a.toNatClampNeg).toInt < 0) : ArV ta c na' ma' n a hi W Dm := by
  have hc := cl_nat h0
  obtain ⟨l, hh, d, w, a1, a2, a3, a4, a5, a6⟩ := h
  have ha := cl_nat a3
  have ra := a4.rng
  obtain ⟨q1, q2⟩ := f a.toNatClampNeg (by first | with_reducible rfl | with_reducible assumption | omega)
  refine ⟨hh, d, w, 1, a2, h0, a3, e14, e15, ⟨a.toNatClampNeg, hh, w, by rw [e17]; omega, by first | with_reducible rfl | with_reducible assumption | omega, Nat.le_refl _, ?_, Or.inl ⟨by rw [q1 21]; exact e21, by first | with_reducible rfl | with_reducible assumption | omega, Nat.le_refl _⟩⟩, a5, a6⟩
  exact Ex.wid (a4.fr ⟨fun x b1 b2 b3 => f x (by first | with_reducible rfl | with_reducible assumption | omega), q1 14, q1 15, q1 17, q1 23, q2 18, q2 19, q2 22⟩) (Nat.le_refl _) (by first | with_reducible rfl | with_reducible assumption | omega) (Nat.le_refl _) (Nat.le_refl _)
/-- nothing below hi has changed -/
theorem ArV.kp {n x : Int32} {hi W Dm : Int} (h : ArV ta c na ma n x hi W Dm) (k : FrB hi na ma na' ma') (hn : n.toInt < hi) : ArV ta c na' ma' n x hi W Dm := by
  obtain ⟨hh, d, w, m, a1, a2, a3, a4, a5, a6, a7, a8⟩ := h
  have hc := cl_nat a2
  obtain ⟨q1, q2⟩ := k n.toNatClampNeg (by first | with_reducible rfl | with_reducible assumption | omega)
  refine ⟨hh, d, w, m, a1, a2, a3, by rw [q1 14]; exact a4, ?_, ?_, a7, a8⟩
  · unfold NdT at a5 ⊢; rw [q1 15]; exact a5
  · rw [q1 17]
    refine a6.fr (fun y b1 b2 => (k y (by first | with_reducible rfl | with_reducible assumption | omega)).1 21) (fun a l h v b1 b2 b3 b4 q => q.fr ⟨fun y c1 c2 c3 => k y (by first | with_reducible rfl | with_reducible assumption | omega), ?_⟩)
    obtain ⟨r1, r2⟩ := k a (by first | with_reducible rfl | with_reducible assumption | omega)
    exact ⟨r1 14, r1 15, r1 17, r1 23, r2 18, r2 19, r2 22⟩
/-- one more argument -/
theorem arv_s {n x e : Int32} {lo hi hi' W W' Dm : Int} (h : ArV ta c na ma n x lo W Dm) (k : ExV ta c na ma e lo hi W' Dm) (hn : n.toInt < lo) (hx : x.toInt < lo) (e21 : (na 21 e.toNatClampNeg).toInt < 0)
    (f1 : ∀ y : Nat, y ≠ n.toNatClampNeg → ∀ j, ma' j y = ma j y ∧ (y ≠ x.toNatClampNeg → na' j y = na j y)) (f2 : ∀ j, j ≠ 21 → na' j x.toNatClampNeg = na j x.toNatClampNeg) (f3 : na' 21 x.toNatClampNeg = e) (f4 : na' 14 n.toNatClampNeg = na 14 n.toNatClampNeg ∧ na' 15 n.toNatClampNeg = na 15 n.toNatClampNeg ∧ na' 17 n.toNatClampNeg = na 17 n.toNatClampNeg) : ArV ta c na' ma' n e hi (W + W') Dm := by
  obtain ⟨hh, d, w, m, a1, a2, a3, a4, a5, a6, a7, a8⟩ := h
  obtain ⟨l, h2, d2, w2, b1, b2, b3, b4, b5, b6⟩ := k
  have hc := cl_nat a2
  have hxc := cl_nat a3
  have hec := cl_nat b3
  have rb := b4.rng
  obtain ⟨b', k1, k2, k3, k4⟩ := a6.last
  have exb : b' = x.toNatClampNeg := by omega
  subst exb
  have kp : ∀ {y l h d w : Nat}, Ex ta c na ma d y l h w → (n.toNatClampNeg < l) → (y ≠ x.toNatClampNeg → x.toNatClampNeg < l ∨ h ≤ x.toNatClampNeg) → Ex ta c na' ma' d y l h w := fun {y l h d w} q q0 q1 => by
    have rq := q.rng
    have all : ∀ z : Nat, l ≤ z → z < h → z ≠ y → (∀ j, na' j z = na j z) ∧ ∀ j, ma' j z = ma j z := fun z c1 c2 c3 => by
      have zx : z ≠ x.toNatClampNeg := by
        intro ez
        by_cases ey : y = x.toNatClampNeg
        · omega
        · have := q1 ey; omega
      exact ⟨fun j => (f1 z (by first | with_reducible rfl | with_reducible assumption | omega) j).2 zx, fun j => (f1 z (by first | with_reducible rfl | with_reducible assumption | omega) j).1⟩
    refine q.fr ⟨all, ?_⟩
    have hm := fun j => (f1 y (by first | with_reducible rfl | with_reducible assumption | omega) j).1
    by_cases ey : y = x.toNatClampNeg
    · subst ey
      exact ⟨f2 14 (by decide), f2 15 (by decide), f2 17 (by decide), f2 23 (by decide), hm 18, hm 19, hm 22⟩
    · have ha := fun j => (f1 y (by first | with_reducible rfl | with_reducible assumption | omega) j).2 ey
      exact ⟨ha 14, ha 15, ha 17, ha 23, hm 18, hm 19, hm 22⟩
  have dd : d ≤ Dm.toNat ∧ d2 ≤ Dm.toNat := by omega
  have hex : e.toNatClampNeg ≠ x.toNatClampNeg := by omega
  refine ⟨h2, Dm.toNat, w + w2, m + 1, b2, a2, b3, by rw [f4.1]; exact a4, ?_, ?_, by first | with_reducible rfl | with_reducible assumption | omega, by first | with_reducible rfl | with_reducible assumption | omega⟩
  · unfold NdT at a5 ⊢; rw [f4.2.1]; exact a5
  · rw [f4.2.2, ← hec]
    refine a6.app (b := x.toNatClampNeg) (by first | with_reducible rfl | with_reducible assumption | omega) (fun l' hl' => (kp b4 (by first | with_reducible rfl | with_reducible assumption | omega) (fun _ => by first | with_reducible rfl | with_reducible assumption | omega)).wid dd.2 (by first | with_reducible rfl | with_reducible assumption | omega) (Nat.le_refl _) (Nat.le_refl _)) (by first | with_reducible rfl | with_reducible assumption | omega) rb.2 ?_ ?_ (fun z c1 c2 c3 _ _ _ _ => (f1 z (by first | with_reducible rfl | with_reducible assumption | omega) 21).2 c3) (fun a l' h' v c1 c2 c3 c4 c5 q => (kp q (by first | with_reducible rfl | with_reducible assumption | omega) (fun ha => by first | with_reducible rfl | with_reducible assumption | omega)).wid dd.1 (Nat.le_refl _) (Nat.le_refl _) (Nat.le_refl _))
    · rw [(f1 e.toNatClampNeg (by first | with_reducible rfl | with_reducible assumption | omega) 21).2 hex]; exact e21
    · rw [f3]; omega
theorem arv_end {n x : Int32} {hi W Dm : Int} (h : ArV ta c na ma n x hi W Dm) (hn : n.toInt < hi) : ExV ta c na ma n n.toInt hi (W + 1) (Dm + 1) := by
  obtain ⟨hh, d, w, m, a1, a2, a3, a4, a5, a6, a7, a8⟩ := h
  have hc := cl_nat a2
  obtain ⟨b', k1, k2, k3, k4⟩ := a6.last
  exact ⟨n.toNatClampNeg, hh, d + 1, w + 1, by first | with_reducible rfl | with_reducible assumption | omega, a1, a2, ⟨by first | with_reducible rfl | with_reducible assumption | omega, Or.inr (Or.inr (Or.inl ⟨a4, a5, w, Or.inr ⟨m, x.toInt, a6⟩, Nat.le_refl _⟩))⟩, by first | with_reducible rfl | with_reducible assumption | omega, by first | with_reducible rfl | with_reducible assumption | omega⟩
end RG
/-! SETTLING: a chain is begun, or goes on -/
section SE
variable {ta : Nat → Nat → Int32} {c : Int} {na ma na' ma' : Nat → Nat → Int32}
/-- a + that does nothing, over its operand -/
theorem exv_down {v : Int32} {lo hi W Dm : Int} (h : ExV ta c na ma v lo hi W Dm) (h5 : (na 14 v.toNatClampNeg).toInt = 5) (hp : PlT ta (na 15 v.toNatClampNeg).toNatClampNeg) {z : Int32} (hz : z = na 17 v.toNatClampNeg) : ExV ta c na ma z lo hi W Dm ∧ z.toInt < v.toInt ∧ dp na z = dp na v ∧ (na 21 z.toNatClampNeg).toInt < 0 ∧ (ma 20 z.toNatClampNeg).toInt < 0 := by
  obtain ⟨l, hh, d, w, a1, a2, a3, a4, a5, a6⟩ := h
  have hc := cl_nat a3
  cases d with
  | zero => exact a4.elim
  | succ d =>
    obtain ⟨r, h1⟩ := a4
    rcases h1 with h | h | ⟨g0, -⟩ | ⟨g0, -⟩ | ⟨g0, g1, a, wa, g2, g3, g4, g5⟩ | ⟨g0, -⟩ | ⟨g0, -⟩ | ⟨g0, -⟩
    · exact absurd h.1 (by first | with_reducible rfl | with_reducible assumption | omega)
    · exact absurd h.1 (by first | with_reducible rfl | with_reducible assumption | omega)
    · exact absurd g0 (by first | with_reducible rfl | with_reducible assumption | omega)
    · exact absurd g0 (by first | with_reducible rfl | with_reducible assumption | omega)
    · have ra := g3.rng
      have hz0 : z.toInt = (a : Int) := by rw [hz]; exact g2
      have hzc := cl_nat (x := z) (by first | exact oz_016f458179 hzc | omega)
      have ez : z.toNatClampNeg = a := by first | exact oz_37dbe2a0a7 hz0 hzc | omega
      refine ⟨⟨l, hh, d, wa, a1, a2, by first | with_reducible rfl | with_reducible assumption | omega, ?_, by first | with_reducible rfl | with_reducible assumption | omega, by first | with_reducible rfl | with_reducible assumption | omega⟩, by first | with_reducible rfl | with_reducible assumption | omega, ?_, ?_⟩
      · rw [ez]
        exact g3.wid (Nat.le_refl _) (Nat.le_refl _) (by first | with_reducible rfl | with_reducible assumption | omega) (Nat.le_refl _)
      · unfold dp
        rw [ez]
        exact (g5 h5 hp).1.symm
      · rw [ez]
        exact (g5 h5 hp).2
    · exact absurd g0 (by first | with_reducible rfl | with_reducible assumption | omega)
    · exact absurd g0 (by first | with_reducible rfl | with_reducible assumption | omega)
    · exact absurd g0 (by first | with_reducible rfl | with_reducible assumption | omega)
/-- a new chain n of a and r -/
theorem exv_chain {n a r : Int32} {lo m1 m2 hi W W2 Dm X : Int} (h : ExV ta c na ma a lo m1 W Dm) (h2 : ExV ta c na ma r m2 hi W2 Dm) (hm : m1 ≤ m2) (hn : hi ≤ n.toInt) (h0 : 0 ≤ lo)
    (f : ∀ x : Nat, x ≠ n.toNatClampNeg → x ≠ a.toNatClampNeg → x ≠ r.toNatClampNeg → (∀ j, na' j x = na j x) ∧ ∀ j, ma' j x = ma j x) (fa : (∀ j, j ≠ 21 → na' j a.toNatClampNeg = na j a.toNatClampNeg) ∧ ∀ j, ma' j a.toNatClampNeg = ma j a.toNatClampNeg) (fr : (∀ j, na' j r.toNatClampNeg = na j r.toNatClampNeg) ∧ ∀ j, j ≠ 20 → ma' j r.toNatClampNeg = ma j r.toNatClampNeg)
    (e14 : (na' 14 n.toNatClampNeg).toInt = 7) (e15 : NdT ta c na' n.toNatClampNeg 5) (e17 : na' 17 n.toNatClampNeg = a) (e18 : ma' 18 n.toNatClampNeg = r) (ea : na' 21 a.toNatClampNeg = r) (er : (na 21 r.toNatClampNeg).toInt < 0) (ek : MkD ta c ma' r.toNatClampNeg) (eX : (if (ma' 22 n.toNatClampNeg).toInt < 3 then (4 : Int) else 0) ≤ X) : ExV ta c na' ma' n lo (n.toInt + 1) (W + W2 + 1 + X) (Dm + 1) := by
  have r1 := h.rng
  have r2 := h2.rng
  have hnn : 0 ≤ n.toInt := by first | exact oz_0b3665eba6 hn r2.2 r2.1 hm r1.2 r1.1 h0 | omega
  have hc := cl_nat hnn
  obtain ⟨l, hh, d, w, a1, a2, a3, a4, a5, a6⟩ := h
  obtain ⟨l2, hh2, d2, w2, b1, b2, b3, b4, b5, b6⟩ := h2
  have ha := cl_nat a3
  have hr := cl_nat b3
  have ra := a4.rng
  have rb := b4.rng
  have ka : Ex ta c na' ma' d a.toNatClampNeg l hh w := a4.fr ⟨fun x c1 c2 c3 => f x (by first | with_reducible rfl | with_reducible assumption | omega) c3 (by first | with_reducible rfl | with_reducible assumption | omega), fa.1 14 (by decide), fa.1 15 (by decide), fa.1 17 (by decide), fa.1 23 (by decide), fa.2 18, fa.2 19, fa.2 22⟩
  have kb : Ex ta c na' ma' d2 r.toNatClampNeg l2 hh2 w2 := b4.fr ⟨fun x c1 c2 c3 => f x (by first | with_reducible rfl | with_reducible assumption | omega) (by first | with_reducible rfl | with_reducible assumption | omega) c3, fr.1 14, fr.1 15, fr.1 17, fr.1 23, fr.2 18 (by decide), fr.2 19 (by decide), fr.2 22 (by decide)⟩
  have dd : d ≤ Dm.toNat ∧ d2 ≤ Dm.toNat := by omega
  refine ⟨l, n.toNatClampNeg + 1, Dm.toNat + 1, w + (w2 + 1) + (if (ma' 22 n.toNatClampNeg).toInt < 3 then 4 else 0), a1, by first | with_reducible rfl | with_reducible assumption | omega, hnn, ⟨by first | with_reducible rfl | with_reducible assumption | omega, Or.inr (Or.inr (Or.inr (Or.inr (Or.inr (Or.inl ⟨e14, e15, a.toNatClampNeg, hh, w, 1, w2 + 1, by rw [e17]; omega, by first | with_reducible rfl | with_reducible assumption | omega, ka.wid dd.1 (Nat.le_refl _) (Nat.le_refl _) (Nat.le_refl _), ?_, Nat.le_refl _⟩)))))⟩, ?_, by first | with_reducible rfl | with_reducible assumption | omega⟩
  · refine ⟨r.toNatClampNeg, hh2, w2 + 1, by rw [ea]; omega, by first | with_reducible rfl | with_reducible assumption | omega, by first | with_reducible rfl | with_reducible assumption | omega, ⟨l2, w2, by first | with_reducible rfl | with_reducible assumption | omega, Or.inr (by first | with_reducible rfl | with_reducible assumption | omega), kb.wid dd.2 (Nat.le_refl _) (Nat.le_refl _) (Nat.le_refl _), Nat.le_refl _, ek⟩, Or.inl ⟨?_, by rw [e18]; omega, Nat.le_refl _⟩⟩
    rw [fr.1 21]; exact er
  · by_cases h3 : (ma' 22 n.toNatClampNeg).toInt < 3
    · rw [if_pos h3] at eX ⊢; omega
    · rw [if_neg h3] at eX ⊢; omega
/-- a chain goes on with r -/
theorem exv_more {n r b : Int32} {lo m1 m2 hi W W2 Dm : Int} (h : ExV ta c na ma n lo m1 W (Dm + 1)) (h7 : (na 14 n.toNatClampNeg).toInt = 7) (h2 : ExV ta c na ma r m2 hi W2 Dm) (hm : m1 ≤ m2) (h0 : 0 ≤ lo) (hb : b = ma 18 n.toNatClampNeg)
    (f : ∀ x : Nat, x ≠ n.toNatClampNeg → x ≠ b.toNatClampNeg → x ≠ r.toNatClampNeg → (∀ j, na' j x = na j x) ∧ ∀ j, ma' j x = ma j x) (fb : (∀ j, j ≠ 21 → na' j b.toNatClampNeg = na j b.toNatClampNeg) ∧ ∀ j, ma' j b.toNatClampNeg = ma j b.toNatClampNeg) (fr : (∀ j, na' j r.toNatClampNeg = na j r.toNatClampNeg) ∧ ∀ j, j ≠ 20 → ma' j r.toNatClampNeg = ma j r.toNatClampNeg)
    (fn : na' 14 n.toNatClampNeg = na 14 n.toNatClampNeg ∧ na' 15 n.toNatClampNeg = na 15 n.toNatClampNeg ∧ na' 17 n.toNatClampNeg = na 17 n.toNatClampNeg ∧ ma' 22 n.toNatClampNeg = ma 22 n.toNatClampNeg) (e18 : ma' 18 n.toNatClampNeg = r) (eb : na' 21 b.toNatClampNeg = r) (er : (na 21 r.toNatClampNeg).toInt < 0) (ek : MkD ta c ma' r.toNatClampNeg) : ExV ta c na' ma' n lo hi (W + W2 + 1) (Dm + 1) := by
  have r1 := h.rng
  have r2 := h2.rng
  obtain ⟨l, hh, d, w, a1, a2, a3, a4, a5, a6⟩ := h
  obtain ⟨l2, hh2, d2, w2, b1, b2, b3, b4, b5, b6⟩ := h2
  have hc := cl_nat a3
  have hr := cl_nat b3
  have rb := b4.rng
  cases d with
  | zero => exact a4.elim
  | succ d =>
    obtain ⟨rn, h1⟩ := a4
    rcases h1 with h | h | ⟨g0, -⟩ | ⟨g0, -⟩ | ⟨g0, -⟩ | ⟨g0, g1, a, mid, wa, m, wr, g2, g3, g4, g5, g6⟩ | ⟨g0, -⟩ | ⟨g0, -⟩
    · exact absurd h.1 (by first | with_reducible rfl | with_reducible assumption | omega)
    · exact absurd h.1 (by first | with_reducible rfl | with_reducible assumption | omega)
    · exact absurd g0 (by first | with_reducible rfl | with_reducible assumption | omega)
    · exact absurd g0 (by first | with_reducible rfl | with_reducible assumption | omega)
    · exact absurd g0 (by first | with_reducible rfl | with_reducible assumption | omega)
    · have ra := g4.rng
      rw [← hb] at g5
      obtain ⟨b', k1, k2, k3, k4⟩ := g5.last
      have hb0 : 0 ≤ b.toInt := by omega
      have hbc := cl_nat hb0
      have ebb : b' = b.toNatClampNeg := by omega
      subst ebb
      have dd : d ≤ Dm.toNat ∧ d2 ≤ Dm.toNat := by omega
      have kb : Ex ta c na' ma' d2 r.toNatClampNeg l2 hh2 w2 := b4.fr ⟨fun x c1 c2 c3 => f x (by first | with_reducible rfl | with_reducible assumption | omega) (by first | with_reducible rfl | with_reducible assumption | omega) c3, fr.1 14, fr.1 15, fr.1 17, fr.1 23, fr.2 18 (by decide), fr.2 19 (by decide), fr.2 22 (by decide)⟩
      have ka : Ex ta c na' ma' d a l mid wa := by
        refine g4.fr ⟨fun x c1 c2 c3 => f x (by first | with_reducible rfl | with_reducible assumption | omega) (by first | with_reducible rfl | with_reducible assumption | omega) (by first | with_reducible rfl | with_reducible assumption | omega), ?_⟩
        obtain ⟨q1, q2⟩ := f a (by first | with_reducible rfl | with_reducible assumption | omega) (by first | with_reducible rfl | with_reducible assumption | omega) (by first | with_reducible rfl | with_reducible assumption | omega)
        exact ⟨q1 14, q1 15, q1 17, q1 23, q2 18, q2 19, q2 22⟩
      refine ⟨l, hh2, Dm.toNat + 1, w + w2 + 1, a1, by first | with_reducible rfl | with_reducible assumption | omega, a3, ⟨by first | with_reducible rfl | with_reducible assumption | omega, Or.inr (Or.inr (Or.inr (Or.inr (Or.inr (Or.inl ⟨by rw [fn.1]; exact g0, ?_, a, mid, wa, m + 1, wr + (w2 + 1), by rw [fn.2.2.1]; exact g2, g3, ka.wid dd.1 (Nat.le_refl _) (Nat.le_refl _) (Nat.le_refl _), ?_, by rw [fn.2.2.2]; omega⟩)))))⟩, by first | with_reducible rfl | with_reducible assumption | omega, by first | with_reducible rfl | with_reducible assumption | omega⟩
      · unfold NdT at g1 ⊢; rw [fn.2.1]; exact g1
      · rw [e18, (f a (by first | with_reducible rfl | with_reducible assumption | omega) (by first | with_reducible rfl | with_reducible assumption | omega) (by first | with_reducible rfl | with_reducible assumption | omega)).1 21, ← hr]
        refine g5.app (b := b.toNatClampNeg) (by first | with_reducible rfl | with_reducible assumption | omega) (fun l' hl' => ⟨l2, w2, by first | with_reducible rfl | with_reducible assumption | omega, Or.inl (by first | with_reducible rfl | with_reducible assumption | omega), kb.wid dd.2 (Nat.le_refl _) (Nat.le_refl _) (Nat.le_refl _), Nat.le_refl _, ek⟩) (by first | with_reducible rfl | with_reducible assumption | omega) rb.2 (by rw [fr.1 21]; exact er) (by rw [eb]; omega) (fun x c1 c2 c3 l' h' v hv => ?_) (fun x l' h' v c1 c2 c3 c4 c5 q => ?_)
        · obtain ⟨l1, v1, q1, q2, q3, q4, q5⟩ := hv
          have rx := q3.rng
          exact (f x (by first | with_reducible rfl | with_reducible assumption | omega) c3 (by first | with_reducible rfl | with_reducible assumption | omega)).1 21
        · obtain ⟨l1, v1, q1, q2, q3, q4, q5⟩ := q
          have rx := q3.rng
          refine ⟨l1, v1, q1, q2, Ex.wid (q3.fr ⟨fun y d1 d2 d3 => f y (by first | with_reducible rfl | with_reducible assumption | omega) (by first | with_reducible rfl | with_reducible assumption | omega) (by first | with_reducible rfl | with_reducible assumption | omega), ?_⟩) dd.1 (Nat.le_refl _) (Nat.le_refl _) (Nat.le_refl _), q4, ?_⟩
          · by_cases ex : x = b.toNatClampNeg
            · subst ex
              exact ⟨fb.1 14 (by decide), fb.1 15 (by decide), fb.1 17 (by decide), fb.1 23 (by decide), fb.2 18, fb.2 19, fb.2 22⟩
            · obtain ⟨p1, p2⟩ := f x (by first | with_reducible rfl | with_reducible assumption | omega) ex (by first | with_reducible rfl | with_reducible assumption | omega)
              exact ⟨p1 14, p1 15, p1 17, p1 23, p2 18, p2 19, p2 22⟩
          · unfold MkD at q5 ⊢
            by_cases ex : x = b.toNatClampNeg
            · subst ex; rw [fb.2 20]; exact q5
            · rw [(f x (by first | with_reducible rfl | with_reducible assumption | omega) ex (by first | with_reducible rfl | with_reducible assumption | omega)).2 20]; exact q5
    · exact absurd g0 (by first | with_reducible rfl | with_reducible assumption | omega)
    · exact absurd g0 (by first | with_reducible rfl | with_reducible assumption | omega)
end SE
/-! EXPRESSIONS, as the parser gives them back -/
def FrW (b : Int) (wa wa' : Nat → Nat → Int32) : Prop := ∀ k x : Nat, (x : Int) < b → wa' k x = wa k x
theorem FrW.rf {b : Int} {wa : Nat → Nat → Int32} : FrW b wa wa := fun _ _ _ => rfl
theorem FrW.tr {b b' : Int} {wa wa1 wa2 : Nat → Nat → Int32} (h : FrW b wa wa1) (k : FrW b' wa1 wa2) (hb : b ≤ b') : FrW b wa wa2 := fun j x hx => (k j x (by first | with_reducible rfl | with_reducible assumption | omega)).trans (h j x hx)
def ExR (ta : Nat → Nat → Int32) (c : Int) (na ma : Nat → Nat → Int32) (v : Int32) (lo hi W o : Int) : Prop := ExV ta c na ma v lo hi W (dp na v + 61 - o) ∧ 1 ≤ dp na v ∧ dp na v + o ≤ 61 ∧ (na 21 v.toNatClampNeg).toInt < 0 ∧ (ma 20 v.toNatClampNeg).toInt < 0
/-- the node that a number tells, as it is or as -1 - it -/
def ExD (ta : Nat → Nat → Int32) (c : Int) (na ma : Nat → Nat → Int32) (v : Int32) (lo hi W o : Int) : Prop := ∃ u : Int32, (v.toInt = u.toInt ∨ v.toInt = -1 - u.toInt) ∧ 0 ≤ u.toInt ∧ ExR ta c na ma u lo hi W o
section XR
variable {ta : Nat → Nat → Int32} {c : Int} {na ma na' ma' : Nat → Nat → Int32} {v : Int32} {lo hi W o : Int}
theorem ExR.num (h : ExR ta c na ma v lo hi W o) : lo ≤ v.toInt ∧ v.toInt < hi ∧ 1 ≤ dp na v ∧ dp na v + o ≤ 61 := ⟨h.1.rng.1, h.1.rng.2, h.2.1, h.2.2.1⟩
theorem ExR.kp (h : ExR ta c na ma v lo hi W o) (k : FrB hi na ma na' ma') (h0 : 0 ≤ lo) : ExR ta c na' ma' v lo hi W o := by
  have r := h.1.rng
  have hc := cl_nat (x := v) (by first | exact oz_016f458179 hc | omega)
  obtain ⟨q1, q2⟩ := k v.toNatClampNeg (by first | with_reducible rfl | with_reducible assumption | omega)
  have e : dp na' v = dp na v := by unfold dp; rw [q1 23]
  unfold ExR
  rw [e, q1 21, q2 20]
  exact ⟨h.1.kp k, h.2⟩
theorem ExR.le {lo' hi' W' o' : Int} (h : ExR ta c na ma v lo hi W o) (h1 : lo' ≤ lo) (h2 : hi ≤ hi') (h3 : W ≤ W') (h4 : o' ≤ o) : ExR ta c na ma v lo' hi' W' o' := ⟨h.1.le h1 h2 h3 (by first | with_reducible rfl | with_reducible assumption | omega), h.2.1, by have := h.2.2.1; omega, h.2.2.2⟩
theorem exd_of (h : ExR ta c na ma v lo hi W o) (h0 : 0 ≤ lo) : ExD ta c na ma v lo hi W o := ⟨v, Or.inl rfl, by have := h.1.rng; omega, h⟩
theorem exd_neg {u : Int32} (h : ExR ta c na ma u lo hi W o) (h0 : 0 ≤ lo) (e : v.toInt = -1 - u.toInt) : ExD ta c na ma v lo hi W o := ⟨u, Or.inr e, by have := h.1.rng; omega, h⟩
theorem ExD.pos (h : ExD ta c na ma v lo hi W o) (h0 : 0 ≤ v.toInt) : ExR ta c na ma v lo hi W o := by
  obtain ⟨u, h1, h2, h3⟩ := h
  have e : v = u := i_eq.mpr (by first | with_reducible rfl | with_reducible assumption | omega)
  rw [e]; exact h3
theorem ExD.neg {z : Int32} (h : ExD ta c na ma v lo hi W o) (h0 : v.toInt < 0) (hz : z.toInt = -1 - v.toInt) : ExR ta c na ma z lo hi W o := by
  obtain ⟨u, h1, h2, h3⟩ := h
  have e : z = u := i_eq.mpr (by first | with_reducible rfl | with_reducible assumption | omega)
  rw [e]; exact h3
theorem ExD.le {lo' hi' W' o' : Int} (h : ExD ta c na ma v lo hi W o) (h1 : lo' ≤ lo) (h2 : hi ≤ hi') (h3 : W ≤ W') (h4 : o' ≤ o) : ExD ta c na ma v lo' hi' W' o' := by
  obtain ⟨u, g1, g2, g3⟩ := h
  exact ⟨u, g1, g2, g3.le h1 h2 h3 h4⟩
theorem ndt_of {n : Nat} {t : Int32} {s : Int} (e : na 15 n = t) (h0 : 0 ≤ t.toInt) (h1 : t.toInt < c) (hs : so ta t = s) : NdT ta c na n s := by
  unfold NdT; rw [e]; exact ⟨h0, h1, hs⟩
/-- a leaf -/
theorem exr_leaf {n k t : Int32} (m : MkN na ma na' ma' n k t) (hk : k.toInt = 1 ∨ k.toInt = 2) (h0 : 0 ≤ n.toInt) (ht : 0 ≤ t.toInt ∧ t.toInt < c) (hs : so ta t = if k.toInt = 1 then 3 else 1) (h1 : lo ≤ n.toInt) (h2 : n.toInt + 1 ≤ hi) (h3 : 1 ≤ W) (h4 : o ≤ 60) : ExR ta c na' ma' n lo hi W o := by
  have e23 : dp na' n = 1 := by unfold dp; rw [m.2.2.2.2.2.2.2.2.2.2]; rfl
  refine ⟨exv_leaf m hk h0 ht hs h1 h2 h3 (by first | with_reducible rfl | with_reducible assumption | omega), by first | with_reducible rfl | with_reducible assumption | omega, by first | with_reducible rfl | with_reducible assumption | omega, ?_, ?_⟩
  · rw [m.2.2.2.2.2.2.2.2.1]; decide
  · rw [m.2.2.2.2.2.2.2.1]; decide
/-- in brackets -/
theorem exr_par {x : Int32} (h : ExR ta c na ma v lo hi W o) (h0 : 0 ≤ lo) {o' : Int} (ho : o' ≤ o) : ExR ta c (va_up na 16 (upd (na 16) v.toNatClampNeg x)) ma v lo hi W o' := by
  have e : dp (va_up na 16 (upd (na 16) v.toNatClampNeg x)) v = dp na v := by unfold dp; rw [va_up_n (by decide)]
  have h1 : ExV ta c (va_up na 16 (upd (na 16) v.toNatClampNeg x)) ma v lo hi W (dp na v + 61 - o) := h.1.kr (fun y _ hy => ⟨fun j => up_far hy, fun _ => rfl⟩) ⟨by rw [va_up_n (by decide)], by rw [va_up_n (by decide)], by rw [va_up_n (by decide)], by rw [va_up_n (by decide)], rfl, rfl, rfl⟩
  unfold ExR
  rw [e, va_up_n (by decide)]
  exact ⟨h1.le (Int.le_refl _) (Int.le_refl _) (Int.le_refl _) (by first | with_reducible rfl | with_reducible assumption | omega), h.2.1, by have := h.2.2.1; omega, h.2.2.2⟩
/-- over one kid -/
theorem exr_up {n a : Int32} (h : ExR ta c na ma a lo hi W o) (hn : hi ≤ n.toInt) (f : ∀ x : Nat, x ≠ n.toNatClampNeg → (∀ j, na' j x = na j x) ∧ ∀ j, ma' j x = ma j x) (h0 : 0 ≤ lo) (e14 : (na' 14 n.toNatClampNeg).toInt = 5 ∨ (na' 14 n.toNatClampNeg).toInt = 6) (e15 : NdT ta c na' n.toNatClampNeg 5) (e17 : na' 17 n.toNatClampNeg = a)
    (e23 : (na' 14 n.toNatClampNeg).toInt = 5 → PlT ta (na' 15 n.toNatClampNeg).toNatClampNeg → dp na' n = dp na a) (ed : dp na a ≤ dp na' n) {o' : Int} (ho : dp na a + 62 - o ≤ dp na' n + 61 - o') (ho2 : dp na' n + o' ≤ 61) (e21 : (na' 21 n.toNatClampNeg).toInt < 0 ∧ (ma' 20 n.toNatClampNeg).toInt < 0) : ExR ta c na' ma' n lo (n.toInt + 1) (W + 1) o' :=
  ⟨(exv_up h.1 hn f h0 e14 e15 e17 (fun q1 q2 => ⟨e23 q1 q2, h.2.2.2⟩)).le (Int.le_refl _) (Int.le_refl _) (Int.le_refl _) (by first | with_reducible rfl | with_reducible assumption | omega), by have := h.2.1; omega, ho2, e21⟩
theorem exr_index {n a : Int32} (h : ExR ta c na ma a lo hi W o) (hn : n.toInt + 1 ≤ lo) (h0 : 0 ≤ n.toInt) (f : ∀ x : Nat, x ≠ n.toNatClampNeg → (∀ j, na' j x = na j x) ∧ ∀ j, ma' j x = ma j x) (e14 : (na' 14 n.toNatClampNeg).toInt = 4) (e15 : NdT ta c na' n.toNatClampNeg 1) (e17 : na' 17 n.toNatClampNeg = a) (ed : dp na' n = 1 + dp na a) (e21 : (na' 21 n.toNatClampNeg).toInt < 0 ∧ (ma' 20 n.toNatClampNeg).toInt < 0) {o' : Int} (ho : o' + 1 ≤ o) : ExR ta c na' ma' n n.toInt hi (W + 1) o' :=
  ⟨(exv_index h.1 hn h0 f e14 e15 e17).le (Int.le_refl _) (Int.le_refl _) (Int.le_refl _) (by first | with_reducible rfl | with_reducible assumption | omega), by have := h.2.1; omega, by have := h.2.2.1; omega, e21⟩
theorem exr_assign {n a b : Int32} {m1 W2 o2 : Int} (h : ExR ta c na ma a lo m1 W o) (h2 : ExR ta c na ma b m1 hi W2 o2) (hn : hi ≤ n.toInt) (h0 : 0 ≤ lo) (f : ∀ x : Nat, x ≠ n.toNatClampNeg → (∀ j, na' j x = na j x) ∧ ∀ j, ma' j x = ma j x) (e14 : (na' 14 n.toNatClampNeg).toInt = 9) (e15 : NdT ta c na' n.toNatClampNeg 5) (e17 : na' 17 n.toNatClampNeg = a) (e18 : ma' 18 n.toNatClampNeg = b) (ed : 1 + dp na a ≤ dp na' n ∧ 1 + dp na b ≤ dp na' n) (ed2 : dp na' n + o ≤ 61) (e21 : (na' 21 n.toNatClampNeg).toInt < 0 ∧ (ma' 20 n.toNatClampNeg).toInt < 0) (ho : o ≤ o2) : ExR ta c na' ma' n lo (n.toInt + 1) (W + W2 + 1) o :=
  ⟨(exv_assign (Dm := dp na' n - 1 + 61 - o) (h.1.le (Int.le_refl _) (Int.le_refl _) (Int.le_refl _) (by first | with_reducible rfl | with_reducible assumption | omega)) (h2.1.le (Int.le_refl _) (Int.le_refl _) (Int.le_refl _) (by first | with_reducible rfl | with_reducible assumption | omega)) hn h0 f e14 e15 e17 e18).le (Int.le_refl _) (Int.le_refl _) (Int.le_refl _) (by first | with_reducible rfl | with_reducible assumption | omega), by have := h.2.1; omega, ed2, e21⟩
theorem exr_cond {n a b e : Int32} {m1 m2 W2 W3 o2 : Int} (h : ExR ta c na ma a lo m1 W o) (h2 : ExR ta c na ma b m1 m2 W2 o2) (h3 : ExR ta c na ma e m2 hi W3 o2) (hn : hi ≤ n.toInt) (h0 : 0 ≤ lo) (f : ∀ x : Nat, x ≠ n.toNatClampNeg → (∀ j, na' j x = na j x) ∧ ∀ j, ma' j x = ma j x) (e14 : (na' 14 n.toNatClampNeg).toInt = 8) (e15 : NdT ta c na' n.toNatClampNeg 5) (e17 : na' 17 n.toNatClampNeg = a) (e18 : ma' 18 n.toNatClampNeg = b) (e19 : ma' 19 n.toNatClampNeg = e) (ed : 1 + dp na a ≤ dp na' n ∧ 1 + dp na b ≤ dp na' n ∧ 1 + dp na e ≤ dp na' n) (ed2 : dp na' n + o ≤ 61) (e21 : (na' 21 n.toNatClampNeg).toInt < 0 ∧ (ma' 20 n.toNatClampNeg).toInt < 0) (ho : o ≤ o2) : ExR ta c na' ma' n lo (n.toInt + 1) (W + W2 + W3 + 2) o :=
  ⟨(exv_cond (Dm := dp na' n - 1 + 61 - o) (h.1.le (Int.le_refl _) (Int.le_refl _) (Int.le_refl _) (by first | with_reducible rfl | with_reducible assumption | omega)) (h2.1.le (Int.le_refl _) (Int.le_refl _) (Int.le_refl _) (by first | with_reducible rfl | with_reducible assumption | omega)) (h3.1.le (Int.le_refl _) (Int.le_refl _) (Int.le_refl _) (by first | with_reducible rfl | with_reducible assumption | omega)) hn h0 f e14 e15 e17 e18 e19).le (Int.le_refl _) (Int.le_refl _) (Int.le_refl _) (by first | with_reducible rfl | with_reducible assumption | omega), by have := h.2.1; omega, ed2, e21⟩
end XR
