/-! STATEMENTS: a node first, its kids behind it -/
abbrev NP := Nat → Nat → Nat → Nat → Prop
/-- what may change of a statement: its root's next, and where it begins -/
def FrS (na ma na' ma' : Nat → Nat → Int32) (lo hi n : Nat) : Prop := (∀ x : Nat, lo ≤ x → x < hi → x ≠ n → (∀ k, na' k x = na k x) ∧ ∀ k, ma' k x = ma k x) ∧ (∀ k, k ≠ 21 → k ≠ 16 → na' k n = na k n) ∧ ∀ k, ma' k n = ma k n
theorem FrS.e {na ma na' ma' : Nat → Nat → Int32} {lo hi n : Nat} (h : FrS na ma na' ma' lo hi n) : FrE na ma na' ma' lo hi n :=
  ⟨h.1, h.2.1 14 (by decide) (by decide), h.2.1 15 (by decide) (by decide), h.2.1 17 (by decide) (by decide), h.2.1 23 (by decide) (by decide), h.2.2 18, h.2.2 19, h.2.2 22⟩
theorem FrS.sub {na ma na' ma' : Nat → Nat → Int32} {lo hi n l h a : Nat} (f : FrS na ma na' ma' lo hi n) (h1 : lo ≤ l) (h2 : h ≤ hi) (h3 : n < l ∨ h ≤ n) (ha : l ≤ a ∧ a < h) : FrS na ma na' ma' l h a := by
  have g : ∀ x : Nat, l ≤ x → x < h → (∀ k, na' k x = na k x) ∧ ∀ k, ma' k x = ma k x := fun x a1 a2 => f.1 x (by first | with_reducible rfl | with_reducible assumption | omega) (by first | with_reducible rfl | with_reducible assumption | omega) (by first | with_reducible rfl | with_reducible assumption | omega)
  exact ⟨fun x a1 a2 _ => g x a1 a2, fun k _ _ => (g a ha.1 ha.2).1 k, (g a ha.1 ha.2).2⟩
def Oz (P : NP) (k : Int) (lo hi w : Nat) : Prop := k < 0 ∨ ∃ a v : Nat, k = (a : Int) ∧ P a lo hi v ∧ v ≤ w
/-- each pays k more -/
def Py (E : NP) (k : Nat) : NP := fun a l h v => ∃ v' : Nat, E a l h v' ∧ v' + k ≤ v
def Er (ta : Nat → Nat → Int32) (c : Int) (na ma : Nat → Nat → Int32) (d : Nat) : NP := fun n lo hi w => Ex ta c na ma d n lo hi w ∧ (ma 20 n).toInt < 0
def VrB (ta : Nat → Nat → Int32) (c : Int) (na ma : Nat → Nat → Int32) (E : NP) : NP := fun n lo hi w => (lo ≤ n ∧ n < hi) ∧ (na 14 n).toInt = 40 ∧ NdT ta c na n 1 ∧ 6 ≤ w ∧
  (((na 17 n).toInt < 0 ∧ (ma 22 n).toInt = 0) ∨
   ((na 17 n).toInt < 0 ∧ (ma 22 n).toInt = 1 ∧ ∃ b wb : Nat, (ma 18 n).toInt = (b : Int) ∧ E b (n + 1) hi wb ∧ wb + 6 ≤ w) ∨
   (∃ a m1 wa : Nat, (na 17 n).toInt = (a : Int) ∧ n < m1 ∧ m1 ≤ hi ∧ E a (n + 1) m1 wa ∧
     (((ma 22 n).toInt = 0 ∧ wa + 6 ≤ w) ∨
      ((ma 22 n).toInt = 2 ∧ (∃ (m wr : Nat) (last : Int), Lq na (Py E 3) m (ma 18 n).toInt m1 hi wr last ∧ wa + wr + 6 ≤ w) ∧ 0 ≤ (ma 19 n).toInt ∧ (ma 19 n).toInt < c) ∨
      ((ma 22 n).toInt = 3 ∧ 0 ≤ (ma 19 n).toInt ∧ (ma 19 n).toInt < c ∧ so ta (ma 19 n) = 4 ∧ (wa : Int) + 3 * sz ta (ma 19 n) + 6 ≤ (w : Int)))))
/-- a loop's first part: an expression or a declaration -/
def Si (na : Nat → Nat → Int32) (S : NP) : NP := fun a l h v => (l ≤ a ∧ a < h) ∧ ((na 14 a).toInt = 22 ∨ (na 14 a).toInt = 23) ∧ S a l h v
def StB (ta : Nat → Nat → Int32) (c : Int) (na ma : Nat → Nat → Int32) (E S : NP) : NP := fun n lo hi w => (lo ≤ n ∧ n < hi) ∧ (0 ≤ (na 15 n).toInt ∧ (na 15 n).toInt < c) ∧
  ((na 14 n).toInt = 21 ∨
   ((na 14 n).toInt = 20 ∧ ∃ wr : Nat, Lz na S (na 17 n).toInt (n + 1) hi wr ∧ wr ≤ w) ∨
   ((na 14 n).toInt = 22 ∧ ∃ a wa : Nat, (na 17 n).toInt = (a : Int) ∧ E a (n + 1) hi wa ∧ wa + 1 ≤ w) ∨
   ((na 14 n).toInt = 23 ∧ ((ma 22 n).toInt = 0 ∨ (ma 22 n).toInt = 1) ∧ ∃ wr : Nat, Lz na (VrB ta c na ma E) (na 17 n).toInt (n + 1) hi wr ∧ wr ≤ w) ∨
   (((na 14 n).toInt = 24 ∨ (na 14 n).toInt = 25) ∧ ∃ a b m1 m2 wa wb we : Nat, (na 17 n).toInt = (a : Int) ∧ (ma 18 n).toInt = (b : Int) ∧ (n < m1 ∧ m1 ≤ m2 ∧ m2 ≤ hi) ∧ E a (n + 1) m1 wa ∧ S b m1 m2 wb ∧ Oz S (ma 19 n).toInt m2 hi we ∧ ((na 14 n).toInt ≠ 24 → (ma 19 n).toInt < 0) ∧ wa + wb + we + 4 ≤ w) ∨
   ((na 14 n).toInt = 26 ∧ ∃ a b m1 wa wb : Nat, (na 17 n).toInt = (a : Int) ∧ (ma 18 n).toInt = (b : Int) ∧ (n < m1 ∧ m1 ≤ hi) ∧ S b (n + 1) m1 wb ∧ E a m1 hi wa ∧ (ma 19 n).toInt < 0 ∧ wa + wb + 4 ≤ w) ∨
   ((na 14 n).toInt = 27 ∧ ∃ e m1 m2 m3 wa wb wc we : Nat, (n < m1 ∧ m1 ≤ m2 ∧ m2 ≤ m3 ∧ m3 ≤ hi) ∧ Oz (Si na S) (na 17 n).toInt (n + 1) m1 wa ∧ Oz E (ma 18 n).toInt m1 m2 wb ∧ Oz E (ma 19 n).toInt m2 m3 wc ∧ (ma 20 n).toInt = (e : Int) ∧ S e m3 hi we ∧ wa + wb + wc + we + 5 ≤ w) ∨
   ((na 14 n).toInt = 28 ∧ ∃ a m1 wa wr : Nat, (na 17 n).toInt = (a : Int) ∧ (n < m1 ∧ m1 ≤ hi) ∧ E a (n + 1) m1 wa ∧ Lz na S (ma 18 n).toInt m1 hi wr ∧ wa + wr + 2 ≤ w) ∨
   ((na 14 n).toInt = 29 ∧ ∃ a wa : Nat, (na 17 n).toInt = (a : Int) ∧ E a (n + 1) hi wa ∧ wa + 1 ≤ w) ∨
   ((na 14 n).toInt = 30) ∨
   (((na 14 n).toInt = 31 ∨ (na 14 n).toInt = 32) ∧ 1 ≤ w) ∨
   ((na 14 n).toInt = 33 ∧ ∃ wa : Nat, Oz E (na 17 n).toInt (n + 1) hi wa ∧ wa + 2 ≤ w))
def St (ta : Nat → Nat → Int32) (c : Int) (na ma : Nat → Nat → Int32) : Nat → NP
  | 0 => fun _ _ _ _ => False
  | d + 1 => StB ta c na ma (Er ta c na ma d) (St ta c na ma d)
section SS
variable {ta : Nat → Nat → Int32} {c : Int} {na ma na' ma' : Nat → Nat → Int32}
theorem Oz.mono {P P' : NP} {k : Int} {lo hi lo' hi' w w' : Nat} (h : Oz P k lo hi w) (hw : w ≤ w') (hP : ∀ a v, P a lo hi v → P' a lo' hi' v) : Oz P' k lo' hi' w' := by
  rcases h with h | ⟨a, v, h1, h2, h3⟩
  · exact Or.inl h
  · exact Or.inr ⟨a, v, h1, hP a v h2, by first | with_reducible rfl | with_reducible assumption | omega⟩
theorem Lz.fr {P P' : NP} {k : Int} {lo hi w : Nat} (h : Lz na P k lo hi w) (hx : ∀ x : Nat, lo ≤ x → x < hi → na' 21 x = na 21 x) (hP : ∀ a l h v, lo ≤ l → h ≤ hi → l ≤ a → a < h → P a l h v → P' a l h v) : Lz na' P' k lo hi w := by
  rcases h with h | ⟨m, last, h⟩
  · exact Or.inl h
  · exact Or.inr ⟨m, last, h.fr hx hP⟩
theorem Er.rng {d n lo hi w : Nat} (h : Er ta c na ma d n lo hi w) : lo ≤ n ∧ n < hi := h.1.rng
theorem Er.fr {d n lo hi w : Nat} (h : Er ta c na ma d n lo hi w) (f : FrS na ma na' ma' lo hi n) : Er ta c na' ma' d n lo hi w := ⟨h.1.fr f.e, by rw [f.2.2 20]; exact h.2⟩
theorem Er.wid {d d' n lo lo' hi hi' w w' : Nat} (h : Er ta c na ma d n lo hi w) (h1 : d ≤ d') (h2 : lo' ≤ lo) (h3 : hi ≤ hi') (h4 : w ≤ w') : Er ta c na ma d' n lo' hi' w' := ⟨h.1.wid h1 h2 h3 h4, h.2⟩
theorem VrB.fr {E E' : NP} {n lo hi w : Nat} (h : VrB ta c na ma E n lo hi w) (f : FrS na ma na' ma' lo hi n) (hE : ∀ a l h v, n < l → h ≤ hi → E a l h v → E' a l h v) : VrB ta c na' ma' E' n lo hi w := by
  obtain ⟨h0, h1, h2, h3, h4⟩ := h
  have e14 := f.2.1 14 (by decide) (by decide)
  have e15 := f.2.1 15 (by decide) (by decide)
  have e17 := f.2.1 17 (by decide) (by decide)
  have em := f.2.2
  refine ⟨h0, by rw [e14]; exact h1, by unfold NdT at h2 ⊢; rw [e15]; exact h2, h3, ?_⟩
  rw [e17, em 22, em 18, em 19]
  rcases h4 with g | ⟨g1, g2, b, wb, g3, g4, g5⟩ | ⟨a, m1, wa, g1, g2, g3, g4, g5⟩
  · exact Or.inl g
  · exact Or.inr (Or.inl ⟨g1, g2, b, wb, g3, hE _ _ _ _ (by first | with_reducible rfl | with_reducible assumption | omega) (Nat.le_refl _) g4, g5⟩)
  · refine Or.inr (Or.inr ⟨a, m1, wa, g1, g2, g3, hE _ _ _ _ (by first | with_reducible rfl | with_reducible assumption | omega) g3 g4, ?_⟩)
    rcases g5 with g | ⟨q1, ⟨m, wr, last, q2, q3⟩, q4⟩ | g
    · exact Or.inl g
    · refine Or.inr (Or.inl ⟨q1, ⟨m, wr, last, ?_, q3⟩, q4⟩)
      exact q2.fr (fun x a1 a2 => (f.1 x (by first | with_reducible rfl | with_reducible assumption | omega) (by first | with_reducible rfl | with_reducible assumption | omega) (by first | with_reducible rfl | with_reducible assumption | omega)).1 21) (fun a l h v a1 a2 a3 a4 q => by
        obtain ⟨v', k1, k2⟩ := q
        exact ⟨v', hE _ _ _ _ (by first | with_reducible rfl | with_reducible assumption | omega) (by first | with_reducible rfl | with_reducible assumption | omega) k1, k2⟩)
    · exact Or.inr (Or.inr g)
theorem VrB.wid {E E' : NP} {n lo lo' hi hi' w w' : Nat} (h : VrB ta c na ma E n lo hi w) (h2 : lo' ≤ lo) (h3 : hi ≤ hi') (h4 : w ≤ w') (hE : ∀ a l l' h h' v, l' ≤ l → h ≤ h' → E a l h v → E' a l' h' v) : VrB ta c na ma E' n lo' hi' w' := by
  obtain ⟨q0, q1, q2, q3, q4⟩ := h
  refine ⟨by first | with_reducible rfl | with_reducible assumption | omega, q1, q2, by first | with_reducible rfl | with_reducible assumption | omega, ?_⟩
  rcases q4 with g | ⟨g1, g2, b, wb, g3, g4, g5⟩ | ⟨a, m1, wa, g1, g2, g3, g4, g5⟩
  · exact Or.inl g
  · exact Or.inr (Or.inl ⟨g1, g2, b, wb, g3, hE _ _ _ _ _ _ (Nat.le_refl _) h3 g4, by first | with_reducible rfl | with_reducible assumption | omega⟩)
  · refine Or.inr (Or.inr ⟨a, m1, wa, g1, g2, by first | with_reducible rfl | with_reducible assumption | omega, hE _ _ _ _ _ _ (Nat.le_refl _) (Nat.le_refl _) g4, ?_⟩)
    rcases g5 with g | ⟨r1, ⟨m, wr, last, r2, r3⟩, r4⟩ | ⟨r1, r2, r3, r4, r5⟩
    · exact Or.inl ⟨g.1, by first | with_reducible rfl | with_reducible assumption | omega⟩
    · refine Or.inr (Or.inl ⟨r1, ⟨m, wr, last, ?_, by first | with_reducible rfl | with_reducible assumption | omega⟩, r4⟩)
      exact r2.wid (fun a l l' h v hl q => by
        obtain ⟨v', k1, k2⟩ := q
        exact ⟨v', hE _ _ _ _ _ _ hl (Nat.le_refl _) k1, k2⟩) (Nat.le_refl _) (Nat.le_refl _) h3 (Nat.le_refl _)
    · exact Or.inr (Or.inr ⟨r1, r2, r3, r4, by first | with_reducible rfl | with_reducible assumption | omega⟩)
theorem StB.fr {E E' S S' : NP} {n lo hi w : Nat} (h : StB ta c na ma E S n lo hi w) (f : FrS na ma na' ma' lo hi n) (hE : ∀ a l h v, n < l → h ≤ hi → E a l h v → E' a l h v) (hS : ∀ a l h v, n < l → h ≤ hi → S a l h v → S' a l h v) : StB ta c na' ma' E' S' n lo hi w := by
  obtain ⟨h0, h1, h2⟩ := h
  have e14 := f.2.1 14 (by decide) (by decide)
  have e15 := f.2.1 15 (by decide) (by decide)
  have e17 := f.2.1 17 (by decide) (by decide)
  have em := f.2.2
  have e21 : ∀ x : Nat, n + 1 ≤ x → x < hi → na' 21 x = na 21 x := fun x a1 a2 => (f.1 x (by first | with_reducible rfl | with_reducible assumption | omega) a2 (by first | with_reducible rfl | with_reducible assumption | omega)).1 21
  have zE : ∀ {k : Int} {l h v : Nat}, n < l → h ≤ hi → Oz E k l h v → Oz E' k l h v := fun q1 q2 q => q.mono (Nat.le_refl _) (fun a v k => hE _ _ _ _ q1 q2 k)
  have zS : ∀ {k : Int} {l h v : Nat}, n < l → h ≤ hi → Oz S k l h v → Oz S' k l h v := fun q1 q2 q => q.mono (Nat.le_refl _) (fun a v k => hS _ _ _ _ q1 q2 k)
  have zI : ∀ {k : Int} {l h v : Nat}, n < l → h ≤ hi → Oz (Si na S) k l h v → Oz (Si na' S') k l h v := fun q1 q2 q => q.mono (Nat.le_refl _) (fun a v k => ⟨k.1, by rw [(f.1 a (by have := k.1; omega) (by have := k.1; omega) (by have := k.1; omega)).1 14]; exact k.2.1, hS _ _ _ _ q1 q2 k.2.2⟩)
  have lS : ∀ {k : Int} {l v : Nat}, n < l → Lz na S k l hi v → Lz na' S' k l hi v := fun q1 q => q.fr (fun x a1 a2 => e21 x (by first | with_reducible rfl | with_reducible assumption | omega) a2) (fun a l h v a1 a2 a3 a4 k => hS _ _ _ _ (by first | with_reducible rfl | with_reducible assumption | omega) a2 k)
  refine ⟨h0, by rw [e15]; exact h1, ?_⟩
  rw [e14, e17, em 22, em 18, em 19, em 20]
  rcases h2 with g | ⟨g, wr, g1, g2⟩ | ⟨g, a, wa, g1, g2, g3⟩ | ⟨g, g0, wr, g1, g2⟩ | ⟨g, a, b, m1, m2, wa, wb, we, g1, g2, g0, g3, g4, g5, g6, g7⟩ | ⟨g, a, b, m1, wa, wb, g1, g2, g0, g3, g4, g5, g6⟩ | ⟨g, e, m1, m2, m3, wa, wb, wc, we, g0, g1, g2, g3, g4, g5, g6⟩ | ⟨g, a, m1, wa, wr, g1, g0, g2, g3, g4⟩ | ⟨g, a, wa, g1, g2, g3⟩ | g | g | ⟨g, wa, g1, g2⟩
  · exact Or.inl g
  · exact Or.inr (Or.inl ⟨g, wr, lS (by first | with_reducible rfl | with_reducible assumption | omega) g1, g2⟩)
  · exact Or.inr (Or.inr (Or.inl ⟨g, a, wa, g1, hE _ _ _ _ (by first | with_reducible rfl | with_reducible assumption | omega) (Nat.le_refl _) g2, g3⟩))
  · refine Or.inr (Or.inr (Or.inr (Or.inl ⟨g, g0, wr, ?_, g2⟩)))
    exact g1.fr e21 (fun a l h v a1 a2 a3 a4 k => k.fr (f.sub (by first | with_reducible rfl | with_reducible assumption | omega) a2 (by first | with_reducible rfl | with_reducible assumption | omega) ⟨a3, a4⟩) (fun a' l' h' v' b1 b2 k' => hE _ _ _ _ (by first | with_reducible rfl | with_reducible assumption | omega) (by first | with_reducible rfl | with_reducible assumption | omega) k'))
  · exact Or.inr (Or.inr (Or.inr (Or.inr (Or.inl ⟨g, a, b, m1, m2, wa, wb, we, g1, g2, g0, hE _ _ _ _ (by first | with_reducible rfl | with_reducible assumption | omega) (by first | with_reducible rfl | with_reducible assumption | omega) g3, hS _ _ _ _ (by first | with_reducible rfl | with_reducible assumption | omega) (by first | with_reducible rfl | with_reducible assumption | omega) g4, zS (by first | with_reducible rfl | with_reducible assumption | omega) (by first | with_reducible rfl | with_reducible assumption | omega) g5, g6, g7⟩))))
  · exact Or.inr (Or.inr (Or.inr (Or.inr (Or.inr (Or.inl ⟨g, a, b, m1, wa, wb, g1, g2, g0, hS _ _ _ _ (by first | with_reducible rfl | with_reducible assumption | omega) (by first | with_reducible rfl | with_reducible assumption | omega) g3, hE _ _ _ _ (by first | with_reducible rfl | with_reducible assumption | omega) (by first | with_reducible rfl | with_reducible assumption | omega) g4, g5, g6⟩)))))
  · exact Or.inr (Or.inr (Or.inr (Or.inr (Or.inr (Or.inr (Or.inl ⟨g, e, m1, m2, m3, wa, wb, wc, we, g0, zI (by first | with_reducible rfl | with_reducible assumption | omega) (by first | with_reducible rfl | with_reducible assumption | omega) g1, zE (by first | with_reducible rfl | with_reducible assumption | omega) (by first | with_reducible rfl | with_reducible assumption | omega) g2, zE (by first | with_reducible rfl | with_reducible assumption | omega) (by first | with_reducible rfl | with_reducible assumption | omega) g3, g4, hS _ _ _ _ (by first | with_reducible rfl | with_reducible assumption | omega) (by first | with_reducible rfl | with_reducible assumption | omega) g5, g6⟩))))))
  · exact Or.inr (Or.inr (Or.inr (Or.inr (Or.inr (Or.inr (Or.inr (Or.inl ⟨g, a, m1, wa, wr, g1, g0, hE _ _ _ _ (by first | with_reducible rfl | with_reducible assumption | omega) (by first | with_reducible rfl | with_reducible assumption | omega) g2, lS (by first | with_reducible rfl | with_reducible assumption | omega) g3, g4⟩)))))))
  · exact Or.inr (Or.inr (Or.inr (Or.inr (Or.inr (Or.inr (Or.inr (Or.inr (Or.inl ⟨g, a, wa, g1, hE _ _ _ _ (by first | with_reducible rfl | with_reducible assumption | omega) (Nat.le_refl _) g2, g3⟩))))))))
  · exact Or.inr (Or.inr (Or.inr (Or.inr (Or.inr (Or.inr (Or.inr (Or.inr (Or.inr (Or.inl g)))))))))
  · exact Or.inr (Or.inr (Or.inr (Or.inr (Or.inr (Or.inr (Or.inr (Or.inr (Or.inr (Or.inr (Or.inl g))))))))))
  · exact Or.inr (Or.inr (Or.inr (Or.inr (Or.inr (Or.inr (Or.inr (Or.inr (Or.inr (Or.inr (Or.inr ⟨g, wa, zE (by first | with_reducible rfl | with_reducible assumption | omega) (Nat.le_refl _) g1, g2⟩))))))))))
theorem StB.wid {E E' S S' : NP} {n lo lo' hi hi' w w' : Nat} (h : StB ta c na ma E S n lo hi w) (h2 : lo' ≤ lo) (h3 : hi ≤ hi') (h4 : w ≤ w') (hE : ∀ a l l' h h' v, l' ≤ l → h ≤ h' → E a l h v → E' a l' h' v) (hS : ∀ a l l' h h' v, l' ≤ l → h ≤ h' → S a l h v → S' a l' h' v) : StB ta c na ma E' S' n lo' hi' w' := by
  obtain ⟨q0, q1, q2⟩ := h
  have zE : ∀ {k : Int} {l h h' v : Nat}, h ≤ h' → Oz E k l h v → Oz E' k l h' v := fun hh q => q.mono (Nat.le_refl _) (fun a v k => hE _ _ _ _ _ _ (Nat.le_refl _) hh k)
  have zS : ∀ {k : Int} {l h h' v : Nat}, h ≤ h' → Oz S k l h v → Oz S' k l h' v := fun hh q => q.mono (Nat.le_refl _) (fun a v k => hS _ _ _ _ _ _ (Nat.le_refl _) hh k)
  have zI : ∀ {k : Int} {l h h' v : Nat}, h ≤ h' → Oz (Si na S) k l h v → Oz (Si na S') k l h' v := fun hh q => q.mono (Nat.le_refl _) (fun a v k => ⟨⟨k.1.1, by have := k.1; omega⟩, k.2.1, hS _ _ _ _ _ _ (Nat.le_refl _) hh k.2.2⟩)
  have lS : ∀ {k : Int} {l v : Nat}, Lz na S k l hi v → Lz na S' k l hi' v := fun q => q.wid (P' := S') (fun a l l' h v hl k => hS a l l' h h v hl (Nat.le_refl _) k) (Nat.le_refl _) h3 (Nat.le_refl _)
  refine ⟨by first | with_reducible rfl | with_reducible assumption | omega, q1, ?_⟩
  rcases q2 with g | ⟨g, wr, g1, g2⟩ | ⟨g, a, wa, g1, g2, g3⟩ | ⟨g, g0, wr, g1, g2⟩ | ⟨g, a, b, m1, m2, wa, wb, we, g1, g2, g0, g3, g4, g5, g6, g7⟩ | ⟨g, a, b, m1, wa, wb, g1, g2, g0, g3, g4, g5, g6⟩ | ⟨g, e, m1, m2, m3, wa, wb, wc, we, g0, g1, g2, g3, g4, g5, g6⟩ | ⟨g, a, m1, wa, wr, g1, g0, g2, g3, g4⟩ | ⟨g, a, wa, g1, g2, g3⟩ | g | g | ⟨g, wa, g1, g2⟩
  · exact Or.inl g
  · exact Or.inr (Or.inl ⟨g, wr, lS g1, by first | with_reducible rfl | with_reducible assumption | omega⟩)
  · exact Or.inr (Or.inr (Or.inl ⟨g, a, wa, g1, hE _ _ _ _ _ _ (Nat.le_refl _) h3 g2, by first | with_reducible rfl | with_reducible assumption | omega⟩))
  · refine Or.inr (Or.inr (Or.inr (Or.inl ⟨g, g0, wr, ?_, by first | with_reducible rfl | with_reducible assumption | omega⟩)))
    exact g1.wid (P' := VrB ta c na ma E') (fun a l l' h v hl k => VrB.wid k hl (Nat.le_refl _) (Nat.le_refl _) hE) (Nat.le_refl _) h3 (Nat.le_refl _)
  · exact Or.inr (Or.inr (Or.inr (Or.inr (Or.inl ⟨g, a, b, m1, m2, wa, wb, we, g1, g2, by first | with_reducible rfl | with_reducible assumption | omega, hE _ _ _ _ _ _ (Nat.le_refl _) (Nat.le_refl _) g3, hS _ _ _ _ _ _ (Nat.le_refl _) (Nat.le_refl _) g4, zS h3 g5, g6, by first | with_reducible rfl | with_reducible assumption | omega⟩))))
  · exact Or.inr (Or.inr (Or.inr (Or.inr (Or.inr (Or.inl ⟨g, a, b, m1, wa, wb, g1, g2, by first | with_reducible rfl | with_reducible assumption | omega, hS _ _ _ _ _ _ (Nat.le_refl _) (Nat.le_refl _) g3, hE _ _ _ _ _ _ (Nat.le_refl _) h3 g4, g5, by first | with_reducible rfl | with_reducible assumption | omega⟩)))))
  · exact Or.inr (Or.inr (Or.inr (Or.inr (Or.inr (Or.inr (Or.inl ⟨g, e, m1, m2, m3, wa, wb, wc, we, by first | with_reducible rfl | with_reducible assumption | omega, zI (Nat.le_refl _) g1, zE (Nat.le_refl _) g2, zE (Nat.le_refl _) g3, g4, hS _ _ _ _ _ _ (Nat.le_refl _) h3 g5, by first | with_reducible rfl | with_reducible assumption | omega⟩))))))
  · exact Or.inr (Or.inr (Or.inr (Or.inr (Or.inr (Or.inr (Or.inr (Or.inl ⟨g, a, m1, wa, wr, g1, by first | with_reducible rfl | with_reducible assumption | omega, hE _ _ _ _ _ _ (Nat.le_refl _) (Nat.le_refl _) g2, lS g3, by first | with_reducible rfl | with_reducible assumption | omega⟩)))))))
  · exact Or.inr (Or.inr (Or.inr (Or.inr (Or.inr (Or.inr (Or.inr (Or.inr (Or.inl ⟨g, a, wa, g1, hE _ _ _ _ _ _ (Nat.le_refl _) h3 g2, by first | with_reducible rfl | with_reducible assumption | omega⟩))))))))
  · exact Or.inr (Or.inr (Or.inr (Or.inr (Or.inr (Or.inr (Or.inr (Or.inr (Or.inr (Or.inl g)))))))))
  · exact Or.inr (Or.inr (Or.inr (Or.inr (Or.inr (Or.inr (Or.inr (Or.inr (Or.inr (Or.inr (Or.inl ⟨g.1, by first | with_reducible rfl | with_reducible assumption | omega⟩))))))))))
  · exact Or.inr (Or.inr (Or.inr (Or.inr (Or.inr (Or.inr (Or.inr (Or.inr (Or.inr (Or.inr (Or.inr ⟨g, wa, zE h3 g1, by first | with_reducible rfl | with_reducible assumption | omega⟩))))))))))
theorem St.rng {d n lo hi w : Nat} (h : St ta c na ma d n lo hi w) : lo ≤ n ∧ n < hi := by
  cases d with
  | zero => exact h.elim
  | succ d => exact h.1
theorem St.fr : ∀ {d n lo hi w : Nat}, St ta c na ma d n lo hi w → FrS na ma na' ma' lo hi n → St ta c na' ma' d n lo hi w
  | 0, _, _, _, _, h, _ => h.elim
  | d + 1, n, lo, hi, w, h, f => StB.fr h f (fun a l h' v q1 q2 q => q.fr (f.sub (by have := h.1; omega) q2 (Or.inl q1) q.rng)) (fun a l h' v q1 q2 q => St.fr q (f.sub (by have := h.1; omega) q2 (Or.inl q1) q.rng))
theorem St.wid : ∀ {d d' n lo lo' hi hi' w w' : Nat}, St ta c na ma d n lo hi w → d ≤ d' → lo' ≤ lo → hi ≤ hi' → w ≤ w' → St ta c na ma d' n lo' hi' w'
  | 0, _, _, _, _, _, _, _, _, h, _, _, _, _ => h.elim
  | d + 1, 0, _, _, _, _, _, _, _, _, hd, _, _, _ => absurd hd (by first | with_reducible rfl | with_reducible assumption | omega)
  | d + 1, d' + 1, n, lo, lo', hi, hi', w, w', h, hd, h2, h3, h4 => StB.wid h h2 h3 h4 (fun a l l' h h' v q1 q2 q => q.wid (by first | with_reducible rfl | with_reducible assumption | omega) q1 q2 (Nat.le_refl _)) (fun a l l' h h' v q1 q2 q => St.wid q (by first | with_reducible rfl | with_reducible assumption | omega) q1 q2 (Nat.le_refl _))
end SS
/-! FAMILIES of such trees, one and a row -/
abbrev FM := (Nat → Nat → Int32) → (Nat → Nat → Int32) → Nat → NP
abbrev FamOk (F : FM) : Prop := (∀ {na ma : Nat → Nat → Int32} {d n lo hi w : Nat}, F na ma d n lo hi w → lo ≤ n ∧ n < hi) ∧ (∀ {na ma na' ma' : Nat → Nat → Int32} {d n lo hi w : Nat}, F na ma d n lo hi w → FrS na ma na' ma' lo hi n → F na' ma' d n lo hi w) ∧ (∀ {na ma : Nat → Nat → Int32} {d d' n lo lo' hi hi' w w' : Nat}, F na ma d n lo hi w → d ≤ d' → lo' ≤ lo → hi ≤ hi' → w ≤ w' → F na ma d' n lo' hi' w')
theorem FamOk.rng {F : FM} (o : FamOk F) : ∀ {na ma : Nat → Nat → Int32} {d n lo hi w : Nat}, F na ma d n lo hi w → lo ≤ n ∧ n < hi := fun h => o.1 h
theorem FamOk.fr {F : FM} (o : FamOk F) : ∀ {na ma na' ma' : Nat → Nat → Int32} {d n lo hi w : Nat}, F na ma d n lo hi w → FrS na ma na' ma' lo hi n → F na' ma' d n lo hi w := fun h f => o.2.1 h f
theorem FamOk.wid {F : FM} (o : FamOk F) : ∀ {na ma : Nat → Nat → Int32} {d d' n lo lo' hi hi' w w' : Nat}, F na ma d n lo hi w → d ≤ d' → lo' ≤ lo → hi ≤ hi' → w ≤ w' → F na ma d' n lo' hi' w' := fun h a b c d => o.2.2 h a b c d
def VlV (F : FM) (na ma : Nat → Nat → Int32) (v : Int32) (lo hi W D : Int) : Prop := ∃ l h d w : Nat, lo ≤ (l : Int) ∧ (h : Int) ≤ hi ∧ 0 ≤ v.toInt ∧ F na ma d v.toNatClampNeg l h w ∧ (w : Int) ≤ W ∧ (d : Int) ≤ D ∧ (na 21 v.toNatClampNeg).toInt < 0
def RwV (F : FM) (na ma : Nat → Nat → Int32) (k x : Int32) (lo hi W D : Int) : Prop := ∃ l h d w m : Nat, lo ≤ (l : Int) ∧ (h : Int) ≤ hi ∧ Lq na (F na ma d) m k.toInt l h w x.toInt ∧ (w : Int) ≤ W ∧ (d : Int) ≤ D
/-- all in [lo, hi) is as it was -/
def AgI (lo hi : Int) (na ma na' ma' : Nat → Nat → Int32) : Prop := ∀ x : Nat, lo ≤ (x : Int) → (x : Int) < hi → (∀ k, na' k x = na k x) ∧ ∀ k, ma' k x = ma k x
theorem FrB.ag {b lo hi : Int} {na ma na' ma' : Nat → Nat → Int32} (h : FrB b na ma na' ma') (hb : hi ≤ b) : AgI lo hi na ma na' ma' := fun x _ h2 => h x (by first | with_reducible rfl | with_reducible assumption | omega)
theorem ag_n {lo hi : Int} {na ma na' : Nat → Nat → Int32} {k : Nat} {i v : Int32} (e : na' = va_up na k (upd (na k) i.toNatClampNeg v)) (h0 : 0 ≤ i.toInt) (h : i.toInt < lo ∨ hi ≤ i.toInt) : AgI lo hi na ma na' ma := fun x h1 h2 => by
  have := cl_nat h0
  subst e
  exact ⟨fun j => up_far (by first | with_reducible rfl | with_reducible assumption | omega), fun _ => rfl⟩
theorem ag_m {lo hi : Int} {na ma ma' : Nat → Nat → Int32} {k : Nat} {i v : Int32} (e : ma' = va_up ma k (upd (ma k) i.toNatClampNeg v)) (h0 : 0 ≤ i.toInt) (h : i.toInt < lo ∨ hi ≤ i.toInt) : AgI lo hi na ma na ma' := fun x h1 h2 => by
  have := cl_nat h0
  subst e
  exact ⟨fun _ => rfl, fun j => up_far (by first | with_reducible rfl | with_reducible assumption | omega)⟩
section FF
variable {F : FM} {na ma na' ma' : Nat → Nat → Int32} {lo hi W D : Int} {v k x : Int32}
theorem ag_frs {l h n : Nat} (a : AgI lo hi na ma na' ma') (h1 : lo ≤ (l : Int)) (h2 : (h : Int) ≤ hi) (hn : l ≤ n ∧ n < h) : FrS na ma na' ma' l h n :=
  ⟨fun x a1 a2 _ => a x (by first | with_reducible rfl | with_reducible assumption | omega) (by first | with_reducible rfl | with_reducible assumption | omega), fun k _ _ => (a n (by first | with_reducible rfl | with_reducible assumption | omega) (by first | with_reducible rfl | with_reducible assumption | omega)).1 k, (a n (by first | with_reducible rfl | with_reducible assumption | omega) (by first | with_reducible rfl | with_reducible assumption | omega)).2⟩
theorem VlV.num (h : VlV F na ma v lo hi W D) (o : FamOk F) : lo ≤ v.toInt ∧ v.toInt < hi ∧ 0 ≤ v.toInt ∧ 0 ≤ W := by
  obtain ⟨l, h, d, w, a1, a2, a3, a4, a5, -⟩ := h
  have := o.rng a4
  have := cl_nat a3
  omega
theorem VlV.ag (h : VlV F na ma v lo hi W D) (o : FamOk F) (a : AgI lo hi na ma na' ma') : VlV F na' ma' v lo hi W D := by
  obtain ⟨l, h, d, w, a1, a2, a3, a4, a5, a6, a7⟩ := h
  have r := o.rng a4
  exact ⟨l, h, d, w, a1, a2, a3, o.fr a4 (ag_frs a a1 a2 r), a5, a6, by rw [(a v.toNatClampNeg (by first | with_reducible rfl | with_reducible assumption | omega) (by first | with_reducible rfl | with_reducible assumption | omega)).1 21]; exact a7⟩
theorem VlV.le {lo' hi' W' D' : Int} (h : VlV F na ma v lo hi W D) (h1 : lo' ≤ lo) (h2 : hi ≤ hi') (h3 : W ≤ W') (h4 : D ≤ D') : VlV F na ma v lo' hi' W' D' := by
  obtain ⟨l, h, d, w, a1, a2, a3, a4, a5, a6, a7⟩ := h
  exact ⟨l, h, d, w, by first | with_reducible rfl | with_reducible assumption | omega, by first | with_reducible rfl | with_reducible assumption | omega, a3, a4, by first | with_reducible rfl | with_reducible assumption | omega, by first | with_reducible rfl | with_reducible assumption | omega, a7⟩
theorem RwV.le {lo' hi' W' D' : Int} (h : RwV F na ma k x lo hi W D) (h1 : lo' ≤ lo) (h2 : hi ≤ hi') (h3 : W ≤ W') (h4 : D ≤ D') : RwV F na ma k x lo' hi' W' D' := by
  obtain ⟨l, h, d, w, m, a1, a2, a3, a4, a5⟩ := h
  exact ⟨l, h, d, w, m, by first | with_reducible rfl | with_reducible assumption | omega, by first | with_reducible rfl | with_reducible assumption | omega, a3, by first | with_reducible rfl | with_reducible assumption | omega, by first | with_reducible rfl | with_reducible assumption | omega⟩
theorem Lq.first {P : NP} {m : Nat} {k : Int} {lo hi w : Nat} {last : Int} (h : Lq na P m k lo hi w last) : ∃ a : Nat, k = (a : Int) ∧ lo ≤ a ∧ a < hi := by
  cases m with
  | zero => exact h.elim
  | succ m =>
    obtain ⟨a, mid, wa, h1, h2, h3, -⟩ := h
    exact ⟨a, h1, h2.1, by first | with_reducible rfl | with_reducible assumption | omega⟩
theorem RwV.num (h : RwV F na ma k x lo hi W D) : lo ≤ k.toInt ∧ k.toInt < hi ∧ lo ≤ x.toInt ∧ x.toInt < hi ∧ 0 ≤ x.toInt ∧ 0 ≤ k.toInt ∧ 0 ≤ W := by
  obtain ⟨l, h, d, w, m, a1, a2, a3, a4, a5⟩ := h
  obtain ⟨a, e1, e2, e3⟩ := a3.first
  obtain ⟨b, f1, f2, f3, f4⟩ := a3.last
  omega
theorem RwV.ag (h : RwV F na ma k x lo hi W D) (o : FamOk F) (a : AgI lo hi na ma na' ma') : RwV F na' ma' k x lo hi W D := by
  obtain ⟨l, h, d, w, m, a1, a2, a3, a4, a5⟩ := h
  exact ⟨l, h, d, w, m, a1, a2, a3.fr (fun y b1 b2 => (a y (by first | with_reducible rfl | with_reducible assumption | omega) (by first | with_reducible rfl | with_reducible assumption | omega)).1 21) (fun y l' h' v' b1 b2 b3 b4 q => o.fr q (ag_frs a (by first | with_reducible rfl | with_reducible assumption | omega) (by first | with_reducible rfl | with_reducible assumption | omega) ⟨b3, b4⟩)), a4, a5⟩
theorem row_0 (h : VlV F na ma v lo hi W D) (o : FamOk F) : RwV F na ma v v lo hi W D := by
  obtain ⟨l, h, d, w, a1, a2, a3, a4, a5, a6, a7⟩ := h
  have r := o.rng a4
  have c := cl_nat a3
  exact ⟨l, h, d, w, 1, a1, a2, ⟨v.toNatClampNeg, h, w, by first | with_reducible rfl | with_reducible assumption | omega, r, Nat.le_refl _, a4, Or.inl ⟨a7, by first | with_reducible rfl | with_reducible assumption | omega, Nat.le_refl _⟩⟩, a5, a6⟩
/-- one more behind the last -/
theorem row_s {hi' W' : Int} {e : Int32} (h : RwV F na ma k x lo hi W D) (q : VlV F na ma e hi hi' W' D) (o : FamOk F) (h0 : 0 ≤ lo) (u : na' = va_up na 21 (upd (na 21) x.toNatClampNeg e)) : RwV F na' ma k e lo hi' (W + W') D := by
  have nx := h.num
  obtain ⟨l, hh, d, w, m, a1, a2, a3, a4, a5⟩ := h
  obtain ⟨l2, h2, d2, w2, b1, b2, b3, b4, b5, b6, b7⟩ := q
  have r := o.rng b4
  have c := cl_nat b3
  first | have cx := cl_nat (x := x) (nx.2.2.2.2.1) | (have cx := cl_nat (x := x) (by first | exact nx.2.2.2.2.1 | omega))
  obtain ⟨b', f1, f2, f3, f4⟩ := a3.last
  have eb : b' = x.toNatClampNeg := by omega
  subst eb
  have far : ∀ y : Nat, y ≠ x.toNatClampNeg → (∀ j, na' j y = na j y) ∧ ∀ j, ma j y = ma j y := fun y hy => ⟨fun j => by rw [u, up_far hy], fun _ => rfl⟩
  have atx : ∀ j, j ≠ 21 → na' j x.toNatClampNeg = na j x.toNatClampNeg := fun j hj => by rw [u, va_up_n hj]
  have frs : ∀ {y l' h' : Nat}, (l' ≤ y ∧ y < h') → (y = x.toNatClampNeg ∨ h' ≤ x.toNatClampNeg ∨ x.toNatClampNeg < l') → FrS na ma na' ma l' h' y := fun {y l' h'} g1 g2 => by
    refine ⟨fun z c1 c2 c3 => far z (by first | with_reducible rfl | with_reducible assumption | omega), fun j j1 _ => ?_, fun _ => rfl⟩
    by_cases ey : y = x.toNatClampNeg
    · rw [ey]; exact atx j j1
    · exact (far y ey).1 j
  refine ⟨l, h2, max d d2, w + w2, m + 1, a1, b2, ?_, by first | with_reducible rfl | with_reducible assumption | omega, by first | with_reducible rfl | with_reducible assumption | omega⟩
  have e2 : e.toInt = (e.toNatClampNeg : Int) := by omega
  rw [e2]
  refine a3.app (b := x.toNatClampNeg) (by first | with_reducible rfl | with_reducible assumption | omega) (fun l' hl' => o.wid (o.fr b4 (frs r (by first | with_reducible rfl | with_reducible assumption | omega))) (by first | with_reducible rfl | with_reducible assumption | omega) (by first | with_reducible rfl | with_reducible assumption | omega) (Nat.le_refl _) (Nat.le_refl _)) (by first | with_reducible rfl | with_reducible assumption | omega) r.2 ?_ ?_ (fun z c1 c2 c3 _ _ _ _ => (far z c3).1 21) (fun y l' h' v' c1 c2 c3 c4 c5 qq => o.wid (o.fr qq (frs ⟨c3, c4⟩ (by first | with_reducible rfl | with_reducible assumption | omega))) (by first | with_reducible rfl | with_reducible assumption | omega) (Nat.le_refl _) (Nat.le_refl _) (Nat.le_refl _))
  · rw [(far e.toNatClampNeg (by first | with_reducible rfl | with_reducible assumption | omega)).1 21]; exact b7
  · rw [u, va_up_s, pk_us]; omega
end FF
/-! the families -/
def FE (ta : Nat → Nat → Int32) (c : Int) : FM := fun na ma d => Er ta c na ma d
def FS (ta : Nat → Nat → Int32) (c : Int) : FM := fun na ma d => St ta c na ma d
def FI (ta : Nat → Nat → Int32) (c : Int) : FM := fun na ma d => Si na (St ta c na ma d)
def FV (ta : Nat → Nat → Int32) (c : Int) : FM := fun na ma d => VrB ta c na ma (Er ta c na ma d)
def FC (ta : Nat → Nat → Int32) (c : Int) : FM := fun na ma d => Py (Er ta c na ma d) 3
theorem fe_ok {ta : Nat → Nat → Int32} {c : Int} : FamOk (FE ta c) := ⟨fun h => h.rng, fun h f => h.fr f, fun h a b c d => h.wid a b c d⟩
theorem fs_ok {ta : Nat → Nat → Int32} {c : Int} : FamOk (FS ta c) := ⟨fun h => h.rng, fun h f => h.fr f, fun h a b c d => h.wid a b c d⟩
theorem fi_ok {ta : Nat → Nat → Int32} {c : Int} : FamOk (FI ta c) := ⟨fun h => h.1, fun h f => ⟨h.1, by rw [f.2.1 14 (by decide) (by decide)]; exact h.2.1, h.2.2.fr f⟩, fun h a b c d => ⟨by have := h.1; omega, h.2.1, h.2.2.wid a b c d⟩⟩
theorem fv_ok {ta : Nat → Nat → Int32} {c : Int} : FamOk (FV ta c) := ⟨fun h => h.1, fun h f => VrB.fr h f (fun a l h' v q1 q2 q => q.fr (f.sub (by have := h.1; omega) q2 (Or.inl q1) q.rng)), fun h a b c d => VrB.wid h b c d (fun x l l' h h' v q1 q2 q => q.wid a q1 q2 (Nat.le_refl _))⟩
theorem fc_ok {ta : Nat → Nat → Int32} {c : Int} : FamOk (FC ta c) := ⟨fun h => by obtain ⟨v, q, -⟩ := h; exact q.rng, fun h f => by obtain ⟨v, q, k⟩ := h; exact ⟨v, q.fr f, k⟩, fun h a b c d => by obtain ⟨v, q, k⟩ := h; exact ⟨v, q.wid a b c (Nat.le_refl _), by first | with_reducible rfl | with_reducible assumption | omega⟩⟩
theorem fb_n {b : Int} {na ma na' ma' : Nat → Nat → Int32} (f : FrB b na ma na' ma') {x : Int32} {k : Nat} (h1 : x.toInt < b) (h0 : 0 ≤ x.toInt) : na' k x.toNatClampNeg = na k x.toNatClampNeg := (f _ (by have := cl_nat h0; omega)).1 k
theorem fb_m {b : Int} {na ma na' ma' : Nat → Nat → Int32} (f : FrB b na ma na' ma') {x : Int32} {k : Nat} (h1 : x.toInt < b) (h0 : 0 ≤ x.toInt) : ma' k x.toNatClampNeg = ma k x.toNatClampNeg := (f _ (by have := cl_nat h0; omega)).2 k
def FlN (na : Nat → Nat → Int32) (k : Nat) (n v : Int32) : Prop := na k n.toNatClampNeg = v
abbrev VlE (ta : Nat → Nat → Int32) (c : Int) := VlV (FE ta c)
abbrev VlS (ta : Nat → Nat → Int32) (c : Int) := VlV (FS ta c)
abbrev VlR (ta : Nat → Nat → Int32) (c : Int) := VlV (FV ta c)
abbrev VlC (ta : Nat → Nat → Int32) (c : Int) := VlV (FC ta c)
abbrev RwR (ta : Nat → Nat → Int32) (c : Int) := RwV (FV ta c)
abbrev RwC (ta : Nat → Nat → Int32) (c : Int) := RwV (FC ta c)
/-- a row that may be empty, with its last one -/
def RzV (F : FM) (na ma : Nat → Nat → Int32) (k x : Int32) (lo hi W D : Int) : Prop := (k.toInt < 0 ∧ x.toInt < 0 ∧ 0 ≤ W) ∨ RwV F na ma k x lo hi W D
abbrev RzS (ta : Nat → Nat → Int32) (c : Int) := RzV (FS ta c)
/-- a row, its last one forgotten -/
def RlV (F : FM) (na ma : Nat → Nat → Int32) (k : Int32) (lo hi W D : Int) : Prop := ∃ x : Int32, RwV F na ma k x lo hi W D
abbrev RlR (ta : Nat → Nat → Int32) (c : Int) := RlV (FV ta c)
def OzV (F : FM) (na ma : Nat → Nat → Int32) (k : Int32) (lo hi W D : Int) : Prop := 0 ≤ W ∧ (k.toInt < 0 ∨ VlV F na ma k lo hi W D)
section RZ
variable {F : FM} {na ma na' ma' : Nat → Nat → Int32} {lo hi W D : Int} {k x : Int32}
theorem RzV.ag (h : RzV F na ma k x lo hi W D) (o : FamOk F) (a : AgI lo hi na ma na' ma') : RzV F na' ma' k x lo hi W D := h.elim Or.inl (fun h => Or.inr (h.ag o a))
theorem RzV.le {lo' hi' W' D' : Int} (h : RzV F na ma k x lo hi W D) (h1 : lo' ≤ lo) (h2 : hi ≤ hi') (h3 : W ≤ W') (h4 : D ≤ D') : RzV F na ma k x lo' hi' W' D' := h.elim (fun h => Or.inl ⟨h.1, h.2.1, by have := h.2.2; omega⟩) (fun h => Or.inr (h.le h1 h2 h3 h4))
theorem RlV.ag (h : RlV F na ma k lo hi W D) (o : FamOk F) (a : AgI lo hi na ma na' ma') : RlV F na' ma' k lo hi W D := by
  obtain ⟨x, h⟩ := h
  exact ⟨x, h.ag o a⟩
theorem RlV.le {lo' hi' W' D' : Int} (h : RlV F na ma k lo hi W D) (h1 : lo' ≤ lo) (h2 : hi ≤ hi') (h3 : W ≤ W') (h4 : D ≤ D') : RlV F na ma k lo' hi' W' D' := by
  obtain ⟨x, h⟩ := h
  exact ⟨x, h.le h1 h2 h3 h4⟩
theorem RlV.num (h : RlV F na ma k lo hi W D) : lo ≤ k.toInt ∧ k.toInt < hi ∧ 0 ≤ W := by
  obtain ⟨x, h⟩ := h
  have := h.num
  omega
theorem VlV.at (h : VlV F na ma k lo hi W D) (o : FamOk F) {l h' : Nat} (hl : (l : Int) ≤ lo) (hh : hi ≤ (h' : Int)) : ∃ w : Nat, (w : Int) ≤ W ∧ F na ma D.toNat k.toNatClampNeg l h' w ∧ k.toInt = (k.toNatClampNeg : Int) := by
  obtain ⟨l1, h1, d, w, a1, a2, a3, a4, a5, a6, a7⟩ := h
  have := cl_nat a3
  exact ⟨w, a5, o.wid a4 (by first | with_reducible rfl | with_reducible assumption | omega) (by first | with_reducible rfl | with_reducible assumption | omega) (by first | with_reducible rfl | with_reducible assumption | omega) (Nat.le_refl _), by first | with_reducible rfl | with_reducible assumption | omega⟩
theorem OzV.at (h : OzV F na ma k lo hi W D) (o : FamOk F) {l h' : Nat} (hl : (l : Int) ≤ lo) (hh : hi ≤ (h' : Int)) : ∃ w : Nat, (w : Int) ≤ W ∧ Oz (F na ma D.toNat) k.toInt l h' w := by
  obtain ⟨h0, h | h⟩ := h
  · exact ⟨0, by first | with_reducible rfl | with_reducible assumption | omega, Or.inl h⟩
  · obtain ⟨w, a1, a2, a3⟩ := h.at o hl hh
    exact ⟨w, a1, Or.inr ⟨_, w, a3, a2, Nat.le_refl _⟩⟩
theorem RwV.at (h : RwV F na ma k x lo hi W D) (o : FamOk F) {l h' : Nat} (hl : (l : Int) ≤ lo) (hh : hi ≤ (h' : Int)) : ∃ w m : Nat, (w : Int) ≤ W ∧ Lq na (F na ma D.toNat) m k.toInt l h' w x.toInt := by
  obtain ⟨l1, h1, d, w, m, a1, a2, a3, a4, a5⟩ := h
  have hd : d ≤ D.toNat := by omega
  have hl1 : l ≤ l1 := by omega
  have hh1 : h1 ≤ h' := by omega
  exact ⟨w, m, a4, a3.wid (P' := F na ma D.toNat) (fun a l l' h v hl q => o.wid q hd hl (Nat.le_refl _) (Nat.le_refl _)) (Nat.le_refl _) hl1 hh1 (Nat.le_refl _)⟩
theorem RlV.at (h : RlV F na ma k lo hi W D) (o : FamOk F) {l h' : Nat} (hl : (l : Int) ≤ lo) (hh : hi ≤ (h' : Int)) : ∃ w : Nat, (w : Int) ≤ W ∧ Lz na (F na ma D.toNat) k.toInt l h' w := by
  obtain ⟨x, h⟩ := h
  obtain ⟨w, m, a1, a2⟩ := h.at o hl hh
  exact ⟨w, a1, Or.inr ⟨m, _, a2⟩⟩
theorem RzV.at (h : RzV F na ma k x lo hi W D) (o : FamOk F) {l h' : Nat} (hl : (l : Int) ≤ lo) (hh : hi ≤ (h' : Int)) : ∃ w : Nat, (w : Int) ≤ W ∧ Lz na (F na ma D.toNat) k.toInt l h' w := by
  rcases h with h | h
  · exact ⟨0, by first | with_reducible rfl | with_reducible assumption | omega, Or.inl h.1⟩
  · exact RlV.at ⟨x, h⟩ o hl hh
end RZ
theorem exr_vl {ta : Nat → Nat → Int32} {c : Int} {na ma : Nat → Nat → Int32} {v : Int32} {lo hi W o : Int} (h : ExR ta c na ma v lo hi W o) (ho : 0 ≤ o) : VlE ta c na ma v lo hi W 122 := by
  obtain ⟨⟨l, hh, d, w, a1, a2, a3, a4, a5, a6⟩, q1, q2, q3, q4⟩ := h
  exact ⟨l, hh, d, w, a1, a2, a3, ⟨a4, q4⟩, a5, by first | with_reducible rfl | with_reducible assumption | omega, q3⟩
theorem vl_c {ta : Nat → Nat → Int32} {c : Int} {na ma : Nat → Nat → Int32} {v : Int32} {lo hi W D : Int} (h : VlE ta c na ma v lo hi W D) : VlC ta c na ma v lo hi (W + 3) D := by
  obtain ⟨l, hh, d, w, a1, a2, a3, a4, a5, a6, a7⟩ := h
  exact ⟨l, hh, d, w + 3, a1, a2, a3, ⟨w, a4, Nat.le_refl _⟩, by first | with_reducible rfl | with_reducible assumption | omega, a6, a7⟩
theorem ExR.ag {ta : Nat → Nat → Int32} {c : Int} {na ma na' ma' : Nat → Nat → Int32} {v : Int32} {lo hi W o : Int} (h : ExR ta c na ma v lo hi W o) (a : AgI lo hi na ma na' ma') (h0 : 0 ≤ lo) : ExR ta c na' ma' v lo hi W o ∧ dp na' v = dp na v := by
  have r := h.num
  first | have hc := cl_nat (x := v) ((oz_016f458179 hc)) | (have hc := cl_nat (x := v) (by first | exact oz_016f458179 hc | omega))
  obtain ⟨q1, q2⟩ := a v.toNatClampNeg (by first | with_reducible rfl | with_reducible assumption | omega) (by first | with_reducible rfl | with_reducible assumption | omega)
  have e : dp na' v = dp na v := by unfold dp; rw [q1 23]
  refine ⟨?_, e⟩
  obtain ⟨⟨l, hh, d, w, a1, a2, a3, a4, a5, a6⟩, b1, b2, b3, b4⟩ := h
  refine ⟨⟨l, hh, d, w, a1, a2, a3, a4.fr (FrS.e (ag_frs a a1 a2 a4.rng)), a5, by first | with_reducible rfl | with_reducible assumption | omega⟩, by first | with_reducible rfl | with_reducible assumption | omega, by first | with_reducible rfl | with_reducible assumption | omega, by rw [q1 21]; exact b3, by rw [q2 20]; exact b4⟩
/-! a statement out of its parts -/
section NB
variable {ta : Nat → Nat → Int32} {c : Int} {na ma : Nat → Nat → Int32} {n t : Int32} {hi D : Int}
def NdF (c : Int) (na : Nat → Nat → Int32) (n k t : Int32) : Prop := 0 ≤ n.toInt ∧ na 14 n.toNatClampNeg = k ∧ na 15 n.toNatClampNeg = t ∧ (0 ≤ t.toInt ∧ t.toInt < c) ∧ na 21 n.toNatClampNeg = -1
theorem vl_st {W : Int} {w d : Nat} {k : Int32} (g : NdF c na n k t) (hn : n.toInt + 1 ≤ hi) (hw : (w : Int) ≤ W) (hd : (d : Int) ≤ D)
    (h : ∀ hh : Nat, (hh : Int) = hi → StB ta c na ma (Er ta c na ma d) (St ta c na ma d) n.toNatClampNeg n.toNatClampNeg hh w) : VlS ta c na ma n n.toInt hi W (D + 1) := by
  have hc := cl_nat g.1
  exact ⟨n.toNatClampNeg, hi.toNat, d + 1, w, by first | with_reducible rfl | with_reducible assumption | omega, by first | with_reducible rfl | with_reducible assumption | omega, g.1, h hi.toNat (by first | with_reducible rfl | with_reducible assumption | omega), hw, by first | with_reducible rfl | with_reducible assumption | omega, by rw [g.2.2.2.2]; decide⟩
theorem ndf_t {k : Int32} (g : NdF c na n k t) : 0 ≤ (na 15 n.toNatClampNeg).toInt ∧ (na 15 n.toNatClampNeg).toInt < c := by rw [g.2.2.1]; exact g.2.2.2.1
theorem ndf_k {k : Int32} (g : NdF c na n k t) {z : Int} (h : k.toInt = z) : (na 14 n.toNatClampNeg).toInt = z := by rw [g.2.1]; exact h
theorem st_empty (g : NdF c na n 21 t) (hn : n.toInt + 1 ≤ hi) (hD : 0 ≤ D) : VlS ta c na ma n n.toInt hi 0 (D + 1) :=
  vl_st (w := 0) (d := 0) g hn (by first | with_reducible rfl | with_reducible assumption | omega) (by first | with_reducible rfl | with_reducible assumption | omega) (fun hh e => ⟨by have := cl_nat g.1; omega, ndf_t g, Or.inl (ndf_k g rfl)⟩)
theorem st_block {x : Int32} {W : Int} (g : NdF c na n 20 t) (hn : n.toInt + 1 ≤ hi) (hD : 0 ≤ D) (h : RzS ta c na ma (na 17 n.toNatClampNeg) x (n.toInt + 1) hi W D) : VlS ta c na ma n n.toInt hi W (D + 1) := by
  have hc := cl_nat g.1
  obtain ⟨w, a1, a2⟩ := h.at fs_ok (l := n.toNatClampNeg + 1) (h' := hi.toNat) (by first | with_reducible rfl | with_reducible assumption | omega) (by first | with_reducible rfl | with_reducible assumption | omega)
  exact vl_st (w := w) (d := D.toNat) g hn a1 (by first | with_reducible rfl | with_reducible assumption | omega) (fun hh e => ⟨by first | with_reducible rfl | with_reducible assumption | omega, ndf_t g, Or.inr (Or.inl ⟨ndf_k g rfl, w, by rw [show hh = hi.toNat by omega]; exact a2, Nat.le_refl _⟩)⟩)
theorem st_expr {a : Int32} {lo W : Int} (g : NdF c na n 22 t) (e17 : na 17 n.toNatClampNeg = a) (hD : 0 ≤ D) (h : VlE ta c na ma a lo hi W D) (hl : n.toInt + 1 ≤ lo) : VlS ta c na ma n n.toInt hi (W + 1) (D + 1) := by
  have hc := cl_nat g.1
  have r := h.num fe_ok
  obtain ⟨w, a1, a2, a3⟩ := h.at fe_ok (l := n.toNatClampNeg + 1) (h' := hi.toNat) (by first | with_reducible rfl | with_reducible assumption | omega) (by first | with_reducible rfl | with_reducible assumption | omega)
  exact vl_st (w := w + 1) (d := D.toNat) g (by first | with_reducible rfl | with_reducible assumption | omega) (by first | with_reducible rfl | with_reducible assumption | omega) (by first | with_reducible rfl | with_reducible assumption | omega) (fun hh e => ⟨by first | with_reducible rfl | with_reducible assumption | omega, ndf_t g, Or.inr (Or.inr (Or.inl ⟨ndf_k g rfl, a.toNatClampNeg, w, by rw [e17]; exact a3, by rw [show hh = hi.toNat by omega]; exact a2, Nat.le_refl _⟩))⟩)
theorem st_decl {a y : Int32} {lo W : Int} (g : NdF c na n 23 t) (e17 : na 17 n.toNatClampNeg = a) (e22 : ma 22 n.toNatClampNeg = y) (hy : y.toInt = 0 ∨ y.toInt = 1) (hD : 0 ≤ D) (h : RlR ta c na ma a lo hi W D) (hl : n.toInt + 1 ≤ lo) : VlS ta c na ma n n.toInt hi W (D + 1) := by
  have hc := cl_nat g.1
  have r := h.num
  obtain ⟨w, a1, a2⟩ := h.at fv_ok (l := n.toNatClampNeg + 1) (h' := hi.toNat) (by first | with_reducible rfl | with_reducible assumption | omega) (by first | with_reducible rfl | with_reducible assumption | omega)
  exact vl_st (w := w) (d := D.toNat) g (by first | with_reducible rfl | with_reducible assumption | omega) (by first | with_reducible rfl | with_reducible assumption | omega) (by first | with_reducible rfl | with_reducible assumption | omega) (fun hh e => ⟨by first | with_reducible rfl | with_reducible assumption | omega, ndf_t g, Or.inr (Or.inr (Or.inr (Or.inl ⟨ndf_k g rfl, by rw [e22]; exact hy, w, by rw [e17, show hh = hi.toNat by omega]; exact a2, Nat.le_refl _⟩)))⟩)
theorem st_if {k a b e : Int32} {l1 h1 l2 h2 l3 Wa Wb We : Int} (g : NdF c na n k t) (hk : k.toInt = 24 ∨ k.toInt = 25) (e17 : na 17 n.toNatClampNeg = a) (e18 : ma 18 n.toNatClampNeg = b) (e19 : ma 19 n.toNatClampNeg = e) (hD : 0 ≤ D) (q1 : VlE ta c na ma a l1 h1 Wa D) (q2 : VlS ta c na ma b l2 h2 Wb D) (q3 : OzV (FS ta c) na ma e l3 hi We D) (h4 : k.toInt ≠ 24 → e.toInt < 0) (i1 : n.toInt + 1 ≤ l1) (i2 : h1 ≤ l2) (i3 : h2 ≤ l3) (i4 : h2 ≤ hi) : VlS ta c na ma n n.toInt hi (Wa + Wb + We + 4) (D + 1) := by
  have hc := cl_nat g.1
  have r := q1.num fe_ok
  have r2 := q2.num fs_ok
  obtain ⟨wa, a1, a2, a3⟩ := q1.at fe_ok (l := n.toNatClampNeg + 1) (h' := h1.toNat) (by first | with_reducible rfl | with_reducible assumption | omega) (by first | with_reducible rfl | with_reducible assumption | omega)
  obtain ⟨wb, b1, b2, b3⟩ := q2.at fs_ok (l := h1.toNat) (h' := h2.toNat) (by first | with_reducible rfl | with_reducible assumption | omega) (by first | with_reducible rfl | with_reducible assumption | omega)
  obtain ⟨we, c1, c2⟩ := q3.at fs_ok (l := h2.toNat) (h' := hi.toNat) (by first | with_reducible rfl | with_reducible assumption | omega) (by first | with_reducible rfl | with_reducible assumption | omega)
  exact vl_st (w := wa + wb + we + 4) (d := D.toNat) g (by first | with_reducible rfl | with_reducible assumption | omega) (by first | with_reducible rfl | with_reducible assumption | omega) (by first | with_reducible rfl | with_reducible assumption | omega) (fun hh e0 => by
    have ee : hh = hi.toNat := by omega
    subst ee
    exact ⟨by first | with_reducible rfl | with_reducible assumption | omega, ndf_t g, Or.inr (Or.inr (Or.inr (Or.inr (Or.inl ⟨by rw [g.2.1]; exact hk, a.toNatClampNeg, b.toNatClampNeg, h1.toNat, h2.toNat, wa, wb, we, by rw [e17]; exact a3, by rw [e18]; exact b3, by first | with_reducible rfl | with_reducible assumption | omega, a2, b2, by rw [e19]; exact c2, by rw [g.2.1, e19]; exact h4, Nat.le_refl _⟩))))⟩)
theorem st_do {a b : Int32} {l1 h1 l2 Wa Wb : Int} (g : NdF c na n 26 t) (e17 : na 17 n.toNatClampNeg = a) (e18 : ma 18 n.toNatClampNeg = b) (e19 : ma 19 n.toNatClampNeg = -1) (hD : 0 ≤ D) (q2 : VlS ta c na ma b l1 h1 Wb D) (q1 : VlE ta c na ma a l2 hi Wa D) (i1 : n.toInt + 1 ≤ l1) (i2 : h1 ≤ l2) : VlS ta c na ma n n.toInt hi (Wa + Wb + 4) (D + 1) := by
  have hc := cl_nat g.1
  have r := q1.num fe_ok
  have r2 := q2.num fs_ok
  obtain ⟨wa, a1, a2, a3⟩ := q1.at fe_ok (l := h1.toNat) (h' := hi.toNat) (by first | with_reducible rfl | with_reducible assumption | omega) (by first | with_reducible rfl | with_reducible assumption | omega)
  obtain ⟨wb, b1, b2, b3⟩ := q2.at fs_ok (l := n.toNatClampNeg + 1) (h' := h1.toNat) (by first | with_reducible rfl | with_reducible assumption | omega) (by first | with_reducible rfl | with_reducible assumption | omega)
  exact vl_st (w := wa + wb + 4) (d := D.toNat) g (by first | with_reducible rfl | with_reducible assumption | omega) (by first | with_reducible rfl | with_reducible assumption | omega) (by first | with_reducible rfl | with_reducible assumption | omega) (fun hh e0 => by
    have ee : hh = hi.toNat := by omega
    subst ee
    exact ⟨by first | with_reducible rfl | with_reducible assumption | omega, ndf_t g, Or.inr (Or.inr (Or.inr (Or.inr (Or.inr (Or.inl ⟨ndf_k g rfl, a.toNatClampNeg, b.toNatClampNeg, h1.toNat, wa, wb, by rw [e17]; exact a3, by rw [e18]; exact b3, by first | with_reducible rfl | with_reducible assumption | omega, b2, a2, by rw [e19]; decide, Nat.le_refl _⟩)))))⟩)
theorem st_for {a b d' e : Int32} {m1 m2 m3 Wa Wb Wc We : Int} (g : NdF c na n 27 t) (e17 : na 17 n.toNatClampNeg = a) (e18 : ma 18 n.toNatClampNeg = b) (e19 : ma 19 n.toNatClampNeg = d') (e20 : ma 20 n.toNatClampNeg = e) (hD : 0 ≤ D) (q1 : OzV (FI ta c) na ma a (n.toInt + 1) m1 Wa D) (q2 : OzV (FE ta c) na ma b m1 m2 Wb D) (q3 : OzV (FE ta c) na ma d' m2 m3 Wc D) (q4 : VlS ta c na ma e m3 hi We D) (i1 : n.toInt + 1 ≤ m1) (i2 : m1 ≤ m2) (i3 : m2 ≤ m3) : VlS ta c na ma n n.toInt hi (Wa + Wb + Wc + We + 5) (D + 1) := by
  have hc := cl_nat g.1
  have r := q4.num fs_ok
  obtain ⟨wa, a1, a2⟩ := q1.at fi_ok (l := n.toNatClampNeg + 1) (h' := m1.toNat) (by first | with_reducible rfl | with_reducible assumption | omega) (by first | with_reducible rfl | with_reducible assumption | omega)
  obtain ⟨wb, b1, b2⟩ := q2.at fe_ok (l := m1.toNat) (h' := m2.toNat) (by first | with_reducible rfl | with_reducible assumption | omega) (by first | with_reducible rfl | with_reducible assumption | omega)
  obtain ⟨wc, c1, c2⟩ := q3.at fe_ok (l := m2.toNat) (h' := m3.toNat) (by first | with_reducible rfl | with_reducible assumption | omega) (by first | with_reducible rfl | with_reducible assumption | omega)
  obtain ⟨we, d1, d2, d3⟩ := q4.at fs_ok (l := m3.toNat) (h' := hi.toNat) (by first | with_reducible rfl | with_reducible assumption | omega) (by first | with_reducible rfl | with_reducible assumption | omega)
  exact vl_st (w := wa + wb + wc + we + 5) (d := D.toNat) g (by first | with_reducible rfl | with_reducible assumption | omega) (by first | with_reducible rfl | with_reducible assumption | omega) (by first | with_reducible rfl | with_reducible assumption | omega) (fun hh e0 => by
    have ee : hh = hi.toNat := by omega
    subst ee
    exact ⟨by first | with_reducible rfl | with_reducible assumption | omega, ndf_t g, Or.inr (Or.inr (Or.inr (Or.inr (Or.inr (Or.inr (Or.inl ⟨ndf_k g rfl, e.toNatClampNeg, m1.toNat, m2.toNat, m3.toNat, wa, wb, wc, we, by first | with_reducible rfl | with_reducible assumption | omega, by rw [e17]; exact a2, by rw [e18]; exact b2, by rw [e19]; exact c2, by rw [e20]; exact d3, d2, Nat.le_refl _⟩))))))⟩)
theorem st_switch {a x : Int32} {l1 m1 l2 W Wr : Int} (g : NdF c na n 28 t) (e17 : na 17 n.toNatClampNeg = a) (hD : 0 ≤ D) (h : VlE ta c na ma a l1 m1 W D) (h2 : RzS ta c na ma (ma 18 n.toNatClampNeg) x l2 hi Wr D) (i1 : n.toInt + 1 ≤ l1) (i2 : m1 ≤ l2) (i3 : m1 ≤ hi) : VlS ta c na ma n n.toInt hi (W + Wr + 2) (D + 1) := by
  have hc := cl_nat g.1
  have r := h.num fe_ok
  obtain ⟨w, a1, a2, a3⟩ := h.at fe_ok (l := n.toNatClampNeg + 1) (h' := m1.toNat) (by first | with_reducible rfl | with_reducible assumption | omega) (by first | with_reducible rfl | with_reducible assumption | omega)
  obtain ⟨wr, b1, b2⟩ := h2.at fs_ok (l := m1.toNat) (h' := hi.toNat) (by first | with_reducible rfl | with_reducible assumption | omega) (by first | with_reducible rfl | with_reducible assumption | omega)
  exact vl_st (w := w + wr + 2) (d := D.toNat) g (by first | with_reducible rfl | with_reducible assumption | omega) (by first | with_reducible rfl | with_reducible assumption | omega) (by first | with_reducible rfl | with_reducible assumption | omega) (fun hh e => by
    have ee : hh = hi.toNat := by omega
    subst ee
    exact ⟨by first | with_reducible rfl | with_reducible assumption | omega, ndf_t g, Or.inr (Or.inr (Or.inr (Or.inr (Or.inr (Or.inr (Or.inr (Or.inl ⟨ndf_k g rfl, a.toNatClampNeg, m1.toNat, w, wr, by rw [e17]; exact a3, by first | with_reducible rfl | with_reducible assumption | omega, a2, b2, Nat.le_refl _⟩)))))))⟩)
theorem st_case {a : Int32} {lo W : Int} (g : NdF c na n 29 t) (e17 : na 17 n.toNatClampNeg = a) (hD : 0 ≤ D) (h : VlE ta c na ma a lo hi W D) (hl : n.toInt + 1 ≤ lo) : VlS ta c na ma n n.toInt hi (W + 1) (D + 1) := by
  have hc := cl_nat g.1
  have r := h.num fe_ok
  obtain ⟨w, a1, a2, a3⟩ := h.at fe_ok (l := n.toNatClampNeg + 1) (h' := hi.toNat) (by first | with_reducible rfl | with_reducible assumption | omega) (by first | with_reducible rfl | with_reducible assumption | omega)
  exact vl_st (w := w + 1) (d := D.toNat) g (by first | with_reducible rfl | with_reducible assumption | omega) (by first | with_reducible rfl | with_reducible assumption | omega) (by first | with_reducible rfl | with_reducible assumption | omega) (fun hh e => ⟨by first | with_reducible rfl | with_reducible assumption | omega, ndf_t g, Or.inr (Or.inr (Or.inr (Or.inr (Or.inr (Or.inr (Or.inr (Or.inr (Or.inl ⟨ndf_k g rfl, a.toNatClampNeg, w, by rw [e17]; exact a3, by rw [show hh = hi.toNat by omega]; exact a2, Nat.le_refl _⟩))))))))⟩)
theorem st_default (g : NdF c na n 30 t) (hn : n.toInt + 1 ≤ hi) (hD : 0 ≤ D) : VlS ta c na ma n n.toInt hi 0 (D + 1) :=
  vl_st (w := 0) (d := 0) g hn (by first | with_reducible rfl | with_reducible assumption | omega) (by first | with_reducible rfl | with_reducible assumption | omega) (fun hh e => ⟨by have := cl_nat g.1; omega, ndf_t g, Or.inr (Or.inr (Or.inr (Or.inr (Or.inr (Or.inr (Or.inr (Or.inr (Or.inr (Or.inl (ndf_k g rfl))))))))))⟩)
theorem st_jump {k : Int32} (g : NdF c na n k t) (hk : k.toInt = 31 ∨ k.toInt = 32) (hn : n.toInt + 1 ≤ hi) (hD : 0 ≤ D) : VlS ta c na ma n n.toInt hi 1 (D + 1) :=
  vl_st (w := 1) (d := 0) g hn (by first | with_reducible rfl | with_reducible assumption | omega) (by first | with_reducible rfl | with_reducible assumption | omega) (fun hh e => ⟨by have := cl_nat g.1; omega, ndf_t g, Or.inr (Or.inr (Or.inr (Or.inr (Or.inr (Or.inr (Or.inr (Or.inr (Or.inr (Or.inr (Or.inl ⟨by rw [g.2.1]; exact hk, Nat.le_refl _⟩))))))))))⟩)
theorem st_ret {a : Int32} {lo W : Int} (g : NdF c na n 33 t) (hn : n.toInt + 1 ≤ hi) (e17 : na 17 n.toNatClampNeg = a) (hD : 0 ≤ D) (h : OzV (FE ta c) na ma a lo hi W D) (hl : n.toInt + 1 ≤ lo) : VlS ta c na ma n n.toInt hi (W + 2) (D + 1) := by
  have hc := cl_nat g.1
  obtain ⟨w, a1, a2⟩ := h.at fe_ok (l := n.toNatClampNeg + 1) (h' := hi.toNat) (by first | with_reducible rfl | with_reducible assumption | omega) (by first | with_reducible rfl | with_reducible assumption | omega)
  exact vl_st (w := w + 2) (d := D.toNat) g (by first | with_reducible rfl | with_reducible assumption | omega) (by first | with_reducible rfl | with_reducible assumption | omega) (by first | with_reducible rfl | with_reducible assumption | omega) (fun hh e => ⟨by first | with_reducible rfl | with_reducible assumption | omega, ndf_t g, Or.inr (Or.inr (Or.inr (Or.inr (Or.inr (Or.inr (Or.inr (Or.inr (Or.inr (Or.inr (Or.inr ⟨ndf_k g rfl, w, by rw [e17, show hh = hi.toNat by omega]; exact a2, Nat.le_refl _⟩))))))))))⟩)
/-! a variable -/
theorem vl_vr {W : Int} {w d : Nat} (g : NdF c na n 40 t) (hs : so ta t = 1) (hn : n.toInt + 1 ≤ hi) (h6 : 6 ≤ w) (hw : (w : Int) ≤ W) (hd : (d : Int) ≤ D)
    (h : ∀ hh : Nat, (hh : Int) = hi → (((na 17 n.toNatClampNeg).toInt < 0 ∧ (ma 22 n.toNatClampNeg).toInt = 0) ∨
   ((na 17 n.toNatClampNeg).toInt < 0 ∧ (ma 22 n.toNatClampNeg).toInt = 1 ∧ ∃ b wb : Nat, (ma 18 n.toNatClampNeg).toInt = (b : Int) ∧ Er ta c na ma d b (n.toNatClampNeg + 1) hh wb ∧ wb + 6 ≤ w) ∨
   (∃ a m1 wa : Nat, (na 17 n.toNatClampNeg).toInt = (a : Int) ∧ n.toNatClampNeg < m1 ∧ m1 ≤ hh ∧ Er ta c na ma d a (n.toNatClampNeg + 1) m1 wa ∧
     (((ma 22 n.toNatClampNeg).toInt = 0 ∧ wa + 6 ≤ w) ∨
      ((ma 22 n.toNatClampNeg).toInt = 2 ∧ (∃ (m wr : Nat) (last : Int), Lq na (Py (Er ta c na ma d) 3) m (ma 18 n.toNatClampNeg).toInt m1 hh wr last ∧ wa + wr + 6 ≤ w) ∧ 0 ≤ (ma 19 n.toNatClampNeg).toInt ∧ (ma 19 n.toNatClampNeg).toInt < c) ∨
      ((ma 22 n.toNatClampNeg).toInt = 3 ∧ 0 ≤ (ma 19 n.toNatClampNeg).toInt ∧ (ma 19 n.toNatClampNeg).toInt < c ∧ so ta (ma 19 n.toNatClampNeg) = 4 ∧ (wa : Int) + 3 * sz ta (ma 19 n.toNatClampNeg) + 6 ≤ (w : Int)))))) : VlR ta c na ma n n.toInt hi W D := by
  have hc := cl_nat g.1
  exact ⟨n.toNatClampNeg, hi.toNat, d, w, by first | with_reducible rfl | with_reducible assumption | omega, by first | with_reducible rfl | with_reducible assumption | omega, g.1, ⟨by first | with_reducible rfl | with_reducible assumption | omega, ndf_k g rfl, by unfold NdT; rw [g.2.2.1]; exact ⟨g.2.2.2.1.1, g.2.2.2.1.2, hs⟩, h6, h hi.toNat (by first | with_reducible rfl | with_reducible assumption | omega)⟩, hw, hd, by rw [g.2.2.2.2]; decide⟩
theorem vr_0 (g : NdF c na n 40 t) (hs : so ta t = 1) (hn : n.toInt + 1 ≤ hi) (e17 : na 17 n.toNatClampNeg = -1) (e22 : ma 22 n.toNatClampNeg = 0) (hD : 0 ≤ D) : VlR ta c na ma n n.toInt hi 6 D :=
  vl_vr (w := 6) (d := 0) g hs hn (by first | with_reducible rfl | with_reducible assumption | omega) (by first | with_reducible rfl | with_reducible assumption | omega) hD (fun hh e => Or.inl ⟨by rw [e17]; decide, by rw [e22]; rfl⟩)
theorem vr_1 {b : Int32} {lo W : Int} (g : NdF c na n 40 t) (hs : so ta t = 1) (e17 : na 17 n.toNatClampNeg = -1) (e22 : ma 22 n.toNatClampNeg = 1) (e18 : ma 18 n.toNatClampNeg = b) (hD : 0 ≤ D) (h : VlE ta c na ma b lo hi W D) (hl : n.toInt + 1 ≤ lo) : VlR ta c na ma n n.toInt hi (W + 6) D := by
  have hc := cl_nat g.1
  have r := h.num fe_ok
  obtain ⟨w, a1, a2, a3⟩ := h.at fe_ok (l := n.toNatClampNeg + 1) (h' := hi.toNat) (by first | with_reducible rfl | with_reducible assumption | omega) (by first | with_reducible rfl | with_reducible assumption | omega)
  exact vl_vr (w := w + 6) (d := D.toNat) g hs (by first | with_reducible rfl | with_reducible assumption | omega) (by first | with_reducible rfl | with_reducible assumption | omega) (by first | with_reducible rfl | with_reducible assumption | omega) (by first | with_reducible rfl | with_reducible assumption | omega) (fun hh e => Or.inr (Or.inl ⟨by rw [e17]; decide, by rw [e22]; rfl, b.toNatClampNeg, w, by rw [e18]; exact a3, by rw [show hh = hi.toNat by omega]; exact a2, Nat.le_refl _⟩))
theorem vr_a0 {a : Int32} {lo W : Int} (g : NdF c na n 40 t) (hs : so ta t = 1) (e17 : na 17 n.toNatClampNeg = a) (e22 : ma 22 n.toNatClampNeg = 0) (hD : 0 ≤ D) (h : VlE ta c na ma a lo hi W D) (hl : n.toInt + 1 ≤ lo) : VlR ta c na ma n n.toInt hi (W + 6) D := by
  have hc := cl_nat g.1
  have r := h.num fe_ok
  obtain ⟨w, a1, a2, a3⟩ := h.at fe_ok (l := n.toNatClampNeg + 1) (h' := hi.toNat) (by first | with_reducible rfl | with_reducible assumption | omega) (by first | with_reducible rfl | with_reducible assumption | omega)
  exact vl_vr (w := w + 6) (d := D.toNat) g hs (by first | with_reducible rfl | with_reducible assumption | omega) (by first | with_reducible rfl | with_reducible assumption | omega) (by first | with_reducible rfl | with_reducible assumption | omega) (by first | with_reducible rfl | with_reducible assumption | omega) (fun hh e => Or.inr (Or.inr ⟨a.toNatClampNeg, hi.toNat, w, by rw [e17]; exact a3, by first | with_reducible rfl | with_reducible assumption | omega, by first | with_reducible rfl | with_reducible assumption | omega, a2, Or.inl ⟨by rw [e22]; rfl, Nat.le_refl _⟩⟩))
theorem vr_a2 {a b x y : Int32} {lo m1 W Wr : Int} (g : NdF c na n 40 t) (hs : so ta t = 1) (e17 : na 17 n.toNatClampNeg = a) (e22 : ma 22 n.toNatClampNeg = 2) (e18 : ma 18 n.toNatClampNeg = b) (e19 : ma 19 n.toNatClampNeg = y) (hy : 0 ≤ y.toInt ∧ y.toInt < c) (hD : 0 ≤ D) (h : VlE ta c na ma a lo m1 W D) (hl : n.toInt + 1 ≤ lo) (h2 : RwC ta c na ma b x m1 hi Wr D) : VlR ta c na ma n n.toInt hi (W + Wr + 6) D := by
  have hc := cl_nat g.1
  have r := h.num fe_ok
  have r2 := h2.num
  obtain ⟨w, a1, a2, a3⟩ := h.at fe_ok (l := n.toNatClampNeg + 1) (h' := m1.toNat) (by first | with_reducible rfl | with_reducible assumption | omega) (by first | with_reducible rfl | with_reducible assumption | omega)
  obtain ⟨wr, m, b1, b2⟩ := h2.at fc_ok (l := m1.toNat) (h' := hi.toNat) (by first | with_reducible rfl | with_reducible assumption | omega) (by first | with_reducible rfl | with_reducible assumption | omega)
  exact vl_vr (w := w + wr + 6) (d := D.toNat) g hs (by first | with_reducible rfl | with_reducible assumption | omega) (by first | with_reducible rfl | with_reducible assumption | omega) (by first | with_reducible rfl | with_reducible assumption | omega) (by first | with_reducible rfl | with_reducible assumption | omega) (fun hh e => Or.inr (Or.inr ⟨a.toNatClampNeg, m1.toNat, w, by rw [e17]; exact a3, by first | with_reducible rfl | with_reducible assumption | omega, by first | with_reducible rfl | with_reducible assumption | omega, a2, Or.inr (Or.inl ⟨by rw [e22]; rfl, ⟨m, wr, x.toInt, by rw [e18, show hh = hi.toNat by omega]; exact b2, Nat.le_refl _⟩, by rw [e19]; exact hy⟩)⟩))
theorem vr_a3 {a y : Int32} {lo W : Int} (g : NdF c na n 40 t) (hs : so ta t = 1) (e17 : na 17 n.toNatClampNeg = a) (e22 : ma 22 n.toNatClampNeg = 3) (e19 : ma 19 n.toNatClampNeg = y) (hy : 0 ≤ y.toInt ∧ y.toInt < c) (hy4 : so ta y = 4) (hz : 0 ≤ sz ta y) (hD : 0 ≤ D) (h : VlE ta c na ma a lo hi W D) (hl : n.toInt + 1 ≤ lo) : VlR ta c na ma n n.toInt hi (W + 3 * sz ta y + 6) D := by
  have hc := cl_nat g.1
  have r := h.num fe_ok
  obtain ⟨w, a1, a2, a3⟩ := h.at fe_ok (l := n.toNatClampNeg + 1) (h' := hi.toNat) (by first | with_reducible rfl | with_reducible assumption | omega) (by first | with_reducible rfl | with_reducible assumption | omega)
  exact vl_vr (w := w + 3 * (sz ta y).toNat + 6) (d := D.toNat) g hs (by first | with_reducible rfl | with_reducible assumption | omega) (by first | with_reducible rfl | with_reducible assumption | omega) (by first | with_reducible rfl | with_reducible assumption | omega) (by first | with_reducible rfl | with_reducible assumption | omega) (fun hh e => Or.inr (Or.inr ⟨a.toNatClampNeg, hi.toNat, w, by rw [e17]; exact a3, by first | with_reducible rfl | with_reducible assumption | omega, by first | with_reducible rfl | with_reducible assumption | omega, a2, Or.inr (Or.inr ⟨by rw [e22]; rfl, by rw [e19]; exact hy.1, by rw [e19]; exact hy.2, by rw [e19]; exact hy4, by rw [e19]; omega⟩)⟩))
end NB
/-! hanging a node behind a row -/
def Hg (na na' : Nat → Nat → Int32) (k x e v : Int32) : Prop := (0 ≤ x.toInt → na' = va_up na 21 (upd (na 21) x.toNatClampNeg e)) ∧ (x.toInt < 0 → na' = na) ∧ (0 ≤ k.toInt → v = k) ∧ (k.toInt < 0 → v = e)
section HG
variable {F : FM} {na ma na' : Nat → Nat → Int32} {lo m hi W W' D : Int} {k x e v : Int32}
theorem Hg.row (g : Hg na na' k x e v) (o : FamOk F) (h : RzV F na ma k x lo m W D) (q : VlV F na ma e m hi W' D) (h0 : 0 ≤ lo) (hm : lo ≤ m) : RwV F na' ma v e lo hi (W + W') D := by
  rcases h with ⟨h1, h2, h3⟩ | h
  · rw [g.2.1 h2, g.2.2.2 h1]
    exact (row_0 q o).le hm (Int.le_refl _) (by first | with_reducible rfl | with_reducible assumption | omega) (Int.le_refl _)
  · have r := h.num
    rw [g.2.2.1 (by first | with_reducible rfl | with_reducible assumption | omega)]
    exact row_s h q o h0 (g.1 (by first | with_reducible rfl | with_reducible assumption | omega))
theorem Hg.ag (g : Hg na na' k x e v) {l h : Int} (hx : x.toInt < l ∨ h ≤ x.toInt) : AgI l h na ma na' ma := by
  by_cases h0 : 0 ≤ x.toInt
  · exact ag_n (g.1 h0) h0 hx
  · rw [g.2.1 (by first | with_reducible rfl | with_reducible assumption | omega)]; exact fun _ _ _ => ⟨fun _ => rfl, fun _ => rfl⟩
theorem Hg.fld (g : Hg na na' k x e v) {j : Nat} {n : Int32} (h : j ≠ 21 ∨ n.toInt ≠ x.toInt) (hn : 0 ≤ n.toInt) : na' j n.toNatClampNeg = na j n.toNatClampNeg := by
  have := cl_nat hn
  by_cases h0 : 0 ≤ x.toInt
  · have := cl_nat h0
    rw [g.1 h0]
    by_cases e : j = 21
    · subst e; rw [va_up_s, pk_un (by first | with_reducible rfl | with_reducible assumption | omega)]
    · rw [va_up_n e]
  · rw [g.2.1 (by first | with_reducible rfl | with_reducible assumption | omega)]
theorem Hg.fb (g : Hg na na' k x e v) {b : Int} {na0 ma0 : Nat → Nat → Int32} (h : FrB b na0 ma0 na ma) (hb : x.toInt < 0 ∨ b ≤ x.toInt) : FrB b na0 ma0 na' ma := by
  by_cases h0 : 0 ≤ x.toInt
  · rw [g.1 h0]; exact FrB.un h (by first | with_reducible rfl | with_reducible assumption | omega) h0
  · rw [g.2.1 (by first | with_reducible rfl | with_reducible assumption | omega)]; exact h
end HG
theorem FsI.hg {c N : Int} {na na' : Nat → Nat → Int32} {k x e v : Int32} (h : FsI c N na) (g : Hg na na' k x e v) : FsI c N na' := h.ag (fun y => by
  by_cases h0 : 0 ≤ x.toInt
  · rw [g.1 h0, va_up_n (by decide)]
  · rw [g.2.1 (by first | with_reducible rfl | with_reducible assumption | omega)])
/-! writes at a node that was there before -/
def FrV (b : Int) (p : Int32) (na ma na' ma' : Nat → Nat → Int32) : Prop := 0 ≤ p.toInt ∧ p.toInt < b ∧ (∀ x : Nat, (x : Int) < b → x ≠ p.toNatClampNeg → (∀ k, na' k x = na k x) ∧ ∀ k, ma' k x = ma k x) ∧ (∀ k, na' k p.toNatClampNeg = na k p.toNatClampNeg) ∧ ma' 20 p.toNatClampNeg = ma 20 p.toNatClampNeg
section FVV
variable {b : Int} {p : Int32} {na ma na1 ma1 na2 ma2 : Nat → Nat → Int32}
theorem FrV.rf (h0 : 0 ≤ p.toInt) (h1 : p.toInt < b) : FrV b p na ma na ma := ⟨h0, h1, fun _ _ _ => ⟨fun _ => rfl, fun _ => rfl⟩, fun _ => rfl, rfl⟩
theorem FrV.tr {b' : Int} (h : FrV b p na ma na1 ma1) (k : FrB b' na1 ma1 na2 ma2) (hb : b ≤ b') : FrV b p na ma na2 ma2 := by
  obtain ⟨h0, h1, h2, h3, h4⟩ := h
  have hc := cl_nat h0
  obtain ⟨q1, q2⟩ := k p.toNatClampNeg (by first | with_reducible rfl | with_reducible assumption | omega)
  exact ⟨h0, h1, fun x a1 a2 => ⟨fun j => ((k x (by first | with_reducible rfl | with_reducible assumption | omega)).1 j).trans ((h2 x a1 a2).1 j), fun j => ((k x (by first | with_reducible rfl | with_reducible assumption | omega)).2 j).trans ((h2 x a1 a2).2 j)⟩, fun j => (q1 j).trans (h3 j), (q2 20).trans h4⟩
theorem FrV.us {k : Nat} {v : Int32} (h : FrV b p na ma na1 ma1) (hk : 20 ≠ k) (e : ma2 = va_up ma1 k (upd (ma1 k) p.toNatClampNeg v)) : FrV b p na ma na1 ma2 := by
  obtain ⟨h0, h1, h2, h3, h4⟩ := h
  subst e
  exact ⟨h0, h1, fun x a1 a2 => ⟨(h2 x a1 a2).1, fun j => (up_far a2).trans ((h2 x a1 a2).2 j)⟩, h3, by rw [va_up_n hk]; exact h4⟩
theorem FrV.un {k : Nat} {i v : Int32} (h : FrV b p na ma na1 ma1) (hi : b ≤ i.toInt) (h0 : 0 ≤ i.toInt) (e : na2 = va_up na1 k (upd (na1 k) i.toNatClampNeg v)) : FrV b p na ma na2 ma1 := by
  obtain ⟨g0, h1, h2, h3, h4⟩ := h
  have hc := cl_nat g0
  have hd := cl_nat h0
  subst e
  exact ⟨g0, h1, fun x a1 a2 => ⟨fun j => (up_far (by first | with_reducible rfl | with_reducible assumption | omega)).trans ((h2 x a1 a2).1 j), (h2 x a1 a2).2⟩, fun j => (up_far (by first | with_reducible rfl | with_reducible assumption | omega)).trans (h3 j), h4⟩
theorem FrV.ag {lo hi : Int} (h : FrV b p na ma na1 ma1) (hb : hi ≤ b) (hp : p.toInt < lo ∨ hi ≤ p.toInt) : AgI lo hi na ma na1 ma1 := fun x h1 h2 => by
  have hc := cl_nat h.1
  exact h.2.2.1 x (by first | with_reducible rfl | with_reducible assumption | omega) (by first | with_reducible rfl | with_reducible assumption | omega)
theorem FrV.fb {b0 : Int} {na0 ma0 : Nat → Nat → Int32} (h : FrV b p na ma na1 ma1) (k : FrB b0 na0 ma0 na ma) (h1 : b0 ≤ p.toInt) (h2 : b0 ≤ b) : FrB b0 na0 ma0 na1 ma1 := fun x hx => by
  have hc := cl_nat h.1
  obtain ⟨q1, q2⟩ := h.2.2.1 x (by first | with_reducible rfl | with_reducible assumption | omega) (by first | with_reducible rfl | with_reducible assumption | omega)
  exact ⟨fun j => (q1 j).trans ((k x hx).1 j), fun j => (q2 j).trans ((k x hx).2 j)⟩
end FVV
/-- what stands behind the = of an array -/
def AvV (ta : Nat → Nat → Int32) (c : Int) (na ma : Nat → Nat → Int32) (p y : Int32) (lo hi W D : Int) : Prop := ma 19 p.toNatClampNeg = y ∧ (0 ≤ y.toInt ∧ y.toInt < c) ∧
  ((ma 22 p.toNatClampNeg = 3 ∧ so ta y = 4 ∧ 0 ≤ sz ta y ∧ 3 * sz ta y ≤ W) ∨ (ma 22 p.toNatClampNeg = 2 ∧ ∃ b x : Int32, ma 18 p.toNatClampNeg = b ∧ RwC ta c na ma b x lo hi W D))
theorem AvV.vr {ta : Nat → Nat → Int32} {c : Int} {na ma : Nat → Nat → Int32} {n t a y : Int32} {lo m1 hi W Wr D : Int} (h2 : AvV ta c na ma n y m1 hi Wr D) (g : NdF c na n 40 t) (hs : so ta t = 1) (e17 : na 17 n.toNatClampNeg = a) (hD : 0 ≤ D) (h : VlE ta c na ma a lo m1 W D) (hl : n.toInt + 1 ≤ lo) (hm : m1 ≤ hi) : VlR ta c na ma n n.toInt hi (W + Wr + 6) D := by
  obtain ⟨e19, hy, ⟨e22, q1, q2, q3⟩ | ⟨e22, b, x, e18, q⟩⟩ := h2
  · exact (vr_a3 g hs e17 e22 e19 hy q1 q2 hD (h.le (Int.le_refl _) hm (Int.le_refl _) (Int.le_refl _)) hl).le (Int.le_refl _) (Int.le_refl _) (by first | with_reducible rfl | with_reducible assumption | omega) (Int.le_refl _)
  · exact vr_a2 g hs e17 e22 e18 e19 hy hD h hl q
/-- the head of a for, its parts as far as they are read: st 0: the first; 1: the second; 2: the third -/
def FoV (ta : Nat → Nat → Int32) (c : Int) (na ma : Nat → Nat → Int32) (st : Nat) (s : Int32) (hi W D : Int) : Prop := ∃ m1 m2 Wa Wb Wc : Int, (s.toInt + 1 ≤ m1 ∧ m1 ≤ m2 ∧ m2 ≤ hi) ∧ OzV (FI ta c) na ma (na 17 s.toNatClampNeg) (s.toInt + 1) m1 Wa D ∧ OzV (FE ta c) na ma (ma 18 s.toNatClampNeg) m1 m2 Wb D ∧ OzV (FE ta c) na ma (ma 19 s.toNatClampNeg) m2 hi Wc D ∧ Wa + Wb + Wc ≤ W ∧ (st < 1 → ma 18 s.toNatClampNeg = -1) ∧ (st < 2 → ma 19 s.toNatClampNeg = -1)
section FOV
variable {F : FM} {ta : Nat → Nat → Int32} {c : Int} {na ma na' ma' : Nat → Nat → Int32} {s k : Int32} {lo hi W D : Int}
theorem OzV.ag (h : OzV F na ma k lo hi W D) (o : FamOk F) (a : AgI lo hi na ma na' ma') : OzV F na' ma' k lo hi W D := ⟨h.1, h.2.elim Or.inl (fun h => Or.inr (h.ag o a))⟩
theorem OzV.le {lo' hi' W' D' : Int} (h : OzV F na ma k lo hi W D) (h1 : lo' ≤ lo) (h2 : hi ≤ hi') (h3 : W ≤ W') (h4 : D ≤ D') : OzV F na ma k lo' hi' W' D' := ⟨by have := h.1; omega, h.2.elim Or.inl (fun h => Or.inr (h.le h1 h2 h3 h4))⟩
theorem oz_n (hk : k.toInt < 0) (hW : 0 ≤ W) : OzV F na ma k lo hi W D := ⟨hW, Or.inl hk⟩
theorem oz_v (o : FamOk F) (h : VlV F na ma k lo hi W D) : OzV F na ma k lo hi W D := ⟨(h.num o).2.2.2, Or.inr h⟩
theorem FoV.kp {st : Nat} {b : Int} (h : FoV ta c na ma st s hi W D) (f : FrB b na ma na' ma') (h0 : 0 ≤ s.toInt) (h1 : s.toInt < b) (h2 : hi ≤ b) : FoV ta c na' ma' st s hi W D := by
  obtain ⟨m1, m2, Wa, Wb, Wc, q0, q1, q2, q3, q4, q5, q6⟩ := h
  refine ⟨m1, m2, Wa, Wb, Wc, q0, ?_, ?_, ?_, q4, ?_, ?_⟩
  · rw [fb_n f h1 h0]; exact q1.ag fi_ok (f.ag (by first | with_reducible rfl | with_reducible assumption | omega))
  · rw [fb_m f h1 h0]; exact q2.ag fe_ok (f.ag (by first | with_reducible rfl | with_reducible assumption | omega))
  · rw [fb_m f h1 h0]; exact q3.ag fe_ok (f.ag h2)
  · rw [fb_m f h1 h0]; exact q5
  · rw [fb_m f h1 h0]; exact q6
theorem FoV.le {st st' : Nat} {hi' W' : Int} (h : FoV ta c na ma st s hi W D) (h2 : hi ≤ hi') (h3 : W ≤ W') (hs : st ≤ st') : FoV ta c na ma st' s hi' W' D := by
  obtain ⟨m1, m2, Wa, Wb, Wc, q0, q1, q2, q3, q4, q5, q6⟩ := h
  exact ⟨m1, m2, Wa, Wb, Wc, by first | with_reducible rfl | with_reducible assumption | omega, q1, q2, q3.le (Int.le_refl _) h2 (Int.le_refl _) (Int.le_refl _), by first | with_reducible rfl | with_reducible assumption | omega, fun h => q5 (by first | with_reducible rfl | with_reducible assumption | omega), fun h => q6 (by first | with_reducible rfl | with_reducible assumption | omega)⟩
theorem fo_0 (e17 : na 17 s.toNatClampNeg = -1) (e18 : ma 18 s.toNatClampNeg = -1) (e19 : ma 19 s.toNatClampNeg = -1) (hW : 0 ≤ W) (hh : s.toInt + 1 ≤ hi) : FoV ta c na ma 0 s hi W D :=
  ⟨hi, hi, 0, 0, 0, by first | with_reducible rfl | with_reducible assumption | omega, by rw [e17]; exact oz_n (by decide) (by first | with_reducible rfl | with_reducible assumption | omega), by rw [e18]; exact oz_n (by decide) (by first | with_reducible rfl | with_reducible assumption | omega), by rw [e19]; exact oz_n (by decide) (by first | with_reducible rfl | with_reducible assumption | omega), by first | with_reducible rfl | with_reducible assumption | omega, fun _ => e18, fun _ => e19⟩
theorem FoV.wpos {st : Nat} (h : FoV ta c na ma st s hi W D) : 0 ≤ W := by
  obtain ⟨m1, m2, Wa, Wb, Wc, q0, q1, q2, q3, q4, -⟩ := h
  have := q1.1; have := q2.1; have := q3.1
  omega
theorem vli {a : Int32} (h : VlS ta c na ma a lo hi W D) (k : (na 14 a.toNatClampNeg).toInt = 22 ∨ (na 14 a.toNatClampNeg).toInt = 23) : VlV (FI ta c) na ma a lo hi W D := by
  obtain ⟨l, h, d, w, a1, a2, a3, a4, a5, a6, a7⟩ := h
  exact ⟨l, h, d, w, a1, a2, a3, ⟨a4.rng, k, a4⟩, a5, a6, a7⟩
theorem fo_a {a : Int32} {W1 : Int} (e17 : na 17 s.toNatClampNeg = a) (e18 : ma 18 s.toNatClampNeg = -1) (e19 : ma 19 s.toNatClampNeg = -1) (h : VlS ta c na ma a (s.toInt + 1) hi W1 D) (k : (na 14 a.toNatClampNeg).toInt = 22 ∨ (na 14 a.toNatClampNeg).toInt = 23) : FoV ta c na ma 0 s hi W1 D := by
  have r := h.num fs_ok
  exact ⟨hi, hi, W1, 0, 0, by first | with_reducible rfl | with_reducible assumption | omega, by rw [e17]; exact oz_v fi_ok (vli h k), by rw [e18]; exact oz_n (by decide) (by first | with_reducible rfl | with_reducible assumption | omega), by rw [e19]; exact oz_n (by decide) (by first | with_reducible rfl | with_reducible assumption | omega), by first | with_reducible rfl | with_reducible assumption | omega, fun _ => e18, fun _ => e19⟩
theorem FoV.setB {e : Int32} {hi' W1 : Int} (h : FoV ta c na ma 0 s hi W D) (h0 : 0 ≤ s.toInt) (u : ma' = va_up ma 18 (upd (ma 18) s.toNatClampNeg e)) (q : VlE ta c na ma e hi hi' W1 D) : FoV ta c na ma' 1 s hi' (W + W1) D := by
  obtain ⟨m1, m2, Wa, Wb, Wc, q0, q1, q2, q3, q4, q5, q6⟩ := h
  have a : ∀ {l h : Int}, s.toInt < l → AgI l h na ma na ma' := fun g => ag_m u h0 (Or.inl g)
  have := q2.1
  have := q3.1
  have r := q.num fe_ok
  have e19 : ma' 19 s.toNatClampNeg = -1 := by rw [u, va_up_n (by decide)]; exact q6 (by decide)
  refine ⟨hi, hi', Wa, W1, 0, by first | with_reducible rfl | with_reducible assumption | omega, (q1.le (Int.le_refl _) (by first | with_reducible rfl | with_reducible assumption | omega) (Int.le_refl _) (Int.le_refl _)).ag fi_ok (a (by first | with_reducible rfl | with_reducible assumption | omega)), ?_, ?_, by first | with_reducible rfl | with_reducible assumption | omega, fun h => absurd h (by decide), fun _ => e19⟩
  · rw [show ma' 18 s.toNatClampNeg = e by rw [u, va_up_s, pk_us]]; exact oz_v fe_ok (q.ag fe_ok (a (by first | with_reducible rfl | with_reducible assumption | omega)))
  · rw [e19]; exact oz_n (by decide) (by first | with_reducible rfl | with_reducible assumption | omega)
theorem FoV.setC {e : Int32} {hi' W1 : Int} (h : FoV ta c na ma 1 s hi W D) (h0 : 0 ≤ s.toInt) (u : ma' = va_up ma 19 (upd (ma 19) s.toNatClampNeg e)) (q : VlE ta c na ma e hi hi' W1 D) : FoV ta c na ma' 2 s hi' (W + W1) D := by
  obtain ⟨m1, m2, Wa, Wb, Wc, q0, q1, q2, q3, q4, q5, q6⟩ := h
  have a : ∀ {l h : Int}, s.toInt < l → AgI l h na ma na ma' := fun g => ag_m u h0 (Or.inl g)
  have := q3.1
  have r := q.num fe_ok
  refine ⟨m1, hi, Wa, Wb, W1, by first | with_reducible rfl | with_reducible assumption | omega, q1.ag fi_ok (a (by first | with_reducible rfl | with_reducible assumption | omega)), ?_, ?_, by first | with_reducible rfl | with_reducible assumption | omega, fun h => absurd h (by decide), fun h => absurd h (by decide)⟩
  · rw [show ma' 18 s.toNatClampNeg = ma 18 s.toNatClampNeg by rw [u, va_up_n (by decide)]]; exact (q2.le (Int.le_refl _) (by first | with_reducible rfl | with_reducible assumption | omega) (Int.le_refl _) (Int.le_refl _)).ag fe_ok (a (by first | with_reducible rfl | with_reducible assumption | omega))
  · rw [show ma' 19 s.toNatClampNeg = e by rw [u, va_up_s, pk_us]]; exact oz_v fe_ok (q.ag fe_ok (a (by first | with_reducible rfl | with_reducible assumption | omega)))
theorem FoV.fin {st : Nat} {t e : Int32} {hi' W1 : Int} (h : FoV ta c na ma st s hi W D) (g : NdF c na s 27 t) (hD : 0 ≤ D) (e20 : ma 20 s.toNatClampNeg = e) (q : VlS ta c na ma e hi hi' W1 D) : VlS ta c na ma s s.toInt hi' (W + W1 + 5) (D + 1) := by
  obtain ⟨m1, m2, Wa, Wb, Wc, q0, q1, q2, q3, q4, -⟩ := h
  exact (st_for g rfl rfl rfl e20 hD q1 q2 q3 q (by first | with_reducible rfl | with_reducible assumption | omega) (by first | with_reducible rfl | with_reducible assumption | omega) (by first | with_reducible rfl | with_reducible assumption | omega)).le (Int.le_refl _) (Int.le_refl _) (by first | with_reducible rfl | with_reducible assumption | omega) (Int.le_refl _)
theorem FoV.m20 {st : Nat} {v : Int32} (h : FoV ta c na ma st s hi W D) (h0 : 0 ≤ s.toInt) (u : ma' = va_up ma 20 (upd (ma 20) s.toNatClampNeg v)) : FoV ta c na ma' st s hi W D := by
  obtain ⟨m1, m2, Wa, Wb, Wc, q0, q1, q2, q3, q4, q5, q6⟩ := h
  have a : ∀ {l h : Int}, s.toInt < l → AgI l h na ma na ma' := fun g => ag_m u h0 (Or.inl g)
  have e18 : ma' 18 s.toNatClampNeg = ma 18 s.toNatClampNeg := by rw [u, va_up_n (by decide)]
  have e19 : ma' 19 s.toNatClampNeg = ma 19 s.toNatClampNeg := by rw [u, va_up_n (by decide)]
  refine ⟨m1, m2, Wa, Wb, Wc, q0, q1.ag fi_ok (a (by first | with_reducible rfl | with_reducible assumption | omega)), ?_, ?_, q4, ?_, ?_⟩
  · rw [e18]; exact q2.ag fe_ok (a (by first | with_reducible rfl | with_reducible assumption | omega))
  · rw [e19]; exact q3.ag fe_ok (a (by first | with_reducible rfl | with_reducible assumption | omega))
  · rw [e18]; exact q5
  · rw [e19]; exact q6
end FOV
/-- the inside of a switch as far as it is read: its number, its row -/
def SwV (ta : Nat → Nat → Int32) (c : Int) (na ma : Nat → Nat → Int32) (s x : Int32) (hi W D : Int) : Prop := ∃ (a b : Int32) (m Wa Wr : Int), na 17 s.toNatClampNeg = a ∧ ma 18 s.toNatClampNeg = b ∧ s.toInt + 1 ≤ m ∧ m ≤ hi ∧ VlE ta c na ma a (s.toInt + 1) m Wa D ∧ RzS ta c na ma b x m hi Wr D ∧ Wa + Wr ≤ W ∧ 0 ≤ Wr ∧ (x.toInt = -1 ∨ m ≤ x.toInt)
theorem FrV.fn {b : Int} {p : Int32} {na ma na1 ma1 : Nat → Nat → Int32} (h : FrV b p na ma na1 ma1) {x : Int32} {k : Nat} (h0 : 0 ≤ x.toInt) (h1 : x.toInt < b) : na1 k x.toNatClampNeg = na k x.toNatClampNeg := by
  by_cases e : x.toNatClampNeg = p.toNatClampNeg
  · rw [e]; exact h.2.2.2.1 k
  · exact (h.2.2.1 _ (by have := cl_nat h0; omega) e).1 k
theorem RzV.wpos {F : FM} {na ma : Nat → Nat → Int32} {k x : Int32} {lo hi W D : Int} (h : RzV F na ma k x lo hi W D) : 0 ≤ W := h.elim (fun h => h.2.2) (fun h => h.num.2.2.2.2.2.2)
/-- a row that hangs on a field -/
def RfV (F : FM) (na ma : Nat → Nat → Int32) (g : Nat → Int32) (p x : Int32) (lo hi W D : Int) : Prop := ∃ b : Int32, g p.toNatClampNeg = b ∧ RwV F na ma b x lo hi W D
def ZfV (F : FM) (na ma : Nat → Nat → Int32) (g : Nat → Int32) (p x : Int32) (lo hi W D : Int) : Prop := ∃ b : Int32, g p.toNatClampNeg = b ∧ RzV F na ma b x lo hi W D
abbrev RfC (ta : Nat → Nat → Int32) (c : Int) := RfV (FC ta c)
abbrev ZfS (ta : Nat → Nat → Int32) (c : Int) := ZfV (FS ta c)
theorem fl_n {na na' : Nat → Nat → Int32} {k j x : Nat} {X : Nat → Int32} (u : na' = va_up na k X) (h : j ≠ k) : na' j x = na j x := by rw [u, va_up_n h]
theorem fl_f {na na' : Nat → Nat → Int32} {k : Nat} {x i v : Int32} (u : na' = va_up na k (upd (na k) i.toNatClampNeg v)) (h : x.toInt ≠ i.toInt) (h0 : 0 ≤ x.toInt) (h1 : 0 ≤ i.toInt) : na' k x.toNatClampNeg = na k x.toNatClampNeg := by rw [u, va_up_s, pk_un (nat_ne h h0 h1)]
def BkN (na : Nat → Nat → Int32) (n : Int32) : Prop := na 14 n.toNatClampNeg = 20
def DcN (na : Nat → Nat → Int32) (n : Int32) : Prop := na 14 n.toNatClampNeg = 23
theorem step_E (l : Launch) (D : va_G) (cs : Nat → ClassId) (lv : Nat) (hE : LvE l D cs lv) : ExpC l D cs lv ∧ ConC l D cs lv := by
  constructor
  · intro h r g tf ta cf ca ef ea xf xa pf na ma wa g0 g1 g2 g3 g4 g5 g6 g7 g8 g9 g10 hlf htk hfs
    exact c_mp_expression l D cs h r g tf ta cf ca ef ea xf xa pf na ma wa lv g0 g1 g2 g3 g4 g5 g6 g7 g8 g9 g10 hlf htk hfs hE
  · intro h r g tf ta cf ca ef ea xf xa pf na ma wa g0 g1 g2 g3 g4 g5 g6 g7 g8 g9 g10 hlf htk hfs
    exact c_mp_conditional l D cs h r g tf ta cf ca ef ea xf xa pf na ma wa lv g0 g1 g2 g3 g4 g5 g6 g7 g8 g9 g10 hlf htk hfs hE
theorem lvE_all (l : Launch) (D : va_G) (cs : Nat → ClassId) : ∀ lv : Nat, LvE l D cs lv := by
  intro lv
  induction lv with
  | zero => exact lve_0
  | succ n ih => exact lve_s (step_E l D cs n ih)
set_option maxHeartbeats 4000000 in
set_option maxRecDepth 100000 in
theorem c_S_expression (l : Launch) (D : va_G) (cs : Nat → ClassId) (h : Nat) (r : Nat → Nat) (g : Nat → Nat → Option Nat) (tf : Nat → Int32) (ta : Nat → Nat → Int32) (cf : Nat → Int32) (ca : Nat → Nat → Int32) (ef : Nat → Int32) (ea : Nat → Nat → Int32) (xf : Nat → Int32) (xa : Nat → Nat → Int32) (pf : Nat → Int32) (na : Nat → Nat → Int32) (ma : Nat → Nat → Int32) (wa : Nat → Nat → Int32) (lv : Nat) (g0 : 0 ≤ (pf 11).toInt) (g1 : (pf 11).toInt < (tf 6).toInt) (g2 : (tf 6).toInt ≤ 2049) (g3 : 0 ≤ (pf 12).toInt) (g4 : (pf 12).toInt ≤ 60) (g5 : 0 ≤ (pf 13).toInt) (g6 : (pf 13).toInt ≤ (pf 11).toInt + 20) (g7 : 0 ≤ (pf 26).toInt) (g8 : (pf 26).toInt ≤ (pf 12).toInt) (g9 : 61 ≤ (pf 12).toInt + (lv : Int)) (g10 : lv ≤ 61) (hlf : l.flags = pinnedFlags ++ [noTraceFlag]) (htk : TkI tf ta) (hfs : FsI (tf 6).toInt (pf 13).toInt na) : ThI l y_Mpg_expression b_Mpg_expression 7 (.int) D cs (8 * lv + 20) (220 * lv + 720) [.ref h] [wdP cs h r g tf ta pf na ma wa cf ca ef ea xf xa] (oX (fun A U H => (oN A U H) ∧ (oP A g U H)) [wdP cs h r g tf ta pf na ma wa cf ca ef ea xf xa]) "java/lang/IllegalArgumentException" (fun v ps => ∃ (pf' : Nat → Int32) (na' : Nat → Nat → Int32) (ma' : Nat → Nat → Int32) (wa' : Nat → Nat → Int32), (ps = [wdP cs h r g tf ta pf' na' ma' wa' cf ca ef ea xf xa]) ∧ ((pf 11).toInt + 1 ≤ (pf' 11).toInt) ∧ ((pf' 11).toInt < (tf 6).toInt) ∧ ((pf 13).toInt + 1 ≤ (pf' 13).toInt) ∧ ((pf' 13).toInt - (pf 13).toInt ≤ (pf' 11).toInt - (pf 11).toInt) ∧ (bp ta (pf 11) + 1 ≤ bp ta (pf' 11)) ∧ ((pf' 12).toInt = (pf 12).toInt) ∧ ((pf' 24).toInt = (pf 24).toInt) ∧ ((pf' 25).toInt = (pf 25).toInt) ∧ ((pf' 26).toInt = (pf 26).toInt) ∧ (FrB (pf 13).toInt na ma na' ma') ∧ (FrW (pf 26).toInt wa wa') ∧ (ExR ta (tf 6).toInt na' ma' v (pf 13).toInt (pf' 13).toInt (3 * (bp ta (pf' 11) - bp ta (pf 11))) (pf 12).toInt) ∧ (FsI (tf 6).toInt (pf' 13).toInt na') ∧ (R_mp_expression (RL_mp_expression lv) (RL_mp_conditional lv) ta pf na ma wa pf' na' ma' wa' v 0)) (fun ps => ∃ (pf' : Nat → Int32) (na' : Nat → Nat → Int32) (ma' : Nat → Nat → Int32) (wa' : Nat → Nat → Int32), ps = [wdP cs h r g tf ta pf' na' ma' wa' cf ca ef ea xf xa] ∧ 0 ≤ (pf' 11).toInt ∧ (pf' 11).toInt + 1 ≤ (tf 6).toInt ∧ R_mp_expression (RL_mp_expression lv) (RL_mp_conditional lv) ta pf na ma wa pf' na' ma' wa' 0 1) := by
  exact c_mp_expression l D cs h r g tf ta cf ca ef ea xf xa pf na ma wa lv g0 g1 g2 g3 g4 g5 g6 g7 g8 g9 g10 hlf htk hfs (lvE_all l D cs lv)
set_option maxHeartbeats 4000000 in
set_option maxRecDepth 100000 in
theorem c_S_conditional (l : Launch) (D : va_G) (cs : Nat → ClassId) (h : Nat) (r : Nat → Nat) (g : Nat → Nat → Option Nat) (tf : Nat → Int32) (ta : Nat → Nat → Int32) (cf : Nat → Int32) (ca : Nat → Nat → Int32) (ef : Nat → Int32) (ea : Nat → Nat → Int32) (xf : Nat → Int32) (xa : Nat → Nat → Int32) (pf : Nat → Int32) (na : Nat → Nat → Int32) (ma : Nat → Nat → Int32) (wa : Nat → Nat → Int32) (lv : Nat) (g0 : 0 ≤ (pf 11).toInt) (g1 : (pf 11).toInt < (tf 6).toInt) (g2 : (tf 6).toInt ≤ 2049) (g3 : 0 ≤ (pf 12).toInt) (g4 : (pf 12).toInt ≤ 60) (g5 : 0 ≤ (pf 13).toInt) (g6 : (pf 13).toInt ≤ (pf 11).toInt + 20) (g7 : 0 ≤ (pf 26).toInt) (g8 : (pf 26).toInt ≤ (pf 12).toInt) (g9 : 61 ≤ (pf 12).toInt + (lv : Int)) (g10 : lv ≤ 61) (hlf : l.flags = pinnedFlags ++ [noTraceFlag]) (htk : TkI tf ta) (hfs : FsI (tf 6).toInt (pf 13).toInt na) : ThI l y_Mpg_conditional b_Mpg_conditional 7 (.int) D cs (8 * lv + 19) (220 * lv + 690) [.ref h] [wdP cs h r g tf ta pf na ma wa cf ca ef ea xf xa] (oX (fun A U H => (oN A U H) ∧ (oP A g U H)) [wdP cs h r g tf ta pf na ma wa cf ca ef ea xf xa]) "java/lang/IllegalArgumentException" (fun v ps => ∃ (pf' : Nat → Int32) (na' : Nat → Nat → Int32) (ma' : Nat → Nat → Int32) (wa' : Nat → Nat → Int32), (ps = [wdP cs h r g tf ta pf' na' ma' wa' cf ca ef ea xf xa]) ∧ ((pf 11).toInt + 1 ≤ (pf' 11).toInt) ∧ ((pf' 11).toInt < (tf 6).toInt) ∧ ((pf 13).toInt + 1 ≤ (pf' 13).toInt) ∧ ((pf' 13).toInt - (pf 13).toInt ≤ (pf' 11).toInt - (pf 11).toInt) ∧ (bp ta (pf 11) + 1 ≤ bp ta (pf' 11)) ∧ ((pf' 12).toInt = (pf 12).toInt) ∧ ((pf' 24).toInt = (pf 24).toInt) ∧ ((pf' 25).toInt = (pf 25).toInt) ∧ ((pf' 26).toInt = (pf 26).toInt) ∧ (FrB (pf 13).toInt na ma na' ma') ∧ (FrW (pf 26).toInt wa wa') ∧ (ExD ta (tf 6).toInt na' ma' v (pf 13).toInt (pf' 13).toInt (3 * (bp ta (pf' 11) - bp ta (pf 11))) (pf 12).toInt) ∧ (FsI (tf 6).toInt (pf' 13).toInt na') ∧ (R_mp_conditional (RL_mp_expression lv) (RL_mp_conditional lv) ta pf na ma wa pf' na' ma' wa' v 0)) (fun ps => ∃ (pf' : Nat → Int32) (na' : Nat → Nat → Int32) (ma' : Nat → Nat → Int32) (wa' : Nat → Nat → Int32), ps = [wdP cs h r g tf ta pf' na' ma' wa' cf ca ef ea xf xa] ∧ 0 ≤ (pf' 11).toInt ∧ (pf' 11).toInt + 1 ≤ (tf 6).toInt ∧ R_mp_conditional (RL_mp_expression lv) (RL_mp_conditional lv) ta pf na ma wa pf' na' ma' wa' 0 1) := by
  exact c_mp_conditional l D cs h r g tf ta cf ca ef ea xf xa pf na ma wa lv g0 g1 g2 g3 g4 g5 g6 g7 g8 g9 g10 hlf htk hfs (lvE_all l D cs lv)
