theorem oz_535992ed59 {a0 : Int} {n1 : Nat} (h0 : a0 = (n1 : Int)) : 0 ≤ a0 := by omega
/-! TYPED CODE: at each point (row, function, what lies upon the stack of numbers, loops whose work is paid) the row does what may be done there -/
abbrev Cx : Type := (Nat → Nat → Int32) × (Int → Int) × (Int → Int) × (Int → Int) × (Int) × (Int → Nat → Int)
abbrev Cx.ca (v : Cx) : Nat → Nat → Int32 := v.1
abbrev Cx.ys (v : Cx) : Int → Int := v.2.1
abbrev Cx.ye (v : Cx) : Int → Int := v.2.2.1
abbrev Cx.tall (v : Cx) : Int → Int := v.2.2.2.1
abbrev Cx.nf (v : Cx) : Int := v.2.2.2.2.1
abbrev Cx.L (v : Cx) : Int → Nat → Int := v.2.2.2.2.2
abbrev KP := Nat → Int → List Nat → Nat → Prop
/-- what m arguments lay: a number 0, an array its place 1 and its size 2 -/
def aslots (L : Nat → Int) : Nat → List Nat
  | 0 => []
  | m + 1 => (if L m = 105 then [0] else [2, 1]) ++ aslots L m
def JpC (K : KP) (p : Nat) (a : Int32) (f : Int) (S : List Nat) (v : Nat) : Prop := 0 ≤ a.toInt ∧ ∃ u : Nat, K a.toNatClampNeg f S u ∧ (u < v ∨ (u = v ∧ p < a.toNatClampNeg))
def ArC (X : Cx) (code : Int) (S S' : List Nat) : Prop := ∃ m : Nat, S = aslots (X.L code) m ++ S' ∧ X.L code m = 32 ∧ ∀ i : Nat, i < m → X.L code i ≠ 32
/-- what a row does: op, a, b; from S to T, then the next row; or it jumps, or ends -/
def StC9 (X : Cx) (f : Int) (op : Int) (a b : Int32) (P0 Q0 : List Nat) : Prop :=
  (∃ S : List Nat, (op = 1) ∧ P0 = S ∧ Q0 = 0 :: S) ∨
  (∃ S : List Nat, (op = 2 ∨ op = 8) ∧ (SyV X.ca (X.ye f) (X.ys f) a) ∧ P0 = S ∧ Q0 = 0 :: S) ∨
  (∃ S : List Nat, (op = 3 ∨ (op = 6 ∧ -1 ≤ b.toInt ∧ b.toInt ≤ 42)) ∧ (SyV X.ca (X.ye f) (X.ys f) a) ∧ P0 = 0 :: S ∧ Q0 = 0 :: S) ∨
  (∃ S : List Nat, (op = 4 ∨ op = 9) ∧ (SyA X.ca (X.ye f) (X.ys f) a) ∧ P0 = 0 :: S ∧ Q0 = 0 :: S) ∨
  (∃ S : List Nat, (op = 5 ∨ (op = 7 ∧ -1 ≤ b.toInt ∧ b.toInt ≤ 42)) ∧ (SyA X.ca (X.ye f) (X.ys f) a) ∧ P0 = 0 :: 0 :: S ∧ Q0 = 0 :: S) ∨
  (∃ S : List Nat, (op = 10) ∧ P0 = 0 :: S ∧ Q0 = 0 :: S) ∨
  (∃ S : List Nat, (op = 11) ∧ (0 ≤ a.toInt ∧ a.toInt ≤ 42) ∧ P0 = 0 :: 0 :: S ∧ Q0 = 0 :: S) ∨
  (∃ (S : List Nat) (S' : List Nat), (op = 16) ∧ (0 ≤ a.toInt ∧ a.toInt < 10) ∧ (ArC X a.toInt S S') ∧ P0 = S ∧ Q0 = 0 :: S') ∨
  (∃ S : List Nat, (op = 17) ∧ P0 = 0 :: S ∧ Q0 = S) ∨
  (∃ S : List Nat, (op = 20) ∧ ((SyV X.ca (X.ye f) (X.ys f) a ∨ (SyA X.ca (X.ye f) (X.ys f) a ∧ (X.ca 49 a.toNatClampNeg).toInt ≤ 3))) ∧ P0 = S ∧ Q0 = S) ∨
  (∃ S : List Nat, (op = 21) ∧ (SyA X.ca (X.ye f) (X.ys f) a ∧ (X.ca 49 a.toNatClampNeg).toInt ≤ 3) ∧ (0 ≤ b.toInt ∧ b.toInt < (X.ca 52 a.toNatClampNeg).toInt) ∧ P0 = 0 :: S ∧ Q0 = S) ∨
  (∃ S : List Nat, (op = 22) ∧ (SyA X.ca (X.ye f) (X.ys f) a) ∧ P0 = S ∧ Q0 = 2 :: 1 :: S)
theorem StC9.push {X : Cx} {f op : Int} {a b : Int32} (S : List Nat) (h0 : op = 1) : StC9 X f op a b (S) (0 :: S) := Or.inl ⟨S, h0, rfl, rfl⟩
theorem StC9.load {X : Cx} {f op : Int} {a b : Int32} (S : List Nat) (h0 : op = 2 ∨ op = 8) (h1 : SyV X.ca (X.ye f) (X.ys f) a) : StC9 X f op a b (S) (0 :: S) := Or.inr (Or.inl ⟨S, h0, h1, rfl, rfl⟩)
theorem StC9.save {X : Cx} {f op : Int} {a b : Int32} (S : List Nat) (h0 : op = 3 ∨ (op = 6 ∧ -1 ≤ b.toInt ∧ b.toInt ≤ 42)) (h1 : SyV X.ca (X.ye f) (X.ys f) a) : StC9 X f op a b (0 :: S) (0 :: S) := Or.inr (Or.inr (Or.inl ⟨S, h0, h1, rfl, rfl⟩))
theorem StC9.elem {X : Cx} {f op : Int} {a b : Int32} (S : List Nat) (h0 : op = 4 ∨ op = 9) (h1 : SyA X.ca (X.ye f) (X.ys f) a) : StC9 X f op a b (0 :: S) (0 :: S) := Or.inr (Or.inr (Or.inr (Or.inl ⟨S, h0, h1, rfl, rfl⟩)))
theorem StC9.sel {X : Cx} {f op : Int} {a b : Int32} (S : List Nat) (h0 : op = 5 ∨ (op = 7 ∧ -1 ≤ b.toInt ∧ b.toInt ≤ 42)) (h1 : SyA X.ca (X.ye f) (X.ys f) a) : StC9 X f op a b (0 :: 0 :: S) (0 :: S) := Or.inr (Or.inr (Or.inr (Or.inr (Or.inl ⟨S, h0, h1, rfl, rfl⟩))))
theorem StC9.own {X : Cx} {f op : Int} {a b : Int32} (S : List Nat) (S' : List Nat) (h0 : op = 16) (h1 : 0 ≤ a.toInt ∧ a.toInt < 10) (h2 : ArC X a.toInt S S') : StC9 X f op a b (S) (0 :: S') := Or.inr (Or.inr (Or.inr (Or.inr (Or.inr (Or.inr (Or.inr (Or.inl ⟨S, S', h0, h1, h2, rfl, rfl⟩)))))))
theorem StC9.clear {X : Cx} {f op : Int} {a b : Int32} (S : List Nat) (h0 : op = 20) (h1 : (SyV X.ca (X.ye f) (X.ys f) a ∨ (SyA X.ca (X.ye f) (X.ys f) a ∧ (X.ca 49 a.toNatClampNeg).toInt ≤ 3))) : StC9 X f op a b (S) (S) := Or.inr (Or.inr (Or.inr (Or.inr (Or.inr (Or.inr (Or.inr (Or.inr (Or.inr (Or.inl ⟨S, h0, h1, rfl, rfl⟩)))))))))
theorem StC9.fill {X : Cx} {f op : Int} {a b : Int32} (S : List Nat) (h0 : op = 21) (h1 : SyA X.ca (X.ye f) (X.ys f) a ∧ (X.ca 49 a.toNatClampNeg).toInt ≤ 3) (h2 : 0 ≤ b.toInt ∧ b.toInt < (X.ca 52 a.toNatClampNeg).toInt) : StC9 X f op a b (0 :: S) (S) := Or.inr (Or.inr (Or.inr (Or.inr (Or.inr (Or.inr (Or.inr (Or.inr (Or.inr (Or.inr (Or.inl ⟨S, h0, h1, h2, rfl, rfl⟩))))))))))
theorem StC9.array {X : Cx} {f op : Int} {a b : Int32} (S : List Nat) (h0 : op = 22) (h1 : SyA X.ca (X.ye f) (X.ys f) a) : StC9 X f op a b (S) (2 :: 1 :: S) := Or.inr (Or.inr (Or.inr (Or.inr (Or.inr (Or.inr (Or.inr (Or.inr (Or.inr (Or.inr (Or.inr (⟨S, h0, h1, rfl, rfl⟩)))))))))))
theorem StC9.alone {X : Cx} {f op : Int} {a b : Int32} (S : List Nat) (h0 : op = 10) : StC9 X f op a b (0 :: S) (0 :: S) := Or.inr (Or.inr (Or.inr (Or.inr (Or.inr (Or.inl ⟨S, h0, rfl, rfl⟩)))))
theorem StC9.two {X : Cx} {f op : Int} {a b : Int32} (S : List Nat) (h0 : op = 11) (h1 : 0 ≤ a.toInt ∧ a.toInt ≤ 42) : StC9 X f op a b (0 :: 0 :: S) (0 :: S) := Or.inr (Or.inr (Or.inr (Or.inr (Or.inr (Or.inr (Or.inl ⟨S, h0, h1, rfl, rfl⟩))))))
theorem StC9.pop {X : Cx} {f op : Int} {a b : Int32} (S : List Nat) (h0 : op = 17) : StC9 X f op a b (0 :: S) (S) := Or.inr (Or.inr (Or.inr (Or.inr (Or.inr (Or.inr (Or.inr (Or.inr (Or.inl ⟨S, h0, rfl, rfl⟩))))))))
def LcC (X : Cx) (c : Nat → Int32) (K : KP) (p : Nat) (f : Int) (S : List Nat) (v : Nat) : Prop := (S.length : Int) ≤ X.tall f ∧
  ((∃ T, StC9 X f (c (3 * p)).toInt (c (3 * p + 1)) (c (3 * p + 2)) S T ∧ K (p + 1) f T v) ∨
   ((c (3 * p)).toInt = 12 ∧ JpC K p (c (3 * p + 1)) f S v) ∨
   (((c (3 * p)).toInt = 13 ∨ (c (3 * p)).toInt = 14) ∧ ∃ T, S = 0 :: T ∧ (∃ u : Nat, u ≤ v ∧ K (p + 1) f T u) ∧ JpC K p (c (3 * p + 1)) f T v) ∨
   ((c (3 * p)).toInt = 23 ∧ ∃ T, S = 0 :: T ∧ K (p + 1) f S v ∧ JpC K p (c (3 * p + 1)) f T v) ∨
   ((c (3 * p)).toInt = 15 ∧ (0 ≤ (c (3 * p + 1)).toInt ∧ (c (3 * p + 1)).toInt < X.nf) ∧ ∃ T, ArC X (100 + (c (3 * p + 1)).toInt) S T ∧ (f < 0 ∨ K (p + 1) f (0 :: T) v)) ∨
   ((c (3 * p)).toInt = 18 ∧ S = [0] ∧ 0 ≤ f) ∨
   ((c (3 * p)).toInt = 19 ∧ K (p + 1) f S (v + 1)))
section CD
variable {X : Cx} {c c' : Nat → Int32} {K K' : KP} {p s m s' : Nat} {f : Int} {S S' T : List Nat} {v : Nat}
theorem JpC.mono {a : Int32} (h : ∀ p f S v, K p f S v → K' p f S v) (g : JpC K p a f S v) : JpC K' p a f S v := ⟨g.1, g.2.elim fun u q => ⟨u, h _ _ _ _ q.1, q.2⟩⟩
theorem LcC.mono (h : ∀ p f S v, K p f S v → K' p f S v) (g : LcC X c K p f S v) : LcC X c K' p f S v := by
  refine ⟨g.1, ?_⟩
  rcases g.2 with ⟨T, g1, g2⟩ | ⟨g0, g1⟩ | ⟨g0, T, g1, g2, g3⟩ | ⟨g0, T, g1, g2, g3⟩ | ⟨g0, g1, T, g2, g3⟩ | g | ⟨g0, g1⟩
  · exact Or.inl ⟨T, g1, h _ _ _ _ g2⟩
  · exact Or.inr (Or.inl ⟨g0, g1.mono h⟩)
  · exact Or.inr (Or.inr (Or.inl ⟨g0, T, g1, g2.elim fun u q => ⟨u, q.1, h _ _ _ _ q.2⟩, g3.mono h⟩))
  · exact Or.inr (Or.inr (Or.inr (Or.inl ⟨g0, T, g1, h _ _ _ _ g2, g3.mono h⟩)))
  · exact Or.inr (Or.inr (Or.inr (Or.inr (Or.inl ⟨g0, g1, T, g2, g3.imp id (h _ _ _ _)⟩))))
  · exact Or.inr (Or.inr (Or.inr (Or.inr (Or.inr (Or.inl g)))))
  · exact Or.inr (Or.inr (Or.inr (Or.inr (Or.inr (Or.inr ⟨g0, h _ _ _ _ g1⟩)))))
/-- only the row itself is looked at -/
theorem LcC.eq (e : c' (3 * p) = c (3 * p) ∧ c' (3 * p + 1) = c (3 * p + 1) ∧ c' (3 * p + 2) = c (3 * p + 2)) (g : LcC X c K p f S v) : LcC X c' K p f S v := by
  unfold LcC at g ⊢
  rw [e.1, e.2.1, e.2.2]; exact g
/-- a stretch of code: in at s with S, out at s' with S' -/
def Ex9 (s' : Nat) (f : Int) (S' : List Nat) (v : Nat) : KP := fun q h R t => q = s' ∧ h = f ∧ R = S' ∧ t = v
def SgC (X : Cx) (c : Nat → Int32) (s s' : Nat) (f : Int) (S S' : List Nat) (v : Nat) : Prop := s ≤ s' ∧ ∃ K : KP, (∀ p g T u, K p g T u → (s ≤ p ∧ p < s') ∧ g = f ∧ LcC X c (fun q h R t => K q h R t ∨ Ex9 s' f S' v q h R t) p g T u) ∧ (K s f S v ∨ (s = s' ∧ S = S'))
theorem sgc_0 : SgC X c s s f S S v := ⟨Nat.le_refl _, fun _ _ _ _ => False, fun _ _ _ _ h => h.elim, Or.inr ⟨rfl, rfl⟩⟩
theorem SgC.fr (h : SgC X c s s' f S S' v) (e : ∀ i : Nat, 3 * s ≤ i → i < 3 * s' → c' i = c i) : SgC X c' s s' f S S' v := by
  obtain ⟨h0, K, h1, h2⟩ := h
  refine ⟨h0, K, fun p g T u k => ?_, h2⟩
  obtain ⟨a, b, d⟩ := h1 p g T u k
  exact ⟨a, b, d.eq ⟨e _ (by omega) (by omega), e _ (by omega) (by omega), e _ (by omega) (by omega)⟩⟩
theorem SgC.sq (h : SgC X c s m f S T v) (k : SgC X c m s' f T S' v) : SgC X c s s' f S S' v := by
  obtain ⟨h0, K, h1, h2⟩ := h
  obtain ⟨k0, K', k1, k2⟩ := k
  refine ⟨by omega, fun p g R u => K p g R u ∨ K' p g R u, fun p g R u q => ?_, ?_⟩
  · rcases q with q | q
    · obtain ⟨a, b, d⟩ := h1 p g R u q
      refine ⟨by omega, b, d.mono (fun p' g' R' u' r => ?_)⟩
      rcases r with r | ⟨rfl, rfl, rfl, rfl⟩
      · exact Or.inl (Or.inl r)
      · rcases k2 with k2 | ⟨rfl, rfl⟩
        · exact Or.inl (Or.inr k2)
        · exact Or.inr ⟨rfl, rfl, rfl, rfl⟩
    · obtain ⟨a, b, d⟩ := k1 p g R u q
      exact ⟨by omega, b, d.mono (fun p' g' R' u' r => r.imp (fun r => Or.inr r) id)⟩
  · rcases h2 with h2 | ⟨rfl, rfl⟩
    · exact Or.inl (Or.inl h2)
    · rcases k2 with k2 | k2
      · exact Or.inl (Or.inr k2)
      · exact Or.inr k2
/-- one row -/
theorem sgc_1 (hs : s' = s + 1) (ht : (S.length : Int) ≤ X.tall f) (h : StC9 X f (c (3 * s)).toInt (c (3 * s + 1)) (c (3 * s + 2)) S S') : SgC X c s s' f S S' v := by
  subst hs
  exact ⟨by omega, fun q h R t => q = s ∧ h = f ∧ R = S ∧ t = v, fun p g T u q => by
    obtain ⟨rfl, rfl, rfl, rfl⟩ := q
    exact ⟨by omega, rfl, ht, Or.inl ⟨S', h, Or.inr ⟨rfl, rfl, rfl, rfl⟩⟩⟩, Or.inl ⟨rfl, rfl, rfl, rfl⟩⟩
theorem sgc_call {T : List Nat} (hs : s' = s + 1) (ht : (S.length : Int) ≤ X.tall f) (h : (c (3 * s)).toInt = 15) (ha : 0 ≤ (c (3 * s + 1)).toInt ∧ (c (3 * s + 1)).toInt < X.nf) (hr : ArC X (100 + (c (3 * s + 1)).toInt) S T) : SgC X c s s' f S (0 :: T) v := by
  subst hs
  exact ⟨by omega, fun q h R t => q = s ∧ h = f ∧ R = S ∧ t = v, fun p g T' u q => by
    obtain ⟨rfl, rfl, rfl, rfl⟩ := q
    exact ⟨by omega, rfl, ht, Or.inr (Or.inr (Or.inr (Or.inr (Or.inl ⟨h, ha, T, hr, Or.inr (Or.inr ⟨rfl, rfl, rfl, rfl⟩)⟩))))⟩, Or.inl ⟨rfl, rfl, rfl, rfl⟩⟩
/-- a choice: a number, a jump where it is zero, one, a jump behind the other -/
theorem sgc_if {m1 m2 : Nat} {t1 t2 : Nat} (h1 : SgC X c s m1 f S (0 :: T) v) (h2 : SgC X c (m1 + 1) m2 f T S' v) (h3 : SgC X c (m2 + 1) s' f T S' v) (ht : ((0 :: T).length : Int) ≤ X.tall f) (ht2 : (S'.length : Int) ≤ X.tall f) (o1 : (c (3 * m1)).toInt = 13) (a1 : (c (3 * m1 + 1)).toInt = ((m2 + 1 : Nat) : Int)) (o2 : (c (3 * m2)).toInt = 12) (a2 : (c (3 * m2 + 1)).toInt = (s' : Int)) : SgC X c s s' f S S' v := by
  obtain ⟨p0, K1, p1, p2⟩ := h1
  obtain ⟨q0, K2, q1, q2⟩ := h2
  obtain ⟨r0, K3, r1, r2⟩ := h3
  have e1 : (c (3 * m1 + 1)).toNatClampNeg = m2 + 1 := by have := cl_nat (x := c (3 * m1 + 1)) (by omega); omega
  have e2 : (c (3 * m2 + 1)).toNatClampNeg = s' := by have := cl_nat (x := c (3 * m2 + 1)) (by omega); omega
  refine ⟨by omega, fun p g R u => K1 p g R u ∨ K2 p g R u ∨ K3 p g R u ∨ (p = m1 ∧ g = f ∧ R = 0 :: T ∧ u = v) ∨ (p = m2 ∧ g = f ∧ R = S' ∧ u = v), fun p g R u q => ?_, ?_⟩
  · rcases q with q | q | q | ⟨rfl, rfl, rfl, rfl⟩ | ⟨rfl, rfl, rfl, rfl⟩
    · obtain ⟨a, b, d⟩ := p1 p g R u q
      refine ⟨by omega, b, d.mono (fun p' g' R' u' r => ?_)⟩
      rcases r with r | ⟨rfl, rfl, rfl, rfl⟩
      · exact Or.inl (Or.inl r)
      · exact Or.inl (Or.inr (Or.inr (Or.inr (Or.inl ⟨rfl, rfl, rfl, rfl⟩))))
    · obtain ⟨a, b, d⟩ := q1 p g R u q
      refine ⟨by omega, b, d.mono (fun p' g' R' u' r => ?_)⟩
      rcases r with r | ⟨rfl, rfl, rfl, rfl⟩
      · exact Or.inl (Or.inr (Or.inl r))
      · exact Or.inl (Or.inr (Or.inr (Or.inr (Or.inr ⟨rfl, rfl, rfl, rfl⟩))))
    · obtain ⟨a, b, d⟩ := r1 p g R u q
      refine ⟨by omega, b, d.mono (fun p' g' R' u' r => ?_)⟩
      rcases r with r | r
      · exact Or.inl (Or.inr (Or.inr (Or.inl r)))
      · exact Or.inr r
    · refine ⟨by omega, rfl, ht, Or.inr (Or.inr (Or.inl ⟨Or.inl o1, T, rfl, ⟨u, Nat.le_refl _, ?_⟩, by omega, u, ?_, Or.inr ⟨rfl, by omega⟩⟩))⟩
      · rcases q2 with q2 | ⟨q2, q3⟩
        · exact Or.inl (Or.inr (Or.inl q2))
        · subst q3; exact Or.inl (Or.inr (Or.inr (Or.inr (Or.inr ⟨q2, rfl, rfl, rfl⟩))))
      · rw [e1]
        rcases r2 with r2 | ⟨r2, r3⟩
        · exact Or.inl (Or.inr (Or.inr (Or.inl r2)))
        · subst r3; exact Or.inr ⟨r2, rfl, rfl, rfl⟩
    · exact ⟨by omega, rfl, ht2, Or.inr (Or.inl ⟨o2, by omega, u, by rw [e2]; exact Or.inr ⟨rfl, rfl, rfl, rfl⟩, Or.inr ⟨rfl, by omega⟩⟩)⟩
  · rcases p2 with p2 | ⟨rfl, rfl⟩
    · exact Or.inl (Or.inl p2)
    · exact Or.inl (Or.inr (Or.inr (Or.inr (Or.inl ⟨rfl, rfl, rfl, rfl⟩))))
end CD
/-! CODE WITH JUMPS THAT WAIT: K the points, E where it goes out, W the rows that wait (with what must lie there where they will go) -/
abbrev WP := Nat → List Nat → Nat → Prop
def PdC (X : Cx) (c : Nat → Int32) (K : KP) (p : Nat) (f : Int) (R : List Nat) (v : Nat) (T : List Nat) : Prop := (R.length : Int) ≤ X.tall f ∧ (((c (3 * p)).toInt = 12 ∧ R = T) ∨ (((c (3 * p)).toInt = 13 ∨ (c (3 * p)).toInt = 14) ∧ R = 0 :: T ∧ K (p + 1) f T v))
def kor (K E : KP) : KP := fun p g R u => K p g R u ∨ E p g R u
def ClW (X : Cx) (c : Nat → Int32) (lo hi : Nat) (f : Int) (K E : KP) (W : WP) : Prop := (∀ p T u, W p T u → lo ≤ p ∧ p < hi) ∧ ∀ p g R u, K p g R u → (lo ≤ p ∧ p < hi) ∧ g = f ∧ ((LcC X c (kor K E) p g R u ∧ ∀ T t, ¬ W p T t) ∨ ∃ T, W p T u ∧ PdC X c (kor K E) p f R u T)
def wor (W W' : WP) : WP := fun p T u => W p T u ∨ W' p T u
section CW
variable {X : Cx} {c c' : Nat → Int32} {K K' E E' F : KP} {W W' : WP} {lo hi lo' hi' s s' : Nat} {f : Int} {S S' : List Nat} {v : Nat}
theorem PdC.mono {p : Nat} {R T : List Nat} (h : ∀ p f S v, K p f S v → K' p f S v) (g : PdC X c K p f R v T) : PdC X c K' p f R v T := ⟨g.1, g.2.imp id (fun q => ⟨q.1, q.2.1, h _ _ _ _ q.2.2⟩)⟩
theorem PdC.eq {p : Nat} {R T : List Nat} (e : c' (3 * p) = c (3 * p)) (g : PdC X c K p f R v T) : PdC X c' K p f R v T := by
  unfold PdC at g ⊢; rw [e]; exact g
theorem ClW.fr (h : ClW X c lo hi f K E W) (e : ∀ i : Nat, 3 * lo ≤ i → i < 3 * hi → c' i = c i) : ClW X c' lo hi f K E W := ⟨h.1, fun p g R u k => by
  obtain ⟨a, b, d⟩ := h.2 p g R u k
  refine ⟨a, b, d.imp (fun q => ⟨q.1.eq ⟨e _ (by omega) (by omega), e _ (by omega) (by omega), e _ (by omega) (by omega)⟩, q.2⟩) (fun q => q.elim fun T r => ⟨T, r.1, r.2.eq (e _ (by omega) (by omega))⟩)⟩⟩
/-- two stretches, one behind the other: where each goes out it finds the other, or goes out of both -/
theorem ClW.un (h : ClW X c lo hi f K E W) (k : ClW X c hi hi' f K' E' W') (h1 : lo ≤ hi) (h2 : hi ≤ hi') (e1 : ∀ p g R u, E p g R u → K' p g R u ∨ F p g R u) (e2 : ∀ p g R u, E' p g R u → K p g R u ∨ F p g R u) : ClW X c lo hi' f (kor K K') F (wor W W') := by
  refine ⟨fun p T u q => ?_, fun p g R u q => ?_⟩
  · rcases q with q | q
    · have := h.1 p T u q; omega
    · have := k.1 p T u q; omega
  · rcases q with q | q
    · obtain ⟨a, b, d⟩ := h.2 p g R u q
      have m : ∀ p g R u, kor K E p g R u → kor (kor K K') F p g R u := fun p g R u r => r.elim (fun r => Or.inl (Or.inl r)) (fun r => (e1 p g R u r).elim (fun s => Or.inl (Or.inr s)) Or.inr)
      refine ⟨by omega, b, d.imp (fun r => ⟨r.1.mono m, fun T t s => s.elim (r.2 T t) (fun s => ?_)⟩) (fun r => r.elim fun T s => ⟨T, Or.inl s.1, s.2.mono m⟩)⟩
      have := k.1 p T t s; omega
    · obtain ⟨a, b, d⟩ := k.2 p g R u q
      have m : ∀ p g R u, kor K' E' p g R u → kor (kor K K') F p g R u := fun p g R u r => r.elim (fun r => Or.inl (Or.inr r)) (fun r => (e2 p g R u r).elim (fun s => Or.inl (Or.inl s)) Or.inr)
      refine ⟨by omega, b, d.imp (fun r => ⟨r.1.mono m, fun T t s => s.elim (fun s => ?_) (r.2 T t)⟩) (fun r => r.elim fun T s => ⟨T, Or.inr s.1, s.2.mono m⟩)⟩
      have := h.1 p T t s; omega
theorem ClW.me (h : ClW X c lo hi f K E W) (e : ∀ p g R u, E p g R u → F p g R u) : ClW X c lo hi f K F W := ⟨h.1, fun p g R u k => by
  obtain ⟨a, b, d⟩ := h.2 p g R u k
  have m : ∀ p g R u, kor K E p g R u → kor K F p g R u := fun p g R u r => r.imp id (e p g R u)
  exact ⟨a, b, d.imp (fun q => ⟨q.1.mono m, q.2⟩) (fun q => q.elim fun T r => ⟨T, r.1, r.2.mono m⟩)⟩⟩
/-- rows that wait are landed: those of l go to t, where their T lies -/
theorem ClW.la {l : List Nat} {to : Int32} {t : Nat} (h : ClW X c lo hi f K E W) (a : LaA c c' l to) (ht : to.toInt = (t : Int)) (hl : ∀ p ∈ l, ∃ T u, W p T u) (ho : ∀ p T u, p ∈ l → W p T u → ∃ u', kor K E t f T u' ∧ (u' < u ∨ (u' = u ∧ p < t))) : ClW X c' lo hi f K E (fun p T u => W p T u ∧ p ∉ l) := by
  have et : to.toNatClampNeg = t := by have := cl_nat (x := to) (by first | exact oz_535992ed59 ht | omega); omega
  refine ⟨fun p T u q => h.1 p T u q.1, fun p g R u k => ?_⟩
  obtain ⟨b, d, e⟩ := h.2 p g R u k
  have c0 : c' (3 * p) = c (3 * p) := (a _).2 (fun q _ => by omega)
  have c2 : c' (3 * p + 2) = c (3 * p + 2) := (a _).2 (fun q _ => by omega)
  refine ⟨b, d, ?_⟩
  by_cases hp : p ∈ l
  · have c1 : c' (3 * p + 1) = to := (a _).1 ⟨p, hp, rfl⟩
    rcases e with ⟨-, e⟩ | ⟨T, e1, e2⟩
    · obtain ⟨T, u', w⟩ := hl p hp
      exact absurd w (e T u')
    · subst d
      obtain ⟨u', r1, r2⟩ := ho p T u hp e1
      have j : JpC (kor K E) p (c' (3 * p + 1)) g T u := by rw [c1]; exact ⟨by omega, u', by rw [et]; exact r1, by rw [et]; exact r2⟩
      refine Or.inl ⟨⟨e2.1, ?_⟩, fun T' t' w => w.2 hp⟩
      rcases e2.2 with ⟨o, rfl⟩ | ⟨o, o1, o2⟩
      · exact Or.inr (Or.inl ⟨by rw [c0]; exact o, j⟩)
      · exact Or.inr (Or.inr (Or.inl ⟨by rw [c0]; exact o, T, o1, ⟨_, Nat.le_refl _, o2⟩, j⟩))
  · have hq : ∀ q ∈ l, 3 * p + 1 ≠ 3 * q + 1 := fun q hq r => hp ((show p = q by omega) ▸ hq)
    have c1 : c' (3 * p + 1) = c (3 * p + 1) := (a _).2 hq
    rcases e with ⟨e1, e2⟩ | ⟨T, e1, e2⟩
    · exact Or.inl ⟨e1.eq ⟨c0, c1, c2⟩, fun T t' w => e2 T t' w.1⟩
    · exact Or.inr ⟨T, ⟨e1, hp⟩, e2.eq c0⟩
def w0 : WP := fun _ _ _ => False
/-- a stretch without such rows -/
theorem SgC.w (h : SgC X c s s' f S S' v) : s ≤ s' ∧ ∃ K, ClW X c s s' f K (Ex9 s' f S' v) w0 ∧ (K s f S v ∨ (s = s' ∧ S = S')) := by
  obtain ⟨h0, K, h1, h2⟩ := h
  exact ⟨h0, K, ⟨fun _ _ _ q => q.elim, fun p g R u k => ⟨(h1 p g R u k).1, (h1 p g R u k).2.1, Or.inl ⟨(h1 p g R u k).2.2, fun _ _ q => q⟩⟩⟩, h2⟩
theorem ClW.sg (h : ClW X c s s' f K (Ex9 s' f S' v) W) (hw : ∀ p T u, ¬ W p T u) (h0 : s ≤ s') (e : K s f S v ∨ (s = s' ∧ S = S')) : SgC X c s s' f S S' v := ⟨h0, K, fun p g R u k => by
  obtain ⟨a, b, d⟩ := h.2 p g R u k
  refine ⟨a, b, ?_⟩
  rcases d with d | ⟨T, d, -⟩
  · exact d.1
  · exact absurd d (hw _ _ _), e⟩
end CW
