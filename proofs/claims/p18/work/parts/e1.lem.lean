/-! RUNNING a text: cells, arrays, frames -/
def clo (ca : Nat → Nat → Int32) (base : Int) (y : Int32) : Int := if (ca 50 y.toNatClampNeg).toInt = 0 then base + (ca 51 y.toNatClampNeg).toInt else (ca 51 y.toNatClampNeg).toInt
def arA (ca qa : Nat → Nat → Int32) (base : Int) (y : Int32) : Int := if 4 ≤ (ca 49 y.toNatClampNeg).toInt then (qa 8 (clo ca base y).toNat).toInt else clo ca base y
def arN (ca qa : Nat → Nat → Int32) (base : Int) (y : Int32) : Int := if 4 ≤ (ca 49 y.toNatClampNeg).toInt then (qa 8 (clo ca base y + 1).toNat).toInt else (ca 52 y.toNatClampNeg).toInt
/-- n cells from s on may be written -/
def HdV (P : Int → Prop) (s n : Int) : Prop := ∀ c : Int, s ≤ c → c < s + n → P c
/-- the numbers from b to n, their sorts: 0 a number; an array: its place 1, upon it its size 2 -/
def StV (nu : Nat → Int32) (P : Int → Prop) : List Nat → Int → Int → Prop
  | [], n, b => n = b
  | 0 :: S, n, b => StV nu P S (n - 1) b
  | 2 :: 1 :: S, n, b => HdV P (nu (n - 2).toNat).toInt (nu (n - 1).toNat).toInt ∧ StV nu P S (n - 2) b
  | _ :: _, _, _ => False
/-- cells that hold where an array that was given lies -/
def GvC (ca : Nat → Nat → Int32) (ys ye base c : Int) : Prop := ∃ y : Nat, (ys ≤ (y : Int) ∧ (y : Int) < ye) ∧ 4 ≤ (ca 49 y).toInt ∧ (c = base + (ca 51 y).toInt ∨ c = base + (ca 51 y).toInt + 1)
def FrI (X : Cx) (K : KP) (ca qa : Nat → Nat → Int32) (tc nf st0 : Int) : Nat → Int → (Int → Prop) → Int → Int → Int → Int → Int → Prop
  | 0, f, P, base, top, nb, st, _ => f = -1 ∧ (∀ c, P c ↔ (0 ≤ c ∧ c < tc)) ∧ base = tc ∧ top = tc ∧ nb = 0 ∧ st = st0
  | m + 1, f, P, base, top, nb, st, wk => ((0 ≤ f ∧ f < nf) ∧ (qa 18 m).toInt = f) ∧ ∃ (f' : Int) (P' : Int → Prop) (base' top' nb' st' : Int) (T : List Nat) (v' : Nat), FrI X K ca qa tc nf st0 m f' P' base' top' nb' st' wk ∧ (base = top' ∧ top = base + (ca 56 f.toNat).toInt ∧ st = st' - (ca 40 f.toNat).toInt) ∧ (∀ c, P c ↔ (P' c ∨ ((base ≤ c ∧ c < top) ∧ ¬ GvC ca (X.ys f) (X.ye f) base c))) ∧ (∀ y : Nat, X.ys f ≤ (y : Int) → (y : Int) < X.ye f → 4 ≤ (ca 49 y).toInt → HdV P' (qa 8 (base + (ca 51 y).toInt).toNat).toInt (qa 8 (base + (ca 51 y).toInt + 1).toNat).toInt) ∧ ((qa 16 m).toInt = base' ∧ (qa 17 m).toInt = top') ∧ StV (qa 9) P' T nb nb' ∧ (T.length : Int) ≤ X.tall f' ∧ (0 ≤ (qa 15 m).toInt ∧ (f' < 0 ∨ (K (qa 15 m).toNatClampNeg f' (0 :: T) v' ∧ (v' : Int) + wk ≤ 100)))
section RN
variable {X : Cx} {K : KP} {ta ca na ma0 mb qa qa' : Nat → Nat → Int32} {nu nu' : Nat → Int32} {tc nf ns st0 : Int} {d m : Nat} {f base top nb st wk n b c : Int} {P P' : Int → Prop} {S : List Nat} {y x : Int32}
theorem StV.len : ∀ {S : List Nat} {n b : Int}, StV nu P S n b → n = b + (S.length : Int)
  | [], n, b, h => by have h : n = b := h; simp [h]
  | 0 :: S, n, b, h => by
    have q := StV.len (S := S) (n := n - 1) h
    rw [List.length_cons]; omega
  | 2 :: 1 :: S, n, b, h => by
    have q := StV.len (S := S) (n := n - 2) h.2
    rw [List.length_cons, List.length_cons]; omega
  | 1 :: _, _, _, h => h.elim
  | [2], _, _, h => h.elim
  | 2 :: 0 :: _, _, _, h => h.elim
  | 2 :: (k + 2) :: _, _, _, h => h.elim
  | (k + 3) :: _, _, _, h => h.elim
theorem StV.fr (hp : ∀ c, P c → P' c) : ∀ {S : List Nat} {n b : Int}, StV nu P S n b → 0 ≤ b → (∀ i : Nat, b ≤ (i : Int) → (i : Int) < n → nu' i = nu i) → StV nu' P' S n b
  | [], n, b, h, _, _ => h
  | 0 :: S, n, b, h, h0, e => StV.fr hp (S := S) (n := n - 1) h h0 (fun i i1 i2 => e i i1 (by omega))
  | 2 :: 1 :: S, n, b, h, h0, e => by
    have l := StV.len h.2
    refine ⟨fun c c1 c2 => hp c (h.1 c ?_ ?_), StV.fr hp (S := S) (n := n - 2) h.2 h0 (fun i i1 i2 => e i i1 (by omega))⟩
    · rw [← e _ (by omega) (by omega)]; exact c1
    · rw [← e (n - 2).toNat (by omega) (by omega), ← e (n - 1).toNat (by omega) (by omega)]; exact c2
  | 1 :: _, _, _, h, _, _ => h.elim
  | [2], _, _, h, _, _ => h.elim
  | 2 :: 0 :: _, _, _, h, _, _ => h.elim
  | 2 :: (k + 2) :: _, _, _, h, _, _ => h.elim
  | (k + 3) :: _, _, _, h, _, _ => h.elim
/-- all that a function's frame is -/
theorem FnY.fr {g : Nat} (h : FnY ta ca na ma0 mb nf ns d X g) : (SyR ca (X.ys g) (X.ye g) (ca 56 g).toInt 0) ∧ (0 ≤ (ca 56 g).toInt ∧ (ca 56 g).toInt ≤ 4 * ((ca 40 g).toInt - 3 - X.tall g) ∧ 1 ≤ X.tall g ∧ X.tall g + 3 ≤ (ca 40 g).toInt) ∧ (0 ≤ X.ys g ∧ X.ys g ≤ X.ye g ∧ X.ye g ≤ ns) := by
  obtain ⟨V, vl, vh, lo, m1, tall, -, -, -, q4, q5, q6, q7, -⟩ := h
  exact ⟨q6, by omega, q5⟩
/-- what is sure of the frames -/
theorem FrI.rng (hy : ∀ g : Nat, (g : Int) < nf → FnY ta ca na ma0 mb nf ns d X g) (h2 : X.tall (-1) = 2) (h0 : 0 ≤ tc) : ∀ {m : Nat} {f base top nb st wk : Int} {P : Int → Prop}, FrI X K ca qa tc nf st0 m f P base top nb st wk → (tc ≤ base ∧ base ≤ top ∧ top ≤ tc + 4 * (st0 - st)) ∧ (4 * (m : Int) ≤ st0 - st) ∧ (0 ≤ nb ∧ nb + X.tall f ≤ st0 - st + 2) ∧ (-1 ≤ f ∧ (f < nf ∨ f = -1)) ∧ ∀ c, P c → 0 ≤ c ∧ c < top
  | 0, f, base, top, nb, st, wk, P, h => by
    obtain ⟨rfl, e1, rfl, rfl, rfl, rfl⟩ := h
    exact ⟨by omega, by omega, by omega, by omega, fun c q => (e1 c).mp q⟩
  | m + 1, f, base, top, nb, st, wk, P, h => by
    obtain ⟨⟨a1, a2⟩, f', P', base', top', nb', st', T, v', q, ⟨e1, e2, e3⟩, e4, -, -, e5, e6, -⟩ := h
    obtain ⟨r1, r2, r3, r4, r5⟩ := FrI.rng hy h2 h0 q
    have y := (hy f.toNat (by omega)).fr
    rw [show ((f.toNat : Nat) : Int) = f by omega] at y
    have l := e5.len
    refine ⟨by omega, by omega, by omega, by omega, fun c q => ?_⟩
    rcases (e4 c).mp q with w | w
    · have := r5 c w; omega
    · omega
theorem FrI.wle {wk' : Int} (hw : wk' ≤ wk) : ∀ {m : Nat} {f base top nb st : Int} {P : Int → Prop}, FrI X K ca qa tc nf st0 m f P base top nb st wk → FrI X K ca qa tc nf st0 m f P base top nb st wk'
  | 0, _, _, _, _, _, _, h => h
  | m + 1, _, _, _, _, _, _, h => by
    obtain ⟨a, f', P', base', top', nb', st', T, v', q, e1, e4, e5, e6, e7, e8, e9, e10⟩ := h
    exact ⟨a, f', P', base', top', nb', st', T, v', FrI.wle hw q, e1, e4, e5, e6, e7, e8, e9, e10.imp id (fun r => ⟨r.1, by omega⟩)⟩
/-- numbers from nb on, and cells that may be written, can change -/
theorem FrI.fr (hy : ∀ g : Nat, (g : Int) < nf → FnY ta ca na ma0 mb nf ns d X g) (h2 : X.tall (-1) = 2) (h0 : 0 ≤ tc) : ∀ {m : Nat} {f base top nb st wk : Int} {P : Int → Prop}, FrI X K ca qa tc nf st0 m f P base top nb st wk → (∀ k : Nat, 15 ≤ k → k ≤ 18 → ∀ i : Nat, i < m → qa' k i = qa k i) → (∀ i : Nat, (i : Int) < nb → qa' 9 i = qa 9 i) → (∀ i : Nat, (i : Int) < top → ¬ P (i : Int) → qa' 8 i = qa 8 i) → FrI X K ca qa' tc nf st0 m f P base top nb st wk
  | 0, _, _, _, _, _, _, _, h, _, _, _ => h
  | m + 1, f, base, top, nb, st, wk, P, h, u1, u2, u3 => by
    obtain ⟨⟨a1, a2⟩, f', P', base', top', nb', st', T, v', q, ⟨e1, e2, e3⟩, e4, e5, e6, e7, e8, e9, e10⟩ := h
    obtain ⟨r1, r2, r3, r4, r5⟩ := FrI.rng hy h2 h0 q
    have yf := (hy f.toNat (by omega)).fr
    rw [show ((f.toNat : Nat) : Int) = f by omega] at yf
    have l := e7.len
    have q' : FrI X K ca qa' tc nf st0 m f' P' base' top' nb' st' wk := FrI.fr hy h2 h0 q (fun k k1 k2 i hi => u1 k k1 k2 i (by omega)) (fun i hi => u2 i (by omega)) (fun i hi hn => u3 i (by omega) (fun hp => by
      rcases (e4 _).mp hp with w | w
      · exact hn w
      · omega))
    refine ⟨⟨a1, by rw [u1 18 (by omega) (by omega) m (by omega)]; exact a2⟩, f', P', base', top', nb', st', T, v', q', ⟨e1, e2, e3⟩, e4, fun y y1 y2 y3 => ?_, ?_, e7.fr (fun _ w => w) r3.1 (fun i i1 i2 => u2 i i2), e8, ?_, ?_⟩
    · have sy := yf.1 y y1 y2
      have w2 : wdt ca y = 2 := by unfold wdt; rw [if_pos y3]
      have g1 : ¬ P (base + (ca 51 y).toInt) := fun hp => by
        rcases (e4 _).mp hp with w | w
        · have := r5 _ w; omega
        · exact w.2 ⟨y, ⟨y1, y2⟩, y3, Or.inl rfl⟩
      have g2 : ¬ P (base + (ca 51 y).toInt + 1) := fun hp => by
        rcases (e4 _).mp hp with w | w
        · have := r5 _ w; omega
        · exact w.2 ⟨y, ⟨y1, y2⟩, y3, Or.inr rfl⟩
      have k1 : 0 ≤ (ca 51 y).toInt := sy.1.2.1
      have k2 : (ca 51 y).toInt + wdt ca y ≤ (ca 56 f.toNat).toInt := sy.2.1
      have z1 : ((base + (ca 51 y).toInt).toNat : Int) = base + (ca 51 y).toInt := by omega
      have z2 : ((base + (ca 51 y).toInt + 1).toNat : Int) = base + (ca 51 y).toInt + 1 := by omega
      rw [u3 _ (by omega) (by rw [z1]; exact g1), u3 _ (by omega) (by rw [z2]; exact g2)]
      exact e5 y y1 y2 y3
    · rw [u1 16 (by omega) (by omega) m (by omega), u1 17 (by omega) (by omega) m (by omega)]; exact e6
    · rw [u1 15 (by omega) (by omega) m (by omega)]; exact e9
    · rw [u1 15 (by omega) (by omega) m (by omega)]; exact e10
/-- what is plain at the bottom is plain -/
theorem FrI.bot : ∀ {m : Nat} {f base top nb st wk : Int} {P : Int → Prop}, FrI X K ca qa tc nf st0 m f P base top nb st wk → ∀ c, 0 ≤ c → c < tc → P c
  | 0, _, _, _, _, _, _, _, h, c, c1, c2 => (h.2.1 c).mpr ⟨c1, c2⟩
  | m + 1, _, _, _, _, _, _, _, h, c, c1, c2 => by
    obtain ⟨-, f', P', base', top', nb', st', T, v', q, -, e4, -⟩ := h
    exact (e4 c).mpr (Or.inl (FrI.bot q c c1 c2))
/-- a symbol of the frame: its cells -/
theorem FrI.own (hy : ∀ g : Nat, (g : Int) < nf → FnY ta ca na ma0 mb nf ns d X g) (h : FrI X K ca qa tc nf st0 m f P base top nb st wk) (h5 : X.ys (-1) = 5000) (hns : X.ye (-1) ≤ 1090) {y : Nat} (y1 : X.ys f ≤ (y : Int)) (y2 : (y : Int) < X.ye f) : 0 ≤ f ∧ (ca 50 y).toInt = 0 ∧ (0 ≤ (ca 51 y).toInt ∧ base + (ca 51 y).toInt + wdt ca y ≤ top) ∧ ((ca 49 y).toInt ≤ 3 → ∀ c, base + (ca 51 y).toInt ≤ c → c < base + (ca 51 y).toInt + (ca 52 y).toInt → P c) ∧ (0 ≤ (ca 49 y).toInt ∧ (ca 49 y).toInt ≤ 5) ∧ ((ca 49 y).toInt ≤ 1 → (ca 52 y).toInt = 1) ∧ 0 ≤ (ca 52 y).toInt := by
  cases m with
  | zero =>
    obtain ⟨rfl, -⟩ := h
    omega
  | succ m =>
    obtain ⟨⟨a1, a2⟩, f', P', base', top', nb', st', T, v', q, ⟨e1, e2, e3⟩, e4, -⟩ := h
    have yf := (hy f.toNat (by omega)).fr
    rw [show ((f.toNat : Nat) : Int) = f by omega] at yf
    obtain ⟨⟨s1, s2, s3, s4, s5⟩, s6, s7⟩ := yf.1 y y1 y2
    refine ⟨a1.1, s1, by omega, fun k3 c c1 c2 => (e4 c).mpr (Or.inr ⟨?_, ?_⟩), s3, s5, s4.1⟩
    · have : wdt ca y = (ca 52 y).toInt := by unfold wdt; rw [if_neg (by omega)]
      omega
    · rintro ⟨y', ⟨z1, z2⟩, z3, z4⟩
      have wy : wdt ca y = (ca 52 y).toInt := by unfold wdt; rw [if_neg (by omega)]
      have wy' : wdt ca y' = 2 := by unfold wdt; rw [if_pos z3]
      have ne : y ≠ y' := fun e => by subst e; omega
      by_cases lt : y < y'
      · have := s7 y' lt z2; omega
      · have := (yf.1 y' z1 z2).2.2 y (by omega) y2; omega
theorem FrI.sv (hy : ∀ g : Nat, (g : Int) < nf → FnY ta ca na ma0 mb nf ns d X g) (ht : TxS ca ns tc) (h : FrI X K ca qa tc nf st0 m f P base top nb st wk) (h5 : X.ys (-1) = 5000) (he : X.ye (-1) = ns) (hns : ns ≤ 1090) (hye : X.ye f ≤ ns) (s : SyV ca (X.ye f) (X.ys f) y) : P (clo ca base y) ∧ (0 ≤ y.toInt ∧ y.toInt < 1100) := by
  obtain ⟨⟨⟨g0, g1⟩, g2⟩, k0, k1⟩ := s
  have cy := cl_nat g0
  refine ⟨?_, by omega⟩
  by_cases e : (ca 50 y.toNatClampNeg).toInt = 1
  · obtain ⟨t1, t2, t3, t4⟩ := ht y.toNatClampNeg (by omega) e
    unfold clo; rw [if_neg (by omega)]
    have : wdt ca y.toNatClampNeg = 1 := by unfold wdt; rw [if_neg (by omega)]; exact t4 k1
    exact h.bot _ t1.1 (by omega)
  · have g3 : X.ys f ≤ y.toInt := g2.elim (fun q => absurd q e) id
    obtain ⟨o1, o2, o3, o4, o5, o6, o7⟩ := h.own hy h5 (by omega) (y := y.toNatClampNeg) (by omega) (by omega)
    unfold clo; rw [if_pos o2]
    have := o6 k1
    exact o4 (by omega) _ (Int.le_refl _) (by omega)
theorem FrI.sa (hy : ∀ g : Nat, (g : Int) < nf → FnY ta ca na ma0 mb nf ns d X g) (ht : TxS ca ns tc) (h : FrI X K ca qa tc nf st0 m f P base top nb st wk) (h5 : X.ys (-1) = 5000) (he : X.ye (-1) = ns) (hns : ns ≤ 1090) (hye : X.ye f ≤ ns) (s : SyA ca (X.ye f) (X.ys f) y) (h2 : X.tall (-1) = 2) (h0 : 0 ≤ tc) : HdV P (arA ca qa base y) (arN ca qa base y) ∧ (0 ≤ y.toInt ∧ y.toInt < 1100) ∧ (0 ≤ clo ca base y ∧ clo ca base y ≤ top) ∧ (4 ≤ (ca 49 y.toNatClampNeg).toInt → 0 ≤ clo ca base y ∧ clo ca base y + 2 ≤ top) ∧ ((ca 49 y.toNatClampNeg).toInt ≤ 3 → ∀ c, clo ca base y ≤ c → c < clo ca base y + (ca 52 y.toNatClampNeg).toInt → P c) ∧ 0 ≤ (ca 52 y.toNatClampNeg).toInt := by
  obtain ⟨⟨⟨g0, g1⟩, g2⟩, k0, k1⟩ := s
  have cy := cl_nat g0
  have rg := h.rng hy h2 h0
  by_cases e : (ca 50 y.toNatClampNeg).toInt = 1
  · obtain ⟨t1, t2, t3, t4⟩ := ht y.toNatClampNeg (by omega) e
    have ec : clo ca base y = (ca 51 y.toNatClampNeg).toInt := by unfold clo; rw [if_neg (by omega)]
    have wd : wdt ca y.toNatClampNeg = (ca 52 y.toNatClampNeg).toInt := by unfold wdt; rw [if_neg (by omega)]
    have pl : ∀ c, clo ca base y ≤ c → c < clo ca base y + (ca 52 y.toNatClampNeg).toInt → P c := fun c c1 c2 => h.bot c (by omega) (by omega)
    refine ⟨?_, by omega, by omega, fun q => by omega, fun _ => pl, t3.1⟩
    unfold arA arN; rw [if_neg (by omega), if_neg (by omega)]; exact pl
  · have g3 : X.ys f ≤ y.toInt := g2.elim (fun q => absurd q e) id
    obtain ⟨o1, o2, o3, o4, o5, o6, o7⟩ := h.own hy h5 (by omega) (y := y.toNatClampNeg) (by omega) (by omega)
    have ec : clo ca base y = base + (ca 51 y.toNatClampNeg).toInt := by unfold clo; rw [if_pos o2]
    have wn : 0 ≤ wdt ca y.toNatClampNeg := by unfold wdt; split <;> omega
    refine ⟨?_, by omega, by omega, fun q => ?_, fun q => by rw [ec]; exact o4 q, o7⟩
    · by_cases q : 4 ≤ (ca 49 y.toNatClampNeg).toInt
      · unfold arA arN; rw [if_pos q, if_pos q, ec]
        cases m with
        | zero => obtain ⟨rfl, -⟩ := h; omega
        | succ m =>
          obtain ⟨-, f', P', base', top', nb', st', T, v', -, -, e4, e5, -⟩ := h
          exact fun c c1 c2 => (e4 c).mpr (Or.inl (e5 y.toNatClampNeg (by omega) (by omega) q c c1 c2))
      · unfold arA arN; rw [if_neg q, if_neg q, ec]; exact o4 (by omega)
    · have : wdt ca y.toNatClampNeg = 2 := by unfold wdt; rw [if_pos q]
      omega
end RN
/-! what each row of typed code tells of its step -/
section LI
variable {X : Cx} {c : Nat → Int32} {K : KP} {p : Nat} {f : Int} {S : List Nat} {v : Nat}
theorem LcC.st (h : LcC X c K p f S v) (o : (c (3 * p)).toInt ≠ 12 ∧ (c (3 * p)).toInt ≠ 13 ∧ (c (3 * p)).toInt ≠ 14 ∧ (c (3 * p)).toInt ≠ 15 ∧ (c (3 * p)).toInt ≠ 18 ∧ (c (3 * p)).toInt ≠ 19 ∧ (c (3 * p)).toInt ≠ 23) : ∃ T, StC9 X f (c (3 * p)).toInt (c (3 * p + 1)) (c (3 * p + 2)) S T ∧ K (p + 1) f T v := by
  rcases h.2 with h | ⟨h, -⟩ | ⟨h, -⟩ | ⟨h, -⟩ | ⟨h, -⟩ | ⟨h, -⟩ | ⟨h, -⟩
  · exact h
  all_goals (exfalso; omega)
theorem LcC.op (h : LcC X c K p f S v) : 1 ≤ (c (3 * p)).toInt ∧ (c (3 * p)).toInt ≤ 23 := by
  rcases h.2 with ⟨T, h, -⟩ | ⟨h, -⟩ | ⟨h, -⟩ | ⟨h, -⟩ | ⟨h, -⟩ | ⟨h, -⟩ | ⟨h, -⟩
  · rcases h with ⟨_, o9, rfl, rfl⟩ | ⟨_, o9, _, rfl, rfl⟩ | ⟨_, o9, _, rfl, rfl⟩ | ⟨_, o9, _, rfl, rfl⟩ | ⟨_, o9, _, rfl, rfl⟩ | ⟨_, o9, rfl, rfl⟩ | ⟨_, o9, _, rfl, rfl⟩ | ⟨_, _, o9, _, _, rfl, rfl⟩ | ⟨_, o9, rfl, rfl⟩ | ⟨_, o9, _, rfl, rfl⟩ | ⟨_, o9, _, _, rfl, rfl⟩ | ⟨_, o9, _, rfl, rfl⟩ <;> omega
  all_goals omega
theorem LcC.o1 (h : LcC X c K p f S v) (o : (c (3 * p)).toInt = 1) : K (p + 1) f (0 :: S) v := by
  obtain ⟨T, s, k⟩ := h.st (by omega)
  rcases s with ⟨_, _, rfl, rfl⟩ | ⟨_, o9, _, rfl, rfl⟩ | ⟨_, o9, _, rfl, rfl⟩ | ⟨_, o9, _, rfl, rfl⟩ | ⟨_, o9, _, rfl, rfl⟩ | ⟨_, o9, rfl, rfl⟩ | ⟨_, o9, _, rfl, rfl⟩ | ⟨_, _, o9, _, _, rfl, rfl⟩ | ⟨_, o9, rfl, rfl⟩ | ⟨_, o9, _, rfl, rfl⟩ | ⟨_, o9, _, _, rfl, rfl⟩ | ⟨_, o9, _, rfl, rfl⟩
  · exact k
  · exfalso; omega
  · exfalso; omega
  · exfalso; omega
  · exfalso; omega
  · exfalso; omega
  · exfalso; omega
  · exfalso; omega
  · exfalso; omega
  · exfalso; omega
  · exfalso; omega
  · exfalso; omega
theorem LcC.o2 (h : LcC X c K p f S v) (o : (c (3 * p)).toInt = 2 ∨ (c (3 * p)).toInt = 8) : SyV X.ca (X.ye f) (X.ys f) (c (3 * p + 1)) ∧ K (p + 1) f (0 :: S) v := by
  obtain ⟨T, s, k⟩ := h.st (by omega)
  rcases s with ⟨_, o9, rfl, rfl⟩ | ⟨_, o9, q, rfl, rfl⟩ | ⟨_, o9, _, rfl, rfl⟩ | ⟨_, o9, _, rfl, rfl⟩ | ⟨_, o9, _, rfl, rfl⟩ | ⟨_, o9, rfl, rfl⟩ | ⟨_, o9, _, rfl, rfl⟩ | ⟨_, _, o9, _, _, rfl, rfl⟩ | ⟨_, o9, rfl, rfl⟩ | ⟨_, o9, _, rfl, rfl⟩ | ⟨_, o9, _, _, rfl, rfl⟩ | ⟨_, o9, _, rfl, rfl⟩
  · exfalso; omega
  · exact ⟨q, k⟩
  · exfalso; omega
  · exfalso; omega
  · exfalso; omega
  · exfalso; omega
  · exfalso; omega
  · exfalso; omega
  · exfalso; omega
  · exfalso; omega
  · exfalso; omega
  · exfalso; omega
theorem LcC.o3 (h : LcC X c K p f S v) (o : (c (3 * p)).toInt = 3 ∨ (c (3 * p)).toInt = 6) : ∃ S0, S = 0 :: S0 ∧ SyV X.ca (X.ye f) (X.ys f) (c (3 * p + 1)) ∧ ((c (3 * p)).toInt = 6 → -1 ≤ (c (3 * p + 2)).toInt ∧ (c (3 * p + 2)).toInt ≤ 42) ∧ K (p + 1) f (0 :: S0) v := by
  obtain ⟨T, s, k⟩ := h.st (by omega)
  rcases s with ⟨_, o9, rfl, rfl⟩ | ⟨_, o9, _, rfl, rfl⟩ | ⟨S0, w, q, rfl, rfl⟩ | ⟨_, o9, _, rfl, rfl⟩ | ⟨_, o9, _, rfl, rfl⟩ | ⟨_, o9, rfl, rfl⟩ | ⟨_, o9, _, rfl, rfl⟩ | ⟨_, _, o9, _, _, rfl, rfl⟩ | ⟨_, o9, rfl, rfl⟩ | ⟨_, o9, _, rfl, rfl⟩ | ⟨_, o9, _, _, rfl, rfl⟩ | ⟨_, o9, _, rfl, rfl⟩
  · exfalso; omega
  · exfalso; omega
  · exact ⟨S0, rfl, q, fun e => w.elim (fun r => by omega) (fun r => r.2), k⟩
  · exfalso; omega
  · exfalso; omega
  · exfalso; omega
  · exfalso; omega
  · exfalso; omega
  · exfalso; omega
  · exfalso; omega
  · exfalso; omega
  · exfalso; omega
theorem LcC.o4 (h : LcC X c K p f S v) (o : (c (3 * p)).toInt = 4 ∨ (c (3 * p)).toInt = 9) : ∃ S0, S = 0 :: S0 ∧ SyA X.ca (X.ye f) (X.ys f) (c (3 * p + 1)) ∧ K (p + 1) f (0 :: S0) v := by
  obtain ⟨T, s, k⟩ := h.st (by omega)
  rcases s with ⟨_, o9, rfl, rfl⟩ | ⟨_, o9, _, rfl, rfl⟩ | ⟨_, o9, _, rfl, rfl⟩ | ⟨S0, o9, q, rfl, rfl⟩ | ⟨_, o9, _, rfl, rfl⟩ | ⟨_, o9, rfl, rfl⟩ | ⟨_, o9, _, rfl, rfl⟩ | ⟨_, _, o9, _, _, rfl, rfl⟩ | ⟨_, o9, rfl, rfl⟩ | ⟨_, o9, _, rfl, rfl⟩ | ⟨_, o9, _, _, rfl, rfl⟩ | ⟨_, o9, _, rfl, rfl⟩
  · exfalso; omega
  · exfalso; omega
  · exfalso; omega
  · exact ⟨S0, rfl, q, k⟩
  · exfalso; omega
  · exfalso; omega
  · exfalso; omega
  · exfalso; omega
  · exfalso; omega
  · exfalso; omega
  · exfalso; omega
  · exfalso; omega
theorem LcC.o5 (h : LcC X c K p f S v) (o : (c (3 * p)).toInt = 5 ∨ (c (3 * p)).toInt = 7) : ∃ S0, S = 0 :: 0 :: S0 ∧ SyA X.ca (X.ye f) (X.ys f) (c (3 * p + 1)) ∧ ((c (3 * p)).toInt = 7 → -1 ≤ (c (3 * p + 2)).toInt ∧ (c (3 * p + 2)).toInt ≤ 42) ∧ K (p + 1) f (0 :: S0) v := by
  obtain ⟨T, s, k⟩ := h.st (by omega)
  rcases s with ⟨_, o9, rfl, rfl⟩ | ⟨_, o9, _, rfl, rfl⟩ | ⟨_, o9, _, rfl, rfl⟩ | ⟨_, o9, _, rfl, rfl⟩ | ⟨S0, w, q, rfl, rfl⟩ | ⟨_, o9, rfl, rfl⟩ | ⟨_, o9, _, rfl, rfl⟩ | ⟨_, _, o9, _, _, rfl, rfl⟩ | ⟨_, o9, rfl, rfl⟩ | ⟨_, o9, _, rfl, rfl⟩ | ⟨_, o9, _, _, rfl, rfl⟩ | ⟨_, o9, _, rfl, rfl⟩
  · exfalso; omega
  · exfalso; omega
  · exfalso; omega
  · exfalso; omega
  · exact ⟨S0, rfl, q, fun e => w.elim (fun r => by omega) (fun r => r.2), k⟩
  · exfalso; omega
  · exfalso; omega
  · exfalso; omega
  · exfalso; omega
  · exfalso; omega
  · exfalso; omega
  · exfalso; omega
theorem LcC.o10 (h : LcC X c K p f S v) (o : (c (3 * p)).toInt = 10) : ∃ S0, S = 0 :: S0 ∧ K (p + 1) f (0 :: S0) v := by
  obtain ⟨T, s, k⟩ := h.st (by omega)
  rcases s with ⟨_, o9, rfl, rfl⟩ | ⟨_, o9, _, rfl, rfl⟩ | ⟨_, o9, _, rfl, rfl⟩ | ⟨_, o9, _, rfl, rfl⟩ | ⟨_, o9, _, rfl, rfl⟩ | ⟨S0, _, rfl, rfl⟩ | ⟨_, o9, _, rfl, rfl⟩ | ⟨_, _, o9, _, _, rfl, rfl⟩ | ⟨_, o9, rfl, rfl⟩ | ⟨_, o9, _, rfl, rfl⟩ | ⟨_, o9, _, _, rfl, rfl⟩ | ⟨_, o9, _, rfl, rfl⟩
  · exfalso; omega
  · exfalso; omega
  · exfalso; omega
  · exfalso; omega
  · exfalso; omega
  · exact ⟨S0, rfl, k⟩
  · exfalso; omega
  · exfalso; omega
  · exfalso; omega
  · exfalso; omega
  · exfalso; omega
  · exfalso; omega
theorem LcC.o11 (h : LcC X c K p f S v) (o : (c (3 * p)).toInt = 11) : ∃ S0, S = 0 :: 0 :: S0 ∧ (0 ≤ (c (3 * p + 1)).toInt ∧ (c (3 * p + 1)).toInt ≤ 42) ∧ K (p + 1) f (0 :: S0) v := by
  obtain ⟨T, s, k⟩ := h.st (by omega)
  rcases s with ⟨_, o9, rfl, rfl⟩ | ⟨_, o9, _, rfl, rfl⟩ | ⟨_, o9, _, rfl, rfl⟩ | ⟨_, o9, _, rfl, rfl⟩ | ⟨_, o9, _, rfl, rfl⟩ | ⟨_, o9, rfl, rfl⟩ | ⟨S0, o9, q, rfl, rfl⟩ | ⟨_, _, o9, _, _, rfl, rfl⟩ | ⟨_, o9, rfl, rfl⟩ | ⟨_, o9, _, rfl, rfl⟩ | ⟨_, o9, _, _, rfl, rfl⟩ | ⟨_, o9, _, rfl, rfl⟩
  · exfalso; omega
  · exfalso; omega
  · exfalso; omega
  · exfalso; omega
  · exfalso; omega
  · exfalso; omega
  · exact ⟨S0, rfl, q, k⟩
  · exfalso; omega
  · exfalso; omega
  · exfalso; omega
  · exfalso; omega
  · exfalso; omega
theorem LcC.o17 (h : LcC X c K p f S v) (o : (c (3 * p)).toInt = 17) : ∃ S0, S = 0 :: S0 ∧ K (p + 1) f S0 v := by
  obtain ⟨T, s, k⟩ := h.st (by omega)
  rcases s with ⟨_, o9, rfl, rfl⟩ | ⟨_, o9, _, rfl, rfl⟩ | ⟨_, o9, _, rfl, rfl⟩ | ⟨_, o9, _, rfl, rfl⟩ | ⟨_, o9, _, rfl, rfl⟩ | ⟨_, o9, rfl, rfl⟩ | ⟨_, o9, _, rfl, rfl⟩ | ⟨_, _, o9, _, _, rfl, rfl⟩ | ⟨_, _, rfl, rfl⟩ | ⟨_, o9, _, rfl, rfl⟩ | ⟨_, o9, _, _, rfl, rfl⟩ | ⟨_, o9, _, rfl, rfl⟩
  · exfalso; omega
  · exfalso; omega
  · exfalso; omega
  · exfalso; omega
  · exfalso; omega
  · exfalso; omega
  · exfalso; omega
  · exfalso; omega
  · exact ⟨T, rfl, k⟩
  · exfalso; omega
  · exfalso; omega
  · exfalso; omega
theorem LcC.o20 (h : LcC X c K p f S v) (o : (c (3 * p)).toInt = 20) : (SyV X.ca (X.ye f) (X.ys f) (c (3 * p + 1)) ∨ (SyA X.ca (X.ye f) (X.ys f) (c (3 * p + 1)) ∧ (X.ca 49 (c (3 * p + 1)).toNatClampNeg).toInt ≤ 3)) ∧ K (p + 1) f S v := by
  obtain ⟨T, s, k⟩ := h.st (by omega)
  rcases s with ⟨_, o9, rfl, rfl⟩ | ⟨_, o9, _, rfl, rfl⟩ | ⟨_, o9, _, rfl, rfl⟩ | ⟨_, o9, _, rfl, rfl⟩ | ⟨_, o9, _, rfl, rfl⟩ | ⟨_, o9, rfl, rfl⟩ | ⟨_, o9, _, rfl, rfl⟩ | ⟨_, _, o9, _, _, rfl, rfl⟩ | ⟨_, o9, rfl, rfl⟩ | ⟨_, o9, q, rfl, rfl⟩ | ⟨_, o9, _, _, rfl, rfl⟩ | ⟨_, o9, _, rfl, rfl⟩
  · exfalso; omega
  · exfalso; omega
  · exfalso; omega
  · exfalso; omega
  · exfalso; omega
  · exfalso; omega
  · exfalso; omega
  · exfalso; omega
  · exfalso; omega
  · exact ⟨q, k⟩
  · exfalso; omega
  · exfalso; omega
theorem LcC.o21 (h : LcC X c K p f S v) (o : (c (3 * p)).toInt = 21) : ∃ S0, S = 0 :: S0 ∧ (SyA X.ca (X.ye f) (X.ys f) (c (3 * p + 1)) ∧ (X.ca 49 (c (3 * p + 1)).toNatClampNeg).toInt ≤ 3) ∧ (0 ≤ (c (3 * p + 2)).toInt ∧ (c (3 * p + 2)).toInt < (X.ca 52 (c (3 * p + 1)).toNatClampNeg).toInt) ∧ K (p + 1) f S0 v := by
  obtain ⟨T, s, k⟩ := h.st (by omega)
  rcases s with ⟨_, o9, rfl, rfl⟩ | ⟨_, o9, _, rfl, rfl⟩ | ⟨_, o9, _, rfl, rfl⟩ | ⟨_, o9, _, rfl, rfl⟩ | ⟨_, o9, _, rfl, rfl⟩ | ⟨_, o9, rfl, rfl⟩ | ⟨_, o9, _, rfl, rfl⟩ | ⟨_, _, o9, _, _, rfl, rfl⟩ | ⟨_, o9, rfl, rfl⟩ | ⟨_, o9, _, rfl, rfl⟩ | ⟨_, o9, q, w, rfl, rfl⟩ | ⟨_, o9, _, rfl, rfl⟩
  · exfalso; omega
  · exfalso; omega
  · exfalso; omega
  · exfalso; omega
  · exfalso; omega
  · exfalso; omega
  · exfalso; omega
  · exfalso; omega
  · exfalso; omega
  · exfalso; omega
  · exact ⟨T, rfl, q, w, k⟩
  · exfalso; omega
theorem LcC.o22 (h : LcC X c K p f S v) (o : (c (3 * p)).toInt = 22) : SyA X.ca (X.ye f) (X.ys f) (c (3 * p + 1)) ∧ K (p + 1) f (2 :: 1 :: S) v := by
  obtain ⟨T, s, k⟩ := h.st (by omega)
  rcases s with ⟨_, o9, rfl, rfl⟩ | ⟨_, o9, _, rfl, rfl⟩ | ⟨_, o9, _, rfl, rfl⟩ | ⟨_, o9, _, rfl, rfl⟩ | ⟨_, o9, _, rfl, rfl⟩ | ⟨_, o9, rfl, rfl⟩ | ⟨_, o9, _, rfl, rfl⟩ | ⟨_, _, o9, _, _, rfl, rfl⟩ | ⟨_, o9, rfl, rfl⟩ | ⟨_, o9, _, rfl, rfl⟩ | ⟨_, o9, _, _, rfl, rfl⟩ | ⟨_, o9, q, rfl, rfl⟩
  · exfalso; omega
  · exfalso; omega
  · exfalso; omega
  · exfalso; omega
  · exfalso; omega
  · exfalso; omega
  · exfalso; omega
  · exfalso; omega
  · exfalso; omega
  · exfalso; omega
  · exfalso; omega
  · exact ⟨q, k⟩
theorem LcC.o16 (h : LcC X c K p f S v) (o : (c (3 * p)).toInt = 16) : ∃ T, (0 ≤ (c (3 * p + 1)).toInt ∧ (c (3 * p + 1)).toInt < 10) ∧ ArC X (c (3 * p + 1)).toInt S T ∧ K (p + 1) f (0 :: T) v := by
  obtain ⟨T, s, k⟩ := h.st (by omega)
  rcases s with ⟨_, o9, rfl, rfl⟩ | ⟨_, o9, _, rfl, rfl⟩ | ⟨_, o9, _, rfl, rfl⟩ | ⟨_, o9, _, rfl, rfl⟩ | ⟨_, o9, _, rfl, rfl⟩ | ⟨_, o9, rfl, rfl⟩ | ⟨_, o9, _, rfl, rfl⟩ | ⟨_, S', o9, q, w, rfl, rfl⟩ | ⟨_, o9, rfl, rfl⟩ | ⟨_, o9, _, rfl, rfl⟩ | ⟨_, o9, _, _, rfl, rfl⟩ | ⟨_, o9, _, rfl, rfl⟩
  · exfalso; omega
  · exfalso; omega
  · exfalso; omega
  · exfalso; omega
  · exfalso; omega
  · exfalso; omega
  · exfalso; omega
  · exact ⟨S', q, w, k⟩
  · exfalso; omega
  · exfalso; omega
  · exfalso; omega
  · exfalso; omega
theorem LcC.o12 (h : LcC X c K p f S v) (o : (c (3 * p)).toInt = 12) : JpC K p (c (3 * p + 1)) f S v := by
  rcases h.2 with ⟨T, h, -⟩ | ⟨h, q⟩ | ⟨h, -⟩ | ⟨h, -⟩ | ⟨h, -⟩ | ⟨h, -⟩ | ⟨h, -⟩
  · rcases h with ⟨_, o9, rfl, rfl⟩ | ⟨_, o9, _, rfl, rfl⟩ | ⟨_, o9, _, rfl, rfl⟩ | ⟨_, o9, _, rfl, rfl⟩ | ⟨_, o9, _, rfl, rfl⟩ | ⟨_, o9, rfl, rfl⟩ | ⟨_, o9, _, rfl, rfl⟩ | ⟨_, _, o9, _, _, rfl, rfl⟩ | ⟨_, o9, rfl, rfl⟩ | ⟨_, o9, _, rfl, rfl⟩ | ⟨_, o9, _, _, rfl, rfl⟩ | ⟨_, o9, _, rfl, rfl⟩ <;> (exfalso; omega)
  · exact q
  all_goals (exfalso; omega)
theorem LcC.o13 (h : LcC X c K p f S v) (o : (c (3 * p)).toInt = 13 ∨ (c (3 * p)).toInt = 14) : ∃ T, S = 0 :: T ∧ (∃ u : Nat, u ≤ v ∧ K (p + 1) f T u) ∧ JpC K p (c (3 * p + 1)) f T v := by
  rcases h.2 with ⟨T, h, -⟩ | ⟨h, -⟩ | ⟨h, q⟩ | ⟨h, -⟩ | ⟨h, -⟩ | ⟨h, -⟩ | ⟨h, -⟩
  · rcases h with ⟨_, o9, rfl, rfl⟩ | ⟨_, o9, _, rfl, rfl⟩ | ⟨_, o9, _, rfl, rfl⟩ | ⟨_, o9, _, rfl, rfl⟩ | ⟨_, o9, _, rfl, rfl⟩ | ⟨_, o9, rfl, rfl⟩ | ⟨_, o9, _, rfl, rfl⟩ | ⟨_, _, o9, _, _, rfl, rfl⟩ | ⟨_, o9, rfl, rfl⟩ | ⟨_, o9, _, rfl, rfl⟩ | ⟨_, o9, _, _, rfl, rfl⟩ | ⟨_, o9, _, rfl, rfl⟩ <;> (exfalso; omega)
  · exfalso; omega
  · exact q
  all_goals (exfalso; omega)
theorem LcC.o23 (h : LcC X c K p f S v) (o : (c (3 * p)).toInt = 23) : ∃ T, S = 0 :: T ∧ K (p + 1) f S v ∧ JpC K p (c (3 * p + 1)) f T v := by
  rcases h.2 with ⟨T, h, -⟩ | ⟨h, -⟩ | ⟨h, -⟩ | ⟨h, q⟩ | ⟨h, -⟩ | ⟨h, -⟩ | ⟨h, -⟩
  · rcases h with ⟨_, o9, rfl, rfl⟩ | ⟨_, o9, _, rfl, rfl⟩ | ⟨_, o9, _, rfl, rfl⟩ | ⟨_, o9, _, rfl, rfl⟩ | ⟨_, o9, _, rfl, rfl⟩ | ⟨_, o9, rfl, rfl⟩ | ⟨_, o9, _, rfl, rfl⟩ | ⟨_, _, o9, _, _, rfl, rfl⟩ | ⟨_, o9, rfl, rfl⟩ | ⟨_, o9, _, rfl, rfl⟩ | ⟨_, o9, _, _, rfl, rfl⟩ | ⟨_, o9, _, rfl, rfl⟩ <;> (exfalso; omega)
  · exfalso; omega
  · exfalso; omega
  · exact q
  all_goals (exfalso; omega)
theorem LcC.o15 (h : LcC X c K p f S v) (o : (c (3 * p)).toInt = 15) : (0 ≤ (c (3 * p + 1)).toInt ∧ (c (3 * p + 1)).toInt < X.nf) ∧ ∃ T, ArC X (100 + (c (3 * p + 1)).toInt) S T ∧ (f < 0 ∨ K (p + 1) f (0 :: T) v) := by
  rcases h.2 with ⟨T, h, -⟩ | ⟨h, -⟩ | ⟨h, -⟩ | ⟨h, -⟩ | ⟨h, q⟩ | ⟨h, -⟩ | ⟨h, -⟩
  · rcases h with ⟨_, o9, rfl, rfl⟩ | ⟨_, o9, _, rfl, rfl⟩ | ⟨_, o9, _, rfl, rfl⟩ | ⟨_, o9, _, rfl, rfl⟩ | ⟨_, o9, _, rfl, rfl⟩ | ⟨_, o9, rfl, rfl⟩ | ⟨_, o9, _, rfl, rfl⟩ | ⟨_, _, o9, _, _, rfl, rfl⟩ | ⟨_, o9, rfl, rfl⟩ | ⟨_, o9, _, rfl, rfl⟩ | ⟨_, o9, _, _, rfl, rfl⟩ | ⟨_, o9, _, rfl, rfl⟩ <;> (exfalso; omega)
  · exfalso; omega
  · exfalso; omega
  · exfalso; omega
  · exact q
  all_goals (exfalso; omega)
theorem LcC.o18 (h : LcC X c K p f S v) (o : (c (3 * p)).toInt = 18) : S = [0] ∧ 0 ≤ f := by
  rcases h.2 with ⟨T, h, -⟩ | ⟨h, -⟩ | ⟨h, -⟩ | ⟨h, -⟩ | ⟨h, -⟩ | ⟨h, q⟩ | ⟨h, -⟩
  · rcases h with ⟨_, o9, rfl, rfl⟩ | ⟨_, o9, _, rfl, rfl⟩ | ⟨_, o9, _, rfl, rfl⟩ | ⟨_, o9, _, rfl, rfl⟩ | ⟨_, o9, _, rfl, rfl⟩ | ⟨_, o9, rfl, rfl⟩ | ⟨_, o9, _, rfl, rfl⟩ | ⟨_, _, o9, _, _, rfl, rfl⟩ | ⟨_, o9, rfl, rfl⟩ | ⟨_, o9, _, rfl, rfl⟩ | ⟨_, o9, _, _, rfl, rfl⟩ | ⟨_, o9, _, rfl, rfl⟩ <;> (exfalso; omega)
  · exfalso; omega
  · exfalso; omega
  · exfalso; omega
  · exfalso; omega
  · exact q
  · exfalso; omega
theorem LcC.o19 (h : LcC X c K p f S v) (o : (c (3 * p)).toInt = 19) : K (p + 1) f S (v + 1) := by
  rcases h.2 with ⟨T, h, -⟩ | ⟨h, -⟩ | ⟨h, -⟩ | ⟨h, -⟩ | ⟨h, -⟩ | ⟨h, -⟩ | ⟨h, q⟩
  · rcases h with ⟨_, o9, rfl, rfl⟩ | ⟨_, o9, _, rfl, rfl⟩ | ⟨_, o9, _, rfl, rfl⟩ | ⟨_, o9, _, rfl, rfl⟩ | ⟨_, o9, _, rfl, rfl⟩ | ⟨_, o9, rfl, rfl⟩ | ⟨_, o9, _, rfl, rfl⟩ | ⟨_, _, o9, _, _, rfl, rfl⟩ | ⟨_, o9, rfl, rfl⟩ | ⟨_, o9, _, rfl, rfl⟩ | ⟨_, o9, _, _, rfl, rfl⟩ | ⟨_, o9, _, rfl, rfl⟩ <;> (exfalso; omega)
  · exfalso; omega
  · exfalso; omega
  · exfalso; omega
  · exfalso; omega
  · exfalso; omega
  · exact q
end LI
/-! WHERE a process stands -/
def rkN (wk m v pc : Int) : Int := ((wk * 133 + m) * 101 + v) * 7001 + (7000 - pc)
theorem rk_v {wk m v v' pc pc' : Int} (h : v' < v ∨ (v' = v ∧ pc < pc')) (h0 : 0 ≤ pc' ∧ pc' ≤ 7000) (h1 : 0 ≤ pc ∧ pc ≤ 7000) : rkN wk m v' pc' < rkN wk m v pc := by
  unfold rkN; omega
theorem rk_w {wk m m' v v' pc pc' : Int} (h0 : 0 ≤ pc' ∧ pc' ≤ 7000) (h1 : 0 ≤ pc ∧ pc ≤ 7000) (h2 : 0 ≤ v' ∧ v' ≤ 100) (h3 : 0 ≤ v) (h4 : m' ≤ m + 1) : rkN (wk - 1) m' v' pc' < rkN wk m v pc := by
  unfold rkN; omega
theorem rk_m {wk m v v' pc pc' : Int} (h0 : 0 ≤ pc' ∧ pc' ≤ 7000) (h1 : 0 ≤ pc ∧ pc ≤ 7000) (h2 : 0 ≤ v' ∧ v' ≤ 100) (h3 : 0 ≤ v) : rkN wk (m - 1) v' pc' < rkN wk m v pc := by
  unfold rkN; omega
theorem rk_nn {wk m v pc : Int} (h0 : 0 ≤ wk) (h1 : 0 ≤ m) (h2 : 0 ≤ v) (h3 : pc ≤ 7000) : 0 ≤ rkN wk m v pc := by
  unfold rkN; omega
def RuI (X : Cx) (K : KP) (ca qa : Nat → Nat → Int32) (tc nf st0 : Int) (m pc found base top st wk : Int) (f : Int) (S : List Nat) (v : Nat) (P : Int → Prop) (nb : Int) : Prop := FrI X K ca qa tc nf st0 m.toNat f P base top nb st wk ∧ K pc.toNat f S v ∧ StV (qa 9) P S found nb ∧ ((v : Int) + wk ≤ 100 ∧ 0 ≤ wk ∧ 0 ≤ st ∧ 0 ≤ pc ∧ 0 ≤ m)
/-- all that is the same throughout: the text, its code -/
def EnI (X : Cx) (K : KP) (ca na ma : Nat → Nat → Int32) (c en pa : Nat → Int32) (tc nf steps : Int) : Prop := ∃ (ta ma0 mb : Nat → Nat → Int32) (d : Nat) (ns : Int), (∀ g : Nat, (g : Int) < nf → FnY ta ca na ma0 mb nf ns d X g) ∧ (X.tall (-1) = 2 ∧ X.ys (-1) = 5000 ∧ X.ye (-1) = ns ∧ X.ca = ca ∧ X.nf = nf) ∧ TxS ca ns tc ∧ (∀ p f S v, K p f S v → (p : Int) < steps ∧ (-1 ≤ f ∧ f < nf) ∧ LcC X c K p f S v) ∧ (∀ j : Nat, (j : Int) < nf → 0 ≤ (en j).toInt ∧ K (en j).toNatClampNeg j [] 0) ∧ (PaK X.L pa nf ∧ X.L = tkl na ma0 ca ∧ Kc na mb ma) ∧ (0 ≤ tc ∧ tc ≤ 32768 ∧ 0 ≤ ns ∧ ns ≤ 1090 ∧ steps ≤ 6300 ∧ 0 ≤ nf ∧ nf ≤ 200)
/-! STEPS -/
def WrU (qa qa' : Nat → Nat → Int32) (n c : Int) : Prop := (∀ k : Nat, k ≠ 8 → k ≠ 9 → qa' k = qa k) ∧ (∀ i : Nat, (i : Int) ≠ n → qa' 9 i = qa 9 i) ∧ ∀ i : Nat, (i : Int) ≠ c → qa' 8 i = qa 8 i
theorem WrU.rf {qa : Nat → Nat → Int32} {n c : Int} : WrU qa qa n c := ⟨fun _ _ _ => rfl, fun _ _ => rfl, fun _ _ => rfl⟩
theorem WrU.tr {qa q1 q2 : Nat → Nat → Int32} {n n' c c' : Int} (h : WrU qa q1 n c) (k : WrU q1 q2 n' c') (en : n' = n) (ec : c' = c) : WrU qa q2 n c := by
  subst en; subst ec
  exact ⟨fun j a b => (k.1 j a b).trans (h.1 j a b), fun i hi => (k.2.1 i hi).trans (h.2.1 i hi), fun i hi => (k.2.2 i hi).trans (h.2.2 i hi)⟩
theorem NuU.w {qa qa' : Nat → Nat → Int32} {n c : Int} {x : Int32} (h : NuU qa qa' 9 n x) : WrU qa qa' n c := ⟨fun k _ b => h.1 k b, fun i hi => h.2.1 i hi, fun i _ => by rw [h.1 8 (by decide)]⟩
theorem NuU.c {qa qa' : Nat → Nat → Int32} {n c : Int} {x : Int32} (h : NuU qa qa' 8 c x) : WrU qa qa' n c := ⟨fun k a _ => h.1 k a, fun i _ => by rw [h.1 9 (by decide)], fun i hi => h.2.1 i hi⟩
def MdI (X : Cx) (K : KP) (ca na ma : Nat → Nat → Int32) (c en pa : Nat → Int32) (qa : Nat → Nat → Int32) (tc nf steps st0 : Int) (m p found base top st wk : Int) (f : Int) (S : List Nat) (v : Nat) (P : Int → Prop) (nb : Int) : Prop := EnI X K ca na ma c en pa tc nf steps ∧ FrI X K ca qa tc nf st0 m.toNat f P base top nb st wk ∧ StV (qa 9) P S found nb ∧ LcC X c K p.toNat f S v ∧ ((v : Int) + wk ≤ 100 ∧ 0 ≤ wk ∧ 0 ≤ st ∧ 0 ≤ p ∧ 0 ≤ m ∧ p < steps ∧ 0 ≤ st0 ∧ st0 ≤ 512)
def RuZ (X : Cx) (K : KP) (ca qa : Nat → Nat → Int32) (tc nf st0 : Int) (m pc found base top st wk R : Int) : Prop := ∃ (f : Int) (S : List Nat) (v : Nat) (P : Int → Prop) (nb : Int), RuI X K ca qa tc nf st0 m pc found base top st wk f S v P nb ∧ rkN wk m v pc < R
def RzO (o : Int) (Q : Prop) : Prop := o = -2 → Q
section SP
variable {X : Cx} {K : KP} {ca na ma qa qa' : Nat → Nat → Int32} {c en pa : Nat → Int32} {nu nu' : Nat → Int32} {tc nf steps st0 m p found base top st wk f nb n b n1 cc pc' found' : Int} {S S0 T : List Nat} {v u : Nat} {P : Int → Prop} {y x : Int32}
theorem StV.push (h : StV nu P S n b) (h0 : 0 ≤ b) (e : ∀ i : Nat, (i : Int) < n → nu' i = nu i) (hn : n1 = n + 1) : StV nu' P (0 :: S) n1 b := by
  subst hn
  show StV nu' P S (n + 1 - 1) b
  rw [show n + 1 - 1 = n by omega]
  exact h.fr (fun _ q => q) h0 (fun i _ i2 => e i i2)
theorem StV.arr (h : StV nu P S n b) (h0 : 0 ≤ b) (e : ∀ i : Nat, (i : Int) < n → nu' i = nu i) (hd : HdV P (nu' n.toNat).toInt (nu' (n + 1).toNat).toInt) (hn : n1 = n + 2) : StV nu' P (2 :: 1 :: S) n1 b := by
  subst hn
  refine ⟨?_, ?_⟩
  · rw [show n + 2 - 2 = n by omega, show n + 2 - 1 = n + 1 by omega]; exact hd
  · rw [show n + 2 - 2 = n by omega]
    exact h.fr (fun _ q => q) h0 (fun i _ i2 => e i i2)
theorem MdI.num (h : MdI X K ca na ma c en pa qa tc nf steps st0 m p found base top st wk f S v P nb) : (0 ≤ nb ∧ found = nb + (S.length : Int) ∧ found ≤ 514 ∧ (S.length : Int) ≤ X.tall f) ∧ (0 ≤ base ∧ base ≤ top ∧ top ≤ 34816) ∧ (4 * m ≤ 512 ∧ p < 6300 ∧ -1 ≤ f ∧ f < nf ∧ nf ≤ 200) ∧ (∀ c, P c → 0 ≤ c ∧ c < top) ∧ (X.ca = ca ∧ X.nf = nf) := by
  obtain ⟨⟨ta, ma0, mb, d, ns, hy, h2, ht, hk, he, hp, hn⟩, fr, sv, lc, q⟩ := h
  obtain ⟨r1, r2, r3, r4, r5⟩ := fr.rng hy h2.1 hn.1
  have l := sv.len
  have l2 := lc.1
  exact ⟨by omega, by omega, by omega, r5, h2.2.2.2⟩
/-- the same frame: what lies upon the stack is T, and the code goes on at pc' with it -/
theorem MdI.go (h : MdI X K ca na ma c en pa qa tc nf steps st0 m p found base top st wk f S v P nb) (hK : K pc'.toNat f T u) (h0 : 0 ≤ pc') (hs : StV (qa' 9) P T found' nb) (e9 : ∀ i : Nat, (i : Int) < nb → qa' 9 i = qa 9 i) (e8 : ∀ i : Nat, ¬ P (i : Int) → qa' 8 i = qa 8 i) (ek : ∀ k : Nat, k ≠ 8 → k ≠ 9 → qa' k = qa k) (hu : u < v ∨ (u = v ∧ p < pc')) : RuZ X K ca qa' tc nf st0 m pc' found' base top st wk (rkN wk m v p) := by
  have nm := h.num
  obtain ⟨⟨ta, ma0, mb, d, ns, hy, h2, ht, hk, he, hp, hn⟩, fr, sv, lc, q⟩ := h
  have kk := hk _ _ _ _ hK
  exact ⟨f, T, u, P, nb, ⟨fr.fr hy h2.1 hn.1 (fun k k1 k2 i _ => by rw [ek k (by omega) (by omega)]) e9 (fun i _ hp => e8 i hp), hK, hs, by omega⟩, rk_v (by omega) (by omega) (by omega)⟩
theorem MdI.w (h : MdI X K ca na ma c en pa qa tc nf steps st0 m p found base top st wk f S v P nb) (hK : K (p.toNat + 1) f (0 :: S0) v) (hs : StV (qa 9) P S0 n1 nb) (w : WrU qa qa' n1 cc) (hc : P cc ∨ cc < 0) (hf : found' = n1 + 1) (hp : pc' = p + 1) : RuZ X K ca qa' tc nf st0 m pc' found' base top st wk (rkN wk m v p) := by
  have nm := h.num
  have q := h.2.2.2.2
  have l := hs.len
  subst hp
  refine h.go (T := 0 :: S0) (u := v) (by rw [show (p + 1).toNat = p.toNat + 1 by omega]; exact hK) (by omega) (hs.push (by omega) (fun i hi => w.2.1 i (by omega)) hf) (fun i hi => w.2.1 i (by omega)) (fun i hi => w.2.2 i (fun e => ?_)) w.1 (Or.inr ⟨rfl, by omega⟩)
  rcases hc with hc | hc
  · rw [e] at hi; exact hi hc
  · omega
theorem MdI.pp (h : MdI X K ca na ma c en pa qa tc nf steps st0 m p found base top st wk f S v P nb) (hK : K (p.toNat + 1) f S0 v) (hs : StV (qa 9) P S0 found' nb) (e9 : qa' 9 = qa 9) (e8 : ∀ i : Nat, ¬ P (i : Int) → qa' 8 i = qa 8 i) (ek : ∀ k : Nat, k ≠ 8 → k ≠ 9 → qa' k = qa k) (hp : pc' = p + 1) : RuZ X K ca qa' tc nf st0 m pc' found' base top st wk (rkN wk m v p) := by
  have q := h.2.2.2.2
  subst hp
  exact h.go (T := S0) (u := v) (by rw [show (p + 1).toNat = p.toNat + 1 by omega]; exact hK) (by omega) (by rw [e9]; exact hs) (fun i _ => by rw [e9]) e8 ek (Or.inr ⟨rfl, by omega⟩)
/-- it jumps -/
theorem MdI.j {a : Int32} (h : MdI X K ca na ma c en pa qa tc nf steps st0 m p found base top st wk f S v P nb) (hj : JpC K p.toNat a f T v) (hs : StV (qa 9) P T found' nb) (hp : pc' = a.toInt) : RuZ X K ca qa tc nf st0 m pc' found' base top st wk (rkN wk m v p) := by
  have q := h.2.2.2.2
  obtain ⟨j0, u, j1, j2⟩ := hj
  have ca := cl_nat j0
  subst hp
  exact h.go (T := T) (u := u) (by rw [show a.toInt.toNat = a.toNatClampNeg by omega]; exact j1) j0 hs (fun _ _ => rfl) (fun _ _ => rfl) (fun _ _ _ => rfl) (by omega)
theorem MdI.nx (h : MdI X K ca na ma c en pa qa tc nf steps st0 m p found base top st wk f S v P nb) (hK : K (p.toNat + 1) f T u) (hu : u ≤ v) (hs : StV (qa 9) P T found' nb) (hp : pc' = p + 1) : RuZ X K ca qa tc nf st0 m pc' found' base top st wk (rkN wk m v p) := by
  have q := h.2.2.2.2
  subst hp
  exact h.go (T := T) (u := u) (by rw [show (p + 1).toNat = p.toNat + 1 by omega]; exact hK) (by omega) hs (fun _ _ => rfl) (fun _ _ => rfl) (fun _ _ _ => rfl) (by omega)
/-- a loop's work -/
theorem MdI.wrk {wk' : Int} (h : MdI X K ca na ma c en pa qa tc nf steps st0 m p found base top st wk f S v P nb) (hK : K (p.toNat + 1) f S (v + 1)) (hw : wk' = wk - 1) (h1 : 1 ≤ wk) (hp : pc' = p + 1) : RuZ X K ca qa tc nf st0 m pc' found base top st wk' (rkN wk m v p) := by
  have nm := h.num
  obtain ⟨⟨ta, ma0, mb, d, ns, hy, h2, ht, hk, he, hpa, hn⟩, fr, sv, lc, q⟩ := h
  subst hp; subst hw
  exact ⟨f, S, v + 1, P, nb, ⟨fr.wle (by omega), by rw [show (p + 1).toNat = p.toNat + 1 by omega]; exact hK, sv, by omega⟩, rk_w (by omega) (by omega) (by omega) (by omega) (by omega)⟩
theorem MdI.sv (h : MdI X K ca na ma c en pa qa tc nf steps st0 m p found base top st wk f S v P nb) (s : SyV X.ca (X.ye f) (X.ys f) y) : P (clo ca base y) ∧ (0 ≤ y.toInt ∧ y.toInt < 1100) ∧ (0 ≤ clo ca base y ∧ clo ca base y < 34816) := by
  have nm := h.num
  obtain ⟨⟨ta, ma0, mb, d, ns, hy, h2, ht, hk, he, hpa, hn⟩, fr, sv, lc, q⟩ := h
  rw [h2.2.2.2.1] at s
  have hye : X.ye f ≤ ns := by
    by_cases e : 0 ≤ f
    · have := (hy f.toNat (by omega)).fr.2.2
      rw [show ((f.toNat : Nat) : Int) = f by omega] at this; omega
    · rw [show f = -1 by omega, h2.2.2.1]; omega
  have r := fr.sv hy ht h2.2.1 h2.2.2.1 hn.2.2.2.1 hye s
  have := nm.2.2.2.1 _ r.1
  exact ⟨r.1, r.2, by omega⟩
theorem MdI.sa (h : MdI X K ca na ma c en pa qa tc nf steps st0 m p found base top st wk f S v P nb) (s : SyA X.ca (X.ye f) (X.ys f) y) : HdV P (arA ca qa base y) (arN ca qa base y) ∧ (0 ≤ y.toInt ∧ y.toInt < 1100) ∧ (0 ≤ clo ca base y ∧ clo ca base y ≤ top) ∧ (4 ≤ (ca 49 y.toNatClampNeg).toInt → 0 ≤ clo ca base y ∧ clo ca base y + 2 ≤ top) ∧ ((ca 49 y.toNatClampNeg).toInt ≤ 3 → ∀ c, clo ca base y ≤ c → c < clo ca base y + (ca 52 y.toNatClampNeg).toInt → P c) ∧ 0 ≤ (ca 52 y.toNatClampNeg).toInt := by
  obtain ⟨⟨ta, ma0, mb, d, ns, hy, h2, ht, hk, he, hpa, hn⟩, fr, sv, lc, q⟩ := h
  have nm := fr.rng hy h2.1 hn.1
  rw [h2.2.2.2.1] at s
  have hye : X.ye f ≤ ns := by
    by_cases e : 0 ≤ f
    · have := (hy f.toNat (by omega)).fr.2.2
      rw [show ((f.toNat : Nat) : Int) = f by omega] at this; omega
    · rw [show f = -1 by omega, h2.2.2.1]; omega
  exact fr.sa hy ht h2.2.1 h2.2.2.1 hn.2.2.2.1 hye s h2.1 hn.1
/-- what m arguments lay, one by one -/
theorem StV.args {L : Nat → Int} : ∀ {m : Nat} {n b : Int}, StV nu P (aslots L m ++ T) n b → StV nu P T (n - ((aslots L m).length : Int)) b ∧ ∀ k : Nat, k < m → L k ≠ 105 → HdV P (nu (n - ((aslots L m).length : Int) + ((aslots L k).length : Int)).toNat).toInt (nu (n - ((aslots L m).length : Int) + ((aslots L k).length : Int) + 1).toNat).toInt
  | 0, n, b, h => ⟨by show StV nu P T (n - ((0 : Nat) : Int)) b; rw [show n - ((0 : Nat) : Int) = n by omega]; exact h, fun k hk => by omega⟩
  | m + 1, n, b, h => by
    have l := aslots_len (L := L) (k := m)
    replace h : StV nu P (((if L m = 105 then [0] else [2, 1]) ++ aslots L m) ++ T) n b := h
    by_cases e : L m = 105
    · rw [if_pos e] at h l
      replace h : StV nu P (aslots L m ++ T) (n - 1) b := h
      obtain ⟨q1, q2⟩ := StV.args h
      have e1 : n - ((aslots L (m + 1)).length : Int) = n - 1 - ((aslots L m).length : Int) := by omega
      rw [e1]
      refine ⟨q1, fun k hk hl => q2 k ?_ hl⟩
      by_cases ek : k = m
      · subst ek; exact absurd e hl
      · omega
    · rw [if_neg e] at h l
      replace h : HdV P (nu (n - 2).toNat).toInt (nu (n - 1).toNat).toInt ∧ StV nu P (aslots L m ++ T) (n - 2) b := h
      obtain ⟨q1, q2⟩ := StV.args h.2
      have e1 : n - ((aslots L (m + 1)).length : Int) = n - 2 - ((aslots L m).length : Int) := by omega
      rw [e1]
      refine ⟨q1, fun k hk hl => ?_⟩
      by_cases ek : k = m
      · subst ek
        rw [show n - 2 - ((aslots L k).length : Int) + ((aslots L k).length : Int) = n - 2 by omega, show n - 2 + 1 = n - 1 by omega]; exact h.1
      · exact q2 k (by omega) hl
/-- it goes back -/
theorem MdI.ret {m' base' top' st' : Int} {x : Int32} (h : MdI X K ca na ma c en pa qa tc nf steps st0 m p found base top st wk f S v P nb) (o : S = [0] ∧ 0 ≤ f) (e1 : m' = m - 1) (e2 : base' = (qa 16 m'.toNat).toInt) (e3 : top' = (qa 17 m'.toNat).toInt) (e4 : pc' = (qa 15 m'.toNat).toInt) (e5 : st' = st + (ca 40 (qa 18 m'.toNat).toNatClampNeg).toInt) (h1 : 1 ≤ m') (w : NuU qa qa' 9 (found - 1) x) (hf : found' = found) : RuZ X K ca qa' tc nf st0 m' pc' found' base' top' st' wk (rkN wk m v p) := by
  have nm := h.num
  obtain ⟨⟨ta, ma0, mb, d, ns, hy, h2, ht, hk, he, hpa, hn⟩, fr, sv, lc, q⟩ := h
  obtain ⟨rfl, o2⟩ := o
  have l := sv.len
  simp only [List.length_cons, List.length_nil] at l
  have em : m.toNat = m'.toNat + 1 := by omega
  rw [em] at fr
  obtain ⟨⟨a1, a2⟩, f', P', base1, top1, nb1, st1, T, v', fr', ⟨g1, g2, g3⟩, g4, g5, ⟨g6, g6'⟩, g7, g8, g9, g10⟩ := fr
  have rg := fr'.rng hy h2.1 hn.1
  have f0 : 0 ≤ f' := by
    have e : m'.toNat = (m'.toNat - 1) + 1 := by omega
    rw [e] at fr'
    exact fr'.1.1.1
  obtain ⟨g10, g11⟩ := g10.elim (fun e => by omega) id
  have kk := hk _ _ _ _ g10
  have cf : (qa 18 m'.toNat).toNatClampNeg = f.toNat := by have := cl_nat (x := qa 18 m'.toNat) (by omega); omega
  have cp : pc'.toNat = (qa 15 m'.toNat).toNatClampNeg := by have := cl_nat g9; omega
  rw [cf] at e5
  have lt := g7.len
  have yf := (hy f.toNat (by omega)).fr.2.1
  refine ⟨f', 0 :: T, v', P', nb1, ⟨?_, by rw [cp]; exact g10, ?_, by omega⟩, ?_⟩
  · rw [e2, g6, e3, g6', show st' = st1 by omega]
    exact fr'.fr hy h2.1 hn.1 (fun k k1 k2 i _ => by rw [w.1 k (by omega)]) (fun i hi => w.2.1 i (by omega)) (fun i _ _ => by rw [w.1 8 (by decide)])
  · exact g7.push rg.2.2.1.1 (fun i hi => w.2.1 i (by omega)) (by omega)
  · rw [e1]
    have := kk.1
    exact rk_m (by omega) (by omega) (by omega) (by omega)
/-! A CALL -/
/-- the frame of g at base, its given arrays where they lie: each lies in P -/
def GvH (X : Cx) (ca : Nat → Nat → Int32) (ce : Nat → Int32) (P : Int → Prop) (base g : Int) : Prop := ∀ y : Nat, X.ys g ≤ (y : Int) → (y : Int) < X.ye g → 4 ≤ (ca 49 y).toInt → HdV P (ce (base + (ca 51 y).toInt).toNat).toInt (ce (base + (ca 51 y).toInt + 1).toNat).toInt
theorem gvh_0 {ce : Nat → Int32} {g : Int} (h : ∀ i : Nat, base ≤ (i : Int) → (i : Int) < base + (ca 56 g.toNat).toInt → ce i = 0) (h0 : 0 ≤ base) (sr : SyR ca (X.ys g) (X.ye g) (ca 56 g.toNat).toInt 0) : GvH X ca ce P base g := fun y y1 y2 y3 c c1 c2 => by
  have sy := sr y y1 y2
  have w : wdt ca y = 2 := by unfold wdt; rw [if_pos y3]
  have k1 := sy.1.2.1
  have k2 := sy.2.1
  rw [h _ (by omega) (by omega)] at c1 c2
  rw [h (base + (ca 51 y).toInt + 1).toNat (by omega) (by omega)] at c2
  have : (0 : Int32).toInt = 0 := rfl
  omega
/-- a number is stored -/
theorem GvH.nv {ce ce' : Nat → Int32} {g : Int} {y : Nat} (h : GvH X ca ce P base g) (h0 : 0 ≤ base) (sr : SyR ca (X.ys g) (X.ye g) (ca 56 g.toNat).toInt 0) (y1 : X.ys g ≤ (y : Int)) (y2 : (y : Int) < X.ye g) (hk : (ca 49 y).toInt ≤ 1) (e : ∀ i : Nat, (i : Int) ≠ base + (ca 51 y).toInt → ce' i = ce i) : GvH X ca ce' P base g := fun y' z1 z2 z3 => by
  have sy := sr y y1 y2
  have sy' := sr y' z1 z2
  have w : wdt ca y' = 2 := by unfold wdt; rw [if_pos z3]
  have w1 : wdt ca y = 1 := by unfold wdt; rw [if_neg (by omega)]; exact sy.1.2.2.2.2 hk
  have k1 := sy'.1.2.1
  have ne : y ≠ y' := fun q => by subst q; omega
  have d : (ca 51 y).toInt + 1 ≤ (ca 51 y').toInt ∨ (ca 51 y').toInt + 2 ≤ (ca 51 y).toInt := by
    by_cases lt : y < y'
    · have := sy.2.2 y' lt z2; omega
    · have := sy'.2.2 y (by omega) y2; omega
  rw [e _ (by omega), e _ (by omega)]
  exact h y' z1 z2 z3
/-- an array is given -/
theorem GvH.ar {ce ce' : Nat → Int32} {g : Int} {y : Nat} (h : GvH X ca ce P base g) (h0 : 0 ≤ base) (sr : SyR ca (X.ys g) (X.ye g) (ca 56 g.toNat).toInt 0) (y1 : X.ys g ≤ (y : Int)) (y2 : (y : Int) < X.ye g) (hk : 4 ≤ (ca 49 y).toInt) (e : ∀ i : Nat, (i : Int) ≠ base + (ca 51 y).toInt → (i : Int) ≠ base + (ca 51 y).toInt + 1 → ce' i = ce i) (hd : HdV P (ce' (base + (ca 51 y).toInt).toNat).toInt (ce' (base + (ca 51 y).toInt + 1).toNat).toInt) : GvH X ca ce' P base g := fun y' z1 z2 z3 => by
  by_cases ne : y = y'
  · subst ne; exact hd
  · have sy := sr y y1 y2
    have sy' := sr y' z1 z2
    have w : wdt ca y' = 2 := by unfold wdt; rw [if_pos z3]
    have w1 : wdt ca y = 2 := by unfold wdt; rw [if_pos hk]
    have k1 := sy'.1.2.1
    have k2 := sy.1.2.1
    have d : (ca 51 y).toInt + 2 ≤ (ca 51 y').toInt ∨ (ca 51 y').toInt + 2 ≤ (ca 51 y).toInt := by
      by_cases lt : y < y'
      · have := sy.2.2 y' lt z2; omega
      · have := sy'.2.2 y (by omega) y2; omega
    rw [e _ (by omega) (by omega), e _ (by omega) (by omega)]
    exact h y' z1 z2 z3
/-- the call is done -/
theorem MdI.call {m' base' top' st' wk' g : Int} {T : List Nat} (h : MdI X K ca na ma c en pa qa tc nf steps st0 m p found base top st wk f S v P nb) (hg : 0 ≤ g ∧ g < nf) (sT : StV (qa 9) P T found' nb) (hT : (T.length : Int) ≤ X.tall f) (hr : f < 0 ∨ K (p.toNat + 1) f (0 :: T) v) (e1 : m' = m + 1) (e2 : base' = top) (e3 : top' = top + (ca 56 g.toNat).toInt) (e4 : st' = st - (ca 40 g.toNat).toInt) (e5 : wk' = wk - 1) (h1 : 1 ≤ wk) (h2 : 0 ≤ st') (ep : pc' = (en g.toNat).toInt) (u15 : (qa' 15 m.toNat).toInt = p + 1) (u16 : (qa' 16 m.toNat).toInt = base) (u17 : (qa' 17 m.toNat).toInt = top) (u18 : (qa' 18 m.toNat).toInt = g) (uo : ∀ k : Nat, 15 ≤ k → k ≤ 18 → ∀ i : Nat, i < m.toNat → qa' k i = qa k i) (u9 : qa' 9 = qa 9) (u8 : ∀ i : Nat, (i : Int) < top → qa' 8 i = qa 8 i) (gh : GvH X ca (qa' 8) P base' g) : RuZ X K ca qa' tc nf st0 m' pc' found' base' top' st' wk' (rkN wk m v p) := by
  have nm := h.num
  obtain ⟨⟨ta, ma0, mb, d, ns, hy, h2', ht, hk, he, hpa, hn⟩, fr, sv, lc, q⟩ := h
  have yg := (hy g.toNat (by omega)).fr
  have eg : ((g.toNat : Nat) : Int) = g := by omega
  obtain ⟨en0, en1⟩ := he g.toNat (by omega)
  rw [eg] at yg en1
  have cp : pc'.toNat = (en g.toNat).toNatClampNeg := by have := cl_nat en0; omega
  have kk := hk _ _ _ _ en1
  have l := sT.len
  have fr' : FrI X K ca qa' tc nf st0 m.toNat f P base top nb st wk' := (fr.wle (by omega)).fr hy h2'.1 hn.1 uo (fun i _ => by rw [u9]) (fun i hi _ => u8 i hi)
  have c15 : (qa' 15 m.toNat).toNatClampNeg = p.toNat + 1 := by have := cl_nat (x := qa' 15 m.toNat) (by omega); omega
  let P2 : Int → Prop := fun c => P c ∨ ((base' ≤ c ∧ c < top') ∧ ¬ GvC ca (X.ys g) (X.ye g) base' c)
  refine ⟨g, [], 0, P2, found', ⟨?_, by rw [cp]; exact en1, rfl, by omega⟩, ?_⟩
  · rw [show m'.toNat = m.toNat + 1 by omega]
    refine ⟨⟨hg, u18⟩, f, P, base, top, nb, st, T, v, fr', ⟨e2, by rw [e2]; exact e3, e4⟩, fun c => Iff.rfl, gh, ⟨u16, u17⟩, by rw [u9]; exact sT, hT, by omega, ?_⟩
    rw [c15]
    exact hr.imp id (fun r => ⟨r, by omega⟩)
  · rw [e5, e1]
    have := kk.1
    exact rk_w (by omega) (by omega) (by omega) (by omega) (by omega)
end SP
/-! what a process's own methods tell -/
theorem clo_0 {ca : Nat → Nat → Int32} {base : Int} {y : Int32} (h : (ca 50 y.toNatClampNeg).toInt = 0) : clo ca base y = base + (ca 51 y.toNatClampNeg).toInt := if_pos h
theorem clo_1 {ca : Nat → Nat → Int32} {base : Int} {y : Int32} (h : (ca 50 y.toNatClampNeg).toInt ≠ 0) : clo ca base y = (ca 51 y.toNatClampNeg).toInt := if_neg h
theorem arA_1 {ca qa : Nat → Nat → Int32} {base : Int} {y : Int32} (h : 4 ≤ (ca 49 y.toNatClampNeg).toInt) : arA ca qa base y = (qa 8 (clo ca base y).toNat).toInt := if_pos h
theorem arA_0 {ca qa : Nat → Nat → Int32} {base : Int} {y : Int32} (h : ¬ 4 ≤ (ca 49 y.toNatClampNeg).toInt) : arA ca qa base y = clo ca base y := if_neg h
theorem arN_1 {ca qa : Nat → Nat → Int32} {base : Int} {y : Int32} (h : 4 ≤ (ca 49 y.toNatClampNeg).toInt) : arN ca qa base y = (qa 8 (clo ca base y + 1).toNat).toInt := if_pos h
theorem arN_0 {ca qa : Nat → Nat → Int32} {base : Int} {y : Int32} (h : ¬ 4 ≤ (ca 49 y.toNatClampNeg).toInt) : arN ca qa base y = (ca 52 y.toNatClampNeg).toInt := if_neg h
def ElV (v o' o a n i : Int) : Prop := (v = a + i ∧ 0 ≤ i ∧ i < n ∧ o' = o) ∨ (v = -1 ∧ o' = 2)
def TwO (o' o n' n : Int) : Prop := (o' = o ∧ n' = n + 1) ∨ (o' = 3 ∧ n' = n)
def ChO (c o' o n' n : Int) : Prop := (c < 0 ∧ o' = o ∧ n' = n) ∨ (0 ≤ c ∧ TwO o' o n' n)
theorem at_8 {qa : Nat → Nat → Int32} {z x : Int32} {n : Int} (e : z = qa 8 x.toNatClampNeg) (h : x.toInt = n) (h0 : 0 ≤ n) : z.toInt = (qa 8 n.toNat).toInt := by
  have := cl_nat (x := x) (by first | exact oz_f3ebed1ad0 h h0 | omega)
  rw [e, show x.toNatClampNeg = n.toNat by omega]
theorem at_k {qa : Nat → Nat → Int32} {k : Nat} {z x : Int32} {n : Int} (e : z = qa k x.toNatClampNeg) (h : x.toInt = n) (h0 : 0 ≤ n) : z = qa k n.toNat := by
  have := cl_nat (x := x) (by first | exact oz_f3ebed1ad0 h h0 | omega)
  rw [e, show x.toNatClampNeg = n.toNat by omega]
/-- a function's frame lies below -/
theorem MdI.m1 {X : Cx} {K : KP} {ca na ma qa : Nat → Nat → Int32} {c en pa : Nat → Int32} {tc nf steps st0 m p found base top st wk f nb : Int} {S : List Nat} {v : Nat} {P : Int → Prop} (h : MdI X K ca na ma c en pa qa tc nf steps st0 m p found base top st wk f S v P nb) (h0 : 0 ≤ f) : 1 ≤ m ∧ (qa 18 (m - 1).toNat).toInt = f ∧ (4 ≤ (ca 40 f.toNat).toInt ∧ st + (ca 40 f.toNat).toInt ≤ 512) := by
  obtain ⟨⟨ta, ma0, mb, d, ns, hy, h2, ht, hk, he, hpa, hn⟩, fr, sv, lc, q⟩ := h
  cases e : m.toNat with
  | zero => rw [e] at fr; obtain ⟨rfl, -⟩ := fr; omega
  | succ k =>
    rw [e] at fr
    obtain ⟨⟨a1, a2⟩, f', P', base1, top1, nb1, st1, T, v', fr', ⟨g1, g2, g3⟩, -⟩ := fr
    have rg := fr'.rng hy h2.1 hn.1
    have yf := (hy f.toNat (by omega)).fr.2.1
    exact ⟨by omega, by rw [show (m - 1).toNat = k by omega]; exact a2, by omega⟩
