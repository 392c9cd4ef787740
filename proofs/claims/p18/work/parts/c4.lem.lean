/-! AN EXPRESSION that is to be made: checked, weighed, measured -/
def MkB (ta : Nat → Nat → Int32) (c : Int) (na ma0 ma ca : Nat → Nat → Int32) (V : Nat → Nat → Prop) (d : Nat) (nd w b : Int) (n : Int32) : Prop := EwV ta c na ma0 d 0 nd w n ∧ V n.toNatClampNeg 0 ∧ HgB na ma0 ma (tkl na ma0 ca) d n b
/-- a place -/
def PlB (ta : Nat → Nat → Int32) (c : Int) (na ma0 ma ca : Nat → Nat → Int32) (V : Nat → Nat → Prop) (d : Nat) (nd w b : Int) (n : Int32) : Prop := EwV ta c na ma0 d 0 nd w n ∧ PcT na ma V n ∧ HgB na ma0 ma (tkl na ma0 ca) d n b
theorem HgB.b1 {na ma0 ma : Nat → Nat → Int32} {L : Int → Nat → Int} {d : Nat} {n : Int32} {b : Int} (h : HgB na ma0 ma L d n b) : 1 ≤ b := by
  cases d with
  | zero => exact h.elim
  | succ d => exact h.1
section MK
variable {ta : Nat → Nat → Int32} {c : Int} {na ma0 ma ca : Nat → Nat → Int32} {V : Nat → Nat → Prop} {d : Nat} {nd w b ns ys nf vl vh : Int} {n z y x : Int32}
theorem EwV.le {d' : Nat} {lo lo' hi hi' w' : Int} (h : EwV ta c na ma0 d lo hi w n) (hd : d ≤ d') (h1 : lo' ≤ lo) (h2 : hi ≤ hi') (h3 : w ≤ w') : EwV ta c na ma0 d' lo' hi' w' n := by
  obtain ⟨h0, l, hh, v, q1, q2, q3, q4⟩ := h
  exact ⟨h0, l, hh, v, by omega, by omega, by omega, q4.wid hd (Nat.le_refl _) (Nat.le_refl _) (Nat.le_refl _)⟩
theorem HgB.ud {L : Int → Nat → Int} {d' : Nat} (h : HgB na ma0 ma L d n b) (hd : d ≤ d') : HgB na ma0 ma L d' n b := by
  induction d' with
  | zero => rw [show d = 0 by omega] at h; exact h
  | succ k ih =>
    by_cases q : d ≤ k
    · exact (ih q).up
    · rw [show k + 1 = d by omega]; exact h
theorem MkB.ec (h : MkB ta c na ma0 ma ca V d nd w b n) : EcV ta c na ma0 d 0 nd n := h.1.ec.1
theorem MkB.nn (h : MkB ta c na ma0 ma ca V d nd w b n) : 0 ≤ w ∧ 1 ≤ b := ⟨h.1.ec.2, h.2.2.b1⟩
theorem mkb_0 (h : MkB ta c na ma0 ma ca V 0 nd w b n) : False := ec_0 h.ec
theorem MkB.ud {d' : Nat} (h : MkB ta c na ma0 ma ca V d nd w b n) (hd : d ≤ d') : MkB ta c na ma0 ma ca V d' nd w b n := ⟨h.1.le hd (Int.le_refl _) (Int.le_refl _) (Int.le_refl _), h.2.1, h.2.2.ud hd⟩
theorem EcV.n9 {lo hi : Int} (h : EcV ta c na ma0 d lo hi n) (k : 5 ≤ (na 14 n.toNatClampNeg).toInt) : so ta (na 15 n.toNatClampNeg) = 5 := by
  obtain ⟨h0, l, hh, w, q1, q2, q3⟩ := h
  cases d with
  | zero => exact q3.elim
  | succ d =>
    obtain ⟨r, h1⟩ := q3
    rcases h1 with ⟨g, -⟩ | ⟨g, -⟩ | ⟨g, -⟩ | ⟨g, -⟩ | ⟨g, g1, -⟩ | ⟨g, g1, -⟩ | ⟨g, g1, -⟩ | ⟨g, g1, -⟩
    all_goals first | (exfalso; omega) | exact g1.2.2
theorem Ann.b22 {k : Nat} (h : Ann na ma0 ma) (e : (na 14 k).toInt ≠ 29) : ma 22 k = ma0 22 k := (h k).2.2.2 e
/-- a name -/
theorem LcE.k2 {G : Gm} {x : Nat} (h : LcE G na ma V x 0) (k : (na 14 x).toInt = 2) : (ma 18 x).toInt < 0 ∨ SyV G.ca G.ns G.ys (ma 18 x) := by
  rcases h with h | ⟨-, h⟩
  · exact absurd h.1 (by decide)
  · rcases h with h | ⟨h, h1⟩ | ⟨h, -⟩ | ⟨h, -⟩ | ⟨h, -⟩ | ⟨h, -⟩ | ⟨h, -⟩ | ⟨h, -⟩ | ⟨h, -⟩ | ⟨h, -⟩
    all_goals first | exact absurd h (by omega) | skip
    exact h1
theorem LcE.k4s {G : Gm} {x : Nat} (h : LcE G na ma V x 0) (k : (na 14 x).toInt = 4) : SyA G.ca G.ns G.ys (ma 18 x) := by
  rcases h with h | ⟨-, h⟩
  · exact absurd h.1 (by decide)
  · rcases h with h | ⟨h, -⟩ | ⟨h, -⟩ | ⟨h, h1, -⟩ | ⟨h, -⟩ | ⟨h, -⟩ | ⟨h, -⟩ | ⟨h, -⟩ | ⟨h, -⟩ | ⟨h, -⟩
    all_goals first | exact absurd h (by omega) | skip
    exact h1
theorem LcE.k5p {G : Gm} {x : Nat} (h : LcE G na ma V x 0) (k : ((na 14 x).toInt = 5 ∧ sz G.ta (na 15 x) = 2) ∨ (na 14 x).toInt = 6) : PcT na ma V (na 17 x) := by
  rcases h with h | ⟨-, h⟩
  · exact absurd h.1 (by decide)
  · rcases h with h | ⟨h, -⟩ | ⟨h, -⟩ | ⟨h, -⟩ | ⟨h, h1, h2⟩ | ⟨h, h1, h2⟩ | ⟨h, h1⟩ | ⟨h, -⟩ | ⟨h, -⟩ | ⟨h, -⟩
    all_goals first | exact absurd h (by omega) | skip
    · exact h2
    · exact h1
theorem LcE.a1 {G : Gm} {x : Nat} (h : LcE G na ma V x 1) : (na 14 x).toInt = 2 ∧ SyA G.ca G.ns G.ys (ma 18 x) := by
  rcases h with h | h
  · exact h.2
  · exact absurd h.1 (by decide)
theorem Ts.a {G : Gm} {lo hi : Int} {x : Nat} (s : Ts G na ma lo hi V) (h : V x 1) : LcE G na ma V x 1 := by
  rcases (s x 1 h).2 with g | g | g
  · exact g
  · exact absurd g.1.1 (by decide)
  · exact absurd g.1 (by decide)
theorem HgB.k46 {L : Int → Nat → Int} (h : HgB na ma0 ma L (d + 1) n b) (k : 4 ≤ (na 14 n.toNatClampNeg).toInt ∧ (na 14 n.toNatClampNeg).toInt ≤ 6) : HgB na ma0 ma L d (na 17 n.toNatClampNeg) b := by
  obtain ⟨-, h⟩ := h
  rcases h with h | h | ⟨h, -⟩ | ⟨h, h', h1⟩ | ⟨h, -⟩ | ⟨h, -⟩ | ⟨h, -⟩ | ⟨h, -⟩
  all_goals first | (exfalso; omega) | exact h1
theorem MkB.f2 (s : Ts (Gk ta ca na ma0 ns ys nf) na ma vl vh V) (h : MkB ta c na ma0 ma ca V d nd w b n) (k : (na 14 n.toNatClampNeg).toInt = 2) (hz : 0 ≤ (ma 18 n.toNatClampNeg).toInt) : SyV ca ns ys (ma 18 n.toNatClampNeg) := by
  rcases (s.e h.2.1).k2 k with g | g
  · omega
  · exact g
theorem MkB.f4 (s : Ts (Gk ta ca na ma0 ns ys nf) na ma vl vh V) (h : MkB ta c na ma0 ma ca V (d + 1) nd w b n) (k : (na 14 n.toNatClampNeg).toInt = 4) (e : z = na 17 n.toNatClampNeg) : MkB ta c na ma0 ma ca V d nd (w - 1) b z ∧ SyA ca ns ys (ma 18 n.toNatClampNeg) := by
  have r := h.ec.rng
  refine ⟨⟨(h.1.k4 k e).le (Nat.le_refl _) (by omega) (Int.le_refl _) (Int.le_refl _), ?_, ?_⟩, (s.e h.2.1).k4s k⟩
  · rw [e]; exact (s.e h.2.1).k46 (by omega)
  · rw [e]; exact h.2.2.k46 (by omega)
theorem MkB.f5 (s : Ts (Gk ta ca na ma0 ns ys nf) na ma vl vh V) (h : MkB ta c na ma0 ma ca V (d + 1) nd w b n) (k : (na 14 n.toNatClampNeg).toInt = 5) (e : z = na 17 n.toNatClampNeg) : MkB ta c na ma0 ma ca V d nd (w - 1) b z := by
  have r := h.ec.rng
  refine ⟨(h.1.k56 (Or.inl k) e).le (Nat.le_refl _) (Int.le_refl _) (by omega) (Int.le_refl _), ?_, ?_⟩
  · rw [e]; exact (s.e h.2.1).k46 (by omega)
  · rw [e]; exact h.2.2.k46 (by omega)
theorem MkB.f56 (s : Ts (Gk ta ca na ma0 ns ys nf) na ma vl vh V) (h : MkB ta c na ma0 ma ca V (d + 1) nd w b n) (k : ((na 14 n.toNatClampNeg).toInt = 5 ∧ sz ta (na 15 n.toNatClampNeg) = 2) ∨ (na 14 n.toNatClampNeg).toInt = 6) (e : z = na 17 n.toNatClampNeg) : PlB ta c na ma0 ma ca V d nd (w - 1) b z := by
  have r := h.ec.rng
  refine ⟨(h.1.k56 (by omega) e).le (Nat.le_refl _) (Int.le_refl _) (by omega) (Int.le_refl _), ?_, ?_⟩
  · rw [e]; exact (s.e h.2.1).k5p k
  · rw [e]; exact h.2.2.k46 (by omega)
theorem PcT.sy (s : Ts (Gk ta ca na ma0 ns ys nf) na ma vl vh V) (p : PcT na ma V n) (k : (na 14 n.toNatClampNeg).toInt ≠ 4) : SyV ca ns ys (ma 18 n.toNatClampNeg) := by
  rcases p.2 with q | q
  · exact absurd q k
  · rcases (s.e p.1).k2 q.1 with g | g
    · omega
    · exact g
theorem PlB.ix (s : Ts (Gk ta ca na ma0 ns ys nf) na ma vl vh V) (h : PlB ta c na ma0 ma ca V d nd w b n) (k : (na 14 n.toNatClampNeg).toInt = 4) (e : z = na 17 n.toNatClampNeg) : MkB ta c na ma0 ma ca V d nd (w - 1) b z ∧ SyA ca ns ys (ma 18 n.toNatClampNeg) := by
  cases d with
  | zero => exact (ec_0 h.1.ec.1).elim
  | succ d =>
    have q : MkB ta c na ma0 ma ca V (d + 1) nd w b n := ⟨h.1, h.2.1.1, h.2.2⟩
    have r := MkB.f4 s q k e
    exact ⟨r.1.ud (by omega), r.2⟩
theorem MkB.f8 (s : Ts (Gk ta ca na ma0 ns ys nf) na ma vl vh V) (han : Ann na ma0 ma) (h : MkB ta c na ma0 ma ca V (d + 1) nd w b n) (k : (na 14 n.toNatClampNeg).toInt = 8) (e : z = na 17 n.toNatClampNeg) : ∃ w1 w2 w3 : Int, MkB ta c na ma0 ma ca V d nd w1 b z ∧ MkB ta c na ma0 ma ca V d nd w2 b (ma 18 n.toNatClampNeg) ∧ MkB ta c na ma0 ma ca V d nd w3 b (ma 19 n.toNatClampNeg) ∧ (0 ≤ w1 ∧ 0 ≤ w2 ∧ 0 ≤ w3 ∧ w1 + w2 + w3 + 2 ≤ w) := by
  have r := h.ec.rng
  have e18 := han.b18 (x := n.toNatClampNeg) (by omega)
  have e19 := han.b19 (x := n.toNatClampNeg) (by omega)
  obtain ⟨m1, m2, w1, w2, w3, g0, g1, g2, g3, g4⟩ := h.1.k8 k e rfl rfl
  obtain ⟨v1, v2, v3⟩ := (s.e h.2.1).k8 k
  obtain ⟨-, q⟩ := h.2.2
  rcases q with q | q | ⟨q, -⟩ | ⟨q, q', -⟩ | ⟨q, -⟩ | ⟨q, q1, q2, q3⟩ | ⟨q, -⟩ | ⟨q, -⟩
  all_goals first | omega | skip
  refine ⟨w1, w2, w3, ⟨g1.le (Nat.le_refl _) (Int.le_refl _) (by omega) (Int.le_refl _), by rw [e]; exact v1, by rw [e]; exact q1⟩, ⟨?_, v2, by rw [e18]; exact q2⟩, ⟨?_, v3, by rw [e19]; exact q3⟩, g4⟩
  · have := g1.ec.1.rng
    rw [e18]; exact g2.le (Nat.le_refl _) (by omega) (by omega) (Int.le_refl _)
  · have := g1.ec.1.rng
    rw [e19]; exact g3.le (Nat.le_refl _) (by omega) (by omega) (Int.le_refl _)
theorem MkB.f9 (s : Ts (Gk ta ca na ma0 ns ys nf) na ma vl vh V) (han : Ann na ma0 ma) (h : MkB ta c na ma0 ma ca V (d + 1) nd w b n) (k : (na 14 n.toNatClampNeg).toInt = 9) (e : z = na 17 n.toNatClampNeg) : ∃ w1 w2 : Int, EcV ta c na ma0 d 0 nd z ∧ ((na 14 z.toNatClampNeg).toInt ≠ 4 → SyV ca ns ys (ma 18 z.toNatClampNeg) ∧ MkB ta c na ma0 ma ca V d nd w2 b (ma 18 n.toNatClampNeg)) ∧ ((na 14 z.toNatClampNeg).toInt = 4 → SyA ca ns ys (ma 18 z.toNatClampNeg) ∧ MkB ta c na ma0 ma ca V d nd (w1 - 1) b (na 17 z.toNatClampNeg) ∧ MkB ta c na ma0 ma ca V d nd w2 (b - 1) (ma 18 n.toNatClampNeg)) ∧ (0 ≤ w1 ∧ 0 ≤ w2 ∧ w1 + w2 + 1 ≤ w) ∧ so ta (na 15 n.toNatClampNeg) = 5 := by
  have r := h.ec.rng
  have e18 := han.b18 (x := n.toNatClampNeg) (by omega)
  obtain ⟨m1, w1, w2, g0, g1, g2, g3⟩ := h.1.k9 k e rfl
  obtain ⟨v1, v2⟩ := (s.e h.2.1).k9 k
  have r1 := g1.ec.1.rng
  have g1' : EwV ta c na ma0 d 0 nd w1 z := g1.le (Nat.le_refl _) (Int.le_refl _) (by omega) (Int.le_refl _)
  have g2' : EwV ta c na ma0 d 0 nd w2 (ma 18 n.toNatClampNeg) := by rw [e18]; exact g2.le (Nat.le_refl _) (by omega) (by omega) (Int.le_refl _)
  have v1' : PcT na ma V z := by rw [e]; exact v1
  refine ⟨w1, w2, g1'.ec.1, fun q => ⟨PcT.sy s v1' q, g2', v2, ?_⟩, fun q => ?_, g3, EcV.n9 h.ec (by omega)⟩
  · rw [e] at q
    obtain ⟨-, t⟩ := h.2.2
    rcases t with t | t | ⟨t, -⟩ | ⟨t, t', -⟩ | ⟨t, -⟩ | ⟨t, -⟩ | ⟨t, t1, t2⟩ | ⟨t, t1, t2, t3⟩
    all_goals first | omega | skip
    rw [e18]; exact t2
  · have q' := q
    rw [e] at q
    obtain ⟨-, t⟩ := h.2.2
    rcases t with t | t | ⟨t, -⟩ | ⟨t, t', -⟩ | ⟨t, -⟩ | ⟨t, -⟩ | ⟨t, t1, t2⟩ | ⟨t, t1, t2, t3⟩
    all_goals first | omega | skip
    have hz := s.e v1'.1
    refine ⟨hz.k4s q', ⟨?_, ?_, ?_⟩, g2', v2, ?_⟩
    · cases d with
      | zero => exact (ec_0 g1.ec.1).elim
      | succ d => exact (g1'.k4 q' rfl).le (by omega) (by omega) (Int.le_refl _) (Int.le_refl _)
    · exact hz.k46 (by omega)
    · rw [e]; exact t3
    · rw [e18]; exact t2
/-- the rest of a chain, each with its mark -/
def RvM (ta : Nat → Nat → Int32) (c : Int) (na ma0 ma ca : Nat → Nat → Int32) (V : Nat → Nat → Prop) (d : Nat) (mid nd w b : Int) (k : Int32) : Prop := RvE na (fun l h v x => EwV ta c na ma0 d l h (v - 1) x ∧ MkD ta c ma0 x.toNatClampNeg) mid nd w k ∧ RwV0 na V 0 k ∧ (∃ m, RwI na (fun e => HgB na ma0 ma (tkl na ma0 ca) d e (b - 1)) m k) ∧ 0 ≤ mid
theorem RvM.ge (h : RvM ta c na ma0 ma ca V d nd w b vl n) : 0 ≤ b := h.1.wp
theorem RvE.im {P P' : Int → Int → Int → Int32 → Prop} (f : ∀ l h v x, P l h v x → P' l h v x) {lo hi w : Int} {k : Int32} (h : RvE na P lo hi w k) : RvE na P' lo hi w k := by
  obtain ⟨m, h⟩ := h
  refine ⟨m, ?_⟩
  induction m generalizing lo w k with
  | zero => exact h
  | succ m ih => exact h.imp id (fun q => by
      obtain ⟨mid, wa, q1, q2, q3, q4, q5, q6⟩ := q
      exact ⟨mid, wa, q1, q2, q3, f _ _ _ _ q4, q5, ih q6⟩)
theorem MkB.f7 (s : Ts (Gk ta ca na ma0 ns ys nf) na ma vl vh V) (han : Ann na ma0 ma) (h : MkB ta c na ma0 ma ca V (d + 1) nd w b n) (k : (na 14 n.toNatClampNeg).toInt = 7) (e : z = na 17 n.toNatClampNeg) : ∃ mid w1 w2 : Int, (0 ≤ mid ∧ mid ≤ nd) ∧ MkB ta c na ma0 ma ca V d nd w1 b z ∧ RvM ta c na ma0 ma ca V d mid nd w2 b (na 21 z.toNatClampNeg) ∧ (0 ≤ w1 ∧ 0 ≤ w2 ∧ ((ma 22 n.toNatClampNeg).toInt < 3 → w1 + w2 + 4 ≤ w) ∧ w1 + w2 ≤ w) := by
  have r := h.ec.rng
  have e22 := han.b22 (k := n.toNatClampNeg) (by omega)
  obtain ⟨mid, w1, w2, g0, g1, g2, g3⟩ := h.1.k7 k e
  have hv : RwV0 na V 0 (na 17 n.toNatClampNeg) := (s.e h.2.1).k7 k
  rw [← e] at hv
  have r1 := g1.ec.1.rng
  obtain ⟨v1, v2⟩ := hv.go (by omega) rfl
  obtain ⟨-, t⟩ := h.2.2
  rcases t with t | t | ⟨t, -⟩ | ⟨t, t', -⟩ | ⟨t, t1, t2⟩ | ⟨t, -⟩ | ⟨t, -⟩ | ⟨t, -⟩
  all_goals first | omega | skip
  rw [← e] at t1 t2
  refine ⟨mid, w1, w2, by omega, ⟨g1.le (Nat.le_refl _) (Int.le_refl _) (by omega) (Int.le_refl _), v1, t1⟩, ⟨g2.im (fun l h v x q => ⟨q.1, q.2.2⟩), v2, t2, by omega⟩, g3.1, g3.2.1, fun q => ?_, ?_⟩
  · rw [e22] at q
    have := g3.2.2
    rw [if_pos q] at this; omega
  · have := g3.2.2
    split at this <;> omega
theorem RvM.go (han : Ann na ma0 ma) {mid : Int} (h : RvM ta c na ma0 ma ca V d mid nd w b z) (h0 : 0 ≤ z.toInt) : ∃ mid' wa : Int, (mid ≤ mid' ∧ mid' ≤ nd ∧ mid ≤ z.toInt ∧ z.toInt < mid') ∧ MkB ta c na ma0 ma ca V d nd (wa - 1) (b - 1) z ∧ (0 ≤ (ma 20 z.toNatClampNeg).toInt ∧ (ma 20 z.toNatClampNeg).toInt < c ∧ so ta (ma 20 z.toNatClampNeg) = 5) ∧ RvM ta c na ma0 ma ca V d mid' nd (w - wa) b (na 21 z.toNatClampNeg) ∧ 1 ≤ wa ∧ wa ≤ w ∧ 2 ≤ b := by
  obtain ⟨h1, h2, ⟨m, h3⟩, h4⟩ := h
  obtain ⟨mid', wa, q1, q2, q3, ⟨q4, q4'⟩, q5, q6⟩ := h1.step h0
  obtain ⟨v1, v2⟩ := h2.go h0 rfl
  have kd := q4.ec.1.kind
  have e20 : ma 20 z.toNatClampNeg = ma0 20 z.toNatClampNeg := (han z.toNatClampNeg).2.2.1 (by omega) q4'.1
  cases m with
  | zero => exact absurd h3 (by show ¬ z.toInt < 0; omega)
  | succ m =>
    rcases h3 with h3 | ⟨t1, t2⟩
    · exact absurd h3 (by omega)
    · have w0 := q4.ec.2
      have w6 := q6.wp
      have b1 := t1.b1
      exact ⟨mid', wa, by omega, ⟨q4.le (Nat.le_refl _) h4 q2 (Int.le_refl _), v1, t1⟩, by rw [e20]; exact q4', ⟨q6, v2, ⟨m, t2⟩, by omega⟩, by omega, by omega, by omega⟩
/-- the arguments that are left, k of them are laid -/
def ArB (ta : Nat → Nat → Int32) (c : Int) (na ma0 ma ca : Nat → Nat → Int32) (V : Nat → Nat → Prop) (d : Nat) (mid nd w b nf code k : Int) (e : Int32) : Prop := CeN nf code ∧ RvE na (fun l h v x => EwV ta c na ma0 d l h v x) mid nd w e ∧ AgV na V (tkl na ma0 ca code) k e ∧ (∀ i : Nat, (i : Int) < k → tkl na ma0 ca code i ≠ 32) ∧ (∃ m, HaR na (HgB na ma0 ma (tkl na ma0 ca) d) (tkl na ma0 ca code) m k.toNat ((aslots (tkl na ma0 ca code) k.toNat).length : Int) e b) ∧ 0 ≤ mid ∧ 0 ≤ k
theorem MkB.f3 (s : Ts (Gk ta ca na ma0 ns ys nf) na ma vl vh V) (h : MkB ta c na ma0 ma ca V (d + 1) nd w b n) (k : (na 14 n.toNatClampNeg).toInt = 3) (e : z = na 17 n.toNatClampNeg) : ArB ta c na ma0 ma ca V d (n.toInt + 1) nd (w - 1) b nf (ma 18 n.toNatClampNeg).toInt 0 z := by
  have r := h.ec.rng
  obtain ⟨v1, v2⟩ := (s.e h.2.1).k3 k
  obtain ⟨-, t⟩ := h.2.2
  rcases t with t | t | ⟨t, t1⟩ | ⟨t, t', -⟩ | ⟨t, -⟩ | ⟨t, -⟩ | ⟨t, -⟩ | ⟨t, -⟩
  all_goals first | omega | skip
  subst e
  exact ⟨v1, h.1.k3 k rfl, v2, fun i hi => by omega, t1, by omega, by omega⟩
theorem aslots_len {L : Nat → Int} {k : Nat} : ((aslots L (k + 1)).length : Int) = (aslots L k).length + if L k = 105 then 1 else 2 := by
  show (((if L k = 105 then [0] else [2, 1]) ++ aslots L k).length : Int) = _
  rw [List.length_append]
  by_cases q : L k = 105
  · rw [if_pos q, if_pos q]; simp; omega
  · rw [if_neg q, if_neg q]; simp; omega
theorem ArB.go (s : Ts (Gk ta ca na ma0 ns ys nf) na ma vl vh V) {mid code k k' : Int} (h : ArB ta c na ma0 ma ca V d mid nd w b nf code k z) (h0 : 0 ≤ z.toInt) (ek : k' = k + 1) : ∃ mid' wa : Int, (mid ≤ mid' ∧ mid' ≤ nd ∧ mid ≤ z.toInt ∧ z.toInt < mid') ∧ (tkl na ma0 ca code k.toNat = 105 → MkB ta c na ma0 ma ca V d nd wa (b - (aslots (tkl na ma0 ca code) k.toNat).length) z) ∧ (tkl na ma0 ca code k.toNat ≠ 105 → SyA ca ns ys (ma 18 z.toNatClampNeg) ∧ 1 ≤ wa) ∧ ArB ta c na ma0 ma ca V d mid' nd (w - wa) b nf code k' (na 21 z.toNatClampNeg) ∧ EcV ta c na ma0 d 0 nd z ∧ 0 ≤ wa ∧ wa ≤ w ∧ ((aslots (tkl na ma0 ca code) k.toNat).length : Int) ≤ b := by
  obtain ⟨g1, g2, g3, g4, ⟨m, g5⟩, g6, g7⟩ := h
  obtain ⟨mid', wa, q1, q2, q3, q4, q5, q6⟩ := g2.step h0
  obtain ⟨a1, a2, a3⟩ := g3.go h0 g7 ek rfl
  have w0 := q4.ec.2
  have w6 := q6.wp
  have q4' : EwV ta c na ma0 d 0 nd wa z := q4.le (Nat.le_refl _) g6 q2 (Int.le_refl _)
  cases m with
  | zero => exact absurd g5.1 (by omega)
  | succ m =>
    rcases g5 with g5 | ⟨t1, t2, t3, t4⟩
    · exact absurd g5.1 (by omega)
    · refine ⟨mid', wa, by omega, fun q => ⟨q4', by rw [if_pos q] at a2; exact a2, t2 q⟩, fun q => ?_, ⟨g1, q6, a3, fun i hi => ?_, ⟨m, ?_⟩, by omega, by omega⟩, q4'.ec.1, by omega, by omega, ?_⟩
      · rw [if_neg q] at a2
        have l1 := (s.a a2).a1
        refine ⟨l1.2, ?_⟩
        cases d with
        | zero => exact (ec_0 q4.ec.1).elim
        | succ d => exact q4.k12 (Or.inr l1.1)
      · by_cases hik : (i : Int) < k
        · exact g4 i hik
        · rw [show i = k.toNat by omega]; exact a1
      · rw [show k'.toNat = k.toNat + 1 by omega, aslots_len]; exact t4
      · by_cases q : tkl na ma0 ca code k.toNat = 105
        · have := (t2 q).b1; omega
        · have := t3 q; omega
theorem ArB.fin {mid code k : Int} (h : ArB ta c na ma0 ma ca V d mid nd w b nf code k z) (h0 : z.toInt < 0) : tkl na ma0 ca code k.toNat = 32 ∧ (∀ i : Nat, i < k.toNat → tkl na ma0 ca code i ≠ 32) ∧ ((aslots (tkl na ma0 ca code) k.toNat).length : Int) ≤ b := by
  obtain ⟨g1, g2, ⟨m', g3⟩, g4, ⟨m, g5⟩, g6, g7⟩ := h
  refine ⟨?_, fun i hi => g4 i (by omega), ?_⟩
  · cases m' with
    | zero => exact g3.2
    | succ m' => exact g3.elim (fun q => q.2) (fun q => absurd q.1 (by omega))
  · cases m with
    | zero => exact g5.2
    | succ m => exact g5.elim (fun q => q.2) (fun q => absurd q.1 (by omega))
theorem ArB.ce {mid code k : Int} (h : ArB ta c na ma0 ma ca V d mid nd w b nf code k z) : CeN nf code := h.1
theorem ArB.wp {mid code k : Int} (h : ArB ta c na ma0 ma ca V d mid nd w b nf code k z) : 0 ≤ w := h.2.1.wp
end MK
/-! MAKING: what a row does, stretch by stretch -/
def CxI (X : Cx) (f : Int) (ca : Nat → Nat → Int32) (ns ys nf : Int) (L : Int → Nat → Int) : Prop := X.ca = ca ∧ X.ye f = ns ∧ X.ys f = ys ∧ X.nf = nf ∧ X.L = L
section CX
variable {X : Cx} {f : Int} {ca : Nat → Nat → Int32} {ns ys nf : Int} {L : Int → Nat → Int} {op : Int} {a b : Int32} {S T : List Nat}
theorem CxI.v (h : CxI X f ca ns ys nf L) (q : SyV ca ns ys a) : SyV X.ca (X.ye f) (X.ys f) a := by rw [h.1, h.2.1, h.2.2.1]; exact q
theorem CxI.ar (h : CxI X f ca ns ys nf L) (q : SyA ca ns ys a) : SyA X.ca (X.ye f) (X.ys f) a := by rw [h.1, h.2.1, h.2.2.1]; exact q
theorem CxI.load (h : CxI X f ca ns ys nf L) (q : SyV ca ns ys a) (o : op = 2 ∨ op = 8) : StC9 X f op a b S (0 :: S) := .load S o (h.v q)
theorem CxI.save (h : CxI X f ca ns ys nf L) (q : SyV ca ns ys a) (o : op = 3 ∨ (op = 6 ∧ -1 ≤ b.toInt ∧ b.toInt ≤ 42)) : StC9 X f op a b (0 :: S) (0 :: S) := .save S o (h.v q)
theorem CxI.elem (h : CxI X f ca ns ys nf L) (q : SyA ca ns ys a) (o : op = 4 ∨ op = 9) : StC9 X f op a b (0 :: S) (0 :: S) := .elem S o (h.ar q)
theorem CxI.sel (h : CxI X f ca ns ys nf L) (q : SyA ca ns ys a) (o : op = 5 ∨ (op = 7 ∧ -1 ≤ b.toInt ∧ b.toInt ≤ 42)) : StC9 X f op a b (0 :: 0 :: S) (0 :: S) := .sel S o (h.ar q)
theorem CxI.array (h : CxI X f ca ns ys nf L) (q : SyA ca ns ys a) (o : op = 22) : StC9 X f op a b S (2 :: 1 :: S) := .array S o (h.ar q)
theorem CxI.arc {code k : Int} (h : CxI X f ca ns ys nf L) (q : L code k.toNat = 32 ∧ (∀ i : Nat, i < k.toNat → L code i ≠ 32)) : ArC X code (aslots (L code) k.toNat ++ S) S := by
  rw [← h.2.2.2.2] at q ⊢
  exact ⟨k.toNat, rfl, q.1, q.2⟩
theorem CxI.own {code k : Int} (h : CxI X f ca ns ys nf L) (q : L code k.toNat = 32 ∧ (∀ i : Nat, i < k.toNat → L code i ≠ 32)) (o : op = 16) (ha : a.toInt = code) (hc : CeN nf code) (h1 : code < 100) : StC9 X f op a b (aslots (L code) k.toNat ++ S) (0 :: S) := .own _ _ o (by unfold CeN at hc; omega) (by rw [ha]; exact h.arc q)
end CX
section SQ
variable {X : Cx} {ea ea' e1 e2 e3 e4 e5 e6 e7 : Nat → Nat → Int32} {c c' : Nat → Int32} {s m m' s' f : Int} {S T S' : List Nat} {v : Nat} {p op a b to : Int32}
theorem EmU.rw (u : EmU ea ea' p op a b) {n : Nat} (hn : p.toInt = (n : Int)) : ea' 61 (3 * n) = op ∧ ea' 61 (3 * n + 1) = a ∧ ea' 61 (3 * n + 2) = b := by
  refine ⟨?_, ?_, ?_⟩
  · rw [show 3 * n = (3 * p.toInt).toNat by omega]; exact u.2.2.1
  · rw [show 3 * n + 1 = (3 * p.toInt + 1).toNat by omega]; exact u.2.2.2.1
  · rw [show 3 * n + 2 = (3 * p.toInt + 2).toNat by omega]; exact u.2.2.2.2
theorem sgq_0 (h : 0 ≤ s) : SgQ X c s s f S S v := ⟨h, sgc_0, h⟩
theorem SgQ.em (h : SgQ X (ea 61) s m f S T v) (u : EmU ea ea' p op a b) (hp : p.toInt = m) (hs : s' = m + 1) (ht : (T.length : Int) ≤ X.tall f) (q : StC9 X f op.toInt a b T S') : SgQ X (ea' 61) s s' f S S' v := by
  have h0 := h.2.2
  exact (h.cd u.cd (by omega)).sq ((u.sg (by omega) (s' := s') (by omega) ht q).eq hp rfl)
theorem SgQ.call (h : SgQ X (ea 61) s m f S T v) (u : EmU ea ea' p op a b) (hp : p.toInt = m) (hs : s' = m + 1) (ht : (T.length : Int) ≤ X.tall f) (ho : op.toInt = 15) (ha : 0 ≤ a.toInt ∧ a.toInt < X.nf) (q : ArC X (100 + a.toInt) T S') : SgQ X (ea' 61) s s' f S (0 :: S') v := by
  have h0 := h.2.2
  have r := u.rw (n := m.toNat) (by omega)
  have k : SgQ X (ea' 61) m s' f T (0 :: S') v := ⟨h0, sgc_call (by omega) ht (by rw [r.1]; exact ho) (by rw [r.2.1]; exact ha) (by rw [r.2.1]; exact q), by omega⟩
  exact (h.cd u.cd (by omega)).sq k
theorem SgQ.ap (h : SgQ X (ea 61) s m f S T v) (cd : CdK ea ea' m') (k : SgQ X (ea' 61) m' s' f T S' v) (e : m = m') : SgQ X (ea' 61) s s' f S S' v := by
  subst e; exact (h.cd cd (Int.le_refl _)).sq k
theorem SgQ.tq (h : SgQ X c s m f S T v) (e : s = s') (e2 : m = m') (e3 : T = S') : SgQ X c s' m' f S S' v := by subst e; subst e2; subst e3; exact h
theorem LaU.cd (u : LaU ea ea' p to) (hp : s ≤ p.toInt) : CdK ea ea' s := ⟨u.1, fun i hi => u.2.1 i (by omega)⟩
theorem EaK.cd {l : List Nat} (u : EaK ea ea') (q : LaA (ea 61) (ea' 61) l to) (hp : ∀ x ∈ l, s ≤ (x : Int)) : CdK ea ea' s := ⟨u, fun i hi => (q i).2 (fun x hx => by have := hp x hx; omega)⟩
theorem LaU.rw (u : LaU ea ea' p to) {n : Nat} (hn : p.toInt = (n : Int)) : ea' 61 (3 * n + 1) = to ∧ ∀ i : Nat, i ≠ 3 * n + 1 → ea' 61 i = ea 61 i := ⟨by rw [show 3 * n + 1 = (3 * p.toInt + 1).toNat by omega]; exact u.2.2, fun i hi => u.2.1 i (by omega)⟩
/-- a choice of two numbers -/
theorem sgq_if {m1 m2 : Int} {q1 q7 p5 op2 a2 b2 to2 : Int32} (h1 : SgQ X (e1 61) s m f S (0 :: S) v) (u2 : EmU e1 e2 p op a b) (c3 : CdK e2 e3 m1) (h3 : SgQ X (e3 61) m1 m' f S (0 :: S) v) (u4 : EmU e3 e4 q1 op2 a2 b2) (u5 : LaU e4 e5 p5 to) (c6 : CdK e5 e6 m2) (h6 : SgQ X (e6 61) m2 s' f S (0 :: S) v) (u7 : LaU e6 e7 q7 to2) (hm1 : m1 = m + 1) (hm2 : m2 = m' + 1) (hp : p.toInt = m) (hp5 : p5.toInt = m) (hq : q1.toInt = m') (hq7 : q7.toInt = m') (ho : op.toInt = 13) (ho2 : op2.toInt = 12) (ht : to.toInt = m' + 1) (ht2 : to2.toInt = s') (hl : (S.length : Int) + 1 ≤ X.tall f) : SgQ X (e7 61) s s' f S (0 :: S) v := by
  subst hm1; subst hm2
  have a0 := h1.1
  have a1 := h1.2.1.1
  have a2 := h1.2.2
  have a3 := h3.2.1.1
  have a4 := h3.2.2
  have a5 := h6.2.1.1
  have a6 := h6.2.2
  have em : (m : Int) = (m.toNat : Int) := by omega
  have em' : (m' : Int) = (m'.toNat : Int) := by omega
  have r2 := u2.rw (n := m.toNat) (by omega)
  have r4 := u4.rw (n := m'.toNat) (by omega)
  have r5 := u5.rw (n := m.toNat) (by omega)
  have r7 := u7.rw (n := m'.toNat) (by omega)
  have l1 : ((0 :: S).length : Int) ≤ X.tall f := by rw [List.length_cons]; omega
  refine ⟨a0, sgc_if (m1 := m.toNat) (m2 := m'.toNat) (T := S) (t1 := 0) (t2 := 0) ?_ ?_ ?_ l1 l1 ?_ ?_ ?_ ?_, a6⟩
  · refine h1.2.1.fr (fun i i1 i2 => ?_)
    rw [r7.2 i (by omega), c6.2 i (by omega), r5.2 i (by omega), u4.2.1 i (by omega), c3.2 i (by omega), u2.2.1 i (by omega)]
  · have q := h3.2.1
    rw [show (m + 1).toNat = m.toNat + 1 by omega] at q
    refine q.fr (fun i i1 i2 => ?_)
    rw [r7.2 i (by omega), c6.2 i (by omega), r5.2 i (by omega), u4.2.1 i (by omega)]
  · have q := h6.2.1
    rw [show (m' + 1).toNat = m'.toNat + 1 by omega] at q
    refine q.fr (fun i i1 i2 => ?_)
    rw [r7.2 i (by omega)]
  · rw [r7.2 _ (by omega), c6.2 _ (by omega), r5.2 _ (by omega), u4.2.1 _ (by omega), c3.2 _ (by omega), r2.1]; exact ho
  · rw [r7.2 _ (by omega), c6.2 _ (by omega), r5.1]; omega
  · rw [r7.2 _ (by omega), c6.2 _ (by omega), r5.2 _ (by omega), r4.1]; exact ho2
  · rw [r7.1]; omega
theorem aslots_i {L : Nat → Int} {k k' : Int} (h : L k.toNat = 105) (h0 : 0 ≤ k) (e : k' = k + 1) : 0 :: (aslots L k.toNat ++ S) = aslots L k'.toNat ++ S := by
  rw [show k'.toNat = k.toNat + 1 by omega]
  show _ = ((if L k.toNat = 105 then [0] else [2, 1]) ++ aslots L k.toNat) ++ S
  rw [if_pos h]; rfl
theorem aslots_a {L : Nat → Int} {k k' : Int} (h : L k.toNat ≠ 105) (h0 : 0 ≤ k) (e : k' = k + 1) : 2 :: 1 :: (aslots L k.toNat ++ S) = aslots L k'.toNat ++ S := by
  rw [show k'.toNat = k.toNat + 1 by omega]
  show _ = ((if L k.toNat = 105 then [0] else [2, 1]) ++ aslots L k.toNat) ++ S
  rw [if_neg h]; rfl
theorem chn_em {l : List Nat} {n : Nat} {k : Int32} (h : ChN (ea 61) k l) (d : Dec9 n l) (u : EmU ea ea' p op a b) (hp : (n : Int) ≤ p.toInt) : ChN (ea' 61) k l := h.eq (fun q hq => u.2.1 _ (by have := d.mem hq; omega))
theorem chn_k {l : List Nat} {k k' : Int32} (h : ChN c k l) (e : k'.toInt = k.toInt) : ChN c k' l := by
  cases l with
  | nil => show k'.toInt < 0; have : k.toInt < 0 := h; omega
  | cons q l => exact ⟨by have := h.1; omega, h.2⟩
/-! chains that may end early -/
def wl (l : List Nat) (S : List Nat) (v : Nat) : WP := fun p T u => p ∈ l ∧ T = S ∧ u = v
def ChL9 (X : Cx) (c : Nat → Int32) (s m : Int) (f : Int) (S : List Nat) (v : Nat) (l : List Nat) : Prop := (0 ≤ s ∧ s ≤ m) ∧ Dec9 m.toNat l ∧ (∀ x ∈ l, s ≤ (x : Int)) ∧ ∃ K, ClW X c s.toNat m.toNat f K (Ex9 m.toNat f (0 :: S) v) (wl l S v) ∧ (K s.toNat f S v)
def ChS (X : Cx) (c : Nat → Int32) (s m : Int) (f : Int) (S : List Nat) (v : Nat) (out : Int32) : Prop := ∃ l, ChN c out l ∧ ChL9 X c s m f S v l
theorem chs_0 (h : SgQ X c s m f S (0 :: S) v) (ho : a.toInt < 0) : ChS X c s m f S v a := by
  obtain ⟨h0, h1, h2⟩ := h
  obtain ⟨g0, K, g1, g2⟩ := h1.w
  refine ⟨[], ho, ⟨h0, by omega⟩, trivial, fun x hx => absurd hx List.not_mem_nil, K, ⟨fun p T u q => absurd q.1 List.not_mem_nil, fun p g R u k => ?_⟩, ?_⟩
  · obtain ⟨a1, a2, a3⟩ := g1.2 p g R u k
    refine ⟨a1, a2, ?_⟩
    rcases a3 with a3 | ⟨T, a3, -⟩
    · exact Or.inl ⟨a3.1, fun T t q => absurd q.1 List.not_mem_nil⟩
    · exact a3.elim
  · rcases g2 with g2 | ⟨g2, g3⟩
    · exact g2
    · exact absurd (congrArg List.length g3) (by rw [List.length_cons]; omega)
theorem ClW.mw {K E : KP} {W W' : WP} {lo hi : Nat} (h : ClW X c lo hi f K E W) (e : ∀ p T u, W p T u ↔ W' p T u) : ClW X c lo hi f K E W' := by
  have : W = W' := by funext p T u; exact propext (e p T u)
  rw [← this]; exact h
/-- one row that waits: a number is looked at -/
theorem clw_1 {n : Nat} (ht : ((0 :: S).length : Int) ≤ X.tall f) (ho : (c (3 * n)).toInt = 13 ∨ (c (3 * n)).toInt = 14) : ClW X c n (n + 1) f (Ex9 n f (0 :: S) v) (Ex9 (n + 1) f S v) (wl [n] S v) := by
  refine ⟨fun p T u q => ?_, fun p g R u q => ?_⟩
  · have := List.mem_singleton.mp q.1; omega
  · obtain ⟨rfl, rfl, rfl, rfl⟩ := q
    exact ⟨by omega, rfl, Or.inr ⟨S, ⟨List.mem_singleton.mpr rfl, rfl, rfl⟩, ht, Or.inr ⟨ho, rfl, Or.inr ⟨rfl, rfl, rfl, rfl⟩⟩⟩⟩
/-- the chain goes on: a row that waits -/
theorem ChS.em (h : ChS X (ea 61) s m f S v a) (u : EmU ea ea' p op a b) (hp : p.toInt = m) (ho : op.toInt = 13 ∨ op.toInt = 14) (hl : (S.length : Int) + 1 ≤ X.tall f) : ∃ l, ChN (ea' 61) p l ∧ Dec9 (m.toNat + 1) l ∧ (∀ x ∈ l, s ≤ (x : Int)) ∧ (0 ≤ s ∧ s ≤ m) ∧ (∃ x ∈ l, x = m.toNat) ∧ ∃ K, ClW X (ea' 61) s.toNat (m.toNat + 1) f K (Ex9 (m.toNat + 1) f S v) (wl l S v) ∧ K s.toNat f S v := by
  obtain ⟨l, h1, h2, h3, h4, K, h5, h6⟩ := h
  have r := u.rw (n := m.toNat) (by omega)
  refine ⟨m.toNat :: l, ⟨by omega, ?_⟩, ⟨by omega, h3⟩, fun x hx => ?_, h2, ⟨m.toNat, List.mem_cons_self .., rfl⟩, ?_⟩
  · rw [r.2.1]
    exact h1.eq (fun q hq => u.2.1 _ (by have := h3.mem hq; omega))
  · rcases List.mem_cons.mp hx with e | e
    · omega
    · exact h4 x e
  · have k1 := h5.fr (c' := ea' 61) (fun i i1 i2 => u.2.1 i (by omega))
    have k2 : ClW X (ea' 61) m.toNat (m.toNat + 1) f (Ex9 m.toNat f (0 :: S) v) (Ex9 (m.toNat + 1) f S v) (wl [m.toNat] S v) := clw_1 (by rw [List.length_cons]; omega) (by rw [r.1]; exact ho)
    refine ⟨_, (k1.un k2 (by omega) (by omega) (fun _ _ _ _ q => Or.inl q) (fun _ _ _ _ q => Or.inr q)).mw (fun q T t => ?_), Or.inl h6⟩
    constructor
    · rintro (⟨w1, w2⟩ | ⟨w1, w2⟩)
      · exact ⟨List.mem_cons_of_mem _ w1, w2⟩
      · exact ⟨by rw [List.mem_singleton.mp w1]; exact List.mem_cons_self .., w2⟩
    · rintro ⟨w1, w2⟩
      rcases List.mem_cons.mp w1 with e | e
      · exact Or.inr ⟨List.mem_singleton.mpr e, w2⟩
      · exact Or.inl ⟨e, w2⟩
theorem ChS.nx {m1 : Int} {p9 : Int32} (h : ChS X (ea 61) s m f S v a) (u : EmU ea ea' p op a b) (cd : CdK ea' e2 m1) (k : SgQ X (e2 61) m1 m' f S (0 :: S) v) (hm1 : m1 = m + 1) (hp9 : p9 = p) (hp : p.toInt = m) (ho : op.toInt = 13 ∨ op.toInt = 14) (hl : (S.length : Int) + 1 ≤ X.tall f) : ChS X (e2 61) s m' f S v p9 := by
  subst hm1; subst hp9
  obtain ⟨l, h1, h2, h3, h4, -, K, h5, h6⟩ := h.em u hp ho hl
  obtain ⟨k0, k1, k2⟩ := k
  obtain ⟨g0, K', g1, g2⟩ := k1.w
  rw [show (m + 1).toNat = m.toNat + 1 by omega] at g0 g1 g2
  have j1 := h5.fr (c' := e2 61) (fun i i1 i2 => cd.2 i (by omega))
  refine ⟨l, h1.eq (fun q hq => cd.2 _ (by have := h2.mem hq; omega)), by omega, ?_, h3, ?_⟩
  · cases l with
    | nil => trivial
    | cons q l => exact ⟨by have := h2.1; omega, h2.2⟩
  · refine ⟨_, (j1.un (F := Ex9 m'.toNat f (0 :: S) v) g1 (by omega) g0 (fun p g R u q => ?_) (fun _ _ _ _ q => Or.inr q)).mw (fun q T t => ?_), Or.inl h6⟩
    · obtain ⟨rfl, rfl, rfl, rfl⟩ := q
      rcases g2 with g2 | ⟨g2, g3⟩
      · exact Or.inl g2
      · exact absurd (congrArg List.length g3) (by rw [List.length_cons]; omega)
    · exact ⟨fun q => q.elim id (fun q => q.elim), Or.inl⟩
/-- its end: 0 or 1 -/
theorem chs_fin {l : List Nat} {K : KP} {p2 p3 p5 p7 o2 o3 o5 a2 a3 a5 b2 b3 b5 to7 : Int32} (h5 : ClW X (e1 61) s.toNat (m.toNat + 1) f K (Ex9 (m.toNat + 1) f S v) (wl l S v)) (h6 : K s.toNat f S v) (hs : 0 ≤ s ∧ s ≤ m) (hd : Dec9 (m.toNat + 1) l)
    (u2 : EmU e1 e2 p2 o2 a2 b2) (u3 : EmU e2 e3 p3 o3 a3 b3) (la : LaA (e3 61) (e4 61) l to) (u5 : EmU e4 e5 p5 o5 a5 b5) (u7 : LaU e5 e6 p7 to7) (x2 : p2.toInt = m + 1) (x3 : p3.toInt = m + 2) (xt : to.toInt = m + 3) (x5 : p5.toInt = m + 3) (x7 : to7.toInt = m + 4) (x8 : p7.toInt = m + 2) (y2 : o2.toInt = 1) (y3 : o3.toInt = 12) (y5 : o5.toInt = 1) (hl : (S.length : Int) + 1 ≤ X.tall f) : SgQ X (e6 61) s (m + 4) f S (0 :: S) v := by
  have r2 := u2.rw (n := m.toNat + 1) (by omega)
  have r3 := u3.rw (n := m.toNat + 2) (by omega)
  have r5 := u5.rw (n := m.toNat + 3) (by omega)
  have r7 := u7.rw (n := m.toNat + 2) (by omega)
  have nl : ∀ i : Nat, 3 * (m.toNat + 1) ≤ i → e4 61 i = e3 61 i := fun i hi => (la i).2 (fun x hx => by have := hd.mem hx; omega)
  have d1 : ∀ i : Nat, 3 * (m.toNat + 1) ≤ i → i < 3 * (m.toNat + 3) → i ≠ 3 * (m.toNat + 2) + 1 → e6 61 i = e3 61 i := fun i i1 i2 i3 => by rw [r7.2 i i3, u5.2.1 i (by omega), nl i i1]
  have hl1 : ((0 :: S).length : Int) ≤ X.tall f := by rw [List.length_cons]; omega
  -- the chain itself, landed
  have j0 := h5.fr (c' := e3 61) (fun i i1 i2 => by rw [u3.2.1 i (by omega), u2.2.1 i (by omega)])
  -- the rows behind
  let E3 : KP := fun p g R u => (p = m.toNat + 3 ∧ g = f ∧ R = S ∧ u = v)
  let Kt : KP := fun p g R u => (p = m.toNat + 1 ∧ g = f ∧ R = S ∧ u = v) ∨ (p = m.toNat + 2 ∧ g = f ∧ R = 0 :: S ∧ u = v) ∨ (p = m.toNat + 3 ∧ g = f ∧ R = S ∧ u = v)
  have j1 : ClW X (e6 61) (m.toNat + 1) (m.toNat + 4) f Kt (Ex9 (m.toNat + 4) f (0 :: S) v) w0 := by
    refine ⟨fun _ _ _ q => q.elim, fun p g R u q => ?_⟩
    rcases q with ⟨rfl, rfl, rfl, rfl⟩ | ⟨rfl, rfl, rfl, rfl⟩ | ⟨rfl, rfl, rfl, rfl⟩
    · refine ⟨by omega, rfl, Or.inl ⟨⟨by omega, Or.inl ⟨0 :: R, .push R ?_, Or.inl (Or.inr (Or.inl ⟨rfl, rfl, rfl, rfl⟩))⟩⟩, fun _ _ q => q⟩⟩
      rw [d1 _ (by omega) (by omega) (by omega), u3.2.1 _ (by omega), r2.1]; exact y2
    · refine ⟨by omega, rfl, Or.inl ⟨⟨hl1, Or.inr (Or.inl ⟨?_, ?_⟩)⟩, fun _ _ q => q⟩⟩
      · rw [d1 _ (by omega) (by omega) (by omega), r3.1]; exact y3
      · rw [r7.1]
        have et : to7.toNatClampNeg = m.toNat + 4 := by have := cl_nat (x := to7) (by omega); omega
        exact ⟨by omega, u, by rw [et]; exact Or.inr ⟨rfl, rfl, rfl, rfl⟩, Or.inr ⟨rfl, by omega⟩⟩
    · refine ⟨by omega, rfl, Or.inl ⟨⟨by omega, Or.inl ⟨0 :: R, .push R ?_, Or.inr ⟨rfl, rfl, rfl, rfl⟩⟩⟩, fun _ _ q => q⟩⟩
      rw [r7.2 _ (by omega), r5.1]; exact y5
  have j2 : ClW X (e3 61) s.toNat (m.toNat + 1) f K (kor (Ex9 (m.toNat + 1) f S v) E3) (wl l S v) := j0.me (fun _ _ _ _ q => Or.inl q)
  have j3 : ClW X (e4 61) s.toNat (m.toNat + 1) f K (kor (Ex9 (m.toNat + 1) f S v) E3) (fun p T u => wl l S v p T u ∧ p ∉ l) := j2.la (t := m.toNat + 3) la (by omega) (fun x hx => ⟨S, v, hx, rfl, rfl⟩) (fun x T u hx hw => ⟨v, by obtain ⟨-, rfl, rfl⟩ := hw; exact Or.inr (Or.inr ⟨rfl, rfl, rfl, rfl⟩), by obtain ⟨-, -, rfl⟩ := hw; exact Or.inr ⟨rfl, by have := hd.mem hx; omega⟩⟩)
  have j4 := j3.fr (c' := e6 61) (fun i i1 i2 => by rw [r7.2 i (by omega), u5.2.1 i (by omega)])
  have j5 := j4.un (F := Ex9 (m.toNat + 4) f (0 :: S) v) j1 (by omega) (by omega) (fun p g R u q => Or.inl (by
    rcases q with ⟨rfl, rfl, rfl, rfl⟩ | ⟨rfl, rfl, rfl, rfl⟩
    · exact Or.inl ⟨rfl, rfl, rfl, rfl⟩
    · exact Or.inr (Or.inr ⟨rfl, rfl, rfl, rfl⟩))) (fun _ _ _ _ q => Or.inr q)
  have j6 := j5.sg (S := S) (fun p T u q => by
    rcases q with q | q
    · exact q.2 q.1.1
    · exact q) (by omega) (Or.inl (Or.inl h6))
  rw [show m.toNat + 4 = (m + 4).toNat by omega] at j6
  exact ⟨hs.1, j6, by omega⟩
/-- a chain: of either sort -/
def ChI (X : Cx) (c : Nat → Int32) (s m : Int) (f : Int) (S : List Nat) (v : Nat) (out : Int32) (r : Int) : Prop := (r < 3 → ChS X c s m f S v out) ∧ (3 ≤ r → SgQ X c s m f S (0 :: S) v)
theorem chi_0 {r : Int} (h : SgQ X c s m f S (0 :: S) v) (ho : a.toInt < 0) : ChI X c s m f S v a r := ⟨fun _ => chs_0 h ho, fun _ => h⟩
theorem ChI.tq {r : Int} (h : ChI X c s m f S v a r) (e : s = s') (e2 : m = m') : ChI X c s' m' f S v a r := by subst e; subst e2; exact h
end SQ
