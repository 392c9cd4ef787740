/-! EXPRESSIONS with their weights -/
def EwV (ta : Nat → Nat → Int32) (c : Int) (na ma : Nat → Nat → Int32) (d : Nat) (lo hi w : Int) (n : Int32) : Prop := 0 ≤ n.toInt ∧ ∃ l h w' : Nat, lo ≤ (l : Int) ∧ (h : Int) ≤ hi ∧ (w' : Int) ≤ w ∧ Ex ta c na ma d n.toNatClampNeg l h w'
section EW
variable {ta : Nat → Nat → Int32} {c : Int} {na ma : Nat → Nat → Int32} {d : Nat} {lo hi w : Int} {n z : Int32}
theorem EwV.ec (h : EwV ta c na ma d lo hi w n) : EcV ta c na ma d lo hi n ∧ 0 ≤ w := by
  obtain ⟨h0, l, hh, v, h1, h2, h3, h4⟩ := h
  exact ⟨⟨h0, l, hh, v, h1, h2, h4⟩, by omega⟩
theorem ErV.ew (h : ErV ta c na ma d lo hi w n) : EwV ta c na ma d lo hi w n := by
  obtain ⟨h0, l, hh, v, h1, h2, h3, h4⟩ := h
  exact ⟨h0, l, hh, v, h1, h2, h3, h4.1⟩
theorem EwV.mw {w' : Int} (h : EwV ta c na ma d lo hi w n) (hw : w ≤ w') : EwV ta c na ma d lo hi w' n := by
  obtain ⟨h0, l, hh, v, h1, h2, h3, h4⟩ := h
  exact ⟨h0, l, hh, v, h1, h2, by omega, h4⟩
theorem EwV.up {d' : Nat} (h : EwV ta c na ma d lo hi w n) (hd : d ≤ d') : EwV ta c na ma d' lo hi w n := by
  obtain ⟨h0, l, hh, v, h1, h2, h3, h4⟩ := h
  exact ⟨h0, l, hh, v, h1, h2, h3, h4.wid hd (Nat.le_refl _) (Nat.le_refl _) (Nat.le_refl _)⟩
theorem ew_of {a l h v : Nat} {x : Int32} (e : x.toInt = (a : Int)) (q : Ex ta c na ma d a l h v) (h1 : lo ≤ (l : Int)) (h2 : (h : Int) ≤ hi) (h3 : (v : Int) ≤ w) : EwV ta c na ma d lo hi w x := by
  have hx := cl_nat (x := x) (by first | exact oz_016f458179 hx | omega)
  exact ⟨by omega, l, h, v, h1, h2, h3, by rw [show x.toNatClampNeg = a by omega]; exact q⟩
theorem EwV.k12 (h : EwV ta c na ma (d + 1) lo hi w n) (k : (na 14 n.toNatClampNeg).toInt = 1 ∨ (na 14 n.toNatClampNeg).toInt = 2) : 1 ≤ w := by
  obtain ⟨h0, l, hh, v, q1, q2, q3, r, h1⟩ := h
  rcases h1 with ⟨g, -, g1⟩ | ⟨g, -, g1⟩ | ⟨g, -⟩ | ⟨g, -⟩ | ⟨g, -⟩ | ⟨g, -⟩ | ⟨g, -⟩ | ⟨g, -⟩ <;> omega
theorem EwV.k4 (h : EwV ta c na ma (d + 1) lo hi w n) (k : (na 14 n.toNatClampNeg).toInt = 4) (e : z = na 17 n.toNatClampNeg) : EwV ta c na ma d (n.toInt + 1) hi (w - 1) z := by
  obtain ⟨h0, l, hh, v, q1, q2, q3, r, h1⟩ := h
  have hc := cl_nat h0
  rcases h1 with ⟨g, -⟩ | ⟨g, -⟩ | ⟨g, -⟩ | ⟨g, g1, a, wa, g2, g3, g4⟩ | ⟨g, -⟩ | ⟨g, -⟩ | ⟨g, -⟩ | ⟨g, -⟩
  all_goals first | exact absurd g (by omega) | skip
  exact ew_of (by rw [e]; exact g2) g3 (by omega) q2 (by omega)
theorem EwV.k56 (h : EwV ta c na ma (d + 1) lo hi w n) (k : (na 14 n.toNatClampNeg).toInt = 5 ∨ (na 14 n.toNatClampNeg).toInt = 6) (e : z = na 17 n.toNatClampNeg) : EwV ta c na ma d lo n.toInt (w - 1) z := by
  obtain ⟨h0, l, hh, v, q1, q2, q3, r, h1⟩ := h
  have hc := cl_nat h0
  rcases h1 with ⟨g, -⟩ | ⟨g, -⟩ | ⟨g, -⟩ | ⟨g, -⟩ | ⟨g, g1, a, wa, g2, g3, g4, g5⟩ | ⟨g, -⟩ | ⟨g, -⟩ | ⟨g, -⟩
  all_goals first | exact absurd g (by omega) | skip
  exact ew_of (by rw [e]; exact g2) g3 q1 (by omega) (by omega)
theorem EwV.k3 (h : EwV ta c na ma (d + 1) lo hi w n) (k : (na 14 n.toNatClampNeg).toInt = 3) (e : z = na 17 n.toNatClampNeg) : RvE na (fun l h v x => EwV ta c na ma d l h v x) (n.toInt + 1) hi (w - 1) z := by
  obtain ⟨h0, l, hh, v, q1, q2, q3, r, h1⟩ := h
  have hc := cl_nat h0
  rcases h1 with ⟨g, -⟩ | ⟨g, -⟩ | ⟨g, g1, wr, g2, g3⟩ | ⟨g, -⟩ | ⟨g, -⟩ | ⟨g, -⟩ | ⟨g, -⟩ | ⟨g, -⟩
  all_goals first | exact absurd g (by omega) | skip
  subst e
  exact rv_lz (P' := Ex ta c na ma d) (fun a l h v x ex p => ew_of ex p (Int.le_refl _) (Int.le_refl _) (Int.le_refl _)) g2 (by omega) q2 (by omega) (fun a l l' h v hl p => p.wid (Nat.le_refl _) hl (Nat.le_refl _) (Nat.le_refl _))
theorem EwV.k8 {y x : Int32} (h : EwV ta c na ma (d + 1) lo hi w n) (k : (na 14 n.toNatClampNeg).toInt = 8) (e : z = na 17 n.toNatClampNeg) (e2 : y = ma 18 n.toNatClampNeg) (e3 : x = ma 19 n.toNatClampNeg) : ∃ m1 m2 w1 w2 w3 : Int, (m1 ≤ m2 ∧ m2 ≤ n.toInt) ∧ EwV ta c na ma d lo m1 w1 z ∧ EwV ta c na ma d m1 m2 w2 y ∧ EwV ta c na ma d m2 n.toInt w3 x ∧ (0 ≤ w1 ∧ 0 ≤ w2 ∧ 0 ≤ w3 ∧ w1 + w2 + w3 + 2 ≤ w) := by
  obtain ⟨h0, l, hh, v, q1, q2, q3, r, h1⟩ := h
  have hc := cl_nat h0
  rcases h1 with ⟨g, -⟩ | ⟨g, -⟩ | ⟨g, -⟩ | ⟨g, -⟩ | ⟨g, -⟩ | ⟨g, -⟩ | ⟨g, g1, a, b, e', m1, m2, wa, wb, we, g2, g3, g4, g5, g6, g7, g8, g9, g10⟩ | ⟨g, -⟩
  all_goals first | exact absurd g (by omega) | skip
  exact ⟨m1, m2, wa, wb, we, by omega, ew_of (by rw [e]; exact g2) g7 q1 (Int.le_refl _) (Int.le_refl _), ew_of (by rw [e2]; exact g3) g8 (Int.le_refl _) (Int.le_refl _) (Int.le_refl _), ew_of (by rw [e3]; exact g4) g9 (Int.le_refl _) (by omega) (Int.le_refl _), by omega⟩
theorem EwV.k9 {y : Int32} (h : EwV ta c na ma (d + 1) lo hi w n) (k : (na 14 n.toNatClampNeg).toInt = 9) (e : z = na 17 n.toNatClampNeg) (e2 : y = ma 18 n.toNatClampNeg) : ∃ m1 w1 w2 : Int, m1 ≤ n.toInt ∧ EwV ta c na ma d lo m1 w1 z ∧ EwV ta c na ma d m1 n.toInt w2 y ∧ (0 ≤ w1 ∧ 0 ≤ w2 ∧ w1 + w2 + 1 ≤ w) := by
  obtain ⟨h0, l, hh, v, q1, q2, q3, r, h1⟩ := h
  have hc := cl_nat h0
  rcases h1 with ⟨g, -⟩ | ⟨g, -⟩ | ⟨g, -⟩ | ⟨g, -⟩ | ⟨g, -⟩ | ⟨g, -⟩ | ⟨g, -⟩ | ⟨g, g1, a, b, m1, wa, wb, g2, g3, g4, g5, g6, g7⟩
  all_goals first | exact absurd g (by omega) | skip
  exact ⟨m1, wa, wb, by omega, ew_of (by rw [e]; exact g2) g5 q1 (Int.le_refl _) (Int.le_refl _), ew_of (by rw [e2]; exact g3) g6 (Int.le_refl _) (by omega) (Int.le_refl _), by omega⟩
/-- a chain: its first, the row behind it, each with its mark; four more where it may end early -/
theorem EwV.k7 (h : EwV ta c na ma (d + 1) lo hi w n) (k : (na 14 n.toNatClampNeg).toInt = 7) (e : z = na 17 n.toNatClampNeg) : ∃ mid w1 w2 : Int, (mid ≤ hi ∧ mid ≤ n.toInt) ∧ EwV ta c na ma d lo mid w1 z ∧ RvE na (fun l h v x => EwV ta c na ma d l h (v - 1) x ∧ x.toInt ≠ n.toInt ∧ MkD ta c ma x.toNatClampNeg) mid hi w2 (na 21 z.toNatClampNeg) ∧ (0 ≤ w1 ∧ 0 ≤ w2 ∧ w1 + w2 + (if (ma 22 n.toNatClampNeg).toInt < 3 then 4 else 0) ≤ w) := by
  obtain ⟨h0, l, hh, v, q1, q2, q3, r, h1⟩ := h
  have hc := cl_nat h0
  rcases h1 with ⟨g, -⟩ | ⟨g, -⟩ | ⟨g, -⟩ | ⟨g, -⟩ | ⟨g, -⟩ | ⟨g, g1, a, mid, wa, m, wr, g2, g3, g4, g5, g6⟩ | ⟨g, -⟩ | ⟨g, -⟩
  all_goals first | exact absurd g (by omega) | skip
  subst e
  have hz := cl_nat (x := na 17 n.toNatClampNeg) (by omega)
  have ea : (na 17 n.toNatClampNeg).toNatClampNeg = a := by omega
  obtain ⟨b', k1, k2, k3, k4⟩ := g5.last
  refine ⟨mid, wa, wr, by omega, ew_of g2 g4 q1 (Int.le_refl _) (Int.le_refl _), ?_, ?_⟩
  · rw [ea]
    refine rv_lz (P' := Pc ta c ma (Ex ta c na ma d) n.toNatClampNeg) (fun a l h v x ex p => ?_) (Or.inr ⟨m, _, g5⟩) rfl q2 (Int.le_refl _) (fun a l l' h v hl p => ?_)
    · obtain ⟨l', v', p1, p2, p3, p4, p5⟩ := p
      have rb := p3.rng
      have hx := cl_nat (x := x) (by first | exact oz_016f458179 hc | omega)
      exact ⟨ew_of ex p3 (by omega) (Int.le_refl _) (by omega), by omega, by rw [show x.toNatClampNeg = a by omega]; exact p5⟩
    · obtain ⟨l1, v1, p1, p2, p3⟩ := p
      exact ⟨l1, v1, by omega, p2, p3⟩
  · refine ⟨by omega, by omega, ?_⟩
    by_cases q : (ma 22 n.toNatClampNeg).toInt < 3
    · rw [if_pos q] at g6 ⊢; omega
    · rw [if_neg q] at g6 ⊢; omega
end EW
/-! the code that was laid before stands -/
def CdK (ea ea' : Nat → Nat → Int32) (s : Int) : Prop := (∀ k : Nat, k ≠ 61 → ea' k = ea k) ∧ ∀ i : Nat, (i : Int) < 3 * s → ea' 61 i = ea 61 i
theorem CdK.rf {ea : Nat → Nat → Int32} {s : Int} : CdK ea ea s := ⟨fun _ _ => rfl, fun _ _ => rfl⟩
theorem CdK.tr {ea e1 e2 : Nat → Nat → Int32} {s s1 : Int} (h : CdK ea e1 s) (k : CdK e1 e2 s1) (hs : s ≤ s1) : CdK ea e2 s := ⟨fun j hj => (k.1 j hj).trans (h.1 j hj), fun i hi => (k.2 i (by omega)).trans (h.2 i hi)⟩
theorem EmU.cd {ea ea' : Nat → Nat → Int32} {s op a b : Int32} (h : EmU ea ea' s op a b) : CdK ea ea' s.toInt := ⟨h.1, fun i hi => h.2.1 i (Or.inl hi)⟩
/-- a stretch from s to s' (numbers of rows as they are counted) -/
def SgQ (X : Cx) (c : Nat → Int32) (s s' : Int) (f : Int) (S S' : List Nat) (v : Nat) : Prop := 0 ≤ s ∧ SgC X c s.toNat s'.toNat f S S' v ∧ 0 ≤ s'
theorem SgQ.fr {X : Cx} {c c' : Nat → Int32} {s s' f : Int} {S S' : List Nat} {v : Nat} (h : SgQ X c s s' f S S' v) (e : ∀ i : Nat, (i : Int) < 3 * s' → c' i = c i) : SgQ X c' s s' f S S' v := ⟨h.1, h.2.1.fr (fun i a b => e i (by have := h.2.2; omega)), h.2.2⟩
theorem SgQ.cd {X : Cx} {ea ea' : Nat → Nat → Int32} {s s' s2 f : Int} {S S' : List Nat} {v : Nat} (h : SgQ X (ea 61) s s' f S S' v) (k : CdK ea ea' s2) (hs : s' ≤ s2) : SgQ X (ea' 61) s s' f S S' v := h.fr (fun i hi => k.2 i (by omega))
theorem SgQ.sq {X : Cx} {c : Nat → Int32} {s m s' f : Int} {S T S' : List Nat} {v : Nat} (h : SgQ X c s m f S T v) (k : SgQ X c m s' f T S' v) : SgQ X c s s' f S S' v := ⟨h.1, h.2.1.sq k.2.1, k.2.2⟩
theorem SgQ.eq {X : Cx} {c : Nat → Int32} {s s' s1 s2 f : Int} {S S' : List Nat} {v : Nat} (h : SgQ X c s s' f S S' v) (e : s = s1) (e2 : s' = s2) : SgQ X c s1 s2 f S S' v := e ▸ e2 ▸ h
/-- a row that was just laid -/
theorem EmU.sg {X : Cx} {ea ea' : Nat → Nat → Int32} {s op a b : Int32} {s' f : Int} {S S' : List Nat} {v : Nat} (h : EmU ea ea' s op a b) (h0 : 0 ≤ s.toInt) (hs : s' = s.toInt + 1) (ht : (S.length : Int) ≤ X.tall f) (q : StC9 X f op.toInt a b S S') : SgQ X (ea' 61) s.toInt s' f S S' v := by
  have e0 : ea' 61 (3 * s.toInt.toNat) = op := by rw [show 3 * s.toInt.toNat = (3 * s.toInt).toNat by omega]; exact h.2.2.1
  have e1 : ea' 61 (3 * s.toInt.toNat + 1) = a := by rw [show 3 * s.toInt.toNat + 1 = (3 * s.toInt + 1).toNat by omega]; exact h.2.2.2.1
  have e2 : ea' 61 (3 * s.toInt.toNat + 2) = b := by rw [show 3 * s.toInt.toNat + 2 = (3 * s.toInt + 2).toNat by omega]; exact h.2.2.2.2
  exact ⟨h0, sgc_1 (by omega) ht (by rw [e0, e1, e2]; exact q), by omega⟩
