/-! A SWITCH whose default is told -/
section SWD
variable {p : Program} {l : Launch} {e : Env} {R : Room} {s : State} {m : MethodId} {args : Array Value} {below : List Frame} {meth : Method} {c : Code} {H : Heap} {locs : List Loc} {cells slots : Nat} {Q : State → Prop}
variable {cc : ByteArray} {pc nL : Nat} {ls : Array Slot} {rest : List Value} {own : String}
theorem px_tableD (S : px_S p m c cc nL s args own) {dflt lo hi : Int} {offs : Array Int} {len dt : Nat} {x : Int32} (tgts : List (Nat × List Int)) (hdg : decode cc pc = .ok (.tableswitch dflt lo hi offs, len)) (hsz : (hi - lo + 1).toNat = offs.size) (hd : (pc : Int) + dflt = (dt : Int)) (hall : (List.range offs.size).all (fun i => tgts.any (fun t => decide ((pc : Int) + offs.toList.getD i 0 = (t.1 : Int)) && t.2.contains (lo + (i : Int)))) = true)
    (kd : (x.toInt < lo ∨ hi < x.toInt) → W p l e R s m args below meth c H locs cells slots Q (F0 m dt ls rest)) (kk : ∀ t ∈ tgts, x.toInt ∈ t.2 → W p l e R s m args below meth c H locs cells slots Q (F0 m t.1 ls rest)) : W p l e R s m args below meth c H locs cells slots Q (F0 m pc ls (.int x :: rest)) := by
  by_cases h : x.toInt < lo ∨ hi < x.toInt
  · exact lv_tableOut S.x S.b hdg h hd (kd h)
  · have h2 : ¬ x.toInt < lo := fun q => h (Or.inl q)
    have h3 : ¬ hi < x.toInt := fun q => h (Or.inr q)
    have hlt : (x.toInt - lo).toNat < offs.size := by omega
    have h4 := List.all_eq_true.mp hall _ (List.mem_range.mpr hlt)
    obtain ⟨t, ht, he⟩ := List.any_eq_true.mp h4
    simp only [Bool.and_eq_true, decide_eq_true_eq] at he
    have e1 : offs.toList.getD (x.toInt - lo).toNat 0 = offs[(x.toInt - lo).toNat] := by
      rw [List.getD_eq_getElem?_getD, List.getElem?_eq_getElem (by simpa using hlt)]
      simp
    have e2 : lo + (((x.toInt - lo).toNat : Nat) : Int) = x.toInt := by omega
    rw [e1, e2] at he
    exact lv_tableIn S.x S.b hdg h2 h3 (Array.getElem?_eq_getElem hlt) he.1 (kk t ht (List.contains_iff_mem.mp he.2))
end SWD
/-! AN EXPRESSION, looked at from above: its kind, its kids -/
def EcV (ta : Nat → Nat → Int32) (c : Int) (na ma : Nat → Nat → Int32) (d : Nat) (lo hi : Int) (n : Int32) : Prop := 0 ≤ n.toInt ∧ ∃ l h w : Nat, lo ≤ (l : Int) ∧ (h : Int) ≤ hi ∧ Ex ta c na ma d n.toNatClampNeg l h w
/-- a row by nexts -/
def Rc (na : Nat → Nat → Int32) (P : Int → Int → Int32 → Prop) : Nat → Int → Int → Int32 → Prop
  | 0 => fun _ _ k => k.toInt < 0
  | m + 1 => fun lo hi k => k.toInt < 0 ∨ ∃ mid : Int, lo ≤ mid ∧ mid ≤ hi ∧ P lo mid k ∧ (lo ≤ k.toInt ∧ k.toInt < mid) ∧ Rc na P m mid hi (na 21 k.toNatClampNeg)
def RcE (na : Nat → Nat → Int32) (P : Int → Int → Int32 → Prop) (lo hi : Int) (k : Int32) : Prop := ∃ m : Nat, Rc na P m lo hi k
section EC
variable {ta : Nat → Nat → Int32} {c : Int} {na ma : Nat → Nat → Int32} {d : Nat} {lo hi : Int} {n z : Int32} {P : Int → Int → Int32 → Prop}
theorem RcE.step {k : Int32} (h : RcE na P lo hi k) (h0 : 0 ≤ k.toInt) : ∃ mid : Int, lo ≤ mid ∧ mid ≤ hi ∧ P lo mid k ∧ (lo ≤ k.toInt ∧ k.toInt < mid) ∧ RcE na P mid hi (na 21 k.toNatClampNeg) := by
  obtain ⟨m, h⟩ := h
  cases m with
  | zero => exact absurd h (by show ¬ k.toInt < 0; omega)
  | succ m =>
    rcases h with h | ⟨mid, h1, h2, h3, h4, h5⟩
    · exact absurd h (by first | with_reducible rfl | with_reducible assumption | omega)
    · exact ⟨mid, h1, h2, h3, h4, m, h5⟩
theorem rc_lq {P' : Nat → Nat → Nat → Nat → Prop} (hP : ∀ (a l h v : Nat) (x : Int32), x.toInt = (a : Int) → P' a l h v → P (l : Int) (h : Int) x) : ∀ {m : Nat} {k : Int32} {lo hi w : Nat} {last : Int}, Lq na P' m k.toInt lo hi w last → Rc na P (m + 1) (lo : Int) (hi : Int) k
  | 0, _, _, _, _, _, h => h.elim
  | m + 1, k, lo, hi, w, last, h => by
    obtain ⟨a, mid, wa, h1, h2, h3, h4, h5⟩ := h
    have hk := cl_nat (x := k) (by first | exact oz_016f458179 hk | omega)
    have ea : k.toNatClampNeg = a := by omega
    refine Or.inr ⟨(mid : Int), by first | with_reducible rfl | with_reducible assumption | omega, by first | with_reducible rfl | with_reducible assumption | omega, hP a lo mid wa k h1 h4, by first | with_reducible rfl | with_reducible assumption | omega, ?_⟩
    rw [ea]
    rcases h5 with ⟨g1, -, -⟩ | ⟨wr, g1, -⟩
    · exact Or.inl g1
    · exact rc_lq hP g1
theorem EcV.rng (h : EcV ta c na ma d lo hi n) : lo ≤ n.toInt ∧ n.toInt < hi ∧ 0 ≤ n.toInt := by
  obtain ⟨h0, l, hh, w, h1, h2, h3⟩ := h
  have := h3.rng
  have := cl_nat h0
  omega
theorem EcV.le {d' : Nat} {lo' hi' : Int} (h : EcV ta c na ma d lo hi n) (h1 : d ≤ d') (h2 : lo' ≤ lo) (h3 : hi ≤ hi') : EcV ta c na ma d' lo' hi' n := by
  obtain ⟨h0, l, hh, w, q1, q2, q3⟩ := h
  exact ⟨h0, l, hh, w, by first | with_reducible rfl | with_reducible assumption | omega, by first | with_reducible rfl | with_reducible assumption | omega, q3.wid h1 (Nat.le_refl _) (Nat.le_refl _) (Nat.le_refl _)⟩
/-- of every one: its depth, its kind, its token -/
theorem EcV.kind (h : EcV ta c na ma d lo hi n) : 1 ≤ d ∧ (1 ≤ (na 14 n.toNatClampNeg).toInt ∧ (na 14 n.toNatClampNeg).toInt ≤ 9) ∧ 0 ≤ (na 15 n.toNatClampNeg).toInt ∧ (na 15 n.toNatClampNeg).toInt < c := by
  obtain ⟨h0, l, hh, w, q1, q2, q3⟩ := h
  cases d with
  | zero => exact q3.elim
  | succ d =>
    obtain ⟨r, h1⟩ := q3
    rcases h1 with ⟨k, g, -⟩ | ⟨k, g, -⟩ | ⟨k, g, -⟩ | ⟨k, g, -⟩ | ⟨k, g, -⟩ | ⟨k, g, -⟩ | ⟨k, g, -⟩ | ⟨k, g, -⟩ <;> exact ⟨by first | with_reducible rfl | with_reducible assumption | omega, by first | with_reducible rfl | with_reducible assumption | omega, g.1, g.2.1⟩
theorem ec_of {a l h w : Nat} {x : Int32} (e : x.toInt = (a : Int)) (q : Ex ta c na ma d a l h w) (h1 : lo ≤ (l : Int)) (h2 : (h : Int) ≤ hi) : EcV ta c na ma d lo hi x := by
  have hx := cl_nat (x := x) (by first | exact oz_016f458179 hx | omega)
  have ea : x.toNatClampNeg = a := by first | exact oz_37dbe2a0a7 e hx | omega
  exact ⟨by first | with_reducible rfl | with_reducible assumption | omega, l, h, w, h1, h2, by rw [ea]; exact q⟩
/-- an element's number -/
theorem EcV.k4 (h : EcV ta c na ma (d + 1) lo hi n) (k : (na 14 n.toNatClampNeg).toInt = 4) (e : z = na 17 n.toNatClampNeg) : EcV ta c na ma d (n.toInt + 1) hi z := by
  obtain ⟨h0, l, hh, w, q1, q2, r, h1⟩ := h
  have hc := cl_nat h0
  rcases h1 with ⟨g, -⟩ | ⟨g, -⟩ | ⟨g, -⟩ | ⟨g, g1, a, wa, g2, g3, g4⟩ | ⟨g, -⟩ | ⟨g, -⟩ | ⟨g, -⟩ | ⟨g, -⟩
  all_goals first | exact absurd g (by first | with_reducible rfl | with_reducible assumption | omega) | skip
  exact ec_of (by rw [e]; exact g2) g3 (by first | with_reducible rfl | with_reducible assumption | omega) q2
/-- one kid before it -/
theorem EcV.k56 (h : EcV ta c na ma (d + 1) lo hi n) (k : (na 14 n.toNatClampNeg).toInt = 5 ∨ (na 14 n.toNatClampNeg).toInt = 6) (e : z = na 17 n.toNatClampNeg) : EcV ta c na ma d lo n.toInt z := by
  obtain ⟨h0, l, hh, w, q1, q2, r, h1⟩ := h
  have hc := cl_nat h0
  rcases h1 with ⟨g, -⟩ | ⟨g, -⟩ | ⟨g, -⟩ | ⟨g, -⟩ | ⟨g, g1, a, wa, g2, g3, g4, g5⟩ | ⟨g, -⟩ | ⟨g, -⟩ | ⟨g, -⟩
  all_goals first | exact absurd g (by first | with_reducible rfl | with_reducible assumption | omega) | skip
  exact ec_of (by rw [e]; exact g2) g3 q1 (by first | with_reducible rfl | with_reducible assumption | omega)
/-- a call's arguments -/
theorem EcV.k3 (h : EcV ta c na ma (d + 1) lo hi n) (k : (na 14 n.toNatClampNeg).toInt = 3) (e : z = na 17 n.toNatClampNeg) : RcE na (fun l h x => EcV ta c na ma d l h x) (n.toInt + 1) hi z := by
  obtain ⟨h0, l, hh, w, q1, q2, r, h1⟩ := h
  have hc := cl_nat h0
  rcases h1 with ⟨g, -⟩ | ⟨g, -⟩ | ⟨g, g1, wr, g2, g3⟩ | ⟨g, -⟩ | ⟨g, -⟩ | ⟨g, -⟩ | ⟨g, -⟩ | ⟨g, -⟩
  all_goals first | exact absurd g (by first | with_reducible rfl | with_reducible assumption | omega) | skip
  subst e
  rcases g2 with g2 | ⟨m, last, g2⟩
  · exact ⟨0, g2⟩
  · refine ⟨m + 1, ?_⟩
    have q := rc_lq (P := fun l h x => EcV ta c na ma d l h x) (fun a l h v x ex p => ec_of ex p (Int.le_refl _) (Int.le_refl _)) (g2.wid (fun a l l' h v hl p => p.wid (Nat.le_refl _) hl (Nat.le_refl _) (Nat.le_refl _)) (Nat.le_refl _) (Nat.le_refl _) (show hh ≤ hi.toNat by omega) (Nat.le_refl _))
    have e1 : ((n.toNatClampNeg + 1 : Nat) : Int) = n.toInt + 1 := by omega
    have e2 : ((hi.toNat : Nat) : Int) = hi := by omega
    rw [e1, e2] at q
    exact q
/-- a choice's three -/
theorem EcV.k8 {y x : Int32} (h : EcV ta c na ma (d + 1) lo hi n) (k : (na 14 n.toNatClampNeg).toInt = 8) (e : z = na 17 n.toNatClampNeg) (e2 : y = ma 18 n.toNatClampNeg) (e3 : x = ma 19 n.toNatClampNeg) : ∃ m1 m2 : Int, m1 ≤ m2 ∧ m2 ≤ n.toInt ∧ EcV ta c na ma d lo m1 z ∧ EcV ta c na ma d m1 m2 y ∧ EcV ta c na ma d m2 n.toInt x := by
  obtain ⟨h0, l, hh, w, q1, q2, r, h1⟩ := h
  have hc := cl_nat h0
  rcases h1 with ⟨g, -⟩ | ⟨g, -⟩ | ⟨g, -⟩ | ⟨g, -⟩ | ⟨g, -⟩ | ⟨g, -⟩ | ⟨g, g1, a, b, e', m1, m2, wa, wb, we, g2, g3, g4, g5, g6, g7, g8, g9, g10⟩ | ⟨g, -⟩
  all_goals first | exact absurd g (by first | with_reducible rfl | with_reducible assumption | omega) | skip
  exact ⟨m1, m2, by first | with_reducible rfl | with_reducible assumption | omega, by first | with_reducible rfl | with_reducible assumption | omega, ec_of (by rw [e]; exact g2) g7 q1 (Int.le_refl _), ec_of (by rw [e2]; exact g3) g8 (Int.le_refl _) (Int.le_refl _), ec_of (by rw [e3]; exact g4) g9 (Int.le_refl _) (by first | with_reducible rfl | with_reducible assumption | omega)⟩
/-- an assignment's two -/
theorem EcV.k9 {y : Int32} (h : EcV ta c na ma (d + 1) lo hi n) (k : (na 14 n.toNatClampNeg).toInt = 9) (e : z = na 17 n.toNatClampNeg) (e2 : y = ma 18 n.toNatClampNeg) : ∃ m1 : Int, m1 ≤ n.toInt ∧ EcV ta c na ma d lo m1 z ∧ EcV ta c na ma d m1 n.toInt y := by
  obtain ⟨h0, l, hh, w, q1, q2, r, h1⟩ := h
  have hc := cl_nat h0
  rcases h1 with ⟨g, -⟩ | ⟨g, -⟩ | ⟨g, -⟩ | ⟨g, -⟩ | ⟨g, -⟩ | ⟨g, -⟩ | ⟨g, -⟩ | ⟨g, g1, a, b, m1, wa, wb, g2, g3, g4, g5, g6, g7⟩
  all_goals first | exact absurd g (by first | with_reducible rfl | with_reducible assumption | omega) | skip
  exact ⟨m1, by first | with_reducible rfl | with_reducible assumption | omega, ec_of (by rw [e]; exact g2) g5 q1 (Int.le_refl _), ec_of (by rw [e2]; exact g3) g6 (Int.le_refl _) (by first | with_reducible rfl | with_reducible assumption | omega)⟩
/-- a chain: its first, and the row behind it; none of them is the chain itself -/
theorem EcV.k7 (h : EcV ta c na ma (d + 1) lo hi n) (k : (na 14 n.toNatClampNeg).toInt = 7) (e : z = na 17 n.toNatClampNeg) : RcE na (fun l h x => EcV ta c na ma d l h x ∧ x.toInt ≠ n.toInt) lo hi z := by
  obtain ⟨h0, l, hh, w, q1, q2, r, h1⟩ := h
  have hc := cl_nat h0
  rcases h1 with ⟨g, -⟩ | ⟨g, -⟩ | ⟨g, -⟩ | ⟨g, -⟩ | ⟨g, -⟩ | ⟨g, g1, a, mid, wa, m, wr, g2, g3, g4, g5, g6⟩ | ⟨g, -⟩ | ⟨g, -⟩
  all_goals first | exact absurd g (by first | with_reducible rfl | with_reducible assumption | omega) | skip
  subst e
  have ra := g4.rng
  have hz := cl_nat (x := na 17 n.toNatClampNeg) (by first | with_reducible rfl | with_reducible assumption | omega)
  have ea : (na 17 n.toNatClampNeg).toNatClampNeg = a := by omega
  have q : Rc na (fun l h x => EcV ta c na ma d l h x ∧ x.toInt ≠ n.toInt) (m + 1) (mid : Int) (hi.toNat : Int) (na 21 a) := rc_lq (P := fun l h x => EcV ta c na ma d l h x ∧ x.toInt ≠ n.toInt) (P' := Pc ta c ma (Ex ta c na ma d) n.toNatClampNeg) (fun b l h v x ex p => by
      obtain ⟨l', v', p1, p2, p3, p4, p5⟩ := p
      have rb := p3.rng
      exact ⟨ec_of ex p3 (by first | with_reducible rfl | with_reducible assumption | omega) (Int.le_refl _), by first | with_reducible rfl | with_reducible assumption | omega⟩) (g5.wid (P' := Pc ta c ma (Ex ta c na ma d) n.toNatClampNeg) (fun b l l' h v hl p => by
      obtain ⟨l1, v1, p1, p2, p3⟩ := p
      exact ⟨l1, v1, by first | with_reducible rfl | with_reducible assumption | omega, p2, p3⟩) (Nat.le_refl _) (Nat.le_refl _) (show hh ≤ hi.toNat by omega) (Nat.le_refl _))
  have e2 : ((hi.toNat : Nat) : Int) = hi := by omega
  rw [e2] at q
  have rm := q
  refine ⟨m + 2, Or.inr ⟨(mid : Int), by first | with_reducible rfl | with_reducible assumption | omega, ?_, ⟨ec_of g2 g4 q1 (Int.le_refl _), by first | with_reducible rfl | with_reducible assumption | omega⟩, by first | with_reducible rfl | with_reducible assumption | omega, by rw [ea]; exact q⟩⟩
  obtain ⟨b', k1, k2, k3, k4⟩ := g5.last
  omega
end EC
