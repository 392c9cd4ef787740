/-! STATEMENTS, looked at from above, with their weights -/
def ErV (ta : Nat → Nat → Int32) (c : Int) (na ma : Nat → Nat → Int32) (d : Nat) (lo hi w : Int) (n : Int32) : Prop := 0 ≤ n.toInt ∧ ∃ l h w' : Nat, lo ≤ (l : Int) ∧ (h : Int) ≤ hi ∧ (w' : Int) ≤ w ∧ Er ta c na ma d n.toNatClampNeg l h w'
def ScV (ta : Nat → Nat → Int32) (c : Int) (na ma : Nat → Nat → Int32) (d : Nat) (lo hi w : Int) (n : Int32) : Prop := 0 ≤ n.toInt ∧ ∃ l h w' : Nat, lo ≤ (l : Int) ∧ (h : Int) ≤ hi ∧ (w' : Int) ≤ w ∧ St ta c na ma d n.toNatClampNeg l h w'
def VcV (ta : Nat → Nat → Int32) (c : Int) (na ma : Nat → Nat → Int32) (d : Nat) (lo hi w : Int) (n : Int32) : Prop := 0 ≤ n.toInt ∧ ∃ l h w' : Nat, lo ≤ (l : Int) ∧ (h : Int) ≤ hi ∧ (w' : Int) ≤ w ∧ VrB ta c na ma (Er ta c na ma d) n.toNatClampNeg l h w'
/-- a row with weights -/
def Rv (na : Nat → Nat → Int32) (P : Int → Int → Int → Int32 → Prop) : Nat → Int → Int → Int → Int32 → Prop
  | 0 => fun _ _ w k => k.toInt < 0 ∧ 0 ≤ w
  | m + 1 => fun lo hi w k => (k.toInt < 0 ∧ 0 ≤ w) ∨ ∃ mid wa : Int, lo ≤ mid ∧ mid ≤ hi ∧ 0 ≤ wa ∧ P lo mid wa k ∧ (lo ≤ k.toInt ∧ k.toInt < mid) ∧ Rv na P m mid hi (w - wa) (na 21 k.toNatClampNeg)
def RvE (na : Nat → Nat → Int32) (P : Int → Int → Int → Int32 → Prop) (lo hi w : Int) (k : Int32) : Prop := ∃ m : Nat, Rv na P m lo hi w k
def OcV (P : Int → Int → Int → Int32 → Prop) (lo hi w : Int) (k : Int32) : Prop := (k.toInt < 0 ∧ 0 ≤ w) ∨ P lo hi w k
section SC
variable {ta : Nat → Nat → Int32} {c : Int} {na ma : Nat → Nat → Int32} {d : Nat} {lo hi w : Int} {n z : Int32} {P : Int → Int → Int → Int32 → Prop}
theorem RvE.step {k : Int32} (h : RvE na P lo hi w k) (h0 : 0 ≤ k.toInt) : ∃ mid wa : Int, lo ≤ mid ∧ mid ≤ hi ∧ 0 ≤ wa ∧ P lo mid wa k ∧ (lo ≤ k.toInt ∧ k.toInt < mid) ∧ RvE na P mid hi (w - wa) (na 21 k.toNatClampNeg) := by
  obtain ⟨m, h⟩ := h
  cases m with
  | zero => exact absurd h.1 (by first | with_reducible rfl | with_reducible assumption | omega)
  | succ m =>
    rcases h with h | ⟨mid, wa, h1, h2, h3, h4, h5, h6⟩
    · exact absurd h.1 (by first | with_reducible rfl | with_reducible assumption | omega)
    · exact ⟨mid, wa, h1, h2, h3, h4, h5, m, h6⟩
theorem Rv.wp : ∀ {m : Nat} {lo hi w : Int} {k : Int32}, Rv na P m lo hi w k → 0 ≤ w
  | 0, _, _, _, _, h => h.2
  | m + 1, _, _, _, _, h => by
    rcases h with h | ⟨mid, wa, h1, h2, h3, h4, h5, h6⟩
    · exact h.2
    · have := Rv.wp h6; omega
theorem RvE.wp {k : Int32} (h : RvE na P lo hi w k) : 0 ≤ w := h.elim fun _ g => g.wp
theorem Rv.mono {m : Nat} {lo hi w w' : Int} {k : Int32} (h : Rv na P m lo hi w k) (hw : w ≤ w') : Rv na P m lo hi w' k := by
  induction m generalizing lo hi w w' k with
  | zero => exact ⟨h.1, by have := h.2; omega⟩
  | succ m ih =>
    rcases h with h | ⟨mid, wa, h1, h2, h3, h4, h5, h6⟩
    · exact Or.inl ⟨h.1, by first | with_reducible rfl | with_reducible assumption | omega⟩
    · exact Or.inr ⟨mid, wa, h1, h2, h3, h4, h5, ih h6 (by first | with_reducible rfl | with_reducible assumption | omega)⟩
theorem rv_lq {P' : NP} (hP : ∀ (a l h v : Nat) (x : Int32), x.toInt = (a : Int) → P' a l h v → P (l : Int) (h : Int) (v : Int) x) : ∀ {m : Nat} {k : Int32} {lo hi w : Nat} {last : Int}, Lq na P' m k.toInt lo hi w last → Rv na P (m + 1) (lo : Int) (hi : Int) (w : Int) k
  | 0, _, _, _, _, _, h => h.elim
  | m + 1, k, lo, hi, w, last, h => by
    obtain ⟨a, mid, wa, h1, h2, h3, h4, h5⟩ := h
    have hk := cl_nat (x := k) (by first | exact oz_016f458179 hk | omega)
    have ea : k.toNatClampNeg = a := by omega
    refine Or.inr ⟨(mid : Int), (wa : Int), by first | with_reducible rfl | with_reducible assumption | omega, by first | with_reducible rfl | with_reducible assumption | omega, by first | with_reducible rfl | with_reducible assumption | omega, hP a lo mid wa k h1 h4, by first | with_reducible rfl | with_reducible assumption | omega, ?_⟩
    rw [ea]
    rcases h5 with ⟨g1, -, g3⟩ | ⟨wr, g1, g2⟩
    · exact Or.inl ⟨g1, by first | with_reducible rfl | with_reducible assumption | omega⟩
    · exact Rv.mono (rv_lq hP g1) (by first | with_reducible rfl | with_reducible assumption | omega)
/-- out of a row of the parser -/
theorem rv_lz {P' : NP} (hP : ∀ (a l h v : Nat) (x : Int32), x.toInt = (a : Int) → P' a l h v → P (l : Int) (h : Int) (v : Int) x) {k : Int32} {l h v : Nat} (g : Lz na P' k.toInt l h v) (e1 : lo = (l : Int)) (h2 : (h : Int) ≤ hi) (hw : (v : Int) ≤ w) (hW : ∀ a l l' h v, l' ≤ l → P' a l h v → P' a l' h v) : RvE na P lo hi w k := by
  subst e1
  rcases g with g | ⟨m, last, g⟩
  · exact ⟨0, g, by first | with_reducible rfl | with_reducible assumption | omega⟩
  · refine ⟨m + 1, ?_⟩
    have q := rv_lq hP (g.wid hW (Nat.le_refl _) (Nat.le_refl _) (show h ≤ hi.toNat by omega) (Nat.le_refl _))
    rw [show ((hi.toNat : Nat) : Int) = hi by omega] at q
    exact q.mono hw
theorem er_of {a l h v : Nat} {x : Int32} (e : x.toInt = (a : Int)) (q : Er ta c na ma d a l h v) (h1 : lo ≤ (l : Int)) (h2 : (h : Int) ≤ hi) (h3 : (v : Int) ≤ w) : ErV ta c na ma d lo hi w x := by
  have hx := cl_nat (x := x) (by first | exact oz_016f458179 hx | omega)
  exact ⟨by first | with_reducible rfl | with_reducible assumption | omega, l, h, v, h1, h2, h3, by rw [show x.toNatClampNeg = a by omega]; exact q⟩
theorem sc_of {a l h v : Nat} {x : Int32} (e : x.toInt = (a : Int)) (q : St ta c na ma d a l h v) (h1 : lo ≤ (l : Int)) (h2 : (h : Int) ≤ hi) (h3 : (v : Int) ≤ w) : ScV ta c na ma d lo hi w x := by
  have hx := cl_nat (x := x) (by first | exact oz_016f458179 hx | omega)
  exact ⟨by first | with_reducible rfl | with_reducible assumption | omega, l, h, v, h1, h2, h3, by rw [show x.toNatClampNeg = a by omega]; exact q⟩
theorem vc_of {a l h v : Nat} {x : Int32} (e : x.toInt = (a : Int)) (q : VrB ta c na ma (Er ta c na ma d) a l h v) (h1 : lo ≤ (l : Int)) (h2 : (h : Int) ≤ hi) (h3 : (v : Int) ≤ w) : VcV ta c na ma d lo hi w x := by
  have hx := cl_nat (x := x) (by first | exact oz_016f458179 hx | omega)
  exact ⟨by first | with_reducible rfl | with_reducible assumption | omega, l, h, v, h1, h2, h3, by rw [show x.toNatClampNeg = a by omega]; exact q⟩
theorem oc_of {P' : NP} (hP : ∀ (a l h v : Nat) (x : Int32), x.toInt = (a : Int) → P' a l h v → P (l : Int) (h : Int) (v : Int) x) (hM : ∀ {l h v v' : Int} {x : Int32}, P l h v x → v ≤ v' → P l h v' x) {x : Int32} {l h v : Nat} (g : Oz P' x.toInt l h v) (e1 : lo = (l : Int)) (e2 : (h : Int) = hi) (h3 : (v : Int) ≤ w) : OcV P lo hi w x := by
  subst e1; subst e2
  rcases g with g | ⟨a, u, g1, g2, g3⟩
  · exact Or.inl ⟨g, by first | with_reducible rfl | with_reducible assumption | omega⟩
  · exact Or.inr (hM (hP a l h u x g1 g2) (by first | with_reducible rfl | with_reducible assumption | omega))
theorem ErV.mw {w' : Int} (h : ErV ta c na ma d lo hi w n) (hw : w ≤ w') : ErV ta c na ma d lo hi w' n := by
  obtain ⟨h0, l, hh, v, h1, h2, h3, h4⟩ := h
  exact ⟨h0, l, hh, v, h1, h2, by first | with_reducible rfl | with_reducible assumption | omega, h4⟩
theorem ScV.mw {w' : Int} (h : ScV ta c na ma d lo hi w n) (hw : w ≤ w') : ScV ta c na ma d lo hi w' n := by
  obtain ⟨h0, l, hh, v, h1, h2, h3, h4⟩ := h
  exact ⟨h0, l, hh, v, h1, h2, by first | with_reducible rfl | with_reducible assumption | omega, h4⟩
theorem ErV.ec (h : ErV ta c na ma d lo hi w n) : EcV ta c na ma d lo hi n ∧ (ma 20 n.toNatClampNeg).toInt < 0 ∧ 0 ≤ w := by
  obtain ⟨h0, l, hh, v, h1, h2, h3, h4⟩ := h
  exact ⟨⟨h0, l, hh, v, h1, h2, h4.1⟩, h4.2, by first | with_reducible rfl | with_reducible assumption | omega⟩
theorem ScV.rng (h : ScV ta c na ma d lo hi w n) : lo ≤ n.toInt ∧ n.toInt < hi ∧ 0 ≤ n.toInt ∧ 0 ≤ w := by
  obtain ⟨h0, l, hh, v, h1, h2, h3, h4⟩ := h
  have := h4.rng
  have := cl_nat h0
  omega
theorem VcV.rng (h : VcV ta c na ma d lo hi w n) : lo ≤ n.toInt ∧ n.toInt < hi ∧ 0 ≤ n.toInt ∧ 6 ≤ w := by
  obtain ⟨h0, l, hh, v, h1, h2, h3, h4⟩ := h
  have := h4.1
  have := h4.2.2.2.1
  have := cl_nat h0
  omega
theorem sc_0 (h : ScV ta c na ma 0 lo hi w n) : False := by
  obtain ⟨h0, l, hh, v, h1, h2, h3, h4⟩ := h
  exact h4
/-- of every one: its kind, its token -/
theorem ScV.kind (h : ScV ta c na ma d lo hi w n) : 1 ≤ d ∧ (20 ≤ (na 14 n.toNatClampNeg).toInt ∧ (na 14 n.toNatClampNeg).toInt ≤ 33) ∧ 0 ≤ (na 15 n.toNatClampNeg).toInt ∧ (na 15 n.toNatClampNeg).toInt < c := by
  obtain ⟨h0, l, hh, v, h1, h2, h3, h4⟩ := h
  cases d with
  | zero => exact h4.elim
  | succ d =>
    obtain ⟨q0, q1, q2⟩ := h4
    refine ⟨by first | with_reducible rfl | with_reducible assumption | omega, ?_, q1⟩
    rcases q2 with g | ⟨g, -⟩ | ⟨g, -⟩ | ⟨g, -⟩ | ⟨g, -⟩ | ⟨g, -⟩ | ⟨g, -⟩ | ⟨g, -⟩ | ⟨g, -⟩ | g | ⟨g, -⟩ | ⟨g, -⟩ <;> omega
theorem VcV.kind (h : VcV ta c na ma d lo hi w n) : (na 14 n.toNatClampNeg).toInt = 40 ∧ 0 ≤ (na 15 n.toNatClampNeg).toInt ∧ (na 15 n.toNatClampNeg).toInt < c := by
  obtain ⟨h0, l, hh, v, h1, h2, h3, h4⟩ := h
  exact ⟨h4.2.1, h4.2.2.1.1, h4.2.2.1.2.1⟩
theorem ScV.s20 (h : ScV ta c na ma (d + 1) lo hi w n) (k : (na 14 n.toNatClampNeg).toInt = 20) (e : z = na 17 n.toNatClampNeg) : RvE na (fun l h v x => ScV ta c na ma d l h v x) (n.toInt + 1) hi w z := by
  obtain ⟨h0, l, hh, v, h1, h2, h3, q0, q1, q2⟩ := h
  have hc := cl_nat h0
  rcases q2 with g | ⟨g, wr, g1, g2⟩ | ⟨g, -⟩ | ⟨g, -⟩ | ⟨g, -⟩ | ⟨g, -⟩ | ⟨g, -⟩ | ⟨g, -⟩ | ⟨g, -⟩ | g | ⟨g, -⟩ | ⟨g, -⟩
  all_goals first | exact absurd g (by first | with_reducible rfl | with_reducible assumption | omega) | skip
  subst e
  exact rv_lz (P' := St ta c na ma d) (fun a l h v x ex p => sc_of ex p (Int.le_refl _) (Int.le_refl _) (Int.le_refl _)) g1 (by first | with_reducible rfl | with_reducible assumption | omega) h2 (by first | with_reducible rfl | with_reducible assumption | omega) (fun a l l' h v hl p => p.wid (Nat.le_refl _) hl (Nat.le_refl _) (Nat.le_refl _))
theorem ScV.s22 (h : ScV ta c na ma (d + 1) lo hi w n) (k : (na 14 n.toNatClampNeg).toInt = 22) (e : z = na 17 n.toNatClampNeg) : ErV ta c na ma d (n.toInt + 1) hi (w - 1) z := by
  obtain ⟨h0, l, hh, v, h1, h2, h3, q0, q1, q2⟩ := h
  have hc := cl_nat h0
  rcases q2 with g | ⟨g, -⟩ | ⟨g, a, wa, g1, g2, g3⟩ | ⟨g, -⟩ | ⟨g, -⟩ | ⟨g, -⟩ | ⟨g, -⟩ | ⟨g, -⟩ | ⟨g, -⟩ | g | ⟨g, -⟩ | ⟨g, -⟩
  all_goals first | exact absurd g (by first | with_reducible rfl | with_reducible assumption | omega) | skip
  exact er_of (by rw [e]; exact g1) g2 (by first | with_reducible rfl | with_reducible assumption | omega) h2 (by first | with_reducible rfl | with_reducible assumption | omega)
theorem ScV.s23 (h : ScV ta c na ma (d + 1) lo hi w n) (k : (na 14 n.toNatClampNeg).toInt = 23) (e : z = na 17 n.toNatClampNeg) : ((ma 22 n.toNatClampNeg).toInt = 0 ∨ (ma 22 n.toNatClampNeg).toInt = 1) ∧ RvE na (fun l h v x => VcV ta c na ma d l h v x) (n.toInt + 1) hi w z := by
  obtain ⟨h0, l, hh, v, h1, h2, h3, q0, q1, q2⟩ := h
  have hc := cl_nat h0
  rcases q2 with g | ⟨g, -⟩ | ⟨g, -⟩ | ⟨g, g0, wr, g1, g2⟩ | ⟨g, -⟩ | ⟨g, -⟩ | ⟨g, -⟩ | ⟨g, -⟩ | ⟨g, -⟩ | g | ⟨g, -⟩ | ⟨g, -⟩
  all_goals first | exact absurd g (by first | with_reducible rfl | with_reducible assumption | omega) | skip
  subst e
  exact ⟨g0, rv_lz (P' := VrB ta c na ma (Er ta c na ma d)) (fun a l h v x ex p => vc_of ex p (Int.le_refl _) (Int.le_refl _) (Int.le_refl _)) g1 (by first | with_reducible rfl | with_reducible assumption | omega) h2 (by first | with_reducible rfl | with_reducible assumption | omega) (fun a l l' h v hl p => p.wid hl (Nat.le_refl _) (Nat.le_refl _) (fun a l l' h h' v q1 q2 q => q.wid (Nat.le_refl _) q1 q2 (Nat.le_refl _)))⟩
theorem ScV.s24 {y x : Int32} (h : ScV ta c na ma (d + 1) lo hi w n) (k : (na 14 n.toNatClampNeg).toInt = 24 ∨ (na 14 n.toNatClampNeg).toInt = 25) (e : z = na 17 n.toNatClampNeg) (e2 : y = ma 18 n.toNatClampNeg) (e3 : x = ma 19 n.toNatClampNeg) : ∃ m1 m2 wa wb we : Int, n.toInt < m1 ∧ m1 ≤ m2 ∧ m2 ≤ hi ∧ ErV ta c na ma d (n.toInt + 1) m1 wa z ∧ ScV ta c na ma d m1 m2 wb y ∧ OcV (ScV ta c na ma d) m2 hi we x ∧ ((na 14 n.toNatClampNeg).toInt ≠ 24 → x.toInt < 0) ∧ wa + wb + we + 4 ≤ w ∧ 0 ≤ wa ∧ 0 ≤ wb ∧ 0 ≤ we := by
  obtain ⟨h0, l, hh, v, h1, h2, h3, q0, q1, q2⟩ := h
  have hc := cl_nat h0
  rcases q2 with g | ⟨g, -⟩ | ⟨g, -⟩ | ⟨g, -⟩ | ⟨g, a, b, m1, m2, wa, wb, we, g1, g2, g0, g3, g4, g5, g6, g7⟩ | ⟨g, -⟩ | ⟨g, -⟩ | ⟨g, -⟩ | ⟨g, -⟩ | g | ⟨g, -⟩ | ⟨g, -⟩
  all_goals first | exact absurd g (by first | with_reducible rfl | with_reducible assumption | omega) | skip
  refine ⟨m1, m2, wa, wb, we, by first | with_reducible rfl | with_reducible assumption | omega, by first | with_reducible rfl | with_reducible assumption | omega, by first | with_reducible rfl | with_reducible assumption | omega, er_of (by rw [e]; exact g1) g3 (by first | with_reducible rfl | with_reducible assumption | omega) (Int.le_refl _) (Int.le_refl _), sc_of (by rw [e2]; exact g2) g4 (Int.le_refl _) (Int.le_refl _) (Int.le_refl _), ?_, by rw [e3]; exact g6, by first | with_reducible rfl | with_reducible assumption | omega, by first | with_reducible rfl | with_reducible assumption | omega, by first | with_reducible rfl | with_reducible assumption | omega, by first | with_reducible rfl | with_reducible assumption | omega⟩
  rw [e3]
  rcases g5 with g5 | ⟨a', u, g8, g9, g10⟩
  · exact Or.inl ⟨g5, by first | with_reducible rfl | with_reducible assumption | omega⟩
  · exact Or.inr (sc_of g8 g9 (Int.le_refl _) h2 (by first | with_reducible rfl | with_reducible assumption | omega))
theorem ScV.s26 {y : Int32} (h : ScV ta c na ma (d + 1) lo hi w n) (k : (na 14 n.toNatClampNeg).toInt = 26) (e : z = na 17 n.toNatClampNeg) (e2 : y = ma 18 n.toNatClampNeg) : ∃ m1 wa wb : Int, n.toInt < m1 ∧ m1 ≤ hi ∧ ScV ta c na ma d (n.toInt + 1) m1 wb y ∧ ErV ta c na ma d m1 hi wa z ∧ (ma 19 n.toNatClampNeg).toInt < 0 ∧ wa + wb + 4 ≤ w ∧ 0 ≤ wa ∧ 0 ≤ wb := by
  obtain ⟨h0, l, hh, v, h1, h2, h3, q0, q1, q2⟩ := h
  have hc := cl_nat h0
  rcases q2 with g | ⟨g, -⟩ | ⟨g, -⟩ | ⟨g, -⟩ | ⟨g, -⟩ | ⟨g, a, b, m1, wa, wb, g1, g2, g0, g3, g4, g5, g6⟩ | ⟨g, -⟩ | ⟨g, -⟩ | ⟨g, -⟩ | g | ⟨g, -⟩ | ⟨g, -⟩
  all_goals first | exact absurd g (by first | with_reducible rfl | with_reducible assumption | omega) | skip
  exact ⟨m1, wa, wb, by first | with_reducible rfl | with_reducible assumption | omega, by first | with_reducible rfl | with_reducible assumption | omega, sc_of (by rw [e2]; exact g2) g3 (by first | with_reducible rfl | with_reducible assumption | omega) (Int.le_refl _) (Int.le_refl _), er_of (by rw [e]; exact g1) g4 (Int.le_refl _) h2 (Int.le_refl _), g5, by first | with_reducible rfl | with_reducible assumption | omega, by first | with_reducible rfl | with_reducible assumption | omega, by first | with_reducible rfl | with_reducible assumption | omega⟩
theorem ScV.s27 {y x u : Int32} (h : ScV ta c na ma (d + 1) lo hi w n) (k : (na 14 n.toNatClampNeg).toInt = 27) (e : z = na 17 n.toNatClampNeg) (e2 : y = ma 18 n.toNatClampNeg) (e3 : x = ma 19 n.toNatClampNeg) (e4 : u = ma 20 n.toNatClampNeg) : ∃ m1 m2 m3 wa wb wc we : Int, n.toInt < m1 ∧ m1 ≤ m2 ∧ m2 ≤ m3 ∧ m3 ≤ hi ∧ OcV (ScV ta c na ma d) (n.toInt + 1) m1 wa z ∧ OcV (ErV ta c na ma d) m1 m2 wb y ∧ OcV (ErV ta c na ma d) m2 m3 wc x ∧ ScV ta c na ma d m3 hi we u ∧ wa + wb + wc + we + 5 ≤ w ∧ 0 ≤ wa ∧ 0 ≤ wb ∧ 0 ≤ wc ∧ 0 ≤ we := by
  obtain ⟨h0, l, hh, v, h1, h2, h3, q0, q1, q2⟩ := h
  have hc := cl_nat h0
  rcases q2 with g | ⟨g, -⟩ | ⟨g, -⟩ | ⟨g, -⟩ | ⟨g, -⟩ | ⟨g, -⟩ | ⟨g, e', m1, m2, m3, wa, wb, wc, we, g0, g1, g2, g3, g4, g5, g6⟩ | ⟨g, -⟩ | ⟨g, -⟩ | g | ⟨g, -⟩ | ⟨g, -⟩
  all_goals first | exact absurd g (by first | with_reducible rfl | with_reducible assumption | omega) | skip
  subst e; subst e2; subst e3; subst e4
  exact ⟨m1, m2, m3, wa, wb, wc, we, by first | with_reducible rfl | with_reducible assumption | omega, by first | with_reducible rfl | with_reducible assumption | omega, by first | with_reducible rfl | with_reducible assumption | omega, by first | with_reducible rfl | with_reducible assumption | omega, oc_of (P' := Si na (St ta c na ma d)) (fun a l h v x ex p => sc_of ex p.2.2 (Int.le_refl _) (Int.le_refl _) (Int.le_refl _)) (fun q hv => q.mw hv) g1 (by first | with_reducible rfl | with_reducible assumption | omega) rfl (Int.le_refl _), oc_of (P' := Er ta c na ma d) (fun a l h v x ex p => er_of ex p (Int.le_refl _) (Int.le_refl _) (Int.le_refl _)) (fun q hv => q.mw hv) g2 rfl rfl (Int.le_refl _), oc_of (P' := Er ta c na ma d) (fun a l h v x ex p => er_of ex p (Int.le_refl _) (Int.le_refl _) (Int.le_refl _)) (fun q hv => q.mw hv) g3 rfl rfl (Int.le_refl _), sc_of g4 g5 (Int.le_refl _) h2 (Int.le_refl _), by first | with_reducible rfl | with_reducible assumption | omega, by first | with_reducible rfl | with_reducible assumption | omega, by first | with_reducible rfl | with_reducible assumption | omega, by first | with_reducible rfl | with_reducible assumption | omega, by first | with_reducible rfl | with_reducible assumption | omega⟩
theorem ScV.s27k (h : ScV ta c na ma (d + 1) lo hi w n) (k : (na 14 n.toNatClampNeg).toInt = 27) (e : z = na 17 n.toNatClampNeg) (h0 : 0 ≤ z.toInt) : (na 14 z.toNatClampNeg).toInt = 22 ∨ (na 14 z.toNatClampNeg).toInt = 23 := by
  obtain ⟨-, l, hh, v, h1, h2, h3, q0, q1, q2⟩ := h
  rcases q2 with g | ⟨g, -⟩ | ⟨g, -⟩ | ⟨g, -⟩ | ⟨g, -⟩ | ⟨g, -⟩ | ⟨g, e', m1, m2, m3, wa, wb, wc, we, g0, g1, -⟩ | ⟨g, -⟩ | ⟨g, -⟩ | g | ⟨g, -⟩ | ⟨g, -⟩
  all_goals first | exact absurd g (by first | with_reducible rfl | with_reducible assumption | omega) | skip
  rw [← e] at g1
  rcases g1 with g1 | ⟨a, v, e1, p, -⟩
  · omega
  · have hc := cl_nat h0
    rw [show z.toNatClampNeg = a by omega]
    exact p.2.1
theorem ScV.s28 {y : Int32} (h : ScV ta c na ma (d + 1) lo hi w n) (k : (na 14 n.toNatClampNeg).toInt = 28) (e : z = na 17 n.toNatClampNeg) (e2 : y = ma 18 n.toNatClampNeg) : ∃ m1 wa wr : Int, n.toInt < m1 ∧ m1 ≤ hi ∧ ErV ta c na ma d (n.toInt + 1) m1 wa z ∧ RvE na (fun l h v x => ScV ta c na ma d l h v x) m1 hi wr y ∧ wa + wr + 2 ≤ w ∧ 0 ≤ wa := by
  obtain ⟨h0, l, hh, v, h1, h2, h3, q0, q1, q2⟩ := h
  have hc := cl_nat h0
  rcases q2 with g | ⟨g, -⟩ | ⟨g, -⟩ | ⟨g, -⟩ | ⟨g, -⟩ | ⟨g, -⟩ | ⟨g, -⟩ | ⟨g, a, m1, wa, wr, g1, g0, g2, g3, g4⟩ | ⟨g, -⟩ | g | ⟨g, -⟩ | ⟨g, -⟩
  all_goals first | exact absurd g (by first | with_reducible rfl | with_reducible assumption | omega) | skip
  subst e2
  exact ⟨m1, wa, wr, by first | with_reducible rfl | with_reducible assumption | omega, by first | with_reducible rfl | with_reducible assumption | omega, er_of (by rw [e]; exact g1) g2 (by first | with_reducible rfl | with_reducible assumption | omega) (Int.le_refl _) (Int.le_refl _), rv_lz (P' := St ta c na ma d) (fun a l h v x ex p => sc_of ex p (Int.le_refl _) (Int.le_refl _) (Int.le_refl _)) g3 rfl h2 (Int.le_refl _) (fun a l l' h v hl p => p.wid (Nat.le_refl _) hl (Nat.le_refl _) (Nat.le_refl _)), by first | with_reducible rfl | with_reducible assumption | omega, by first | with_reducible rfl | with_reducible assumption | omega⟩
theorem ScV.s29 (h : ScV ta c na ma (d + 1) lo hi w n) (k : (na 14 n.toNatClampNeg).toInt = 29) (e : z = na 17 n.toNatClampNeg) : ErV ta c na ma d (n.toInt + 1) hi (w - 1) z := by
  obtain ⟨h0, l, hh, v, h1, h2, h3, q0, q1, q2⟩ := h
  have hc := cl_nat h0
  rcases q2 with g | ⟨g, -⟩ | ⟨g, -⟩ | ⟨g, -⟩ | ⟨g, -⟩ | ⟨g, -⟩ | ⟨g, -⟩ | ⟨g, -⟩ | ⟨g, a, wa, g1, g2, g3⟩ | g | ⟨g, -⟩ | ⟨g, -⟩
  all_goals first | exact absurd g (by first | with_reducible rfl | with_reducible assumption | omega) | skip
  exact er_of (by rw [e]; exact g1) g2 (by first | with_reducible rfl | with_reducible assumption | omega) h2 (by first | with_reducible rfl | with_reducible assumption | omega)
theorem ScV.s33 (h : ScV ta c na ma (d + 1) lo hi w n) (k : (na 14 n.toNatClampNeg).toInt = 33) (e : z = na 17 n.toNatClampNeg) : OcV (ErV ta c na ma d) (n.toInt + 1) hi (w - 2) z := by
  obtain ⟨h0, l, hh, v, h1, h2, h3, q0, q1, q2⟩ := h
  have hc := cl_nat h0
  rcases q2 with g | ⟨g, -⟩ | ⟨g, -⟩ | ⟨g, -⟩ | ⟨g, -⟩ | ⟨g, -⟩ | ⟨g, -⟩ | ⟨g, -⟩ | ⟨g, -⟩ | g | ⟨g, -⟩ | ⟨g, wa, g1, g2⟩
  all_goals first | exact absurd g (by first | with_reducible rfl | with_reducible assumption | omega) | skip
  subst e
  rcases g1 with g1 | ⟨a, u, g3, g4, g5⟩
  · exact Or.inl ⟨g1, by first | with_reducible rfl | with_reducible assumption | omega⟩
  · exact Or.inr (er_of g3 g4 (by first | with_reducible rfl | with_reducible assumption | omega) h2 (by first | with_reducible rfl | with_reducible assumption | omega))
theorem ScV.w1 (h : ScV ta c na ma (d + 1) lo hi w n) (k : (na 14 n.toNatClampNeg).toInt = 31 ∨ (na 14 n.toNatClampNeg).toInt = 32) : 1 ≤ w := by
  obtain ⟨h0, l, hh, v, h1, h2, h3, q0, q1, q2⟩ := h
  rcases q2 with g | ⟨g, -⟩ | ⟨g, -⟩ | ⟨g, -⟩ | ⟨g, -⟩ | ⟨g, -⟩ | ⟨g, -⟩ | ⟨g, -⟩ | ⟨g, -⟩ | g | ⟨g, g1⟩ | ⟨g, -⟩
  all_goals first | exact absurd g (by first | with_reducible rfl | with_reducible assumption | omega) | skip
  omega
/-- a variable: bare, with a value, or an array -/
theorem VcV.v1 {y : Int32} (h : VcV ta c na ma d lo hi w n) (k : (na 17 n.toNatClampNeg).toInt < 0) (e : y = ma 18 n.toNatClampNeg) : (ma 22 n.toNatClampNeg).toInt = 0 ∨ ((ma 22 n.toNatClampNeg).toInt = 1 ∧ ErV ta c na ma d (n.toInt + 1) hi (w - 6) y) := by
  obtain ⟨h0, l, hh, v, h1, h2, h3, q0, q1, q2, q3, q4⟩ := h
  have hc := cl_nat h0
  rcases q4 with g | ⟨g1, g2, b, wb, g3, g4, g5⟩ | ⟨a, m1, wa, g1, -⟩
  · exact Or.inl g.2
  · exact Or.inr ⟨g2, er_of (by rw [e]; exact g3) g4 (by first | with_reducible rfl | with_reducible assumption | omega) h2 (by first | with_reducible rfl | with_reducible assumption | omega)⟩
  · omega
theorem VcV.v2 (h : VcV ta c na ma d lo hi w n) (k : 0 ≤ (na 17 n.toNatClampNeg).toInt) (e : z = na 17 n.toNatClampNeg) : ∃ m1 wa : Int, n.toInt < m1 ∧ m1 ≤ hi ∧ ErV ta c na ma d (n.toInt + 1) m1 wa z ∧ 0 ≤ wa ∧ (((ma 22 n.toNatClampNeg).toInt = 0 ∧ wa + 6 ≤ w) ∨ ((ma 22 n.toNatClampNeg).toInt = 2 ∧ (∃ wr : Int, RvE na (fun l h v x => ErV ta c na ma d l h (v - 3) x) m1 hi wr (ma 18 n.toNatClampNeg) ∧ wa + wr + 6 ≤ w) ∧ 0 ≤ (ma 19 n.toNatClampNeg).toInt ∧ (ma 19 n.toNatClampNeg).toInt < c) ∨ ((ma 22 n.toNatClampNeg).toInt = 3 ∧ 0 ≤ (ma 19 n.toNatClampNeg).toInt ∧ (ma 19 n.toNatClampNeg).toInt < c ∧ so ta (ma 19 n.toNatClampNeg) = 4 ∧ wa + 3 * sz ta (ma 19 n.toNatClampNeg) + 6 ≤ w)) := by
  obtain ⟨h0, l, hh, v, h1, h2, h3, q0, q1, q2, q3, q4⟩ := h
  have hc := cl_nat h0
  rcases q4 with g | ⟨g1, -⟩ | ⟨a, m1, wa, g1, g2, g3, g4, g5⟩
  · omega
  · omega
  · refine ⟨m1, wa, by first | with_reducible rfl | with_reducible assumption | omega, by first | with_reducible rfl | with_reducible assumption | omega, er_of (by rw [e]; exact g1) g4 (by first | with_reducible rfl | with_reducible assumption | omega) (Int.le_refl _) (Int.le_refl _), by first | with_reducible rfl | with_reducible assumption | omega, ?_⟩
    rcases g5 with g | ⟨r1, ⟨m, wr, last, r2, r3⟩, r4⟩ | ⟨r1, r2, r3, r4, r5⟩
    · exact Or.inl ⟨g.1, by first | with_reducible rfl | with_reducible assumption | omega⟩
    · refine Or.inr (Or.inl ⟨r1, ⟨wr, ?_, by first | with_reducible rfl | with_reducible assumption | omega⟩, r4⟩)
      refine rv_lz (P' := Py (Er ta c na ma d) 3) (fun a l h v x ex p => ?_) (Or.inr ⟨m, last, r2⟩) rfl h2 (Int.le_refl _) (fun a l l' h v hl p => ?_)
      · obtain ⟨v', p1, p2⟩ := p
        exact er_of ex p1 (Int.le_refl _) (Int.le_refl _) (by first | with_reducible rfl | with_reducible assumption | omega)
      · obtain ⟨v', p1, p2⟩ := p
        exact ⟨v', p1.wid (Nat.le_refl _) hl (Nat.le_refl _) (Nat.le_refl _), p2⟩
    · exact Or.inr (Or.inr ⟨r1, r2, r3, r4, by first | with_reducible rfl | with_reducible assumption | omega⟩)
end SC
/-! WHAT GROWS while statements are checked: names, symbols -/
def CaG (ca ca' : Nat → Nat → Int32) (kn ns : Int) : Prop := (∀ x : Nat, ca' 39 x = ca 39 x ∧ ca' 40 x = ca 40 x ∧ ca' 56 x = ca 56 x) ∧ (∀ x : Nat, (x : Int) < kn → ca' 34 x = ca 34 x ∧ ca' 35 x = ca 35 x ∧ ca' 36 x = ca 36 x ∧ ca' 53 x = ca 53 x) ∧ ∀ x : Nat, (x : Int) < ns → ca' 49 x = ca 49 x ∧ ca' 50 x = ca 50 x ∧ ca' 51 x = ca 51 x ∧ ca' 52 x = ca 52 x
def wdt (ca : Nat → Nat → Int32) (y : Nat) : Int := if 4 ≤ (ca 49 y).toInt then 2 else (ca 52 y).toInt
/-- the symbols from ys on lie one behind the other -/
def SyR (ca : Nat → Nat → Int32) (ys ns cells tx : Int) : Prop := ∀ y : Nat, ys ≤ (y : Int) → (y : Int) < ns → ((ca 50 y).toInt = tx ∧ 0 ≤ (ca 51 y).toInt ∧ (0 ≤ (ca 49 y).toInt ∧ (ca 49 y).toInt ≤ 5) ∧ (0 ≤ (ca 52 y).toInt ∧ (ca 52 y).toInt ≤ 4096) ∧ ((ca 49 y).toInt ≤ 1 → (ca 52 y).toInt = 1)) ∧ (ca 51 y).toInt + wdt ca y ≤ cells ∧ ∀ y' : Nat, y < y' → (y' : Int) < ns → (ca 51 y).toInt + wdt ca y ≤ (ca 51 y').toInt
section CG
variable {ca ca' ca2 : Nat → Nat → Int32} {kn ns kn' ns' ys cells tx c : Int}
theorem CaG.rf : CaG ca ca kn ns := ⟨fun _ => ⟨rfl, rfl, rfl⟩, fun _ _ => ⟨rfl, rfl, rfl, rfl⟩, fun _ _ => ⟨rfl, rfl, rfl, rfl⟩⟩
theorem CaG.tr (h : CaG ca ca' kn ns) (k : CaG ca' ca2 kn' ns') (h1 : kn ≤ kn') (h2 : ns ≤ ns') : CaG ca ca2 kn ns := by
  refine ⟨fun x => ?_, fun x hx => ?_, fun x hx => ?_⟩
  · obtain ⟨a1, a2, a3⟩ := h.1 x; obtain ⟨b1, b2, b3⟩ := k.1 x
    exact ⟨b1.trans a1, b2.trans a2, b3.trans a3⟩
  · obtain ⟨a1, a2, a3, a4⟩ := h.2.1 x hx; obtain ⟨b1, b2, b3, b4⟩ := k.2.1 x (by first | with_reducible rfl | with_reducible assumption | omega)
    exact ⟨b1.trans a1, b2.trans a2, b3.trans a3, b4.trans a4⟩
  · obtain ⟨a1, a2, a3, a4⟩ := h.2.2 x hx; obtain ⟨b1, b2, b3, b4⟩ := k.2.2 x (by first | with_reducible rfl | with_reducible assumption | omega)
    exact ⟨b1.trans a1, b2.trans a2, b3.trans a3, b4.trans a4⟩
theorem CaG.le (h : CaG ca ca' kn' ns') (h1 : kn ≤ kn') (h2 : ns ≤ ns') : CaG ca ca' kn ns := CaG.rf.tr h h1 h2
theorem cag_kw {i t w v y : Int32} (u : KwU ca ca' i t w v y) (h0 : 0 ≤ i.toInt) (h1 : kn ≤ i.toInt) : CaG ca ca' kn ns := by
  have hc := cl_nat h0
  refine ⟨fun x => ⟨u.1 39 x (by first | with_reducible rfl | with_reducible assumption | omega), u.1 40 x (by first | with_reducible rfl | with_reducible assumption | omega), u.1 56 x (by first | with_reducible rfl | with_reducible assumption | omega)⟩, fun x hx => ⟨u.1 34 x (by first | with_reducible rfl | with_reducible assumption | omega), u.1 35 x (by first | with_reducible rfl | with_reducible assumption | omega), u.1 36 x (by first | with_reducible rfl | with_reducible assumption | omega), u.1 53 x (by first | with_reducible rfl | with_reducible assumption | omega)⟩, fun x hx => ⟨u.1 49 x (by first | with_reducible rfl | with_reducible assumption | omega), u.1 50 x (by first | with_reducible rfl | with_reducible assumption | omega), u.1 51 x (by first | with_reducible rfl | with_reducible assumption | omega), u.1 52 x (by first | with_reducible rfl | with_reducible assumption | omega)⟩⟩
theorem cag_ly {y sort at_ size : Int32} {tx : Int} (u : LyU ca ca' y sort at_ size tx) (h0 : 0 ≤ y.toInt) (h1 : ns ≤ y.toInt) : CaG ca ca' kn ns := by
  have hc := cl_nat h0
  refine ⟨fun x => ⟨u.1 39 x (by first | with_reducible rfl | with_reducible assumption | omega), u.1 40 x (by first | with_reducible rfl | with_reducible assumption | omega), u.1 56 x (by first | with_reducible rfl | with_reducible assumption | omega)⟩, fun x hx => ⟨u.1 34 x (by first | with_reducible rfl | with_reducible assumption | omega), u.1 35 x (by first | with_reducible rfl | with_reducible assumption | omega), u.1 36 x (by first | with_reducible rfl | with_reducible assumption | omega), u.1 53 x (by first | with_reducible rfl | with_reducible assumption | omega)⟩, fun x hx => ⟨u.1 49 x (by first | with_reducible rfl | with_reducible assumption | omega), u.1 50 x (by first | with_reducible rfl | with_reducible assumption | omega), u.1 51 x (by first | with_reducible rfl | with_reducible assumption | omega), u.1 52 x (by first | with_reducible rfl | with_reducible assumption | omega)⟩⟩
theorem KnT.cg {n : Int} (h : KnT c ca n) (g : CaG ca ca' kn ns) (h1 : n ≤ kn) : KnT c ca' n := ⟨h.1, fun i hi => by rw [(g.2.1 i (by first | with_reducible rfl | with_reducible assumption | omega)).1]; exact h.2 i hi⟩
theorem FnT.cg {na : Nat → Nat → Int32} {n : Int} (h : FnT c na ca n) (g : CaG ca ca' kn ns) : FnT c na ca' n := ⟨h.1, fun i hi => by rw [(g.1 i).1]; exact h.2 i hi⟩
theorem FnP.cg {na : Nat → Nat → Int32} {n : Int} (h : FnP na ca n) (g : CaG ca ca' kn ns) : FnP na ca' n := fun i hi => by rw [(g.1 i).1]; exact h i hi
theorem SyG.cg {y : Int32} (h : SyG ca ns ys y) (g : CaG ca ca' kn ns') (h1 : ns ≤ ns') {n2 : Int} (h2 : ns ≤ n2) : SyG ca' n2 ys y := by
  have hc := cl_nat h.1.1
  refine ⟨⟨h.1.1, by have := h.1.2; omega⟩, ?_⟩
  rw [(g.2.2 y.toNatClampNeg (by have := h.1.2; omega)).2.1]; exact h.2
theorem SyV.cg {y : Int32} (h : SyV ca ns ys y) (g : CaG ca ca' kn ns') (h1 : ns ≤ ns') {n2 : Int} (h2 : ns ≤ n2) : SyV ca' n2 ys y := by
  have hc := cl_nat h.1.1.1
  refine ⟨h.1.cg g h1 h2, ?_⟩
  rw [(g.2.2 y.toNatClampNeg (by have := h.1.1.2; omega)).1]; exact h.2
theorem SyA.cg {y : Int32} (h : SyA ca ns ys y) (g : CaG ca ca' kn ns') (h1 : ns ≤ ns') {n2 : Int} (h2 : ns ≤ n2) : SyA ca' n2 ys y := by
  have hc := cl_nat h.1.1.1
  refine ⟨h.1.cg g h1 h2, ?_⟩
  rw [(g.2.2 y.toNatClampNeg (by have := h.1.1.2; omega)).1]; exact h.2
theorem KnS.cg {n : Int} (h : KnS ca n ns ys) (g : CaG ca ca' kn ns') (h0 : n ≤ kn) (h1 : ns ≤ ns') {n2 : Int} (h2 : ns ≤ n2) : KnS ca' n n2 ys := fun i hi => by
  obtain ⟨-, e1, -, e2⟩ := g.2.1 i (by first | with_reducible rfl | with_reducible assumption | omega)
  rw [e1, e2]
  rcases h i hi with ⟨a, b⟩ | ⟨a, b⟩ | a
  · exact Or.inl ⟨a, b.cg g h1 h2⟩
  · exact Or.inr (Or.inl ⟨a, b.cg g h1 h2⟩)
  · exact Or.inr (Or.inr a)
theorem SyR.cg (h : SyR ca ys ns cells tx) (g : CaG ca ca' kn ns') (h1 : ns ≤ ns') : SyR ca' ys ns cells tx := fun y a b => by
  obtain ⟨e1, e2, e3, e4⟩ := g.2.2 y (by first | with_reducible rfl | with_reducible assumption | omega)
  have ew : wdt ca' y = wdt ca y := by unfold wdt; rw [e1, e4]
  rw [e1, e2, e3, e4, ew]
  obtain ⟨q1, q2, q3⟩ := h y a b
  refine ⟨q1, q2, fun y' a' b' => ?_⟩
  rw [(g.2.2 y' (by first | with_reducible rfl | with_reducible assumption | omega)).2.2.1]; exact q3 y' a' b'
theorem syr_0 (h : ns ≤ ys) : SyR ca ys ns cells tx := fun y a b => absurd b (by first | with_reducible rfl | with_reducible assumption | omega)
theorem SyR.ly {y sort at_ size : Int32} (h : SyR ca ys ns cells tx) (u : LyU ca ca' y sort at_ size tx) (e : y.toInt = ns) (h0 : 0 ≤ ns) (ea : at_.toInt = cells) (hc : 0 ≤ cells) (hs : 0 ≤ sort.toInt ∧ sort.toInt ≤ 5) (hz : 0 ≤ size.toInt ∧ size.toInt ≤ 4096) (hv : sort.toInt ≤ 1 → size.toInt = 1) {cells' : Int} (h3 : sort.toInt ≤ 3 → cells' = cells + size.toInt) (h4 : 4 ≤ sort.toInt → cells' = cells + 2) : SyR ca' ys (ns + 1) cells' tx := by
  have hy := cl_nat (x := y) (by first | exact oz_016f458179 hy | omega)
  have g : CaG ca ca' 0 ns := cag_ly u (by first | with_reducible rfl | with_reducible assumption | omega) (by first | with_reducible rfl | with_reducible assumption | omega)
  have e49 := u.2.1 (by first | with_reducible rfl | with_reducible assumption | omega) (by first | with_reducible rfl | with_reducible assumption | omega)
  have ew : wdt ca' y.toNatClampNeg = if 4 ≤ sort.toInt then 2 else size.toInt := by unfold wdt; rw [e49, u.2.2.2.1]
  have hcc : cells ≤ cells' := by
    by_cases q : sort.toInt ≤ 3
    · have := h3 q; omega
    · have := h4 (by first | with_reducible rfl | with_reducible assumption | omega); omega
  intro z a b
  by_cases hz' : (z : Int) < ns
  · obtain ⟨q1, q2, q3⟩ := (h.cg g (Int.le_refl _)) z a hz'
    refine ⟨q1, by first | with_reducible rfl | with_reducible assumption | omega, fun y' a' b' => ?_⟩
    by_cases hy' : (y' : Int) < ns
    · exact q3 y' a' hy'
    · have : y' = y.toNatClampNeg := by omega
      subst this
      rw [u.2.2.1]; omega
  · have : z = y.toNatClampNeg := by omega
    subst this
    refine ⟨⟨u.2.2.2.2, by rw [u.2.2.1]; omega, by rw [e49]; exact hs, by rw [u.2.2.2.1]; exact hz, by rw [e49, u.2.2.2.1]; exact hv⟩, ?_, fun y' a' b' => absurd b' (by first | with_reducible rfl | with_reducible assumption | omega)⟩
    rw [ew, u.2.2.1]
    by_cases q : 4 ≤ sort.toInt
    · rw [if_pos q]; have := h4 q; omega
    · rw [if_neg q]; have := h3 (by first | with_reducible rfl | with_reducible assumption | omega); omega
/-- a new name -/
theorem KnT.kw {i t w v y : Int32} {n : Int} (h : KnT c ca n) (u : KwU ca ca' i t w v y) (e : i.toInt = n) (h0 : 0 ≤ n) (hn : n < 1100) (ht : 0 ≤ t.toInt ∧ t.toInt < c) : KnT c ca' (n + 1) := by
  have hi := cl_nat (x := i) (by first | exact oz_016f458179 hi | omega)
  refine ⟨by first | with_reducible rfl | with_reducible assumption | omega, fun j hj => ?_⟩
  by_cases q : (j : Int) < n
  · rw [u.1 34 j (by first | with_reducible rfl | with_reducible assumption | omega)]; exact h.2 j q
  · have : j = i.toNatClampNeg := by omega
    subst this
    rw [u.2.1]; exact ht
theorem KnS.kw {i t w v y : Int32} {n : Int} (h : KnS ca n ns ys) (u : KwU ca ca' i t w v y) (e : i.toInt = n) (h0 : 0 ≤ n) (hw : (w.toInt = 1 ∧ SyV ca ns ys y) ∨ ((w.toInt = 2 ∨ w.toInt = 3) ∧ SyA ca ns ys y) ∨ (w.toInt = 4 ∧ y.toInt < 0)) : KnS ca' (n + 1) ns ys := by
  have hi := cl_nat (x := i) (by first | exact oz_016f458179 hi | omega)
  have g : CaG ca ca' n ns := cag_kw u (by first | with_reducible rfl | with_reducible assumption | omega) (by first | with_reducible rfl | with_reducible assumption | omega)
  intro j hj
  by_cases q : (j : Int) < n
  · exact (h.cg g (Int.le_refl _) (Int.le_refl _) (Int.le_refl _)) j q
  · have : j = i.toNatClampNeg := by omega
    subst this
    rw [u.2.2.1, u.2.2.2.2]
    rcases hw with ⟨a, b⟩ | ⟨a, b⟩ | a
    · exact Or.inl ⟨a, b.cg g (Int.le_refl _) (Int.le_refl _)⟩
    · exact Or.inr (Or.inl ⟨a, b.cg g (Int.le_refl _) (Int.le_refl _)⟩)
    · exact Or.inr (Or.inr a)
/-- a symbol that was just laid -/
theorem LyU.sv {y sort at_ size : Int32} (u : LyU ca ca' y sort at_ size tx) (h0 : 0 ≤ y.toInt) (hn : y.toInt < ns) (hs : 0 ≤ sort.toInt ∧ sort.toInt ≤ 1) (hy : tx = 1 ∨ ys ≤ y.toInt) : SyV ca' ns ys y := by
  have e := u.2.1 (by first | with_reducible rfl | with_reducible assumption | omega) (by first | with_reducible rfl | with_reducible assumption | omega)
  exact ⟨⟨⟨h0, hn⟩, by rw [u.2.2.2.2]; exact hy⟩, by rw [e]; exact hs⟩
theorem LyU.sa {y sort at_ size : Int32} (u : LyU ca ca' y sort at_ size tx) (h0 : 0 ≤ y.toInt) (hn : y.toInt < ns) (hs : 2 ≤ sort.toInt ∧ sort.toInt ≤ 5) (hy : tx = 1 ∨ ys ≤ y.toInt) : SyA ca' ns ys y := by
  have e := u.2.1 (by first | with_reducible rfl | with_reducible assumption | omega) (by first | with_reducible rfl | with_reducible assumption | omega)
  exact ⟨⟨⟨h0, hn⟩, by rw [u.2.2.2.2]; exact hy⟩, by rw [e]; exact hs⟩
end CG
/-! what is checked stays so while symbols grow -/
def GmL (G G' : Gm) : Prop := (G'.ta = G.ta ∧ G'.nf = G.nf ∧ G'.L = G.L) ∧ (∀ y, SyV G.ca G.ns G.ys y → SyV G'.ca G'.ns G'.ys y) ∧ ∀ y, SyA G.ca G.ns G.ys y → SyA G'.ca G'.ns G'.ys y ∧ G'.ca 49 y.toNatClampNeg = G.ca 49 y.toNatClampNeg ∧ G'.ca 52 y.toNatClampNeg = G.ca 52 y.toNatClampNeg
theorem gml_mk {ta ca ca' : Nat → Nat → Int32} {ns n2 ys nf : Int} {L L' : Int → Nat → Int} (hL : L' = L) (kV : ∀ y, SyV ca ns ys y → SyV ca' n2 ys y) (kA : ∀ y, SyA ca ns ys y → SyA ca' n2 ys y ∧ (ca' 49 y.toNatClampNeg = ca 49 y.toNatClampNeg ∧ ca' 52 y.toNatClampNeg = ca 52 y.toNatClampNeg)) : GmL (⟨ta, ca, ns, ys, nf, L⟩ : Gm) (⟨ta, ca', n2, ys, nf, L'⟩ : Gm) := ⟨⟨rfl, rfl, hL⟩, kV, kA⟩
theorem gml_ca {ta ca ca' na ma0 : Nat → Nat → Int32} {kn ns ns' n2 ys nf : Int} (g : CaG ca ca' kn ns') (h1 : ns ≤ ns') (h2 : ns ≤ n2) : GmL (Gk ta ca na ma0 ns ys nf) (Gk ta ca' na ma0 n2 ys nf) := by
  have kV : ∀ y, SyV ca ns ys y → SyV ca' n2 ys y := fun y h => SyV.cg h g h1 h2
  have hL : tkl na ma0 ca' = tkl na ma0 ca := by
    funext code k
    unfold tkl
    rw [(g.1 _).1]
  refine gml_mk hL kV (fun y h => ⟨SyA.cg h g h1 h2, ?_⟩)
  have hc := cl_nat h.1.1.1
  obtain ⟨a, b, c, d⟩ := g.2.2 y.toNatClampNeg (by have := h.1.1.2; omega)
  exact ⟨a, d⟩
theorem Lc.g {G G' : Gm} {na ma : Nat → Nat → Int32} {V : Nat → Nat → Prop} {x t : Nat} (l : GmL G G') (g : Lc G na ma V x t) : Lc G' na ma V x t := by
  obtain ⟨⟨e1, e2, e3⟩, hV, hA⟩ := l
  rcases g with g | g | ⟨g0, g⟩
  · refine Or.inl ?_
    rcases g with g | ⟨g0, g⟩
    · exact Or.inl ⟨g.1, g.2.1, (hA _ g.2.2).1⟩
    · refine Or.inr ⟨g0, ?_⟩
      rcases g with g | g | ⟨g, g1, m, g2⟩ | ⟨g, g1, g2⟩ | ⟨g, g1, g2⟩ | ⟨g, g1, g2⟩ | g
      · exact Or.inl g
      · exact Or.inr (Or.inl ⟨g.1, g.2.imp id (hV _)⟩)
      · exact Or.inr (Or.inr (Or.inl ⟨g, by rw [e2]; exact g1, m, by rw [e3]; exact g2⟩))
      · exact Or.inr (Or.inr (Or.inr (Or.inl ⟨g, (hA _ g1).1, g2⟩)))
      · exact Or.inr (Or.inr (Or.inr (Or.inr (Or.inl ⟨g, by rw [e1]; exact g1, g2⟩))))
      · exact Or.inr (Or.inr (Or.inr (Or.inr (Or.inr (Or.inl ⟨g, by rw [e1]; exact g1, g2⟩)))))
      · exact Or.inr (Or.inr (Or.inr (Or.inr (Or.inr (Or.inr g)))))
  · exact Or.inr (Or.inl g)
  · refine Or.inr (Or.inr ⟨g0, ?_⟩)
    rcases g with ⟨g1, g2, g3⟩ | ⟨g1, g2, g4, g3⟩
    · exact Or.inl ⟨g1, hV _ g2, g3⟩
    · obtain ⟨a, b, c⟩ := hA _ g2
      refine Or.inr ⟨g1, a, by rw [b]; exact g4, ?_⟩
      rw [e1, c]; exact g3
section TG
variable {G G' : Gm} {na ma ma' : Nat → Nat → Int32} {lo hi a b : Int} {n z k : Int32} {t : Nat}
theorem TyE.g (h : TyE G na ma lo hi n t) (l : GmL G G') : TyE G' na ma lo hi n t := h.elim fun V q => ⟨V, fun x s r => ⟨(q.1 x s r).1, (q.1 x s r).2.g l⟩, q.2⟩
theorem TyR.g (h : TyR G na ma lo hi z k t) (l : GmL G G') : TyR G' na ma lo hi z k t := h.elim fun V q => q.elim fun m q => ⟨V, m, fun x s r => ⟨(q.1 x s r).1, (q.1 x s r).2.g l⟩, q.2⟩
end TG
def ZTe (cf : Nat → Int32) (ta ca na ma0 : Nat → Nat → Int32) (ns ys nf : Int) (ma : Nat → Nat → Int32) (lo hi : Int) (n : Int32) (t : Nat) : Prop := Zr cf (TyE (Gk ta ca na ma0 ns ys nf) na ma lo hi n t)
def ZTs (cf : Nat → Int32) (ta ca na ma0 : Nat → Nat → Int32) (ns ys nf : Int) (ma : Nat → Nat → Int32) (lo hi : Int) (z k : Int32) (t : Nat) : Prop := Zr cf (TyR (Gk ta ca na ma0 ns ys nf) na ma lo hi z k t)
section ZT
variable {cf cf' : Nat → Int32} {ta ca ca' na ma0 ma ma' : Nat → Nat → Int32} {ns ns' nsb ys nf lo hi a b kn : Int} {n z k : Int32} {t : Nat}
theorem ZTe.tr (h : ZTe cf ta ca na ma0 ns ys nf ma lo hi n t) (hz : (cf' 30).toInt = 0 → (cf 30).toInt = 0) (f : FrC a b ma ma') (hd : hi ≤ a ∨ b ≤ lo) (g : CaG ca ca' kn nsb) (h1 : ns ≤ nsb) (h2 : ns ≤ ns') : ZTe cf' ta ca' na ma0 ns' ys nf ma' lo hi n t := fun q => ((h (hz q)).fr f hd).g (gml_ca g h1 h2)
theorem ZTs.tr (h : ZTs cf ta ca na ma0 ns ys nf ma lo hi z k t) (hz : (cf' 30).toInt = 0 → (cf 30).toInt = 0) (f : FrC a b ma ma') (hd : hi ≤ a ∨ b ≤ lo) (g : CaG ca ca' kn nsb) (h1 : ns ≤ nsb) (h2 : ns ≤ ns') : ZTs cf' ta ca' na ma0 ns' ys nf ma' lo hi z k t := fun q => ((h (hz q)).fr f hd).g (gml_ca g h1 h2)
theorem ZTe.to {lo' hi' : Int} {t' : Nat} (h : ZTe cf ta ca na ma0 ns ys nf ma lo hi n t) (hz : (cf' 30).toInt = 0 → (cf 30).toInt = 0) (e : ns = ns') (h1 : lo' ≤ lo) (h2 : hi ≤ hi') (et : t = t') : ZTe cf' ta ca na ma0 ns' ys nf ma lo' hi' n t' := by
  subst e; subst et
  exact fun q => (h (hz q)).le h1 h2
theorem ZTs.to {lo' hi' : Int} {t' : Nat} (h : ZTs cf ta ca na ma0 ns ys nf ma lo hi z k t) (hz : (cf' 30).toInt = 0 → (cf 30).toInt = 0) (e : ns = ns') (h1 : lo' ≤ lo) (h2 : hi ≤ hi') (et : t = t') : ZTs cf' ta ca na ma0 ns' ys nf ma lo' hi' z k t' := by
  subst e; subst et
  exact fun q => (h (hz q)).le h1 h2
theorem zts_0 (hz : z = k) : ZTs cf ta ca na ma0 ns ys nf ma lo hi z k t := fun _ => by subst hz; exact tyr_0
theorem ZTs.nx {k' : Int32} (h : ZTs cf ta ca na ma0 ns ys nf ma lo hi z k t) (q : ZTe cf ta ca na ma0 ns ys nf ma lo hi k t) (h0 : 0 ≤ k.toInt) (e : k' = na 21 k.toNatClampNeg) : ZTs cf ta ca na ma0 ns ys nf ma lo hi z k' t := fun r => (h r).s (q r) h0 e
end ZT
/-- in a loop, in a switch, in none -/
def tgv (loops switches : Int) : Nat := if 0 < loops then 4 else if 0 < switches then 3 else 2
theorem tgv_rng {a b : Int} : 2 ≤ tgv a b ∧ tgv a b ≤ 4 := by
  unfold tgv
  by_cases h : 0 < a
  · rw [if_pos h]; decide
  · rw [if_neg h]
    by_cases k : 0 < b
    · rw [if_pos k]; decide
    · rw [if_neg k]; decide
theorem tgv_4 {a b : Int} (h : 0 < a) : tgv a b = 4 := if_pos h
theorem tgv_3 {a b : Int} (h : 0 < b) : tgv a b = if tgv a (b - 1) = 4 then 4 else 3 := by
  unfold tgv
  by_cases q : 0 < a
  · rw [if_pos q, if_pos q]; rfl
  · rw [if_neg q, if_neg q, if_pos h]; split <;> rfl
section TY2
variable {G : Gm} {na ma : Nat → Nat → Int32} {lo hi : Int} {n z k y x u : Int32} {t : Nat}
def OtE (G : Gm) (na ma : Nat → Nat → Int32) (lo hi : Int) (p : Int32) (t : Nat) : Prop := p.toInt < 0 ∨ TyE G na ma lo hi p t
theorem ote_v (h : OtE G na ma lo hi z t) : ∃ V, Ts G na ma lo hi V ∧ OpT V z t := by
  rcases h with h | ⟨V, h1, h2⟩
  · exact ⟨_, ts_0, Or.inl h⟩
  · exact ⟨V, h1, Or.inr h2⟩
theorem tys_0 (hn : lo ≤ n.toInt ∧ n.toInt < hi ∧ 0 ≤ n.toInt) (ht : 2 ≤ t ∧ t ≤ 4) (e : (na 14 n.toNatClampNeg).toInt = 21 ∨ (na 14 n.toNatClampNeg).toInt = 29 ∨ (na 14 n.toNatClampNeg).toInt = 30) : TyE G na ma lo hi n t := ty_mk ts_0 hn (Or.inr (Or.inl ⟨ht, by rcases e with e | e | e; exact Or.inl e; exact Or.inr (Or.inl e); exact Or.inr (Or.inr (Or.inl e))⟩))
theorem tys_20 (hn : lo ≤ n.toInt ∧ n.toInt < hi ∧ 0 ≤ n.toInt) (ht : 2 ≤ t ∧ t ≤ 4) (e : (na 14 n.toNatClampNeg).toInt = 20) (ez : z = na 17 n.toNatClampNeg) (h : TyR G na ma lo hi z k t) (hk : k.toInt < 0) : TyE G na ma lo hi n t := by
  subst ez; obtain ⟨V, m, h1, h2⟩ := h
  exact ty_mk h1 hn (Or.inr (Or.inl ⟨ht, Or.inr (Or.inr (Or.inr (Or.inl ⟨e, m, h2.row hk⟩)))⟩))
theorem tys_22 (hn : lo ≤ n.toInt ∧ n.toInt < hi ∧ 0 ≤ n.toInt) (ht : 2 ≤ t ∧ t ≤ 4) (e : (na 14 n.toNatClampNeg).toInt = 22) (ez : z = na 17 n.toNatClampNeg) (h : TyE G na ma lo hi z 0) : TyE G na ma lo hi n t := by
  subst ez; obtain ⟨V, h1, h2⟩ := h
  exact ty_mk h1 hn (Or.inr (Or.inl ⟨ht, Or.inr (Or.inr (Or.inr (Or.inr (Or.inl ⟨e, h2⟩))))⟩))
theorem tys_23 (hn : lo ≤ n.toInt ∧ n.toInt < hi ∧ 0 ≤ n.toInt) (ht : 2 ≤ t ∧ t ≤ 4) (e : (na 14 n.toNatClampNeg).toInt = 23) (ez : z = na 17 n.toNatClampNeg) (h : TyR G na ma lo hi z k 5) (hk : k.toInt < 0) : TyE G na ma lo hi n t := by
  subst ez; obtain ⟨V, m, h1, h2⟩ := h
  exact ty_mk h1 hn (Or.inr (Or.inl ⟨ht, Or.inr (Or.inr (Or.inr (Or.inr (Or.inr (Or.inl ⟨e, m, h2.row hk⟩)))))⟩))
theorem tys_24 (hn : lo ≤ n.toInt ∧ n.toInt < hi ∧ 0 ≤ n.toInt) (ht : 2 ≤ t ∧ t ≤ 4) (e : (na 14 n.toNatClampNeg).toInt = 24) (ez : z = na 17 n.toNatClampNeg) (ey : y = ma 18 n.toNatClampNeg) (ex : x = ma 19 n.toNatClampNeg) (h : TyE G na ma lo hi z 0) (h' : TyE G na ma lo hi y t) (h'' : OtE G na ma lo hi x t) : TyE G na ma lo hi n t := by
  subst ez; subst ey; subst ex; obtain ⟨V, h1, h2⟩ := h; obtain ⟨V', h3, h4⟩ := h'; obtain ⟨V'', h5, h6⟩ := ote_v h''
  exact ty_mk ((h1.un h3).un h5) hn (Or.inr (Or.inl ⟨ht, Or.inr (Or.inr (Or.inr (Or.inr (Or.inr (Or.inr (Or.inl ⟨e, Or.inl (Or.inl h2), Or.inl (Or.inr h4), h6.mono (fun _ _ q => Or.inr q)⟩))))))⟩))
theorem tys_25 (hn : lo ≤ n.toInt ∧ n.toInt < hi ∧ 0 ≤ n.toInt) (ht : 2 ≤ t ∧ t ≤ 4) (e : (na 14 n.toNatClampNeg).toInt = 25 ∨ (na 14 n.toNatClampNeg).toInt = 26) (ez : z = na 17 n.toNatClampNeg) (ey : y = ma 18 n.toNatClampNeg) (h : TyE G na ma lo hi z 0) (h' : TyE G na ma lo hi y 4) : TyE G na ma lo hi n t := by
  subst ez; subst ey; obtain ⟨V, h1, h2⟩ := h; obtain ⟨V', h3, h4⟩ := h'
  exact ty_mk (h1.un h3) hn (Or.inr (Or.inl ⟨ht, Or.inr (Or.inr (Or.inr (Or.inr (Or.inr (Or.inr (Or.inr (Or.inl ⟨e, Or.inl h2, Or.inr h4⟩)))))))⟩))
theorem tys_27 (hn : lo ≤ n.toInt ∧ n.toInt < hi ∧ 0 ≤ n.toInt) (ht : 2 ≤ t ∧ t ≤ 4) (e : (na 14 n.toNatClampNeg).toInt = 27) (ez : z = na 17 n.toNatClampNeg) (ey : y = ma 18 n.toNatClampNeg) (ex : x = ma 19 n.toNatClampNeg) (eu : u = ma 20 n.toNatClampNeg) (h : OtE G na ma lo hi z t) (h' : OtE G na ma lo hi y 0) (h'' : OtE G na ma lo hi x 0) (h4 : TyE G na ma lo hi u 4) : TyE G na ma lo hi n t := by
  subst ez; subst ey; subst ex; subst eu; obtain ⟨V, h1, h2⟩ := ote_v h; obtain ⟨V', h3, h5⟩ := ote_v h'; obtain ⟨V'', h6, h7⟩ := ote_v h''; obtain ⟨V3, h8, h9⟩ := h4
  exact ty_mk (((h1.un h3).un h6).un h8) hn (Or.inr (Or.inl ⟨ht, Or.inr (Or.inr (Or.inr (Or.inr (Or.inr (Or.inr (Or.inr (Or.inr (Or.inl ⟨e, h2.mono (fun _ _ q => Or.inl (Or.inl (Or.inl q))), h5.mono (fun _ _ q => Or.inl (Or.inl (Or.inr q))), h7.mono (fun _ _ q => Or.inl (Or.inr q)), Or.inr h9⟩))))))))⟩))
theorem tys_28 (hn : lo ≤ n.toInt ∧ n.toInt < hi ∧ 0 ≤ n.toInt) (ht : 2 ≤ t ∧ t ≤ 4) (e : (na 14 n.toNatClampNeg).toInt = 28) (ez : z = na 17 n.toNatClampNeg) (ey : y = ma 18 n.toNatClampNeg) (h : TyE G na ma lo hi z 0) (h' : TyR G na ma lo hi y k (if t = 4 then 4 else 3)) (hk : k.toInt < 0) : TyE G na ma lo hi n t := by
  subst ez; subst ey; obtain ⟨V, h1, h2⟩ := h; obtain ⟨V', m, h3, h4⟩ := h'
  exact ty_mk (h1.un h3) hn (Or.inr (Or.inl ⟨ht, Or.inr (Or.inr (Or.inr (Or.inr (Or.inr (Or.inr (Or.inr (Or.inr (Or.inr (Or.inl ⟨e, Or.inl h2, m, (h4.row hk).mono (fun _ q => Or.inr q)⟩)))))))))⟩))
theorem tys_31 (hn : lo ≤ n.toInt ∧ n.toInt < hi ∧ 0 ≤ n.toInt) (ht : 2 ≤ t ∧ t ≤ 4) (e : (na 14 n.toNatClampNeg).toInt = 31) (h : 3 ≤ t) : TyE G na ma lo hi n t := ty_mk ts_0 hn (Or.inr (Or.inl ⟨ht, Or.inr (Or.inr (Or.inr (Or.inr (Or.inr (Or.inr (Or.inr (Or.inr (Or.inr (Or.inr (Or.inl ⟨e, h⟩))))))))))⟩))
theorem tys_32 (hn : lo ≤ n.toInt ∧ n.toInt < hi ∧ 0 ≤ n.toInt) (ht : 2 ≤ t ∧ t ≤ 4) (e : (na 14 n.toNatClampNeg).toInt = 32) (h : t = 4) : TyE G na ma lo hi n t := ty_mk ts_0 hn (Or.inr (Or.inl ⟨ht, Or.inr (Or.inr (Or.inr (Or.inr (Or.inr (Or.inr (Or.inr (Or.inr (Or.inr (Or.inr (Or.inr (Or.inl ⟨e, h⟩)))))))))))⟩))
theorem tys_33 (hn : lo ≤ n.toInt ∧ n.toInt < hi ∧ 0 ≤ n.toInt) (ht : 2 ≤ t ∧ t ≤ 4) (e : (na 14 n.toNatClampNeg).toInt = 33) (ez : z = na 17 n.toNatClampNeg) (h : OtE G na ma lo hi z 0) : TyE G na ma lo hi n t := by
  subst ez; obtain ⟨V, h1, h2⟩ := ote_v h
  exact ty_mk h1 hn (Or.inr (Or.inl ⟨ht, Or.inr (Or.inr (Or.inr (Or.inr (Or.inr (Or.inr (Or.inr (Or.inr (Or.inr (Or.inr (Or.inr (Or.inr ⟨e, h2⟩)))))))))))⟩))
/-- a variable of one cell, an array -/
theorem tyv_1 (hn : lo ≤ n.toInt ∧ n.toInt < hi ∧ 0 ≤ n.toInt) (ht : t = 5 ∨ t = 6) (e : (na 17 n.toNatClampNeg).toInt < 0) (hs : SyV G.ca G.ns G.ys (ma 20 n.toNatClampNeg)) (ey : y = ma 18 n.toNatClampNeg) (h : (ma 22 n.toNatClampNeg).toInt = 0 ∨ ((ma 22 n.toNatClampNeg).toInt = 1 ∧ (t = 5 → TyE G na ma lo hi y 0))) : TyE G na ma lo hi n t := by
  subst ey
  rcases h with h | ⟨h, h'⟩
  · exact ty_mk ts_0 hn (Or.inr (Or.inr ⟨ht, Or.inl ⟨e, hs, Or.inl h⟩⟩))
  · by_cases q : t = 5
    · obtain ⟨V, h1, h2⟩ := h' q
      exact ty_mk h1 hn (Or.inr (Or.inr ⟨ht, Or.inl ⟨e, hs, Or.inr ⟨h, fun _ => h2⟩⟩⟩))
    · exact ty_mk ts_0 hn (Or.inr (Or.inr ⟨ht, Or.inl ⟨e, hs, Or.inr ⟨h, fun r => absurd r q⟩⟩⟩))
/-- an array's inside, as it was checked -/
def AvC (ta na ma : Nat → Nat → Int32) (n : Int32) (size : Int) : Prop := (ma 22 n.toNatClampNeg).toInt = 0 ∨ ((ma 22 n.toNatClampNeg).toInt = 2 ∧ ∃ m : Nat, RwL na m (ma 18 n.toNatClampNeg) ∧ (m : Int) ≤ size) ∨ ((ma 22 n.toNatClampNeg).toInt = 3 ∧ wh ta (ma 19 n.toNatClampNeg) + 1 ≤ size)
theorem tyv_2 (hn : lo ≤ n.toInt ∧ n.toInt < hi ∧ 0 ≤ n.toInt) (ht : t = 5 ∨ t = 6) (e : 0 ≤ (na 17 n.toNatClampNeg).toInt) (hs : SyA G.ca G.ns G.ys (ma 20 n.toNatClampNeg)) (h3 : (G.ca 49 (ma 20 n.toNatClampNeg).toNatClampNeg).toInt ≤ 3) (h : AvC G.ta na ma n (G.ca 52 (ma 20 n.toNatClampNeg).toNatClampNeg).toInt) : TyE G na ma lo hi n t := ty_mk ts_0 hn (Or.inr (Or.inr ⟨ht, Or.inr ⟨e, hs, h3, h⟩⟩))
end TY2
theorem SyR.eq {ca : Nat → Nat → Int32} {ys ns cells tx ns' cells' : Int} (h : SyR ca ys ns cells tx) (e : ns = ns') (e2 : cells = cells') : SyR ca ys ns' cells' tx := e ▸ e2 ▸ h
theorem OcV.get {P : Int → Int → Int → Int32 → Prop} {lo hi w : Int} {k : Int32} (h : OcV P lo hi w k) (h0 : 0 ≤ k.toInt) : P lo hi w k := h.elim (fun q => absurd q.1 (by first | with_reducible rfl | with_reducible assumption | omega)) id
theorem ScV.kd {ta : Nat → Nat → Int32} {c : Int} {na ma : Nat → Nat → Int32} {d : Nat} {lo hi w : Int} {n z : Int32} (h : ScV ta c na ma d lo hi w n) (e : z = na 14 n.toNatClampNeg) : z.toInt = (na 14 n.toNatClampNeg).toInt ∧ 20 ≤ z.toInt ∧ z.toInt ≤ 33 := by rw [e]; exact ⟨rfl, h.kind.2.1⟩
theorem ScV.tok {ta : Nat → Nat → Int32} {c : Int} {na ma : Nat → Nat → Int32} {d : Nat} {lo hi w : Int} {n z : Int32} (h : ScV ta c na ma d lo hi w n) (e : z = na 15 n.toNatClampNeg) : 0 ≤ z.toInt ∧ z.toInt < c := by rw [e]; exact h.kind.2.2
theorem VcV.tok {ta : Nat → Nat → Int32} {c : Int} {na ma : Nat → Nat → Int32} {d : Nat} {lo hi w : Int} {n z : Int32} (h : VcV ta c na ma d lo hi w n) (e : z = na 15 n.toNatClampNeg) : 0 ≤ z.toInt ∧ z.toInt < c := by rw [e]; exact h.kind.2
/-- a row that is checked to its end -/
def ZTw (cf : Nat → Int32) (ta ca na ma0 : Nat → Nat → Int32) (ns ys nf : Int) (ma : Nat → Nat → Int32) (lo hi : Int) (z : Int32) (t : Nat) : Prop := Zr cf (∃ k : Int32, k.toInt < 0 ∧ TyR (Gk ta ca na ma0 ns ys nf) na ma lo hi z k t)
theorem ZTs.w {cf cf' : Nat → Int32} {ta ca na ma0 : Nat → Nat → Int32} {ns ns' ys nf : Int} {ma : Nat → Nat → Int32} {lo hi lo' hi' : Int} {z k : Int32} {t t' : Nat} (h : ZTs cf ta ca na ma0 ns ys nf ma lo hi z k t) (hk : k.toInt < 0) (hz : (cf' 30).toInt = 0 → (cf 30).toInt = 0) (e : ns = ns') (h1 : lo' ≤ lo) (h2 : hi ≤ hi') (et : t = t') : ZTw cf' ta ca na ma0 ns' ys nf ma lo' hi' z t' := by
  subst e; subst et
  exact fun q => ⟨k, hk, (h (hz q)).le h1 h2⟩
/-- an expression alone -/
def ZT0 (cf : Nat → Int32) (G : Gm) (na ma : Nat → Nat → Int32) (lo hi : Int) (n : Int32) : Prop := Zr cf (TyE G na ma lo hi n 0)
theorem zt0_mk {cf : Nat → Int32} {G : Gm} {na ma : Nat → Nat → Int32} {lo hi : Int} {n : Int32} {v : Int} (h : ZTy cf G na ma lo hi n v) (hv : v ≠ 2 ∧ v ≠ 3) : ZT0 cf G na ma lo hi n := fun z => by
  rcases h z with g | g
  · have := g.1; omega
  · exact g.2
def ZAv (cf : Nat → Int32) (ta na ma : Nat → Nat → Int32) (n : Int32) (size : Int) : Prop := Zr cf (AvC ta na ma n size)
/-! VARIABLES -/
theorem i_div4 {x z : Int32} (e : z = x / 4) (h : 0 ≤ x.toInt) : z.toInt = x.toInt / 4 := by
  subst e
  rw [Int32.toInt_div_of_ne_right _ _ (by decide)]
  rw [show (4 : Int32).toInt = 4 from rfl, Int.tdiv_eq_ediv_of_nonneg h]
section VA
variable {ta : Nat → Nat → Int32} {c : Int} {na ma0 ma ma' : Nat → Nat → Int32} {d : Nat} {lo hi w : Int} {n z : Int32} {cf cf' : Nat → Int32}
theorem VcV.v10 (h : VcV ta c na ma0 d lo hi w n) (k : (na 17 n.toNatClampNeg).toInt < 0) : 0 ≤ (ma0 22 n.toNatClampNeg).toInt ∧ (ma0 22 n.toNatClampNeg).toInt ≤ 1 := by
  rcases h.v1 k rfl with g | g
  · omega
  · have := g.1; omega
theorem VcV.v11 {y : Int32} (h : VcV ta c na ma0 d lo hi w n) (k : (na 17 n.toNatClampNeg).toInt < 0) (k2 : (ma0 22 n.toNatClampNeg).toInt = 1) (e : y = ma0 18 n.toNatClampNeg) : ErV ta c na ma0 d (n.toInt + 1) hi (w - 6) y := by
  rcases h.v1 k e with g | g
  · omega
  · exact g.2
/-- an array's inside -/
def AvW (ta : Nat → Nat → Int32) (c : Int) (na ma : Nat → Nat → Int32) (d : Nat) (n : Int32) (m1 hi wa w : Int) : Prop := (((ma 22 n.toNatClampNeg).toInt = 0 ∧ wa + 6 ≤ w) ∨ ((ma 22 n.toNatClampNeg).toInt = 2 ∧ (∃ wr : Int, RvE na (fun l h v x => ErV ta c na ma d l h (v - 3) x) m1 hi wr (ma 18 n.toNatClampNeg) ∧ wa + wr + 6 ≤ w) ∧ 0 ≤ (ma 19 n.toNatClampNeg).toInt ∧ (ma 19 n.toNatClampNeg).toInt < c) ∨ ((ma 22 n.toNatClampNeg).toInt = 3 ∧ 0 ≤ (ma 19 n.toNatClampNeg).toInt ∧ (ma 19 n.toNatClampNeg).toInt < c ∧ so ta (ma 19 n.toNatClampNeg) = 4 ∧ wa + 3 * sz ta (ma 19 n.toNatClampNeg) + 6 ≤ w))
theorem VcV.v3 (h : VcV ta c na ma0 d lo hi w n) (k : 0 ≤ (na 17 n.toNatClampNeg).toInt) (e : z = na 17 n.toNatClampNeg) : ∃ m1 wa : Int, n.toInt < m1 ∧ m1 ≤ hi ∧ ErV ta c na ma0 d (n.toInt + 1) m1 wa z ∧ 0 ≤ wa ∧ AvW ta c na ma0 d n m1 hi wa w := h.v2 k e
theorem AvW.k2 {m1 wa : Int} (h : AvW ta c na ma0 d n m1 hi wa w) (k : (ma0 22 n.toNatClampNeg).toInt = 2) : (∃ wr : Int, RvE na (fun l h v x => ErV ta c na ma0 d l h (v - 3) x) m1 hi wr (ma0 18 n.toNatClampNeg) ∧ wa + wr + 6 ≤ w) ∧ 0 ≤ (ma0 19 n.toNatClampNeg).toInt ∧ (ma0 19 n.toNatClampNeg).toInt < c := by
  rcases h with h | h | h
  · omega
  · exact h.2
  · omega
theorem AvW.k3 {m1 wa : Int} (h : AvW ta c na ma0 d n m1 hi wa w) (k : (ma0 22 n.toNatClampNeg).toInt = 3) : 0 ≤ (ma0 19 n.toNatClampNeg).toInt ∧ (ma0 19 n.toNatClampNeg).toInt < c ∧ so ta (ma0 19 n.toNatClampNeg) = 4 := by
  rcases h with h | h | h
  · omega
  · omega
  · exact ⟨h.2.1, h.2.2.1, h.2.2.2.1⟩
theorem AvW.k0 {m1 wa : Int} (h : AvW ta c na ma0 d n m1 hi wa w) : (ma0 22 n.toNatClampNeg).toInt = 0 ∨ (ma0 22 n.toNatClampNeg).toInt = 2 ∨ (ma0 22 n.toNatClampNeg).toInt = 3 := by
  rcases h with h | h | h
  · exact Or.inl h.1
  · exact Or.inr (Or.inl h.1)
  · exact Or.inr (Or.inr h.1)
theorem Ann.v18 {x : Nat} (h : Ann na ma0 ma) (k : (na 14 x).toInt = 40 ∨ (na 14 x).toInt = 41) : ma 18 x = ma0 18 x := (h x).1 (by first | with_reducible rfl | with_reducible assumption | omega) (by first | with_reducible rfl | with_reducible assumption | omega) (by first | with_reducible rfl | with_reducible assumption | omega) (by first | with_reducible rfl | with_reducible assumption | omega) (by first | with_reducible rfl | with_reducible assumption | omega) (by first | with_reducible rfl | with_reducible assumption | omega)
theorem Ann.v19 {x : Nat} (h : Ann na ma0 ma) (k : 40 ≤ (na 14 x).toInt) : ma 19 x = ma0 19 x := (h x).2.1 (by first | with_reducible rfl | with_reducible assumption | omega) (by first | with_reducible rfl | with_reducible assumption | omega) (by first | with_reducible rfl | with_reducible assumption | omega)
theorem Ann.v22 {x : Nat} (h : Ann na ma0 ma) (k : (na 14 x).toInt ≠ 29) : ma 22 x = ma0 22 x := (h x).2.2.2 k
/-- so many were looked at -/
def RlC (na : Nat → Nat → Int32) (z k : Int32) (m : Int) : Prop := SgV na (fun _ => True) m.toNat z k
theorem rlc_0 : RlC na z z 0 := rfl
theorem RlC.nx {k k' : Int32} {m m' : Int} (h : RlC na z k m) (h0 : 0 ≤ k.toInt) (hm : 0 ≤ m) (e : k' = na 21 k.toNatClampNeg) (em : m' = m + 1) : RlC na z k' m' := by
  have q := SgV.app h h0 trivial e
  unfold RlC
  rw [show m'.toNat = m.toNat + 1 by omega]; exact q
def RvI (ta : Nat → Nat → Int32) (c : Int) (na ma0 : Nat → Nat → Int32) (d : Nat) (lo hi w : Int) (k : Int32) : Prop := RvE na (fun l h v x => ErV ta c na ma0 d l h (v - 3) x) lo hi w k
def RvV (ta : Nat → Nat → Int32) (c : Int) (na ma0 : Nat → Nat → Int32) (d : Nat) (lo hi w : Int) (k : Int32) : Prop := RvE na (fun l h v x => VcV ta c na ma0 d l h v x) lo hi w k
theorem zav_0 {s : Int} (a : Ann na ma0 ma) (hk : (na 14 n.toNatClampNeg).toInt ≠ 29) (h : (ma0 22 n.toNatClampNeg).toInt = 0) : ZAv cf ta na ma n s := fun _ => Or.inl (by rw [a.v22 hk]; exact h)
theorem zav_2 {s m : Int} {k : Int32} (a : Ann na ma0 ma) (hk : (na 14 n.toNatClampNeg).toInt = 40) (h : (ma0 22 n.toNatClampNeg).toInt = 2) (r : RlC na (ma0 18 n.toNatClampNeg) k m) (h0 : k.toInt < 0) (hm : 0 ≤ m) (hs : m ≤ s) : ZAv cf ta na ma n s := fun _ => Or.inr (Or.inl ⟨by rw [a.v22 (by first | with_reducible rfl | with_reducible assumption | omega)]; exact h, m.toNat, by rw [a.v18 (Or.inl hk)]; exact SgV.len r h0, by first | with_reducible rfl | with_reducible assumption | omega⟩)
theorem zav_3 {s : Int} {t : Int32} (a : Ann na ma0 ma) (hk : (na 14 n.toNatClampNeg).toInt = 40) (h : (ma0 22 n.toNatClampNeg).toInt = 3) (e : t = ma0 19 n.toNatClampNeg) (hs : wh ta t + 1 ≤ s) : ZAv cf ta na ma n s := fun _ => Or.inr (Or.inr ⟨by rw [a.v22 (by first | with_reducible rfl | with_reducible assumption | omega)]; exact h, by rw [a.v19 (by first | with_reducible rfl | with_reducible assumption | omega), ← e]; exact hs⟩)
/-- an array's inside stands while its node's symbol is written -/
theorem ZAv.to {s : Int} (h : ZAv cf ta na ma n s) (hz : (cf' 30).toInt = 0 → (cf 30).toInt = 0) (a : Ann na ma0 ma) (a' : Ann na ma0 ma') (hk : (na 14 n.toNatClampNeg).toInt = 40) : Zr cf' (AvC ta na ma' n s) := fun q => by
  have g := h (hz q)
  unfold AvC at g ⊢
  rw [a'.v22 (by first | with_reducible rfl | with_reducible assumption | omega), a'.v18 (Or.inl hk), a'.v19 (by first | with_reducible rfl | with_reducible assumption | omega), ← a.v22 (show (na 14 n.toNatClampNeg).toInt ≠ 29 by omega), ← a.v18 (Or.inl hk), ← a.v19 (show 40 ≤ (na 14 n.toNatClampNeg).toInt by omega)]
  exact g
end VA
theorem ZAvF {cf : Nat → Int32} {ta na ma : Nat → Nat → Int32} {n : Int32} {s : Int} {v : Int32} (h : ZAv cf ta na ma n s) : ZAv (upd cf 58 v) ta na ma n s := fun q => h (by rw [pk_un (by decide)] at q; exact q)
theorem WrV.eq {cf cf' : Nat → Int32} {c : Int} (h : WrV cf c) (e : (cf' 30).toInt = (cf 30).toInt) (e2 : (cf' 31).toInt = (cf 31).toInt) : WrV cf' c := by
  unfold WrV; rw [e, e2]; exact h
/-! STATEMENTS that are checked -/
def RvS (ta : Nat → Nat → Int32) (c : Int) (na ma0 : Nat → Nat → Int32) (d : Nat) (lo hi w : Int) (k : Int32) : Prop := RvE na (fun l h v x => ScV ta c na ma0 d l h v x) lo hi w k
def RlD (na : Nat → Nat → Int32) (z k : Int32) (m : Int) : Prop := SgV na (fun x => (x : Int) < 2100) m.toNat z k
section SB
variable {ta : Nat → Nat → Int32} {c : Int} {na ma0 ma : Nat → Nat → Int32} {d : Nat} {lo hi w : Int} {n z k : Int32}
theorem rld_0 : RlD na z z 0 := rfl
theorem RlD.nx {k' : Int32} {m m' : Int} (h : RlD na z k m) (h0 : 0 ≤ k.toInt) (h1 : k.toInt < 2100) (hm : 0 ≤ m) (e : k' = na 21 k.toNatClampNeg) (em : m' = m + 1) : RlD na z k' m' := by
  have hc := cl_nat h0
  have q := SgV.app h h0 (show (k.toNatClampNeg : Int) < 2100 by omega) e
  unfold RlD
  rw [show m'.toNat = m.toNat + 1 by omega]; exact q
theorem RlD.go {m : Int} (h : RlD na z k m) (hm : 0 ≤ m) (hne : z.toInt ≠ k.toInt) : 1 ≤ m ∧ 0 ≤ z.toInt ∧ z.toInt < 2100 ∧ RlD na (na 21 z.toNatClampNeg) k (m - 1) := by
  unfold RlD at h ⊢
  by_cases q : m = 0
  · subst q
    have h : z = k := h
    exact absurd (by rw [h]) hne
  · rw [show m.toNat = (m - 1).toNat + 1 by omega] at h
    have hc := cl_nat h.1.1
    exact ⟨by first | with_reducible rfl | with_reducible assumption | omega, h.1.1, by have := h.1.2; omega, h.2⟩
theorem ErV.md (h : ErV ta c na ma d lo hi w n) : ErV ta c na ma (d + 1) lo hi w n := by
  obtain ⟨h0, l, hh, v, h1, h2, h3, h4⟩ := h
  exact ⟨h0, l, hh, v, h1, h2, h3, h4.wid (by first | with_reducible rfl | with_reducible assumption | omega) (Nat.le_refl _) (Nat.le_refl _) (Nat.le_refl _)⟩
theorem ScV.t29 (h : ScV ta c na ma d lo hi w n) (k : (na 14 n.toNatClampNeg).toInt = 29) (e : z = na 17 n.toNatClampNeg) : ErV ta c na ma d (n.toInt + 1) hi (w - 1) z := by
  cases d with
  | zero => exact (sc_0 h).elim
  | succ d => exact (h.s29 k e).md
theorem Ann.b20 {x : Nat} (h : Ann na ma0 ma) (k2 : (na 14 x).toInt = 27) (k : 0 ≤ (ma0 20 x).toInt) : ma 20 x = ma0 20 x := (h x).2.2.1 (by first | with_reducible rfl | with_reducible assumption | omega) k
end SB
section ZO
variable {cf cf' : Nat → Int32} {ta ca na ma0 : Nat → Nat → Int32} {ns ns' ys nf : Int} {ma : Nat → Nat → Int32} {lo hi lo' hi' : Int} {z : Int32} {t t' : Nat}
theorem ZTe.ot (h : ZTe cf ta ca na ma0 ns ys nf ma lo hi z t) (q : (cf 30).toInt = 0) (e : ns = ns') (h1 : lo' ≤ lo) (h2 : hi ≤ hi') (et : t = t') : OtE (Gk ta ca na ma0 ns' ys nf) na ma lo' hi' z t' := by
  subst e; subst et; exact Or.inr ((h q).le h1 h2)
theorem ZTe.at (h : ZTe cf ta ca na ma0 ns ys nf ma lo hi z t) (q : (cf 30).toInt = 0) (e : ns = ns') (h1 : lo' ≤ lo) (h2 : hi ≤ hi') (et : t = t') : TyE (Gk ta ca na ma0 ns' ys nf) na ma lo' hi' z t' := by
  subst e; subst et; exact (h q).le h1 h2
theorem ZTw.at (h : ZTw cf ta ca na ma0 ns ys nf ma lo hi z t) (q : (cf 30).toInt = 0) (e : ns = ns') (h1 : lo' ≤ lo) (h2 : hi ≤ hi') (et : t = t') : ∃ k : Int32, k.toInt < 0 ∧ TyR (Gk ta ca na ma0 ns' ys nf) na ma lo' hi' z k t' := by
  subst e; subst et
  obtain ⟨k, h1', h2'⟩ := h q
  exact ⟨k, h1', h2'.le h1 h2⟩
theorem ZTs.at {k : Int32} (h : ZTs cf ta ca na ma0 ns ys nf ma lo hi z k t) (q : (cf 30).toInt = 0) (e : ns = ns') (h1 : lo' ≤ lo) (h2 : hi ≤ hi') (et : t = t') : TyR (Gk ta ca na ma0 ns' ys nf) na ma lo' hi' z k t' := by
  subst e; subst et; exact (h q).le h1 h2
/-- a row that is checked, as it stands -/
theorem ZTw.tr {ca' ma' : Nat → Nat → Int32} {a b kn nsb : Int} (h : ZTw cf ta ca na ma0 ns ys nf ma lo hi z t) (hz : (cf' 30).toInt = 0 → (cf 30).toInt = 0) (f : FrC a b ma ma') (hd : hi ≤ a ∨ b ≤ lo) (g : CaG ca ca' kn nsb) (h1 : ns ≤ nsb) (h2 : ns ≤ ns') : ZTw cf' ta ca' na ma0 ns' ys nf ma' lo hi z t := fun q => (h (hz q)).elim fun k r => ⟨k, r.1, (r.2.fr f hd).g (gml_ca g h1 h2)⟩
theorem ZTw.to (h : ZTw cf ta ca na ma0 ns ys nf ma lo hi z t) (hz : (cf' 30).toInt = 0 → (cf 30).toInt = 0) (e : ns = ns') (h1 : lo' ≤ lo) (h2 : hi ≤ hi') (et : t = t') : ZTw cf' ta ca na ma0 ns' ys nf ma lo' hi' z t' := by
  subst e; subst et
  exact fun q => (h (hz q)).elim fun k r => ⟨k, r.1, r.2.le h1 h2⟩
end ZO
def RlE (na : Nat → Nat → Int32) (z k : Int32) (m : Int) : Prop := RlD na z k m
theorem tgv_sw {a b A B : Int} (h : 0 < b) (ea : a = A) (eb : b = B + 1) : tgv a b = if tgv A B = 4 then 4 else 3 := by
  subst ea
  rw [tgv_3 h, show b - 1 = B by omega]
theorem tsw_rng {t : Nat} : 2 ≤ (if t = 4 then 4 else 3) ∧ (if t = 4 then 4 else 3) ≤ 4 := by
  by_cases h : t = 4
  · rw [if_pos h]; decide
  · rw [if_neg h]; decide
theorem tgv_ge {a b : Int} (h : 0 < a ∨ 0 < b) : 3 ≤ tgv a b := by
  unfold tgv
  by_cases k : 0 < a
  · rw [if_pos k]; decide
  · rw [if_neg k, if_pos (by first | with_reducible rfl | with_reducible assumption | omega)]; decide
/-! HOW MUCH an expression lays upon the stack of numbers -/
def HaR (na : Nat → Nat → Int32) (P : Int32 → Int → Prop) (L : Nat → Int) : Nat → Nat → Int → Int32 → Int → Prop
  | 0 => fun _ before e b => e.toInt < 0 ∧ before ≤ b
  | m + 1 => fun k before e b => (e.toInt < 0 ∧ before ≤ b) ∨ (0 ≤ e.toInt ∧ (L k = 105 → P e (b - before)) ∧ (L k ≠ 105 → before + 2 ≤ b) ∧ HaR na P L m (k + 1) (before + if L k = 105 then 1 else 2) (na 21 e.toNatClampNeg) b)
def HgB (na ma0 ma : Nat → Nat → Int32) (L : Int → Nat → Int) : Nat → Int32 → Int → Prop
  | 0 => fun _ _ => False
  | d + 1 => fun n b => 1 ≤ b ∧ ((na 14 n.toNatClampNeg).toInt = 1 ∨ (na 14 n.toNatClampNeg).toInt = 2 ∨
      ((na 14 n.toNatClampNeg).toInt = 3 ∧ ∃ m, HaR na (HgB na ma0 ma L d) (L (ma 18 n.toNatClampNeg).toInt) m 0 0 (na 17 n.toNatClampNeg) b) ∨
      (4 ≤ (na 14 n.toNatClampNeg).toInt ∧ (na 14 n.toNatClampNeg).toInt ≤ 6 ∧ HgB na ma0 ma L d (na 17 n.toNatClampNeg) b) ∨
      ((na 14 n.toNatClampNeg).toInt = 7 ∧ HgB na ma0 ma L d (na 17 n.toNatClampNeg) b ∧ ∃ m, RwI na (fun e => HgB na ma0 ma L d e (b - 1)) m (na 21 (na 17 n.toNatClampNeg).toNatClampNeg)) ∨
      ((na 14 n.toNatClampNeg).toInt = 8 ∧ HgB na ma0 ma L d (na 17 n.toNatClampNeg) b ∧ HgB na ma0 ma L d (ma0 18 n.toNatClampNeg) b ∧ HgB na ma0 ma L d (ma0 19 n.toNatClampNeg) b) ∨
      ((na 14 n.toNatClampNeg).toInt = 9 ∧ (na 14 (na 17 n.toNatClampNeg).toNatClampNeg).toInt ≠ 4 ∧ HgB na ma0 ma L d (ma0 18 n.toNatClampNeg) b) ∨
      ((na 14 n.toNatClampNeg).toInt = 9 ∧ (na 14 (na 17 n.toNatClampNeg).toNatClampNeg).toInt = 4 ∧ HgB na ma0 ma L d (ma0 18 n.toNatClampNeg) (b - 1) ∧ HgB na ma0 ma L d (na 17 (na 17 n.toNatClampNeg).toNatClampNeg) b))
section HG
variable {na ma0 ma : Nat → Nat → Int32} {L : Int → Nat → Int}
theorem HaR.mono {P P' : Int32 → Int → Prop} {l : Nat → Int} : ∀ {m k : Nat} {before b b' : Int} {e : Int32}, HaR na P l m k before e b → b ≤ b' → (∀ x c c', c ≤ c' → P x c → P' x c') → HaR na P' l m k before e b'
  | 0, _, _, _, _, _, h, hb, _ => ⟨h.1, by have := h.2; omega⟩
  | m + 1, k, before, b, b', e, h, hb, hP => by
    rcases h with h | ⟨h1, h2, h3, h4⟩
    · exact Or.inl ⟨h.1, by have := h.2; omega⟩
    · exact Or.inr ⟨h1, fun q => hP _ _ _ (by first | with_reducible rfl | with_reducible assumption | omega) (h2 q), fun q => by have := h3 q; omega, HaR.mono h4 hb hP⟩
theorem RwI.mono {P P' : Int32 → Prop} (h : ∀ e, P e → P' e) : ∀ {m : Nat} {e : Int32}, RwI na P m e → RwI na P' m e
  | 0, _, g => g
  | _ + 1, _, g => g.imp id (fun q => ⟨h _ q.1, RwI.mono h q.2⟩)
theorem HgB.mono : ∀ {d : Nat} {n : Int32} {b b' : Int}, HgB na ma0 ma L d n b → b ≤ b' → HgB na ma0 ma L d n b'
  | 0, _, _, _, h, _ => h.elim
  | d + 1, n, b, b', h, hb => by
    obtain ⟨h0, h⟩ := h
    refine ⟨by first | with_reducible rfl | with_reducible assumption | omega, ?_⟩
    rcases h with h | h | ⟨h, m, h1⟩ | ⟨h, h', h1⟩ | ⟨h, h1, m, h2⟩ | ⟨h, h1, h2, h3⟩ | ⟨h, h1, h2⟩ | ⟨h, h1, h2, h3⟩
    · exact Or.inl h
    · exact Or.inr (Or.inl h)
    · exact Or.inr (Or.inr (Or.inl ⟨h, m, h1.mono hb (fun x c c' hc q => q.mono hc)⟩))
    · exact Or.inr (Or.inr (Or.inr (Or.inl ⟨h, h', h1.mono hb⟩)))
    · exact Or.inr (Or.inr (Or.inr (Or.inr (Or.inl ⟨h, h1.mono hb, m, h2.mono (fun e q => q.mono (by first | with_reducible rfl | with_reducible assumption | omega))⟩))))
    · exact Or.inr (Or.inr (Or.inr (Or.inr (Or.inr (Or.inl ⟨h, h1.mono hb, h2.mono hb, h3.mono hb⟩)))))
    · exact Or.inr (Or.inr (Or.inr (Or.inr (Or.inr (Or.inr (Or.inl ⟨h, h1, h2.mono hb⟩))))))
    · exact Or.inr (Or.inr (Or.inr (Or.inr (Or.inr (Or.inr (Or.inr ⟨h, h1, h2.mono (by first | with_reducible rfl | with_reducible assumption | omega), h3.mono hb⟩))))))
theorem HaR.im {P P' : Int32 → Int → Prop} {l : Nat → Int} (hP : ∀ x c, P x c → P' x c) : ∀ {m k : Nat} {before b : Int} {e : Int32}, HaR na P l m k before e b → HaR na P' l m k before e b
  | 0, _, _, _, _, h => h
  | _ + 1, _, _, _, _, h => h.imp id (fun q => ⟨q.1, fun r => hP _ _ (q.2.1 r), q.2.2.1, HaR.im hP q.2.2.2⟩)
theorem HgB.up : ∀ {d : Nat} {n : Int32} {b : Int}, HgB na ma0 ma L d n b → HgB na ma0 ma L (d + 1) n b
  | 0, _, _, h => h.elim
  | d + 1, n, b, h => by
    obtain ⟨h0, h⟩ := h
    refine ⟨h0, ?_⟩
    rcases h with h | h | ⟨h, m, h1⟩ | ⟨h, h', h1⟩ | ⟨h, h1, m, h2⟩ | ⟨h, h1, h2, h3⟩ | ⟨h, h1, h2⟩ | ⟨h, h1, h2, h3⟩
    · exact Or.inl h
    · exact Or.inr (Or.inl h)
    · exact Or.inr (Or.inr (Or.inl ⟨h, m, h1.im (fun x c q => q.up)⟩))
    · exact Or.inr (Or.inr (Or.inr (Or.inl ⟨h, h', h1.up⟩)))
    · exact Or.inr (Or.inr (Or.inr (Or.inr (Or.inl ⟨h, h1.up, m, h2.mono (fun e q => q.up)⟩))))
    · exact Or.inr (Or.inr (Or.inr (Or.inr (Or.inr (Or.inl ⟨h, h1.up, h2.up, h3.up⟩)))))
    · exact Or.inr (Or.inr (Or.inr (Or.inr (Or.inr (Or.inr (Or.inl ⟨h, h1, h2.up⟩))))))
    · exact Or.inr (Or.inr (Or.inr (Or.inr (Or.inr (Or.inr (Or.inr ⟨h, h1, h2.up, h3.up⟩))))))
end HG

/-- a stretch of arguments -/
def SgH (na : Nat → Nat → Int32) (P : Int32 → Int → Prop) (L : Nat → Int) : Nat → Nat → Int → Int32 → Nat → Int → Int32 → Int → Prop
  | 0 => fun k0 f0 z k f e _ => z = e ∧ f0 = f ∧ k0 = k
  | m + 1 => fun k0 f0 z k f e b => (0 ≤ z.toInt ∧ (L k0 = 105 → P z (b - f0)) ∧ (L k0 ≠ 105 → f0 + 2 ≤ b)) ∧ SgH na P L m (k0 + 1) (f0 + if L k0 = 105 then 1 else 2) (na 21 z.toNatClampNeg) k f e b
section SH
variable {na ma0 ma ca : Nat → Nat → Int32}
theorem SgH.mono {P : Int32 → Int → Prop} {L : Nat → Int} (hP : ∀ x c c', c ≤ c' → P x c → P x c') : ∀ {m k0 k : Nat} {f0 f b b' : Int} {z e : Int32}, SgH na P L m k0 f0 z k f e b → b ≤ b' → SgH na P L m k0 f0 z k f e b'
  | 0, _, _, _, _, _, _, _, _, h, _ => h
  | _ + 1, _, _, _, _, _, _, _, _, h, hb => ⟨⟨h.1.1, fun q => hP _ _ _ (by first | with_reducible rfl | with_reducible assumption | omega) (h.1.2.1 q), fun q => by have := h.1.2.2 q; omega⟩, SgH.mono hP h.2 hb⟩
theorem SgH.app {P : Int32 → Int → Prop} {L : Nat → Int} : ∀ {m k0 k : Nat} {f0 f b f' : Int} {z e e' : Int32}, SgH na P L m k0 f0 z k f e b → 0 ≤ e.toInt → (L k = 105 → P e (b - f)) → (L k ≠ 105 → f + 2 ≤ b) → f' = f + (if L k = 105 then 1 else 2) → e' = na 21 e.toNatClampNeg → SgH na P L (m + 1) k0 f0 z (k + 1) f' e' b
  | 0, k0, k, f0, f, b, f', z, e, e', h, h0, h1, h2, hf, he => by
    obtain ⟨rfl, rfl, rfl⟩ := h
    exact ⟨⟨h0, h1, h2⟩, he.symm, hf.symm, rfl⟩
  | _ + 1, _, _, _, _, _, _, _, _, _, h, h0, h1, h2, hf, he => ⟨h.1, SgH.app h.2 h0 h1 h2 hf he⟩
theorem SgH.fin {P : Int32 → Int → Prop} {L : Nat → Int} : ∀ {m k0 k : Nat} {f0 f b : Int} {z e : Int32}, SgH na P L m k0 f0 z k f e b → e.toInt < 0 → f ≤ b → HaR na P L m k0 f0 z b
  | 0, _, _, _, _, _, _, _, h, he, hf => by
    obtain ⟨rfl, rfl, rfl⟩ := h
    exact ⟨he, hf⟩
  | _ + 1, _, _, _, _, _, _, _, h, he, hf => Or.inr ⟨h.1.1, h.1.2.1, h.1.2.2, SgH.fin h.2 he hf⟩
/-- so far, in a call of code -/
def HaS (na ma0 ma ca : Nat → Nat → Int32) (d : Nat) (code : Int) (z : Int32) (k : Int) (f : Int) (e : Int32) (b : Int) : Prop := ∃ m, SgH na (HgB na ma0 ma (tkl na ma0 ca) d) (tkl na ma0 ca code) m 0 0 z k.toNat f e b
theorem has_0 {d : Nat} {code b : Int} {z : Int32} : HaS na ma0 ma ca d code z 0 0 z b := ⟨0, rfl, rfl, rfl⟩
theorem HaS.nx {d : Nat} {code b b' k k' f f' w v : Int} {z e e' : Int32} (h : HaS na ma0 ma ca d code z k f e b) (hb : b ≤ b') (h0 : 0 ≤ e.toInt) (hk : 0 ≤ k) (ek : k' = k + 1) (hw : w = tkl na ma0 ca code k.toNat) (h1 : w = 105 → HgB na ma0 ma (tkl na ma0 ca) d e v ∧ f + v ≤ b' ∧ f' = f + 1) (h2 : w ≠ 105 → f + 2 ≤ b' ∧ f' = f + 2) (he : e' = na 21 e.toNatClampNeg) : HaS na ma0 ma ca d code z k' f' e' b' := by
  obtain ⟨m, h⟩ := h
  have q := SgH.mono (P := HgB na ma0 ma (tkl na ma0 ca) d) (fun x c c' hc r => HgB.mono r hc) h hb
  refine ⟨m + 1, ?_⟩
  rw [show k'.toNat = k.toNat + 1 by omega]
  subst hw
  refine q.app h0 (fun r => (h1 r).1.mono (by have := (h1 r).2.1; omega)) (fun r => (h2 r).1) ?_ he
  by_cases r : tkl na ma0 ca code k.toNat = 105
  · rw [if_pos r]; exact (h1 r).2.2
  · rw [if_neg r]; exact (h2 r).2
end SH
/-! what a checked node tells of its kids -/
section LK
variable {G : Gm} {na ma : Nat → Nat → Int32} {V : Nat → Nat → Prop} {x : Nat} {lo hi : Int}
theorem Ts.e (s : Ts G na ma lo hi V) (h : V x 0) : LcE G na ma V x 0 := by
  rcases (s x 0 h).2 with g | g | g
  · exact g
  · exact absurd g.1.1 (by decide)
  · exact absurd g.1 (by decide)
theorem LcE.k3 (h : LcE G na ma V x 0) (k : (na 14 x).toInt = 3) : CeN G.nf (ma 18 x).toInt ∧ ∃ m, AgR na V (G.L (ma 18 x).toInt) m 0 (na 17 x) := by
  rcases h with h | ⟨-, h⟩
  · exact absurd h.1 (by decide)
  · rcases h with h | ⟨h, -⟩ | ⟨h, h1⟩ | ⟨h, -⟩ | ⟨h, -⟩ | ⟨h, -⟩ | ⟨h, -⟩ | ⟨h, -⟩ | ⟨h, -⟩ | ⟨h, -⟩
    all_goals first | exact absurd h (by first | with_reducible rfl | with_reducible assumption | omega) | skip
    exact h1
theorem LcE.k46 (h : LcE G na ma V x 0) (k : 4 ≤ (na 14 x).toInt ∧ (na 14 x).toInt ≤ 6) : V (na 17 x).toNatClampNeg 0 := by
  rcases h with h | ⟨-, h⟩
  · exact absurd h.1 (by decide)
  · rcases h with h | ⟨h, -⟩ | ⟨h, -⟩ | ⟨h, -, h1⟩ | ⟨h, -, h1⟩ | ⟨h, -, h1⟩ | ⟨h, h1⟩ | ⟨h, -⟩ | ⟨h, -⟩ | ⟨h, -⟩
    all_goals first | exact absurd h (by first | with_reducible rfl | with_reducible assumption | omega) | skip
    · exact h1
    · exact h1.1
    · exact h1
    · exact h1.1
theorem LcE.k7 (h : LcE G na ma V x 0) (k : (na 14 x).toInt = 7) : ∃ m, RwA na (fun y => V y 0) m (na 17 x) := by
  rcases h with h | ⟨-, h⟩
  · exact absurd h.1 (by decide)
  · rcases h with h | ⟨h, -⟩ | ⟨h, -⟩ | ⟨h, -⟩ | ⟨h, -⟩ | ⟨h, -⟩ | ⟨h, -⟩ | ⟨h, h1⟩ | ⟨h, -⟩ | ⟨h, -⟩
    all_goals first | exact absurd h (by first | with_reducible rfl | with_reducible assumption | omega) | skip
    exact h1
theorem LcE.k8 (h : LcE G na ma V x 0) (k : (na 14 x).toInt = 8) : V (na 17 x).toNatClampNeg 0 ∧ V (ma 18 x).toNatClampNeg 0 ∧ V (ma 19 x).toNatClampNeg 0 := by
  rcases h with h | ⟨-, h⟩
  · exact absurd h.1 (by decide)
  · rcases h with h | ⟨h, -⟩ | ⟨h, -⟩ | ⟨h, -⟩ | ⟨h, -⟩ | ⟨h, -⟩ | ⟨h, -⟩ | ⟨h, -⟩ | ⟨h, h1⟩ | ⟨h, -⟩
    all_goals first | exact absurd h (by first | with_reducible rfl | with_reducible assumption | omega) | skip
    exact h1
theorem LcE.k9 (h : LcE G na ma V x 0) (k : (na 14 x).toInt = 9) : PcT na ma V (na 17 x) ∧ V (ma 18 x).toNatClampNeg 0 := by
  rcases h with h | ⟨-, h⟩
  · exact absurd h.1 (by decide)
  · rcases h with h | ⟨h, -⟩ | ⟨h, -⟩ | ⟨h, -⟩ | ⟨h, -⟩ | ⟨h, -⟩ | ⟨h, -⟩ | ⟨h, -⟩ | ⟨h, -⟩ | ⟨h, h1⟩
    all_goals first | exact absurd h (by first | with_reducible rfl | with_reducible assumption | omega) | skip
    exact h1
/-- the arguments that are left -/
def AgV (na : Nat → Nat → Int32) (V : Nat → Nat → Prop) (L : Nat → Int) (k : Int) (e : Int32) : Prop := ∃ m, AgR na V L m k.toNat e
theorem AgV.go {L : Nat → Int} {k k' : Int} {e z : Int32} (h : AgV na V L k e) (h0 : 0 ≤ e.toInt) (hk : 0 ≤ k) (ek : k' = k + 1) (ez : z = na 21 e.toNatClampNeg) : L k.toNat ≠ 32 ∧ V e.toNatClampNeg (if L k.toNat = 105 then 0 else 1) ∧ AgV na V L k' z := by
  obtain ⟨m, h⟩ := h
  cases m with
  | zero => exact absurd h.1 (by first | with_reducible rfl | with_reducible assumption | omega)
  | succ m =>
    rcases h with h | ⟨h1, h2, h3, h4⟩
    · exact absurd h.1 (by first | with_reducible rfl | with_reducible assumption | omega)
    · exact ⟨h2, h3, m, by rw [show k'.toNat = k.toNat + 1 by omega, ez]; exact h4⟩
theorem AgV.v0 {L : Nat → Int} {k : Int} {e : Int32} (h : V e.toNatClampNeg (if L k.toNat = 105 then 0 else 1)) (w : L k.toNat = 105) : V e.toNatClampNeg 0 := by rw [if_pos w] at h; exact h
def RwV0 (na : Nat → Nat → Int32) (V : Nat → Nat → Prop) (t : Nat) (e : Int32) : Prop := ∃ m, RwA na (fun y => V y t) m e
theorem RwV0.go {t : Nat} {e z : Int32} (h : RwV0 na V t e) (h0 : 0 ≤ e.toInt) (ez : z = na 21 e.toNatClampNeg) : V e.toNatClampNeg t ∧ RwV0 na V t z := by
  obtain ⟨m, h⟩ := h
  cases m with
  | zero => exact absurd h (by show ¬ e.toInt < 0; omega)
  | succ m =>
    rcases h with h | ⟨h1, h2⟩
    · exact absurd h (by first | with_reducible rfl | with_reducible assumption | omega)
    · exact ⟨h1, m, by rw [ez]; exact h2⟩
end LK
theorem EcV.k4d {ta : Nat → Nat → Int32} {c : Int} {na ma0 : Nat → Nat → Int32} {d : Nat} {lo hi : Int} {n z : Int32} (h : EcV ta c na ma0 d lo hi n) (k : (na 14 n.toNatClampNeg).toInt = 4) (e : z = na 17 n.toNatClampNeg) : EcV ta c na ma0 d (n.toInt + 1) hi z := by
  cases d with
  | zero => exact (ec_0 h).elim
  | succ d => exact (h.k4 k e).le (by first | with_reducible rfl | with_reducible assumption | omega) (Int.le_refl _) (Int.le_refl _)
/-- the rest of a chain -/
def HgS (na ma0 ma ca : Nat → Nat → Int32) (d : Nat) (z k : Int32) (b : Int) : Prop := ∃ m, SgI na (fun e => HgB na ma0 ma (tkl na ma0 ca) d e (b - 1)) m z k
theorem SgI.mono {na : Nat → Nat → Int32} {P P' : Int32 → Prop} (h : ∀ e, P e → P' e) : ∀ {m : Nat} {z k : Int32}, SgI na P m z k → SgI na P' m z k
  | 0, _, _, g => g
  | _ + 1, _, _, g => ⟨h _ g.1, SgI.mono h g.2⟩
theorem HgS.nx {na ma0 ma ca : Nat → Nat → Int32} {d : Nat} {z k k' : Int32} {b b' v : Int} (h : HgS na ma0 ma ca d z k b) (hb : b ≤ b') (q : HgB na ma0 ma (tkl na ma0 ca) d k v) (hv : v + 1 ≤ b') (e : k' = na 21 k.toNatClampNeg) : HgS na ma0 ma ca d z k' b' := by
  obtain ⟨m, h⟩ := h
  exact ⟨m + 1, (h.mono (fun e r => r.mono (by first | with_reducible rfl | with_reducible assumption | omega))).app (q.mono (by first | with_reducible rfl | with_reducible assumption | omega)) e⟩
/-! HOW MUCH a statement lays upon the stack of numbers -/
def HgO (na ma0 ma : Nat → Nat → Int32) (L : Int → Nat → Int) (d : Nat) (z : Int32) (b : Int) : Prop := z.toInt < 0 ∨ HgB na ma0 ma L d z b
def HvB (na ma0 ma : Nat → Nat → Int32) (L : Int → Nat → Int) (d : Nat) (b : Int) (v : Int32) : Prop := (ma0 22 v.toNatClampNeg).toInt = 1 → 0 ≤ (na 17 v.toNatClampNeg).toInt ∨ HgB na ma0 ma L d (ma0 18 v.toNatClampNeg) b
def HsB (na ma0 ma : Nat → Nat → Int32) (L : Int → Nat → Int) : Nat → Int32 → Int → Prop
  | 0 => fun _ _ => False
  | d + 1 => fun n b => ((na 14 n.toNatClampNeg).toInt = 21 ∨ (29 ≤ (na 14 n.toNatClampNeg).toInt ∧ (na 14 n.toNatClampNeg).toInt ≤ 32)) ∨
      ((na 14 n.toNatClampNeg).toInt = 20 ∧ ∃ m, RwI na (fun e => HsB na ma0 ma L d e b) m (na 17 n.toNatClampNeg)) ∨
      (((na 14 n.toNatClampNeg).toInt = 22 ∨ (na 14 n.toNatClampNeg).toInt = 33) ∧ HgO na ma0 ma L d (na 17 n.toNatClampNeg) b) ∨
      ((na 14 n.toNatClampNeg).toInt = 23 ∧ ∃ m, RwI na (HvB na ma0 ma L d b) m (na 17 n.toNatClampNeg)) ∨
      ((24 ≤ (na 14 n.toNatClampNeg).toInt ∧ (na 14 n.toNatClampNeg).toInt ≤ 26) ∧ HgO na ma0 ma L d (na 17 n.toNatClampNeg) b ∧ HsB na ma0 ma L d (ma0 18 n.toNatClampNeg) b ∧ ((ma0 19 n.toNatClampNeg).toInt < 0 ∨ HsB na ma0 ma L d (ma0 19 n.toNatClampNeg) b)) ∨
      ((na 14 n.toNatClampNeg).toInt = 27 ∧ ((na 17 n.toNatClampNeg).toInt < 0 ∨ HsB na ma0 ma L d (na 17 n.toNatClampNeg) b) ∧ HgO na ma0 ma L d (ma0 18 n.toNatClampNeg) b ∧ HgO na ma0 ma L d (ma0 19 n.toNatClampNeg) b ∧ HsB na ma0 ma L d (ma0 20 n.toNatClampNeg) b) ∨
      ((na 14 n.toNatClampNeg).toInt = 28 ∧ HgO na ma0 ma L d (na 17 n.toNatClampNeg) b ∧ ∃ m, RwI na (fun e => HsB na ma0 ma L d e b) m (ma0 18 n.toNatClampNeg))
section HS
variable {na ma0 ma : Nat → Nat → Int32} {L : Int → Nat → Int}
theorem HgO.mono {d : Nat} {z : Int32} {b b' : Int} (h : HgO na ma0 ma L d z b) (hb : b ≤ b') : HgO na ma0 ma L d z b' := h.imp id (fun q => q.mono hb)
theorem HvB.mono {d : Nat} {v : Int32} {b b' : Int} (h : HvB na ma0 ma L d b v) (hb : b ≤ b') : HvB na ma0 ma L d b' v := fun q => (h q).imp id (fun r => r.mono hb)
theorem HsB.mono : ∀ {d : Nat} {n : Int32} {b b' : Int}, HsB na ma0 ma L d n b → b ≤ b' → HsB na ma0 ma L d n b'
  | 0, _, _, _, h, _ => h.elim
  | d + 1, n, b, b', h, hb => by
    rcases h with h | ⟨h, m, h1⟩ | ⟨h, h1⟩ | ⟨h, m, h1⟩ | ⟨h, h1, h2, h3⟩ | ⟨h, h1, h2, h3, h4⟩ | ⟨h, h1, m, h2⟩
    · exact Or.inl h
    · exact Or.inr (Or.inl ⟨h, m, h1.mono (fun e q => q.mono hb)⟩)
    · exact Or.inr (Or.inr (Or.inl ⟨h, h1.mono hb⟩))
    · exact Or.inr (Or.inr (Or.inr (Or.inl ⟨h, m, h1.mono (fun e q => q.mono hb)⟩)))
    · exact Or.inr (Or.inr (Or.inr (Or.inr (Or.inl ⟨h, h1.mono hb, h2.mono hb, h3.imp id (fun q => q.mono hb)⟩))))
    · exact Or.inr (Or.inr (Or.inr (Or.inr (Or.inr (Or.inl ⟨h, h1.imp id (fun q => q.mono hb), h2.mono hb, h3.mono hb, h4.mono hb⟩)))))
    · exact Or.inr (Or.inr (Or.inr (Or.inr (Or.inr (Or.inr ⟨h, h1.mono hb, m, h2.mono (fun e q => q.mono hb)⟩)))))
/-- rows so far -/
def HsR (na ma0 ma : Nat → Nat → Int32) (L : Int → Nat → Int) (d : Nat) (z k : Int32) (b : Int) : Prop := ∃ m, SgI na (fun e => HsB na ma0 ma L d e b) m z k
def HvR (na ma0 ma : Nat → Nat → Int32) (L : Int → Nat → Int) (d : Nat) (z k : Int32) (b : Int) : Prop := ∃ m, SgI na (HvB na ma0 ma L d b) m z k
theorem HsR.nx {d : Nat} {z k k' : Int32} {b b' : Int} (h : HsR na ma0 ma L d z k b) (hb : b ≤ b') (q : HsB na ma0 ma L d k b') (e : k' = na 21 k.toNatClampNeg) : HsR na ma0 ma L d z k' b' := by
  obtain ⟨m, h⟩ := h
  exact ⟨m + 1, (h.mono (fun e r => r.mono hb)).app q e⟩
theorem HvR.nx {d : Nat} {z k k' : Int32} {b b' : Int} (h : HvR na ma0 ma L d z k b) (hb : b ≤ b') (q : HvB na ma0 ma L d b' k) (e : k' = na 21 k.toNatClampNeg) : HvR na ma0 ma L d z k' b' := by
  obtain ⟨m, h⟩ := h
  exact ⟨m + 1, (h.mono (fun e r => r.mono hb)).app q e⟩
/-- a row to its end -/
def HsW (na ma0 ma : Nat → Nat → Int32) (L : Int → Nat → Int) (d : Nat) (z : Int32) (b : Int) : Prop := ∃ m, RwI na (fun e => HsB na ma0 ma L d e b) m z
theorem HsR.w {d : Nat} {z k : Int32} {b : Int} (h : HsR na ma0 ma L d z k b) (hk : k.toInt < 0) : HsW na ma0 ma L d z b := h.elim fun m g => ⟨m, g.row hk⟩
theorem HsW.mono {d : Nat} {z : Int32} {b b' : Int} (h : HsW na ma0 ma L d z b) (hb : b ≤ b') : HsW na ma0 ma L d z b' := h.elim fun m g => ⟨m, g.mono (fun e r => r.mono hb)⟩
end HS
/-! what a checked statement tells -/
section LS
variable {G : Gm} {na ma : Nat → Nat → Int32} {V : Nat → Nat → Prop} {x t : Nat} {lo hi : Int}
theorem Ts.s (s : Ts G na ma lo hi V) (h : V x t) (ht : 2 ≤ t ∧ t ≤ 4) : LcS G na ma V x t := by
  rcases (s x t h).2 with g | g | g
  · rcases g with g | g
    · have := g.1; omega
    · have := g.1; omega
  · exact g
  · have := g.1; omega
theorem Ts.v (s : Ts G na ma lo hi V) (h : V x 5) : LcV G na ma V x 5 := by
  rcases (s x 5 h).2 with g | g | g
  · rcases g with g | g
    · exact absurd g.1 (by decide)
    · exact absurd g.1 (by decide)
  · exact absurd g.1.2 (by decide)
  · exact g.2
theorem LcS.k20 (h : LcS G na ma V x t) (k : (na 14 x).toInt = 20) : RwV0 na V t (na 17 x) := by
  rcases h.2 with h | h | h | ⟨h, h1⟩ | ⟨h, -⟩ | ⟨h, -⟩ | ⟨h, -⟩ | ⟨h, -⟩ | ⟨h, -⟩ | ⟨h, -⟩ | ⟨h, -⟩ | ⟨h, -⟩ | ⟨h, -⟩
  all_goals first | exact absurd h (by first | with_reducible rfl | with_reducible assumption | omega) | exact h1
theorem LcS.k22 (h : LcS G na ma V x t) (k : (na 14 x).toInt = 22) : V (na 17 x).toNatClampNeg 0 := by
  rcases h.2 with h | h | h | ⟨h, -⟩ | ⟨h, h1⟩ | ⟨h, -⟩ | ⟨h, -⟩ | ⟨h, -⟩ | ⟨h, -⟩ | ⟨h, -⟩ | ⟨h, -⟩ | ⟨h, -⟩ | ⟨h, -⟩
  all_goals first | exact absurd h (by first | with_reducible rfl | with_reducible assumption | omega) | exact h1
theorem LcS.k23 (h : LcS G na ma V x t) (k : (na 14 x).toInt = 23) : RwV0 na V 5 (na 17 x) := by
  rcases h.2 with h | h | h | ⟨h, -⟩ | ⟨h, -⟩ | ⟨h, h1⟩ | ⟨h, -⟩ | ⟨h, -⟩ | ⟨h, -⟩ | ⟨h, -⟩ | ⟨h, -⟩ | ⟨h, -⟩ | ⟨h, -⟩
  all_goals first | exact absurd h (by first | with_reducible rfl | with_reducible assumption | omega) | exact h1
theorem LcS.k24 (h : LcS G na ma V x t) (k : (na 14 x).toInt = 24) : V (na 17 x).toNatClampNeg 0 ∧ V (ma 18 x).toNatClampNeg t ∧ OpT V (ma 19 x) t := by
  rcases h.2 with h | h | h | ⟨h, -⟩ | ⟨h, -⟩ | ⟨h, -⟩ | ⟨h, h1⟩ | ⟨h, -⟩ | ⟨h, -⟩ | ⟨h, -⟩ | ⟨h, -⟩ | ⟨h, -⟩ | ⟨h, -⟩
  all_goals first | exact absurd h (by first | with_reducible rfl | with_reducible assumption | omega) | exact h1
theorem LcS.k25 (h : LcS G na ma V x t) (k : (na 14 x).toInt = 25 ∨ (na 14 x).toInt = 26) : V (na 17 x).toNatClampNeg 0 ∧ V (ma 18 x).toNatClampNeg 4 := by
  rcases h.2 with h | h | h | ⟨h, -⟩ | ⟨h, -⟩ | ⟨h, -⟩ | ⟨h, -⟩ | ⟨h, h1⟩ | ⟨h, -⟩ | ⟨h, -⟩ | ⟨h, -⟩ | ⟨h, -⟩ | ⟨h, -⟩
  all_goals first | exact absurd h (by first | with_reducible rfl | with_reducible assumption | omega) | exact h1
theorem LcS.k27 (h : LcS G na ma V x t) (k : (na 14 x).toInt = 27) : OpT V (na 17 x) t ∧ OpT V (ma 18 x) 0 ∧ OpT V (ma 19 x) 0 ∧ V (ma 20 x).toNatClampNeg 4 := by
  rcases h.2 with h | h | h | ⟨h, -⟩ | ⟨h, -⟩ | ⟨h, -⟩ | ⟨h, -⟩ | ⟨h, -⟩ | ⟨h, h1⟩ | ⟨h, -⟩ | ⟨h, -⟩ | ⟨h, -⟩ | ⟨h, -⟩
  all_goals first | exact absurd h (by first | with_reducible rfl | with_reducible assumption | omega) | exact h1
theorem LcS.k28 (h : LcS G na ma V x t) (k : (na 14 x).toInt = 28) : V (na 17 x).toNatClampNeg 0 ∧ RwV0 na V (if t = 4 then 4 else 3) (ma 18 x) := by
  rcases h.2 with h | h | h | ⟨h, -⟩ | ⟨h, -⟩ | ⟨h, -⟩ | ⟨h, -⟩ | ⟨h, -⟩ | ⟨h, -⟩ | ⟨h, h1⟩ | ⟨h, -⟩ | ⟨h, -⟩ | ⟨h, -⟩
  all_goals first | exact absurd h (by first | with_reducible rfl | with_reducible assumption | omega) | exact h1
theorem LcS.k33 (h : LcS G na ma V x t) (k : (na 14 x).toInt = 33) : OpT V (na 17 x) 0 := by
  rcases h.2 with h | h | h | ⟨h, -⟩ | ⟨h, -⟩ | ⟨h, -⟩ | ⟨h, -⟩ | ⟨h, -⟩ | ⟨h, -⟩ | ⟨h, -⟩ | ⟨h, -⟩ | ⟨h, -⟩ | ⟨h, h1⟩
  all_goals first | exact absurd h (by first | with_reducible rfl | with_reducible assumption | omega) | exact h1
theorem OpT.get {p : Int32} (h : OpT V p t) (h0 : 0 ≤ p.toInt) : V p.toNatClampNeg t := h.elim (fun q => absurd q (by first | with_reducible rfl | with_reducible assumption | omega)) id
theorem LcV.i1 (h : LcV G na ma V x 5) (k : (na 17 x).toInt < 0) (k2 : (ma 22 x).toInt = 1) : V (ma 18 x).toNatClampNeg 0 := by
  rcases h with ⟨-, -, h⟩ | ⟨h, -⟩
  · rcases h with h | h
    · omega
    · exact h.2 rfl
  · omega
end LS
/-- nothing but how tall has changed -/
def KpT (cf cf' : Nat → Int32) : Prop := ∀ k : Nat, k ≠ 59 → cf' k = cf k
theorem KpT.rf {cf : Nat → Int32} : KpT cf cf := fun _ _ => rfl
theorem KpT.tr {cf cf1 cf2 : Nat → Int32} (h : KpT cf cf1) (k : KpT cf1 cf2) : KpT cf cf2 := fun j hj => (k j hj).trans (h j hj)
theorem kpt_u {cf cf1 : Nat → Int32} {v : Int32} (h : KpT cf cf1) : KpT cf (upd cf1 59 v) := fun j hj => (pk_un hj).trans (h j hj)
theorem VcV.neg {ta : Nat → Nat → Int32} {c : Int} {na ma0 : Nat → Nat → Int32} {d : Nat} {lo hi w : Int} {n : Int32} (h : VcV ta c na ma0 d lo hi w n) (k : (ma0 22 n.toNatClampNeg).toInt = 1) : (na 17 n.toNatClampNeg).toInt < 0 := by
  by_cases q : (na 17 n.toNatClampNeg).toInt < 0
  · exact q
  · obtain ⟨m1, wa, -, -, -, -, h1⟩ := h.v3 (by first | with_reducible rfl | with_reducible assumption | omega) rfl
    have := h1.k0
    omega
section S9
variable {ta : Nat → Nat → Int32} {c : Int} {na ma0 ma : Nat → Nat → Int32} {d : Nat} {lo hi w : Int} {n : Int32} {G : Gm} {V : Nat → Nat → Prop} {t : Nat}
theorem ScV.s246 (h : ScV ta c na ma0 (d + 1) lo hi w n) (k : 24 ≤ (na 14 n.toNatClampNeg).toInt ∧ (na 14 n.toNatClampNeg).toInt ≤ 26) : ∃ l1 h1 w1 l2 h2 w2 l3 w3 : Int, (n.toInt < l1 ∧ h1 ≤ hi ∧ n.toInt < l2 ∧ h2 ≤ hi ∧ n.toInt < l3 ∧ 0 ≤ w1 ∧ 0 ≤ w2 ∧ 0 ≤ w3) ∧ ErV ta c na ma0 d l1 h1 w1 (na 17 n.toNatClampNeg) ∧ ScV ta c na ma0 d l2 h2 w2 (ma0 18 n.toNatClampNeg) ∧ OcV (ScV ta c na ma0 d) l3 hi w3 (ma0 19 n.toNatClampNeg) ∧ ((na 14 n.toNatClampNeg).toInt ≠ 24 → (ma0 19 n.toNatClampNeg).toInt < 0) := by
  by_cases q : (na 14 n.toNatClampNeg).toInt = 26
  · obtain ⟨m1, w1, w2, a1, a2, a3, a4, a5, a6, a7, a8⟩ := h.s26 q rfl rfl
    exact ⟨m1, hi, w1, n.toInt + 1, m1, w2, n.toInt + 1, 0, by first | with_reducible rfl | with_reducible assumption | omega, a4, a3, Or.inl ⟨a5, by first | with_reducible rfl | with_reducible assumption | omega⟩, fun _ => a5⟩
  · obtain ⟨m1, m2, w1, w2, w3, a1, a2, a3, a4, a5, a6, a7, a8, a9, a10, a11⟩ := h.s24 (by first | with_reducible rfl | with_reducible assumption | omega) rfl rfl rfl
    exact ⟨n.toInt + 1, m1, w1, m1, m2, w2, m2, w3, by first | with_reducible rfl | with_reducible assumption | omega, a4, a5, a6, a7⟩
theorem LcS.k246 {x : Nat} (h : LcS G na ma V x t) (k : 24 ≤ (na 14 x).toInt ∧ (na 14 x).toInt ≤ 26) (h19 : (na 14 x).toInt ≠ 24 → (ma 19 x).toInt < 0) : V (na 17 x).toNatClampNeg 0 ∧ (∃ tb : Nat, (2 ≤ tb ∧ tb ≤ 4) ∧ V (ma 18 x).toNatClampNeg tb) ∧ OpT V (ma 19 x) t := by
  by_cases q : (na 14 x).toInt = 24
  · obtain ⟨a, b, e⟩ := h.k24 q
    exact ⟨a, ⟨t, h.1, b⟩, e⟩
  · obtain ⟨a, b⟩ := h.k25 (by first | with_reducible rfl | with_reducible assumption | omega)
    exact ⟨a, ⟨4, by decide, b⟩, Or.inl (h19 q)⟩
theorem ScV.s223 (h : ScV ta c na ma0 (d + 1) lo hi w n) (k : (na 14 n.toNatClampNeg).toInt = 22 ∨ (na 14 n.toNatClampNeg).toInt = 33) : OcV (ErV ta c na ma0 d) (n.toInt + 1) hi w (na 17 n.toNatClampNeg) := by
  rcases k with k | k
  · exact Or.inr ((h.s22 k rfl).mw (by first | with_reducible rfl | with_reducible assumption | omega))
  · rcases h.s33 k rfl with g | g
    · exact Or.inl ⟨g.1, by first | with_reducible rfl | with_reducible assumption | omega⟩
    · exact Or.inr (g.mw (by first | with_reducible rfl | with_reducible assumption | omega))
theorem LcS.k223 {x : Nat} (h : LcS G na ma V x t) (k : (na 14 x).toInt = 22 ∨ (na 14 x).toInt = 33) : OpT V (na 17 x) 0 := by
  rcases k with k | k
  · exact Or.inr (h.k22 k)
  · exact h.k33 k
end S9
