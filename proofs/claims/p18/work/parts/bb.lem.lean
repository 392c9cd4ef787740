/-! FUNCTIONS -/
def PaV (ta : Nat → Nat → Int32) (c : Int) (na ma : Nat → Nat → Int32) (lo hi w : Int) (n : Int32) : Prop := (lo ≤ n.toInt ∧ n.toInt < hi ∧ 0 ≤ n.toInt) ∧ (na 14 n.toNatClampNeg).toInt = 42 ∧ (0 ≤ (na 15 n.toNatClampNeg).toInt ∧ (na 15 n.toNatClampNeg).toInt < c) ∧ ((ma 22 n.toNatClampNeg).toInt = 0 ∨ (ma 22 n.toNatClampNeg).toInt = 1) ∧ 6 ≤ w
def FuV (ta : Nat → Nat → Int32) (c : Int) (na ma : Nat → Nat → Int32) (d : Nat) (lo hi w : Int) (n : Int32) : Prop := (lo ≤ n.toInt ∧ n.toInt < hi ∧ 0 ≤ n.toInt) ∧ (na 14 n.toNatClampNeg).toInt = 41 ∧ (0 ≤ (na 15 n.toNatClampNeg).toInt ∧ (na 15 n.toNatClampNeg).toInt < c) ∧ (0 ≤ (ma 22 n.toNatClampNeg).toInt ∧ (ma 22 n.toNatClampNeg).toInt ≤ 2) ∧ 24 ≤ w ∧ ∃ m1 wp wb : Int, (n.toInt < m1 ∧ m1 ≤ hi) ∧ RvE na (fun l h v x => PaV ta c na ma l h v x) (n.toInt + 1) m1 wp (na 17 n.toNatClampNeg) ∧ (na 14 (ma 18 n.toNatClampNeg).toNatClampNeg).toInt = 20 ∧ ScV ta c na ma (d + 1) m1 hi wb (ma 18 n.toNatClampNeg) ∧ wp + wb + 2 ≤ w ∧ 0 ≤ wp ∧ 0 ≤ wb
def RvP (ta : Nat → Nat → Int32) (c : Int) (na ma0 : Nat → Nat → Int32) (lo hi w : Int) (k : Int32) : Prop := RvE na (fun l h v x => PaV ta c na ma0 l h v x) lo hi w k
theorem St.up {ta : Nat → Nat → Int32} {c : Int} {na ma : Nat → Nat → Int32} {d n lo hi w : Nat} (h : St ta c na ma d n lo hi w) : St ta c na ma (d + 1) n lo hi w := h.wid (by first | with_reducible rfl | with_reducible assumption | omega) (Nat.le_refl _) (Nat.le_refl _) (Nat.le_refl _)
theorem fu_of {ta : Nat → Nat → Int32} {c : Int} {na ma : Nat → Nat → Int32} {d l h v : Nat} {lo hi w : Int} {n : Int32} (h0 : 0 ≤ n.toInt) (q : FG ta c na ma d n.toNatClampNeg l h v) (k : (na 14 n.toNatClampNeg).toInt = 41) (h1 : lo ≤ (l : Int)) (h2 : (h : Int) ≤ hi) (h3 : (v : Int) ≤ w) : FuV ta c na ma d lo hi w n := by
  have hc := cl_nat h0
  obtain ⟨r, q⟩ := q
  rcases q with ⟨g, -⟩ | ⟨g, g1, g2, g3, b, m1, wp, wb, g0, g4, g5, g6, g7, g8⟩ | ⟨g, -⟩
  · omega
  · have hb := cl_nat (x := ma 18 n.toNatClampNeg) (by first | with_reducible rfl | with_reducible assumption | omega)
    have eb : (ma 18 n.toNatClampNeg).toNatClampNeg = b := by omega
    refine ⟨by first | with_reducible rfl | with_reducible assumption | omega, g, ⟨g1.1, g1.2.1⟩, g2, by first | with_reducible rfl | with_reducible assumption | omega, m1, wp, wb, by first | with_reducible rfl | with_reducible assumption | omega, ?_, by rw [eb]; exact g6, sc_of g5 g7.up (Int.le_refl _) h2 (Int.le_refl _), by first | with_reducible rfl | with_reducible assumption | omega, by first | with_reducible rfl | with_reducible assumption | omega, by first | with_reducible rfl | with_reducible assumption | omega⟩
    refine rv_lz (P' := FP ta c na ma d) (fun a l h v x ex p => ?_) g4 (by first | with_reducible rfl | with_reducible assumption | omega) (Int.le_refl _) (Int.le_refl _) (fun a l l' h v hl p => fp_ok.wid p (Nat.le_refl _) hl (Nat.le_refl _) (Nat.le_refl _))
    have hx := cl_nat (x := x) (by first | exact oz_016f458179 hx | omega)
    have ea : x.toNatClampNeg = a := by omega
    obtain ⟨p0, p1, p2, p3, p4⟩ := p
    exact ⟨by first | with_reducible rfl | with_reducible assumption | omega, by rw [ea]; exact p1, by rw [ea]; exact ⟨p2.1, p2.2.1⟩, by rw [ea]; exact p3, by first | with_reducible rfl | with_reducible assumption | omega⟩
  · omega
section FN
variable {ta ca ca' na ma0 ma ma' : Nat → Nat → Int32} {c kn kn' ns ns' nsb ys nf lo hi mid w a b : Int} {d : Nat} {n z k : Int32}
theorem PaV.tok (h : PaV ta c na ma lo hi w n) (e : z = na 15 n.toNatClampNeg) : 0 ≤ z.toInt ∧ z.toInt < c := by rw [e]; exact h.2.2.1
theorem KnS.yy {ys' : Int} (h : KnS ca kn ns 5000) (hn : ns ≤ 5000) : KnS ca kn ns ys' := fun i hi => by
  have g : ∀ y : Int32, SyG ca ns 5000 y → SyG ca ns ys' y := fun y q => ⟨q.1, q.2.elim Or.inl (fun r => absurd r (by have := q.1.2; omega))⟩
  rcases h i hi with ⟨e, f⟩ | ⟨e, f⟩ | e
  · exact Or.inl ⟨e, g _ f.1, f.2⟩
  · exact Or.inr (Or.inl ⟨e, g _ f.1, f.2⟩)
  · exact Or.inr (Or.inr e)
/-- a parameter's symbol -/
def PrP (ca : Nat → Nat → Int32) (ns ys : Int) (na ma : Nat → Nat → Int32) (lo hi : Int) (x : Nat) : Prop := (lo ≤ (x : Int) ∧ (x : Int) < hi) ∧ ys ≤ (ma 18 x).toInt ∧ (((na 17 x).toInt < 0 ∧ SyV ca ns ys (ma 18 x)) ∨ (0 ≤ (na 17 x).toInt ∧ SyA ca ns ys (ma 18 x) ∧ 4 ≤ (ca 49 (ma 18 x).toNatClampNeg).toInt))
def PrS (ca : Nat → Nat → Int32) (ns ys : Int) (na ma : Nat → Nat → Int32) (lo hi : Int) (z k : Int32) : Prop := ∃ m, SgV na (PrP ca ns ys na ma lo hi) m z k
theorem PrP.tr {x : Nat} (h : PrP ca ns ys na ma lo mid x) (f : FrC a b ma ma') (hd : mid ≤ a ∨ b ≤ lo) (g : CaG ca ca' kn nsb) (h1 : ns ≤ nsb) (h2 : ns ≤ ns') : PrP ca' ns' ys na ma' lo mid x := by
  obtain ⟨q1, q2, q3⟩ := h
  have e : ma' 18 x = ma 18 x := f x (by first | with_reducible rfl | with_reducible assumption | omega) 18
  refine ⟨q1, by rw [e]; exact q2, ?_⟩
  rw [e]
  rcases q3 with ⟨r1, r2⟩ | ⟨r1, r2, r3⟩
  · exact Or.inl ⟨r1, r2.cg g h1 h2⟩
  · have hc := cl_nat r2.1.1.1
    refine Or.inr ⟨r1, r2.cg g h1 h2, ?_⟩
    rw [(g.2.2 _ (by have := r2.1.1.2; omega)).1]; exact r3
theorem PrS.tr (h : PrS ca ns ys na ma lo mid z k) (f : FrC a b ma ma') (hd : mid ≤ a ∨ b ≤ lo) (g : CaG ca ca' kn nsb) (h1 : ns ≤ nsb) (h2 : ns ≤ ns') : PrS ca' ns' ys na ma' lo mid z k := h.elim fun m q => ⟨m, q.mono (fun x r => r.tr f hd g h1 h2)⟩
theorem PrS.to {lo' mid' : Int} (h : PrS ca ns ys na ma lo mid z k) (e : ns = ns') (h1 : lo' ≤ lo) (h2 : mid ≤ mid') : PrS ca ns' ys na ma lo' mid' z k := by
  subst e
  exact h.elim fun m q => ⟨m, q.mono (fun x r => ⟨by have := r.1; omega, r.2⟩)⟩
theorem prs_0 (e : z = k) : PrS ca ns ys na ma lo mid z k := ⟨0, e⟩
theorem PrS.nx {k' y : Int32} (h : PrS ca ns ys na ma lo mid z k) (h0 : 0 ≤ k.toInt) (hm : ma 18 k.toNatClampNeg = y) (hr : lo ≤ k.toInt ∧ k.toInt < mid) (hy : ys ≤ y.toInt) (q : ((na 17 k.toNatClampNeg).toInt < 0 ∧ SyV ca ns ys y) ∨ (0 ≤ (na 17 k.toNatClampNeg).toInt ∧ SyA ca ns ys y ∧ 4 ≤ (ca 49 y.toNatClampNeg).toInt)) (e : k' = na 21 k.toNatClampNeg) : PrS ca ns ys na ma lo mid z k' := by
  obtain ⟨m, h⟩ := h
  have hc := cl_nat h0
  exact ⟨m + 1, h.app h0 ⟨by first | with_reducible rfl | with_reducible assumption | omega, by rw [hm]; exact hy, by rw [hm]; exact q⟩ e⟩
/-- a function's frame is written -/
def CaF (ca ca' : Nat → Nat → Int32) (kn ns : Int) (f : Nat) : Prop := (∀ x : Nat, ca' 39 x = ca 39 x ∧ (x ≠ f → ca' 40 x = ca 40 x ∧ ca' 56 x = ca 56 x)) ∧ (∀ x : Nat, (x : Int) < kn → ca' 34 x = ca 34 x ∧ ca' 35 x = ca 35 x ∧ ca' 36 x = ca 36 x ∧ ca' 53 x = ca 53 x) ∧ ∀ x : Nat, (x : Int) < ns → ca' 49 x = ca 49 x ∧ ca' 50 x = ca 50 x ∧ ca' 51 x = ca 51 x ∧ ca' 52 x = ca 52 x
theorem CaG.f {f : Nat} (h : CaG ca ca' kn ns) : CaF ca ca' kn ns f := ⟨fun x => ⟨(h.1 x).1, fun _ => (h.1 x).2⟩, h.2⟩
/-- all that a checked function leaves behind -/
def FnR (ta ca na ma0 ma : Nat → Nat → Int32) (nf ns lo hi : Int) (d : Nat) (f : Nat) : Prop := ∃ ys ye m1 tall : Int, ((lo ≤ m1 ∧ m1 ≤ hi) ∧ (0 ≤ ys ∧ ys ≤ ye) ∧ ye ≤ ns) ∧ SyR ca ys ye (ca 56 f).toInt 0 ∧ (0 ≤ tall ∧ 0 ≤ (ca 56 f).toInt ∧ (ca 56 f).toInt ≤ 4 * ((ca 40 f).toInt - 4 - tall)) ∧
  (∃ k : Int32, k.toInt < 0 ∧ PrS ca ye ys na ma lo m1 (na 17 (ca 39 f).toNatClampNeg) k) ∧ (∃ k : Int32, k.toInt < 0 ∧ TyR (Gk ta ca na ma0 ye ys nf) na ma m1 hi (na 17 (ma0 18 (ca 39 f).toNatClampNeg).toNatClampNeg) k 2) ∧ HsW na ma0 ma (tkl na ma0 ca) d (na 17 (ma0 18 (ca 39 f).toNatClampNeg).toNatClampNeg) tall
def ZFn (cf : Nat → Int32) (ta ca na ma0 ma : Nat → Nat → Int32) (nf ns lo hi : Int) (d : Nat) (f : Int32) : Prop := Zr cf (FnR ta ca na ma0 ma nf ns lo hi d f.toNatClampNeg)
end FN
/-! all but two rows of numbers stand -/
def AgK (c1 c3 : Nat → Nat → Int32) : Prop := ∀ k x : Nat, k ≠ 40 → k ≠ 56 → c3 k x = c1 k x
section AK
variable {ta ca c1 c2 c3 na ma0 ma : Nat → Nat → Int32} {kn ns ys nf cells tx lo hi : Int} {f v1 v2 z k : Int32}
theorem caf_w (h : CaG ca c1 kn ns) (e1 : c2 = va_up c1 40 (upd (c1 40) f.toNatClampNeg v1)) (e2 : c3 = va_up c2 56 (upd (c2 56) f.toNatClampNeg v2)) : CaF ca c3 kn ns f.toNatClampNeg ∧ c3 40 f.toNatClampNeg = v1 ∧ c3 56 f.toNatClampNeg = v2 ∧ AgK c1 c3 := by
  have hk : AgK c1 c3 := fun k x a b => by rw [e2, va_up_n b, e1, va_up_n a]
  refine ⟨⟨fun x => ⟨by rw [hk 39 x (by decide) (by decide)]; exact (h.1 x).1, fun hx => ⟨?_, ?_⟩⟩, fun x hx => ?_, fun x hx => ?_⟩, ?_, ?_, hk⟩
  · rw [e2, va_up_n (by decide), e1, up_far hx]; exact (h.1 x).2.1
  · rw [e2, up_far hx, e1, va_up_n (by decide)]; exact (h.1 x).2.2
  · rw [hk 34 x (by decide) (by decide), hk 35 x (by decide) (by decide), hk 36 x (by decide) (by decide), hk 53 x (by decide) (by decide)]; exact h.2.1 x hx
  · rw [hk 49 x (by decide) (by decide), hk 50 x (by decide) (by decide), hk 51 x (by decide) (by decide), hk 52 x (by decide) (by decide)]; exact h.2.2 x hx
  · rw [e2, va_up_n (by decide), e1, va_up_s, pk_us]
  · rw [e2, va_up_s, pk_us]
theorem AgK.sg {y : Int32} (h : AgK c1 c3) (q : SyG c1 ns ys y) : SyG c3 ns ys y := ⟨q.1, by rw [h 50 _ (by decide) (by decide)]; exact q.2⟩
theorem AgK.sv {y : Int32} (h : AgK c1 c3) (q : SyV c1 ns ys y) : SyV c3 ns ys y := ⟨h.sg q.1, by rw [h 49 _ (by decide) (by decide)]; exact q.2⟩
theorem AgK.sa {y : Int32} (h : AgK c1 c3) (q : SyA c1 ns ys y) : SyA c3 ns ys y := ⟨h.sg q.1, by rw [h 49 _ (by decide) (by decide)]; exact q.2⟩
theorem AgK.tk (h : AgK c1 c3) : tkl na ma0 c3 = tkl na ma0 c1 := by
  funext code k
  unfold tkl
  rw [h 39 _ (by decide) (by decide)]
theorem AgK.gm (h : AgK c1 c3) : GmL (Gk ta c1 na ma0 ns ys nf) (Gk ta c3 na ma0 ns ys nf) := by
  have kV : ∀ y, SyV c1 ns ys y → SyV c3 ns ys y := fun y q => h.sv q
  have hL : tkl na ma0 c3 = tkl na ma0 c1 := h.tk
  refine gml_mk hL kV (fun y q => ⟨h.sa q, ?_⟩)
  exact ⟨h 49 _ (by decide) (by decide), h 52 _ (by decide) (by decide)⟩
theorem AgK.sr (h : AgK c1 c3) (q : SyR c1 ys ns cells tx) : SyR c3 ys ns cells tx := fun y a b => by
  have ew : wdt c3 y = wdt c1 y := by unfold wdt; rw [h 49 _ (by decide) (by decide), h 52 _ (by decide) (by decide)]
  rw [h 49 _ (by decide) (by decide), h 50 _ (by decide) (by decide), h 51 _ (by decide) (by decide), h 52 _ (by decide) (by decide), ew]
  obtain ⟨q1, q2, q3⟩ := q y a b
  exact ⟨q1, q2, fun y' a' b' => by rw [h 51 _ (by decide) (by decide)]; exact q3 y' a' b'⟩
theorem AgK.ps (h : AgK c1 c3) (q : PrS c1 ns ys na ma lo hi z k) : PrS c3 ns ys na ma lo hi z k := q.elim fun m r => ⟨m, r.mono (fun x p => ⟨p.1, p.2.1, p.2.2.imp (fun s => ⟨s.1, h.sv s.2⟩) (fun s => ⟨s.1, h.sa s.2.1, by rw [h 49 _ (by decide) (by decide)]; exact s.2.2⟩)⟩)⟩
theorem KnT.cf {c n : Int} {fn : Nat} {ca' : Nat → Nat → Int32} (h : KnT c ca n) (g : CaF ca ca' kn ns fn) (h1 : n ≤ kn) : KnT c ca' n := ⟨h.1, fun i hi => by rw [(g.2.1 i (by first | with_reducible rfl | with_reducible assumption | omega)).1]; exact h.2 i hi⟩
theorem KnS.cf {n ns' : Int} {fn : Nat} {ca' : Nat → Nat → Int32} (h : KnS ca n ns ys) (g : CaF ca ca' kn ns' fn) (h0 : n ≤ kn) (h1 : ns ≤ ns') {n2 : Int} (h2 : ns ≤ n2) : KnS ca' n n2 ys := by
  have hs : ∀ y : Int32, SyG ca ns ys y → SyG ca' n2 ys y ∧ ca' 49 y.toNatClampNeg = ca 49 y.toNatClampNeg := fun y q => by
    have hc := cl_nat q.1.1
    obtain ⟨e1, e2, -, -⟩ := g.2.2 y.toNatClampNeg (by have := q.1.2; omega)
    exact ⟨⟨⟨q.1.1, by have := q.1.2; omega⟩, by rw [e2]; exact q.2⟩, e1⟩
  intro i hi
  obtain ⟨-, e1, -, e2⟩ := g.2.1 i (by first | with_reducible rfl | with_reducible assumption | omega)
  rw [e1, e2]
  rcases h i hi with ⟨a, b⟩ | ⟨a, b⟩ | a
  · exact Or.inl ⟨a, (hs _ b.1).1, by rw [(hs _ b.1).2]; exact b.2⟩
  · exact Or.inr (Or.inl ⟨a, (hs _ b.1).1, by rw [(hs _ b.1).2]; exact b.2⟩)
  · exact Or.inr (Or.inr a)
theorem FnT.cf {c n : Int} {fn : Nat} {ca' : Nat → Nat → Int32} (h : FnT c na ca n) (g : CaF ca ca' kn ns fn) : FnT c na ca' n := ⟨h.1, fun i hi => by rw [(g.1 i).1]; exact h.2 i hi⟩
theorem FnP.cf {n : Int} {fn : Nat} {ca' : Nat → Nat → Int32} (h : FnP na ca n) (g : CaF ca ca' kn ns fn) : FnP na ca' n := fun i hi => by rw [(g.1 i).1]; exact h i hi
theorem tgv_0 {a b : Int} (h : a = 0) (h2 : b = 0) : tgv a b = 2 := by subst h; subst h2; rfl
/-- a function, all in all -/
theorem fn_mk {fn : Int32} {nd zb kk kp : Int32} {ye m1 tall frame nsF : Int} {d : Nat} {cellsv : Int} (hg : CaG ca c1 kn ns) (e1 : c2 = va_up c1 40 (upd (c1 40) fn.toNatClampNeg v1)) (e2 : c3 = va_up c2 56 (upd (c2 56) fn.toNatClampNeg v2)) (en : nd = ca 39 fn.toNatClampNeg) (eb : zb = na 17 (ma0 18 nd.toNatClampNeg).toNatClampNeg)
    (hs : SyR c1 ys ye cellsv tx) (htx : tx = 0) (hv2 : v2.toInt = cellsv) (hv1 : v1.toInt = frame + tall) (ht : 0 ≤ tall) (hc0 : 0 ≤ cellsv) (hc : cellsv ≤ 4 * (frame - 4)) (hy : 0 ≤ ys ∧ ys ≤ ye) (hyn : ye ≤ nsF) (hm : lo ≤ m1 ∧ m1 ≤ hi) (hp : PrS c1 ye ys na ma lo m1 (na 17 nd.toNatClampNeg) kp) (hkp : kp.toInt < 0) (hr : TyR (Gk ta c1 na ma0 ye ys nf) na ma m1 hi zb kk 2) (hkk : kk.toInt < 0) (hh : HsW na ma0 ma (tkl na ma0 c1) d zb tall) : FnR ta c3 na ma0 ma nf nsF lo hi d fn.toNatClampNeg := by
  obtain ⟨w1, w2, w3, w4⟩ := caf_w hg e1 e2
  have en3 : c3 39 fn.toNatClampNeg = nd := by rw [(w1.1 _).1, en]
  subst htx
  refine ⟨ys, ye, m1, tall, ⟨hm, hy, hyn⟩, ?_, ?_, ⟨kp, hkp, ?_⟩, ⟨kk, hkk, ?_⟩, ?_⟩
  · rw [w3, hv2]; exact w4.sr hs
  · rw [w2, w3, hv1, hv2]; omega
  · rw [en3]; exact w4.ps hp
  · rw [en3, ← eb]; exact hr.g w4.gm
  · rw [en3, ← eb, w4.tk]; exact hh
end AK
theorem gml_ns {ta ca na ma0 : Nat → Nat → Int32} {ns ns' ys nf : Int} (h : ns = ns') : GmL (Gk ta ca na ma0 ns ys nf) (Gk ta ca na ma0 ns' ys nf) := by
  subst h
  exact ⟨⟨rfl, rfl, rfl⟩, fun _ q => q, fun _ q => ⟨q, rfl, rfl⟩⟩
