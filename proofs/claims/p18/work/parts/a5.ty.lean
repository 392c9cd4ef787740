/-! WHAT IS CHECKED: the structure stands, notes are added -/
def Ann (na ma0 ma : Nat → Nat → Int32) : Prop := ∀ x : Nat, ((na 14 x).toInt ≠ 2 → (na 14 x).toInt ≠ 3 → (na 14 x).toInt ≠ 4 → (na 14 x).toInt ≠ 29 → (na 14 x).toInt ≠ 42 → (na 14 x).toInt ≠ 44 → ma 18 x = ma0 18 x) ∧ ((na 14 x).toInt ≠ 2 → (na 14 x).toInt ≠ 29 → (na 14 x).toInt ≠ 30 → ma 19 x = ma0 19 x) ∧ ((na 14 x).toInt ≠ 40 → 0 ≤ (ma0 20 x).toInt → ma 20 x = ma0 20 x) ∧ ((na 14 x).toInt ≠ 29 → ma 22 x = ma0 22 x)
def FrC (lo hi : Int) (ma ma' : Nat → Nat → Int32) : Prop := ∀ x : Nat, ((x : Int) < lo ∨ hi ≤ (x : Int)) → ∀ k, ma' k x = ma k x
section AN
variable {na ma0 ma ma' ma2 : Nat → Nat → Int32} {n v : Int32} {lo hi : Int}
theorem Ann.rf : Ann na ma0 ma0 := fun _ => ⟨fun _ _ _ _ _ _ => rfl, fun _ _ _ => rfl, fun _ _ => rfl, fun _ => rfl⟩
theorem Ann.w18 (h : Ann na ma0 ma) (k : (na 14 n.toNatClampNeg).toInt = 2 ∨ (na 14 n.toNatClampNeg).toInt = 3 ∨ (na 14 n.toNatClampNeg).toInt = 4 ∨ (na 14 n.toNatClampNeg).toInt = 29 ∨ (na 14 n.toNatClampNeg).toInt = 42 ∨ (na 14 n.toNatClampNeg).toInt = 44) : Ann na ma0 (va_up ma 18 (upd (ma 18) n.toNatClampNeg v)) := fun x => by
  refine ⟨fun a b c d e f => ?_, fun a b c => ?_, fun a b => ?_, fun a => ?_⟩
  · have hx : x ≠ n.toNatClampNeg := fun g => by subst g; omega
    rw [up_far hx]; exact (h x).1 a b c d e f
  · rw [va_up_n (by decide)]; exact (h x).2.1 a b c
  · rw [va_up_n (by decide)]; exact (h x).2.2.1 a b
  · rw [va_up_n (by decide)]; exact (h x).2.2.2 a
theorem Ann.w19 (h : Ann na ma0 ma) (k : (na 14 n.toNatClampNeg).toInt = 2 ∨ (na 14 n.toNatClampNeg).toInt = 29 ∨ (na 14 n.toNatClampNeg).toInt = 30) : Ann na ma0 (va_up ma 19 (upd (ma 19) n.toNatClampNeg v)) := fun x => by
  refine ⟨fun a b c d e f => ?_, fun a b c => ?_, fun a b => ?_, fun a => ?_⟩
  · rw [va_up_n (by decide)]; exact (h x).1 a b c d e f
  · have hx : x ≠ n.toNatClampNeg := fun g => by subst g; omega
    rw [up_far hx]; exact (h x).2.1 a b c
  · rw [va_up_n (by decide)]; exact (h x).2.2.1 a b
  · rw [va_up_n (by decide)]; exact (h x).2.2.2 a
theorem Ann.w20 (h : Ann na ma0 ma) (k : (ma0 20 n.toNatClampNeg).toInt < 0 ∨ (na 14 n.toNatClampNeg).toInt = 40) : Ann na ma0 (va_up ma 20 (upd (ma 20) n.toNatClampNeg v)) := fun x => by
  refine ⟨fun a b c d e f => ?_, fun a b c => ?_, fun a b => ?_, fun a => ?_⟩
  · rw [va_up_n (by decide)]; exact (h x).1 a b c d e f
  · rw [va_up_n (by decide)]; exact (h x).2.1 a b c
  · have hx : x ≠ n.toNatClampNeg := fun g => by subst g; omega
    rw [up_far hx]; exact (h x).2.2.1 a b
  · rw [va_up_n (by decide)]; exact (h x).2.2.2 a
theorem Ann.w22 (h : Ann na ma0 ma) (k : (na 14 n.toNatClampNeg).toInt = 29) : Ann na ma0 (va_up ma 22 (upd (ma 22) n.toNatClampNeg v)) := fun x => by
  refine ⟨fun a b c d e f => ?_, fun a b c => ?_, fun a b => ?_, fun a => ?_⟩
  · rw [va_up_n (by decide)]; exact (h x).1 a b c d e f
  · rw [va_up_n (by decide)]; exact (h x).2.1 a b c
  · rw [va_up_n (by decide)]; exact (h x).2.2.1 a b
  · have hx : x ≠ n.toNatClampNeg := fun g => by subst g; omega
    rw [up_far hx]; exact (h x).2.2.2 a
theorem FrC.rf : FrC lo hi ma ma := fun _ _ _ => rfl
theorem FrC.tr {a b : Int} (h : FrC lo hi ma ma') (k : FrC a b ma' ma2) (h1 : lo ≤ a) (h2 : b ≤ hi) : FrC lo hi ma ma2 := fun x hx j => (k x (by first | with_reducible rfl | with_reducible assumption | omega) j).trans (h x hx j)
theorem FrC.w {k : Nat} (h : FrC lo hi ma ma') (h1 : lo ≤ n.toInt) (h2 : n.toInt < hi) (h0 : 0 ≤ n.toInt) : FrC lo hi ma (va_up ma' k (upd (ma' k) n.toNatClampNeg v)) := fun x hx j => by
  have := cl_nat h0
  rw [up_far (by first | with_reducible rfl | with_reducible assumption | omega)]; exact h x hx j
theorem FrC.at {k : Nat} (h : FrC lo hi ma ma') (h1 : n.toInt < lo ∨ hi ≤ n.toInt) (h0 : 0 ≤ n.toInt) : ma' k n.toNatClampNeg = ma k n.toNatClampNeg := h _ (by have := cl_nat h0; omega) k
end AN
theorem tkf_ann {na ma0 ma : Nat → Nat → Int32} (h : Ann na ma0 ma) : ∀ {k : Nat} {p : Int32}, PrW na p → tkf na ma k p = tkf na ma0 k p
  | 0, p, hp => by
    by_cases h0 : p.toInt < 0
    · rw [tkf_neg h0, tkf_neg h0]
    · have := (hp.at (by first | with_reducible rfl | with_reducible assumption | omega)).2
      rw [tkf_0 (by first | with_reducible rfl | with_reducible assumption | omega), tkf_0 (by first | with_reducible rfl | with_reducible assumption | omega), (h p.toNatClampNeg).2.2.2 (by first | with_reducible rfl | with_reducible assumption | omega)]
  | k + 1, p, hp => by
    by_cases h0 : p.toInt < 0
    · rw [tkf_neg h0, tkf_neg h0]
    · rw [tkf_s (by first | with_reducible rfl | with_reducible assumption | omega) rfl, tkf_s (by first | with_reducible rfl | with_reducible assumption | omega) rfl]; exact tkf_ann h (hp.go (by first | with_reducible rfl | with_reducible assumption | omega) rfl).2.2
theorem tkl_ann {na ma0 ma ca : Nat → Nat → Int32} {n code : Int} {k : Nat} (h : Ann na ma0 ma) (hf : FnP na ca n) (hc : CeN n code) : tkl na ma ca code k = tkl na ma0 ca code k := by
  unfold tkl
  by_cases g : code < 100
  · rw [if_pos g, if_pos g]
  · rw [if_neg g, if_neg g]; exact tkf_ann h (hf _ (by rcases hc with hc | hc <;> omega))
/-! SYMBOLS: of the text, or of the function that is looked at -/
def SyG (ca : Nat → Nat → Int32) (ns ys : Int) (y : Int32) : Prop := (0 ≤ y.toInt ∧ y.toInt < ns) ∧ ((ca 50 y.toNatClampNeg).toInt = 1 ∨ ys ≤ y.toInt)
def SyV (ca : Nat → Nat → Int32) (ns ys : Int) (y : Int32) : Prop := SyG ca ns ys y ∧ 0 ≤ (ca 49 y.toNatClampNeg).toInt ∧ (ca 49 y.toNatClampNeg).toInt ≤ 1
def SyA (ca : Nat → Nat → Int32) (ns ys : Int) (y : Int32) : Prop := SyG ca ns ys y ∧ 2 ≤ (ca 49 y.toNatClampNeg).toInt ∧ (ca 49 y.toNatClampNeg).toInt ≤ 5
/-- what is known, and its symbol -/
def KnS (ca : Nat → Nat → Int32) (n ns ys : Int) : Prop := ∀ i : Nat, (i : Int) < n → ((ca 35 i).toInt = 1 ∧ SyV ca ns ys (ca 53 i)) ∨ (((ca 35 i).toInt = 2 ∨ (ca 35 i).toInt = 3) ∧ SyA ca ns ys (ca 53 i)) ∨ ((ca 35 i).toInt = 4 ∧ (ca 53 i).toInt < 0)
theorem KnS.eq {ca : Nat → Nat → Int32} {n ns ys n' ns' : Int} (h : KnS ca n ns ys) (e : n = n') (e2 : ns = ns') : KnS ca n' ns' ys := e ▸ e2 ▸ h
abbrev Gm : Type := (Nat → Nat → Int32) × (Nat → Nat → Int32) × (Int) × (Int) × (Int) × (Int → Nat → Int)
abbrev Gm.ta (v : Gm) : Nat → Nat → Int32 := v.1
abbrev Gm.ca (v : Gm) : Nat → Nat → Int32 := v.2.1
abbrev Gm.ns (v : Gm) : Int := v.2.2.1
abbrev Gm.ys (v : Gm) : Int := v.2.2.2.1
abbrev Gm.nf (v : Gm) : Int := v.2.2.2.2.1
abbrev Gm.L (v : Gm) : Int → Nat → Int := v.2.2.2.2.2
def Gk (ta ca na ma0 : Nat → Nat → Int32) (ns ys nf : Int) : Gm := ⟨ta, ca, ns, ys, nf, tkl na ma0 ca⟩
/-- arguments, each as its letter asks -/
def AgR (na : Nat → Nat → Int32) (V : Nat → Nat → Prop) (L : Nat → Int) : Nat → Nat → Int32 → Prop
  | 0 => fun k e => e.toInt < 0 ∧ L k = 32
  | m + 1 => fun k e => (e.toInt < 0 ∧ L k = 32) ∨ (0 ≤ e.toInt ∧ L k ≠ 32 ∧ V e.toNatClampNeg (if L k = 105 then 0 else 1) ∧ AgR na V L m (k + 1) (na 21 e.toNatClampNeg))
def RwA (na : Nat → Nat → Int32) (V : Nat → Prop) : Nat → Int32 → Prop
  | 0 => fun e => e.toInt < 0
  | m + 1 => fun e => e.toInt < 0 ∨ (V e.toNatClampNeg ∧ RwA na V m (na 21 e.toNatClampNeg))
/-- just so many -/
def RwL (na : Nat → Nat → Int32) : Nat → Int32 → Prop
  | 0 => fun e => e.toInt < 0
  | m + 1 => fun e => 0 ≤ e.toInt ∧ RwL na m (na 21 e.toNatClampNeg)
def PcT (na ma : Nat → Nat → Int32) (V : Nat → Nat → Prop) (p : Int32) : Prop := V p.toNatClampNeg 0 ∧ ((na 14 p.toNatClampNeg).toInt = 4 ∨ ((na 14 p.toNatClampNeg).toInt = 2 ∧ 0 ≤ (ma 18 p.toNatClampNeg).toInt))
/-- a node as an expression: t = 0 a number, t = 1 an array -/
def LcE (G : Gm) (na ma : Nat → Nat → Int32) (V : Nat → Nat → Prop) (x t : Nat) : Prop :=
  (t = 1 ∧ (na 14 x).toInt = 2 ∧ SyA G.ca G.ns G.ys (ma 18 x)) ∨
  (t = 0 ∧ ((na 14 x).toInt = 1 ∨
    ((na 14 x).toInt = 2 ∧ ((ma 18 x).toInt < 0 ∨ SyV G.ca G.ns G.ys (ma 18 x))) ∨
    ((na 14 x).toInt = 3 ∧ CeN G.nf (ma 18 x).toInt ∧ ∃ m, AgR na V (G.L (ma 18 x).toInt) m 0 (na 17 x)) ∨
    ((na 14 x).toInt = 4 ∧ SyA G.ca G.ns G.ys (ma 18 x) ∧ V (na 17 x).toNatClampNeg 0) ∨
    ((na 14 x).toInt = 5 ∧ sz G.ta (na 15 x) = 2 ∧ PcT na ma V (na 17 x)) ∨
    ((na 14 x).toInt = 5 ∧ sz G.ta (na 15 x) ≠ 2 ∧ V (na 17 x).toNatClampNeg 0) ∨
    ((na 14 x).toInt = 6 ∧ PcT na ma V (na 17 x)) ∨
    ((na 14 x).toInt = 7 ∧ ∃ m, RwA na (fun y => V y 0) m (na 17 x)) ∨
    ((na 14 x).toInt = 8 ∧ V (na 17 x).toNatClampNeg 0 ∧ V (ma 18 x).toNatClampNeg 0 ∧ V (ma 19 x).toNatClampNeg 0) ∨
    ((na 14 x).toInt = 9 ∧ PcT na ma V (na 17 x) ∧ V (ma 18 x).toNatClampNeg 0)))
/-- a variable: t = 5 of a function, t = 6 of the text -/
def LcV (G : Gm) (na ma : Nat → Nat → Int32) (V : Nat → Nat → Prop) (x t : Nat) : Prop :=
  ((na 17 x).toInt < 0 ∧ SyV G.ca G.ns G.ys (ma 20 x) ∧ ((ma 22 x).toInt = 0 ∨ ((ma 22 x).toInt = 1 ∧ (t = 5 → V (ma 18 x).toNatClampNeg 0)))) ∨
  (0 ≤ (na 17 x).toInt ∧ SyA G.ca G.ns G.ys (ma 20 x) ∧ (G.ca 49 (ma 20 x).toNatClampNeg).toInt ≤ 3 ∧
    ((ma 22 x).toInt = 0 ∨ ((ma 22 x).toInt = 2 ∧ ∃ m : Nat, RwL na m (ma 18 x) ∧ (m : Int) ≤ (G.ca 52 (ma 20 x).toNatClampNeg).toInt) ∨ ((ma 22 x).toInt = 3 ∧ wh G.ta (ma 19 x) + 1 ≤ (G.ca 52 (ma 20 x).toNatClampNeg).toInt)))
def OpT (V : Nat → Nat → Prop) (p : Int32) (t : Nat) : Prop := p.toInt < 0 ∨ V p.toNatClampNeg t
/-- a statement: t = 2 outside of loops, 3 inside of a switch, 4 inside of a loop -/
def LcS (G : Gm) (na ma : Nat → Nat → Int32) (V : Nat → Nat → Prop) (x t : Nat) : Prop :=
  (2 ≤ t ∧ t ≤ 4) ∧ ((na 14 x).toInt = 21 ∨ (na 14 x).toInt = 29 ∨ (na 14 x).toInt = 30 ∨
    ((na 14 x).toInt = 20 ∧ ∃ m, RwA na (fun y => V y t) m (na 17 x)) ∨
    ((na 14 x).toInt = 22 ∧ V (na 17 x).toNatClampNeg 0) ∨
    ((na 14 x).toInt = 23 ∧ ∃ m, RwA na (fun y => V y 5) m (na 17 x)) ∨
    ((na 14 x).toInt = 24 ∧ V (na 17 x).toNatClampNeg 0 ∧ V (ma 18 x).toNatClampNeg t ∧ OpT V (ma 19 x) t) ∨
    (((na 14 x).toInt = 25 ∨ (na 14 x).toInt = 26) ∧ V (na 17 x).toNatClampNeg 0 ∧ V (ma 18 x).toNatClampNeg 4) ∨
    ((na 14 x).toInt = 27 ∧ OpT V (na 17 x) t ∧ OpT V (ma 18 x) 0 ∧ OpT V (ma 19 x) 0 ∧ V (ma 20 x).toNatClampNeg 4) ∨
    ((na 14 x).toInt = 28 ∧ V (na 17 x).toNatClampNeg 0 ∧ ∃ m, RwA na (fun y => V y (if t = 4 then 4 else 3)) m (ma 18 x)) ∨
    ((na 14 x).toInt = 31 ∧ 3 ≤ t) ∨ ((na 14 x).toInt = 32 ∧ t = 4) ∨
    ((na 14 x).toInt = 33 ∧ OpT V (na 17 x) 0))
def Lc (G : Gm) (na ma : Nat → Nat → Int32) (V : Nat → Nat → Prop) (x t : Nat) : Prop := LcE G na ma V x t ∨ LcS G na ma V x t ∨ ((t = 5 ∨ t = 6) ∧ LcV G na ma V x t)
section LC
variable {G : Gm} {na ma ma' : Nat → Nat → Int32} {V V' : Nat → Nat → Prop}
theorem AgR.mono (h : ∀ y s, V y s → V' y s) {L : Nat → Int} : ∀ {m k : Nat} {e : Int32}, AgR na V L m k e → AgR na V' L m k e
  | 0, _, _, g => g
  | m + 1, _, _, g => by
    rcases g with g | ⟨g1, g2, g3, g4⟩
    · exact Or.inl g
    · exact Or.inr ⟨g1, g2, h _ _ g3, AgR.mono h g4⟩
theorem RwA.mono {P P' : Nat → Prop} (h : ∀ y, P y → P' y) : ∀ {m : Nat} {e : Int32}, RwA na P m e → RwA na P' m e
  | 0, _, g => g
  | m + 1, _, g => by
    rcases g with g | ⟨g1, g2⟩
    · exact Or.inl g
    · exact Or.inr ⟨h _ g1, RwA.mono h g2⟩
theorem PcT.mono {p : Int32} (h : ∀ y s, V y s → V' y s) (g : PcT na ma V p) : PcT na ma V' p := ⟨h _ _ g.1, g.2⟩
theorem OpT.mono {p : Int32} {t : Nat} (h : ∀ y s, V y s → V' y s) (g : OpT V p t) : OpT V' p t := g.imp id (h _ _)
theorem Lc.mono {x t : Nat} (h : ∀ y s, V y s → V' y s) (g : Lc G na ma V x t) : Lc G na ma V' x t := by
  rcases g with g | g | ⟨g0, g⟩
  · refine Or.inl ?_
    rcases g with g | ⟨g0, g⟩
    · exact Or.inl g
    · refine Or.inr ⟨g0, ?_⟩
      rcases g with g | g | ⟨g, g1, m, g2⟩ | ⟨g, g1, g2⟩ | ⟨g, g1, g2⟩ | ⟨g, g1, g2⟩ | ⟨g, g1⟩ | ⟨g, m, g1⟩ | ⟨g, g1, g2, g3⟩ | ⟨g, g1, g2⟩
      · exact Or.inl g
      · exact Or.inr (Or.inl g)
      · exact Or.inr (Or.inr (Or.inl ⟨g, g1, m, g2.mono h⟩))
      · exact Or.inr (Or.inr (Or.inr (Or.inl ⟨g, g1, h _ _ g2⟩)))
      · exact Or.inr (Or.inr (Or.inr (Or.inr (Or.inl ⟨g, g1, g2.mono h⟩))))
      · exact Or.inr (Or.inr (Or.inr (Or.inr (Or.inr (Or.inl ⟨g, g1, h _ _ g2⟩)))))
      · exact Or.inr (Or.inr (Or.inr (Or.inr (Or.inr (Or.inr (Or.inl ⟨g, g1.mono h⟩))))))
      · exact Or.inr (Or.inr (Or.inr (Or.inr (Or.inr (Or.inr (Or.inr (Or.inl ⟨g, m, g1.mono (fun y q => h _ _ q)⟩)))))))
      · exact Or.inr (Or.inr (Or.inr (Or.inr (Or.inr (Or.inr (Or.inr (Or.inr (Or.inl ⟨g, h _ _ g1, h _ _ g2, h _ _ g3⟩))))))))
      · exact Or.inr (Or.inr (Or.inr (Or.inr (Or.inr (Or.inr (Or.inr (Or.inr (Or.inr ⟨g, g1.mono h, h _ _ g2⟩))))))))
  · refine Or.inr (Or.inl ⟨g.1, ?_⟩)
    rcases g.2 with g | g | g | ⟨g, m, g1⟩ | ⟨g, g1⟩ | ⟨g, m, g1⟩ | ⟨g, g1, g2, g3⟩ | ⟨g, g1, g2⟩ | ⟨g, g1, g2, g3, g4⟩ | ⟨g, g1, m, g2⟩ | g | g | ⟨g, g1⟩
    · exact Or.inl g
    · exact Or.inr (Or.inl g)
    · exact Or.inr (Or.inr (Or.inl g))
    · exact Or.inr (Or.inr (Or.inr (Or.inl ⟨g, m, g1.mono (fun y q => h _ _ q)⟩)))
    · exact Or.inr (Or.inr (Or.inr (Or.inr (Or.inl ⟨g, h _ _ g1⟩))))
    · exact Or.inr (Or.inr (Or.inr (Or.inr (Or.inr (Or.inl ⟨g, m, g1.mono (fun y q => h _ _ q)⟩)))))
    · exact Or.inr (Or.inr (Or.inr (Or.inr (Or.inr (Or.inr (Or.inl ⟨g, h _ _ g1, h _ _ g2, g3.mono h⟩))))))
    · exact Or.inr (Or.inr (Or.inr (Or.inr (Or.inr (Or.inr (Or.inr (Or.inl ⟨g, h _ _ g1, h _ _ g2⟩)))))))
    · exact Or.inr (Or.inr (Or.inr (Or.inr (Or.inr (Or.inr (Or.inr (Or.inr (Or.inl ⟨g, g1.mono h, g2.mono h, g3.mono h, h _ _ g4⟩))))))))
    · exact Or.inr (Or.inr (Or.inr (Or.inr (Or.inr (Or.inr (Or.inr (Or.inr (Or.inr (Or.inl ⟨g, h _ _ g1, m, g2.mono (fun y q => h _ _ q)⟩)))))))))
    · exact Or.inr (Or.inr (Or.inr (Or.inr (Or.inr (Or.inr (Or.inr (Or.inr (Or.inr (Or.inr (Or.inl g))))))))))
    · exact Or.inr (Or.inr (Or.inr (Or.inr (Or.inr (Or.inr (Or.inr (Or.inr (Or.inr (Or.inr (Or.inr (Or.inl g)))))))))))
    · exact Or.inr (Or.inr (Or.inr (Or.inr (Or.inr (Or.inr (Or.inr (Or.inr (Or.inr (Or.inr (Or.inr (Or.inr ⟨g, g1.mono h⟩)))))))))))
  · refine Or.inr (Or.inr ⟨g0, ?_⟩)
    rcases g with ⟨g1, g2, g3⟩ | g
    · exact Or.inl ⟨g1, g2, g3.imp id (fun q => ⟨q.1, fun r => h _ _ (q.2 r)⟩)⟩
    · exact Or.inr g
/-- the notes that a node's check reads stand -/
theorem Lc.fr {x t : Nat} (h : ∀ k, ma' k x = ma k x) (hV : ∀ y s, V y s → ma' 18 y = ma 18 y) (g : Lc G na ma V x t) : Lc G na ma' V x t := by
  have pc : ∀ {p : Int32}, PcT na ma V p → PcT na ma' V p := fun q => ⟨q.1, by rw [hV _ _ q.1]; exact q.2⟩
  unfold Lc LcE LcS LcV at g ⊢
  rw [h 18, h 19, h 20, h 22]
  rcases g with g | g | g
  · refine Or.inl (g.imp id (fun q => ⟨q.1, ?_⟩))
    rcases q.2 with g | g | g | g | ⟨g, g1, g2⟩ | g | ⟨g, g1⟩ | g | g | ⟨g, g1, g2⟩
    · exact Or.inl g
    · exact Or.inr (Or.inl g)
    · exact Or.inr (Or.inr (Or.inl g))
    · exact Or.inr (Or.inr (Or.inr (Or.inl g)))
    · exact Or.inr (Or.inr (Or.inr (Or.inr (Or.inl ⟨g, g1, pc g2⟩))))
    · exact Or.inr (Or.inr (Or.inr (Or.inr (Or.inr (Or.inl g)))))
    · exact Or.inr (Or.inr (Or.inr (Or.inr (Or.inr (Or.inr (Or.inl ⟨g, pc g1⟩))))))
    · exact Or.inr (Or.inr (Or.inr (Or.inr (Or.inr (Or.inr (Or.inr (Or.inl g)))))))
    · exact Or.inr (Or.inr (Or.inr (Or.inr (Or.inr (Or.inr (Or.inr (Or.inr (Or.inl g))))))))
    · exact Or.inr (Or.inr (Or.inr (Or.inr (Or.inr (Or.inr (Or.inr (Or.inr (Or.inr ⟨g, pc g1, g2⟩))))))))
  · exact Or.inr (Or.inl g)
  · exact Or.inr (Or.inr g)
end LC
/-! SETS of nodes that are checked -/
def Ts (G : Gm) (na ma : Nat → Nat → Int32) (lo hi : Int) (V : Nat → Nat → Prop) : Prop := ∀ x t, V x t → (lo ≤ (x : Int) ∧ (x : Int) < hi) ∧ Lc G na ma V x t
def TyE (G : Gm) (na ma : Nat → Nat → Int32) (lo hi : Int) (n : Int32) (t : Nat) : Prop := ∃ V, Ts G na ma lo hi V ∧ V n.toNatClampNeg t
/-- a stretch of a row -/
def SgV (na : Nat → Nat → Int32) (P : Nat → Prop) : Nat → Int32 → Int32 → Prop
  | 0 => fun z k => z = k
  | m + 1 => fun z k => (0 ≤ z.toInt ∧ P z.toNatClampNeg) ∧ SgV na P m (na 21 z.toNatClampNeg) k
def TyR (G : Gm) (na ma : Nat → Nat → Int32) (lo hi : Int) (z k : Int32) (t : Nat) : Prop := ∃ V m, Ts G na ma lo hi V ∧ SgV na (fun y => V y t) m z k
def SgA (na : Nat → Nat → Int32) (V : Nat → Nat → Prop) (L : Nat → Int) : Nat → Nat → Int32 → Int32 → Prop
  | 0 => fun _ z k => z = k
  | m + 1 => fun j z k => (0 ≤ z.toInt ∧ (L j = 105 → V z.toNatClampNeg 0) ∧ (L j ≠ 105 → L j ≠ 32 → V z.toNatClampNeg 1)) ∧ SgA na V L m (j + 1) (na 21 z.toNatClampNeg) k
def TyA (G : Gm) (na ma : Nat → Nat → Int32) (lo hi : Int) (L : Nat → Int) (z k : Int32) (m : Nat) : Prop := ∃ V, Ts G na ma lo hi V ∧ SgA na V L m 0 z k
section TS
variable {G : Gm} {na ma ma' : Nat → Nat → Int32} {V V' : Nat → Nat → Prop} {lo hi lo' hi' a b : Int} {n z k : Int32} {t m : Nat}
theorem Ts.le (h : Ts G na ma lo hi V) (h1 : lo' ≤ lo) (h2 : hi ≤ hi') : Ts G na ma lo' hi' V := fun x t q => ⟨by have := (h x t q).1; omega, (h x t q).2⟩
theorem Ts.un (h : Ts G na ma lo hi V) (k : Ts G na ma lo hi V') : Ts G na ma lo hi (fun x t => V x t ∨ V' x t) := fun x t q => q.elim (fun q => ⟨(h x t q).1, (h x t q).2.mono (fun _ _ r => Or.inl r)⟩) (fun q => ⟨(k x t q).1, (k x t q).2.mono (fun _ _ r => Or.inr r)⟩)
theorem ts_0 : Ts G na ma lo hi (fun _ _ => False) := fun _ _ q => q.elim
theorem Ts.add (h : Ts G na ma lo hi V) {x t : Nat} (hx : lo ≤ (x : Int) ∧ (x : Int) < hi) (l : Lc G na ma (fun y s => V y s ∨ (y = x ∧ s = t)) x t) : Ts G na ma lo hi (fun y s => V y s ∨ (y = x ∧ s = t)) := fun y s q => q.elim (fun q => ⟨(h y s q).1, (h y s q).2.mono (fun _ _ r => Or.inl r)⟩) (fun q => by obtain ⟨rfl, rfl⟩ := q; exact ⟨hx, l⟩)
theorem Ts.fr (h : Ts G na ma lo hi V) (f : FrC a b ma ma') (hd : hi ≤ a ∨ b ≤ lo) : Ts G na ma' lo hi V := fun x t q => by
  have r := (h x t q).1
  exact ⟨r, (h x t q).2.fr (fun k => f x (by first | with_reducible rfl | with_reducible assumption | omega) k) (fun y s p => f y (by have := (h y s p).1; omega) 18)⟩
theorem TyE.le (h : TyE G na ma lo hi n t) (h1 : lo' ≤ lo) (h2 : hi ≤ hi') : TyE G na ma lo' hi' n t := h.elim fun V q => ⟨V, q.1.le h1 h2, q.2⟩
theorem TyE.fr (h : TyE G na ma lo hi n t) (f : FrC a b ma ma') (hd : hi ≤ a ∨ b ≤ lo) : TyE G na ma' lo hi n t := h.elim fun V q => ⟨V, q.1.fr f hd, q.2⟩
theorem TyR.le (h : TyR G na ma lo hi z k t) (h1 : lo' ≤ lo) (h2 : hi ≤ hi') : TyR G na ma lo' hi' z k t := h.elim fun V q => q.elim fun m q => ⟨V, m, q.1.le h1 h2, q.2⟩
theorem TyR.fr (h : TyR G na ma lo hi z k t) (f : FrC a b ma ma') (hd : hi ≤ a ∨ b ≤ lo) : TyR G na ma' lo hi z k t := h.elim fun V q => q.elim fun m q => ⟨V, m, q.1.fr f hd, q.2⟩
theorem TyA.fr {L : Nat → Int} (h : TyA G na ma lo hi L z k m) (f : FrC a b ma ma') (hd : hi ≤ a ∨ b ≤ lo) : TyA G na ma' lo hi L z k m := h.elim fun V q => ⟨V, q.1.fr f hd, q.2⟩
theorem TyA.le {L : Nat → Int} (h : TyA G na ma lo hi L z k m) (h1 : lo' ≤ lo) (h2 : hi ≤ hi') : TyA G na ma lo' hi' L z k m := h.elim fun V q => ⟨V, q.1.le h1 h2, q.2⟩
theorem SgV.mono {P P' : Nat → Prop} (h : ∀ y, P y → P' y) : ∀ {m : Nat} {z k : Int32}, SgV na P m z k → SgV na P' m z k
  | 0, _, _, g => g
  | _ + 1, _, _, g => ⟨⟨g.1.1, h _ g.1.2⟩, SgV.mono h g.2⟩
theorem SgV.app {P : Nat → Prop} : ∀ {m : Nat} {z k k' : Int32}, SgV na P m z k → 0 ≤ k.toInt → P k.toNatClampNeg → k' = na 21 k.toNatClampNeg → SgV na P (m + 1) z k'
  | 0, z, k, k', g, h0, h1, e => by
    have g : z = k := g
    subst g
    exact ⟨⟨h0, h1⟩, e.symm⟩
  | _ + 1, _, _, _, g, h0, h1, e => ⟨g.1, SgV.app g.2 h0 h1 e⟩
theorem SgV.row {P : Nat → Prop} : ∀ {m : Nat} {z k : Int32}, SgV na P m z k → k.toInt < 0 → RwA na P m z
  | 0, z, k, g, h => by
    have g : z = k := g
    subst g; exact h
  | _ + 1, _, _, g, h => Or.inr ⟨g.1.2, SgV.row g.2 h⟩
theorem SgV.len {P : Nat → Prop} : ∀ {m : Nat} {z k : Int32}, SgV na P m z k → k.toInt < 0 → RwL na m z
  | 0, z, k, g, h => by
    have g : z = k := g
    subst g; exact h
  | _ + 1, _, _, g, h => ⟨g.1.1, SgV.len g.2 h⟩
theorem SgA.mono {L : Nat → Int} (h : ∀ y s, V y s → V' y s) : ∀ {m j : Nat} {z k : Int32}, SgA na V L m j z k → SgA na V' L m j z k
  | 0, _, _, _, g => g
  | _ + 1, _, _, _, g => ⟨⟨g.1.1, fun q => h _ _ (g.1.2.1 q), fun q r => h _ _ (g.1.2.2 q r)⟩, SgA.mono h g.2⟩
theorem SgA.app {L : Nat → Int} : ∀ {m j : Nat} {z k k' : Int32}, SgA na V L m j z k → 0 ≤ k.toInt → (L (j + m) = 105 → V k.toNatClampNeg 0) → (L (j + m) ≠ 105 → L (j + m) ≠ 32 → V k.toNatClampNeg 1) → k' = na 21 k.toNatClampNeg → SgA na V L (m + 1) j z k'
  | 0, j, z, k, k', g, h0, h1, h2, e => by
    have g : z = k := g
    subst g
    exact ⟨⟨h0, h1, h2⟩, e.symm⟩
  | m + 1, j, _, _, _, g, h0, h1, h2, e => ⟨g.1, SgA.app g.2 h0 (by rw [show j + 1 + m = j + (m + 1) by omega]; exact h1) (by rw [show j + 1 + m = j + (m + 1) by omega]; exact h2) e⟩
theorem SgA.row {L : Nat → Int} : ∀ {m j : Nat} {z k : Int32}, SgA na V L m j z k → k.toInt < 0 → L (j + m) = 32 → (∀ i, i < m → L (j + i) ≠ 32) → AgR na V L m j z
  | 0, j, z, k, g, h, h1, h2 => by
    have g : z = k := g
    subst g; exact ⟨h, h1⟩
  | m + 1, j, z, k, g, h, h1, h2 => by
    have l0 : L j ≠ 32 := h2 0 (by first | with_reducible rfl | with_reducible assumption | omega)
    refine Or.inr ⟨g.1.1, l0, ?_, SgA.row g.2 h (by rw [show j + 1 + m = j + (m + 1) by omega]; exact h1) (fun i hi => by rw [show j + 1 + i = j + (i + 1) by omega]; exact h2 (i + 1) (by first | with_reducible rfl | with_reducible assumption | omega))⟩
    by_cases e : L j = 105
    · rw [if_pos e]; exact g.1.2.1 e
    · rw [if_neg e]; exact g.1.2.2 e l0
theorem tyr_0 : TyR G na ma lo hi z z t := ⟨fun _ _ => False, 0, ts_0, rfl⟩
theorem TyR.s {k' : Int32} (h : TyR G na ma lo hi z k t) (q : TyE G na ma lo hi k t) (h0 : 0 ≤ k.toInt) (e : k' = na 21 k.toNatClampNeg) : TyR G na ma lo hi z k' t := by
  obtain ⟨V, m, h1, h2⟩ := h
  obtain ⟨V', q1, q2⟩ := q
  exact ⟨fun x t => V x t ∨ V' x t, m + 1, h1.un q1, (h2.mono (fun _ r => Or.inl r)).app h0 (Or.inr q2) e⟩
theorem tya_0 {L : Nat → Int} : TyA G na ma lo hi L z z 0 := ⟨fun _ _ => False, ts_0, rfl⟩
/-- an argument: a number, an array, or one that nobody wants -/
def ArT (G : Gm) (na ma : Nat → Nat → Int32) (lo hi : Int) (k : Int32) (w : Int) : Prop := (w = 105 → TyE G na ma lo hi k 0) ∧ (w ≠ 105 → w ≠ 32 → TyE G na ma lo hi k 1)
theorem TyA.s {L : Nat → Int} {k' : Int32} {w : Int} {m' : Nat} (h : TyA G na ma lo hi L z k m) (q : ArT G na ma lo hi k w) (hw : w = L m) (h0 : 0 ≤ k.toInt) (e : k' = na 21 k.toNatClampNeg) (hm : m' = m + 1) : TyA G na ma lo hi L z k' m' := by
  subst hm
  obtain ⟨V, h1, h2⟩ := h
  by_cases e1 : w = 105
  · obtain ⟨V', q1, q2⟩ := q.1 e1
    exact ⟨fun x t => V x t ∨ V' x t, h1.un q1, (h2.mono (fun _ _ r => Or.inl r)).app h0 (fun _ => Or.inr q2) (fun g => absurd (by rw [Nat.zero_add, ← hw]; exact e1) g) e⟩
  · by_cases e2 : w = 32
    · exact ⟨V, h1, h2.app h0 (fun g => absurd (by rw [Nat.zero_add, ← hw] at g; exact g) e1) (fun _ g => absurd (by rw [Nat.zero_add, ← hw]; exact e2) g) e⟩
    · obtain ⟨V', q1, q2⟩ := q.2 e1 e2
      exact ⟨fun x t => V x t ∨ V' x t, h1.un q1, (h2.mono (fun _ _ r => Or.inl r)).app h0 (fun g => absurd (by rw [Nat.zero_add, ← hw] at g; exact g) e1) (fun _ _ => Or.inr q2) e⟩
theorem ArT.fr {w : Int} (h : ArT G na ma lo hi k w) (f : FrC a b ma ma') (hd : hi ≤ a ∨ b ≤ lo) : ArT G na ma' lo hi k w := ⟨fun q => (h.1 q).fr f hd, fun q r => (h.2 q r).fr f hd⟩
theorem ArT.le {w : Int} (h : ArT G na ma lo hi k w) (h1 : lo' ≤ lo) (h2 : hi ≤ hi') : ArT G na ma lo' hi' k w := ⟨fun q => (h.1 q).le h1 h2, fun q r => (h.2 q r).le h1 h2⟩
/-! one node more -/
theorem ty_mk (s : Ts G na ma lo hi V) (hn : lo ≤ n.toInt ∧ n.toInt < hi ∧ 0 ≤ n.toInt) (l : Lc G na ma V n.toNatClampNeg t) : TyE G na ma lo hi n t := by
  have := cl_nat hn.2.2
  exact ⟨_, s.add (by first | with_reducible rfl | with_reducible assumption | omega) (l.mono (fun _ _ q => Or.inl q)), Or.inr ⟨rfl, rfl⟩⟩
theorem ty_1 (hn : lo ≤ n.toInt ∧ n.toInt < hi ∧ 0 ≤ n.toInt) (e : (na 14 n.toNatClampNeg).toInt = 1) : TyE G na ma lo hi n 0 := ty_mk ts_0 hn (Or.inl (Or.inr ⟨rfl, Or.inl e⟩))
theorem ty_2 (hn : lo ≤ n.toInt ∧ n.toInt < hi ∧ 0 ≤ n.toInt) (e : (na 14 n.toNatClampNeg).toInt = 2) (g : (ma 18 n.toNatClampNeg).toInt < 0 ∨ SyV G.ca G.ns G.ys (ma 18 n.toNatClampNeg)) : TyE G na ma lo hi n 0 := ty_mk ts_0 hn (Or.inl (Or.inr ⟨rfl, Or.inr (Or.inl ⟨e, g⟩)⟩))
theorem ty_2a (hn : lo ≤ n.toInt ∧ n.toInt < hi ∧ 0 ≤ n.toInt) (e : (na 14 n.toNatClampNeg).toInt = 2) (g : SyA G.ca G.ns G.ys (ma 18 n.toNatClampNeg)) : TyE G na ma lo hi n 1 := ty_mk ts_0 hn (Or.inl (Or.inl ⟨rfl, e, g⟩))
theorem ty_4 (hn : lo ≤ n.toInt ∧ n.toInt < hi ∧ 0 ≤ n.toInt) (e : (na 14 n.toNatClampNeg).toInt = 4) (g : SyA G.ca G.ns G.ys (ma 18 n.toNatClampNeg)) (ez : z = na 17 n.toNatClampNeg) (h : TyE G na ma lo hi z 0) : TyE G na ma lo hi n 0 := by
  subst ez; obtain ⟨V, h1, h2⟩ := h
  exact ty_mk h1 hn (Or.inl (Or.inr ⟨rfl, Or.inr (Or.inr (Or.inr (Or.inl ⟨e, g, h2⟩)))⟩))
/-- a place: an element, or a name of a value -/
def PlO (na ma : Nat → Nat → Int32) (n : Int32) (is : Int) : Prop := (is ≠ 2 ∧ is ≠ 3) ∧ ((na 14 n.toNatClampNeg).toInt = 4 ∨ ((na 14 n.toNatClampNeg).toInt = 2 ∧ (is = 0 ∨ (is = 1 ∧ 0 ≤ (ma 18 n.toNatClampNeg).toInt))))
theorem plo_pc {is : Int} (p : PlO na ma z is) (h0 : is ≠ 0) (h : V z.toNatClampNeg 0) : PcT na ma V z := ⟨h, p.2.imp id (fun q => ⟨q.1, by rcases q.2 with r | r; exact absurd r h0; exact r.2⟩)⟩
theorem ty_5p (hn : lo ≤ n.toInt ∧ n.toInt < hi ∧ 0 ≤ n.toInt) {is : Int} (e : (na 14 n.toNatClampNeg).toInt = 5) (g : sz G.ta (na 15 n.toNatClampNeg) = 2) (ez : z = na 17 n.toNatClampNeg) (h : TyE G na ma lo hi z 0) (p : PlO na ma z is) (h0 : is ≠ 0) : TyE G na ma lo hi n 0 := by
  subst ez; obtain ⟨V, h1, h2⟩ := h
  exact ty_mk h1 hn (Or.inl (Or.inr ⟨rfl, Or.inr (Or.inr (Or.inr (Or.inr (Or.inl ⟨e, g, plo_pc p h0 h2⟩))))⟩))
theorem ty_5 (hn : lo ≤ n.toInt ∧ n.toInt < hi ∧ 0 ≤ n.toInt) (e : (na 14 n.toNatClampNeg).toInt = 5) (g : sz G.ta (na 15 n.toNatClampNeg) ≠ 2) (ez : z = na 17 n.toNatClampNeg) (h : TyE G na ma lo hi z 0) : TyE G na ma lo hi n 0 := by
  subst ez; obtain ⟨V, h1, h2⟩ := h
  exact ty_mk h1 hn (Or.inl (Or.inr ⟨rfl, Or.inr (Or.inr (Or.inr (Or.inr (Or.inr (Or.inl ⟨e, g, h2⟩)))))⟩))
theorem ty_6 (hn : lo ≤ n.toInt ∧ n.toInt < hi ∧ 0 ≤ n.toInt) {is : Int} (e : (na 14 n.toNatClampNeg).toInt = 6) (ez : z = na 17 n.toNatClampNeg) (h : TyE G na ma lo hi z 0) (p : PlO na ma z is) (h0 : is ≠ 0) : TyE G na ma lo hi n 0 := by
  subst ez; obtain ⟨V, h1, h2⟩ := h
  exact ty_mk h1 hn (Or.inl (Or.inr ⟨rfl, Or.inr (Or.inr (Or.inr (Or.inr (Or.inr (Or.inr (Or.inl ⟨e, plo_pc p h0 h2⟩))))))⟩))
theorem ty_7 (hn : lo ≤ n.toInt ∧ n.toInt < hi ∧ 0 ≤ n.toInt) (e : (na 14 n.toNatClampNeg).toInt = 7) (ez : z = na 17 n.toNatClampNeg) (h : TyR G na ma lo hi z k 0) (hk : k.toInt < 0) : TyE G na ma lo hi n 0 := by
  subst ez; obtain ⟨V, m, h1, h2⟩ := h
  exact ty_mk h1 hn (Or.inl (Or.inr ⟨rfl, Or.inr (Or.inr (Or.inr (Or.inr (Or.inr (Or.inr (Or.inr (Or.inl ⟨e, m, h2.row hk⟩)))))))⟩))
theorem ty_8 (hn : lo ≤ n.toInt ∧ n.toInt < hi ∧ 0 ≤ n.toInt) {y x : Int32} (e : (na 14 n.toNatClampNeg).toInt = 8) (ez : z = na 17 n.toNatClampNeg) (ey : y = ma 18 n.toNatClampNeg) (ex : x = ma 19 n.toNatClampNeg) (h : TyE G na ma lo hi z 0) (h' : TyE G na ma lo hi y 0) (h'' : TyE G na ma lo hi x 0) : TyE G na ma lo hi n 0 := by
  subst ez; subst ey; subst ex; obtain ⟨V, h1, h2⟩ := h; obtain ⟨V', h3, h4⟩ := h'; obtain ⟨V'', h5, h6⟩ := h''
  exact ty_mk ((h1.un h3).un h5) hn (Or.inl (Or.inr ⟨rfl, Or.inr (Or.inr (Or.inr (Or.inr (Or.inr (Or.inr (Or.inr (Or.inr (Or.inl ⟨e, Or.inl (Or.inl h2), Or.inl (Or.inr h4), Or.inr h6⟩))))))))⟩))
theorem ty_9 (hn : lo ≤ n.toInt ∧ n.toInt < hi ∧ 0 ≤ n.toInt) {y : Int32} {is : Int} (e : (na 14 n.toNatClampNeg).toInt = 9) (ez : z = na 17 n.toNatClampNeg) (ey : y = ma 18 n.toNatClampNeg) (h : TyE G na ma lo hi z 0) (p : PlO na ma z is) (h0 : is ≠ 0) (h' : TyE G na ma lo hi y 0) : TyE G na ma lo hi n 0 := by
  subst ez; subst ey; obtain ⟨V, h1, h2⟩ := h; obtain ⟨V', h3, h4⟩ := h'
  exact ty_mk (h1.un h3) hn (Or.inl (Or.inr ⟨rfl, Or.inr (Or.inr (Or.inr (Or.inr (Or.inr (Or.inr (Or.inr (Or.inr (Or.inr ⟨e, (plo_pc p h0 h2).mono (fun _ _ q => Or.inl q), Or.inr h4⟩))))))))⟩))
theorem ty_3 (hn : lo ≤ n.toInt ∧ n.toInt < hi ∧ 0 ≤ n.toInt) {code : Int32} (e : (na 14 n.toNatClampNeg).toInt = 3) (ec : code = ma 18 n.toNatClampNeg) (hc : CeN G.nf code.toInt) (ez : z = na 17 n.toNatClampNeg) (h : TyA G na ma lo hi (G.L code.toInt) z k m) (hk : k.toInt < 0) (h1 : G.L code.toInt m = 32) (h2 : ∀ i, i < m → G.L code.toInt i ≠ 32) : TyE G na ma lo hi n 0 := by
  subst ez; subst ec; obtain ⟨V, q1, q2⟩ := h
  exact ty_mk q1 hn (Or.inl (Or.inr ⟨rfl, Or.inr (Or.inr (Or.inl ⟨e, hc, m, q2.row hk (by rw [Nat.zero_add]; exact h1) (fun i hi => by rw [Nat.zero_add]; exact h2 i hi)⟩))⟩))
end TS
/-! what a check tells, if nothing is wrong -/
def Zr (cf : Nat → Int32) (P : Prop) : Prop := (cf 30).toInt = 0 → P
theorem Zr.kp {cf cf' : Nat → Int32} {P Q : Prop} (h : Zr cf P) (k : KpE cf cf') (f : P → Q) : Zr cf' Q := fun z => f (h (k.2 z))
theorem Zr.mp {cf : Nat → Int32} {P Q : Prop} (h : Zr cf P) (f : P → Q) : Zr cf Q := fun z => f (h z)
theorem zr_no {cf : Nat → Int32} {P : Prop} (h : 1 ≤ (cf 30).toInt) : Zr cf P := fun z => absurd z (by first | with_reducible rfl | with_reducible assumption | omega)
def TyV (G : Gm) (na ma : Nat → Nat → Int32) (lo hi : Int) (n : Int32) (v : Int) : Prop := ((v = 2 ∨ v = 3) ∧ TyE G na ma lo hi n 1) ∨ ((v = 1 ∨ v = 4) ∧ TyE G na ma lo hi n 0)
def ZTy (cf : Nat → Int32) (G : Gm) (na ma : Nat → Nat → Int32) (lo hi : Int) (n : Int32) (v : Int) : Prop := Zr cf (TyV G na ma lo hi n v)
/-- a name: what find gives -/
def NmO (ta ca na ma : Nat → Nat → Int32) (kn : Int) (n : Int32) (v : Int) : Prop := ∃ k : Int, FndV ta ca kn (na 15 n.toNatClampNeg) 0 k ∧ ((k < 0 ∧ v = 0) ∨ (0 ≤ k ∧ v ≠ 0 ∧ ma 18 n.toNatClampNeg = ca 53 k.toNat))
def NmJ (ta ca na ma : Nat → Nat → Int32) (kn : Int) (n : Int32) (v : Int) : Prop := (na 14 n.toNatClampNeg).toInt = 2 → NmO ta ca na ma kn n v
section NM
variable {ta ca na ma ma' : Nat → Nat → Int32} {kn v : Int} {n : Int32}
theorem NmO.fr {a b : Int} (h : NmO ta ca na ma kn n v) (f : FrC a b ma ma') (hd : n.toInt < a ∨ b ≤ n.toInt) (h0 : 0 ≤ n.toInt) : NmO ta ca na ma' kn n v := by
  unfold NmO at h ⊢; rw [f.at hd h0]; exact h
end NM
/-! LEMMAS of the check of expressions -/
theorem FndV.eq {ta ca : Nat → Nat → Int32} {n n' f v : Int} {t : Int32} (h : FndV ta ca n t f v) (e : n = n') : FndV ta ca n' t f v := e ▸ h
theorem Ann.b18 {na ma0 ma : Nat → Nat → Int32} {x : Nat} (h : Ann na ma0 ma) (k : 5 ≤ (na 14 x).toInt ∧ (na 14 x).toInt ≤ 28) : ma 18 x = ma0 18 x := (h x).1 (by first | with_reducible rfl | with_reducible assumption | omega) (by first | with_reducible rfl | with_reducible assumption | omega) (by first | with_reducible rfl | with_reducible assumption | omega) (by first | with_reducible rfl | with_reducible assumption | omega) (by first | with_reducible rfl | with_reducible assumption | omega) (by first | with_reducible rfl | with_reducible assumption | omega)
theorem Ann.b19 {na ma0 ma : Nat → Nat → Int32} {x : Nat} (h : Ann na ma0 ma) (k : 3 ≤ (na 14 x).toInt ∧ (na 14 x).toInt ≤ 28) : ma 19 x = ma0 19 x := (h x).2.1 (by first | with_reducible rfl | with_reducible assumption | omega) (by first | with_reducible rfl | with_reducible assumption | omega) (by first | with_reducible rfl | with_reducible assumption | omega)
section CK
variable {ta ca na ma ma0 : Nat → Nat → Int32} {c kn ns ys nf lo hi n' : Int} {n z w y r : Int32} {k : Int32} {d : Nat} {cf : Nat → Int32} {G : Gm}
theorem EcV.tok (h : EcV ta c na ma0 d lo hi n) (e : z = na 15 n.toNatClampNeg) : 0 ≤ z.toInt ∧ z.toInt < c := by rw [e]; exact h.kind.2.2
theorem EcV.kd (h : EcV ta c na ma0 d lo hi n) (e : z = na 14 n.toNatClampNeg) : z.toInt = (na 14 n.toNatClampNeg).toInt ∧ 1 ≤ z.toInt ∧ z.toInt ≤ 9 := by rw [e]; exact ⟨rfl, h.kind.2.1⟩
theorem ec_0 (h : EcV ta c na ma0 0 lo hi n) : False := absurd h.kind.1 (by decide)
theorem KnS.at (h : KnS ca kn ns ys) (h0 : 0 ≤ k.toInt) (h1 : k.toInt < kn) (ew : w = ca 35 k.toNatClampNeg) (ey : y = ca 53 k.toNatClampNeg) : (w.toInt = 1 ∧ SyV ca ns ys y) ∨ ((w.toInt = 2 ∨ w.toInt = 3) ∧ SyA ca ns ys y) ∨ (w.toInt = 4 ∧ y.toInt < 0) := by
  rw [ew, ey]; exact h _ (by have := cl_nat h0; omega)
theorem nmo_0 (h : FndV ta ca n' z 0 k.toInt) (ez : z = na 15 n.toNatClampNeg) (en : n' = kn) (hv : k.toInt < 0) : NmO ta ca na ma kn n 0 := ⟨k.toInt, by rw [← ez, ← en]; exact h, Or.inl ⟨hv, rfl⟩⟩
theorem nmo_1 {v : Int} (h : FndV ta ca n' z 0 k.toInt) (ez : z = na 15 n.toNatClampNeg) (en : n' = kn) (h0 : 0 ≤ k.toInt) (hm : ma 18 n.toNatClampNeg = y) (ey : y = ca 53 k.toNatClampNeg) (hv : v ≠ 0) : NmO ta ca na ma kn n v := ⟨k.toInt, by rw [← ez, ← en]; exact h, Or.inr ⟨h0, hv, by rw [hm, ey, show k.toInt.toNat = k.toNatClampNeg by have := cl_nat h0; omega]⟩⟩
theorem nm_ty {v : Int} (hn : lo ≤ n.toInt ∧ n.toInt < hi ∧ 0 ≤ n.toInt) (hk : (na 14 n.toNatClampNeg).toInt = 2) (hm : ma 18 n.toNatClampNeg = y) (h : (w.toInt = 1 ∧ SyV ca ns ys y) ∨ ((w.toInt = 2 ∨ w.toInt = 3) ∧ SyA ca ns ys y) ∨ (w.toInt = 4 ∧ y.toInt < 0)) (hv : (v = 2 ∧ w.toInt = 2) ∨ (v = 3 ∧ w.toInt = 3) ∨ (v = 1 ∧ w.toInt ≠ 2 ∧ w.toInt ≠ 3)) : TyV (Gk ta ca na ma0 ns ys nf) na ma lo hi n v := by
  rcases h with ⟨h1, h2⟩ | ⟨h1, h2⟩ | ⟨h1, h2⟩
  · exact Or.inr ⟨by first | with_reducible rfl | with_reducible assumption | omega, ty_2 hn hk (Or.inr (by rw [hm]; exact h2))⟩
  · exact Or.inl ⟨by first | with_reducible rfl | with_reducible assumption | omega, ty_2a hn hk (by rw [hm]; exact h2)⟩
  · exact Or.inr ⟨by first | with_reducible rfl | with_reducible assumption | omega, ty_2 hn hk (Or.inl (by rw [hm]; exact h2))⟩
theorem nm_pos {v : Int} (h : NmO ta ca na ma kn n v) (hv : v ≠ 0) (f : FndV ta ca n' z 0 k.toInt) (ez : z = na 15 n.toNatClampNeg) (en : n' = kn) : 0 ≤ k.toInt ∧ ma 18 n.toNatClampNeg = ca 53 k.toNatClampNeg := by
  obtain ⟨j, h1, h2⟩ := h
  rw [← ez, ← en] at h1
  have e := h1.uniq f
  rcases h2 with h2 | ⟨h2, h3, h4⟩
  · exact absurd h2.2 hv
  · refine ⟨by first | with_reducible rfl | with_reducible assumption | omega, ?_⟩
    rw [h4, e, show k.toInt.toNat = k.toNatClampNeg by have := cl_nat (x := k) (by first | with_reducible rfl | with_reducible assumption | omega); omega]
theorem nm_pl {v : Int} (h : NmO ta ca na ma kn n v) (hv : v ≠ 0) (f : FndV ta ca n' z 0 k.toInt) (ez : z = na 15 n.toNatClampNeg) (en : n' = kn) (hs : KnS ca kn ns ys) (hk : k.toInt < kn) (ew : w = ca 35 k.toNatClampNeg) (hw : w.toInt = 1) : 0 ≤ (ma 18 n.toNatClampNeg).toInt := by
  obtain ⟨h0, h1⟩ := nm_pos h hv f ez en
  rw [h1]
  rcases hs.at h0 hk ew rfl with ⟨-, g⟩ | ⟨g, -⟩ | ⟨g, -⟩
  · exact g.1.1.1
  · omega
  · omega
/-- a name that is known -/
theorem nm_fd {v : Int} (h : NmO ta ca na ma kn n v) (hv : v ≠ 0) : ∃ j : Int, 0 ≤ j ∧ FndV ta ca kn (na 15 n.toNatClampNeg) 0 j := by
  obtain ⟨j, h1, h2⟩ := h
  rcases h2 with h2 | ⟨h2, h3, h4⟩
  · exact absurd h2.2 hv
  · exact ⟨j, h2, h1⟩
def ZSA (cf : Nat → Int32) (ca : Nat → Nat → Int32) (ns ys : Int) (ma : Nat → Nat → Int32) (n : Int32) : Prop := Zr cf (SyA ca ns ys (ma 18 n.toNatClampNeg))
def ZPl (cf : Nat → Int32) (na ma : Nat → Nat → Int32) (n : Int32) (is : Int) : Prop := Zr cf (PlO na ma n is)
def ZAr (cf : Nat → Int32) (G : Gm) (na ma : Nat → Nat → Int32) (lo hi : Int) (n : Int32) (w : Int) : Prop := Zr cf (ArT G na ma lo hi n w)
def ZNm (cf : Nat → Int32) (num v : Int) : Prop := Zr cf (num = 1 → v = 1)
def ZTa (cf : Nat → Int32) (G : Gm) (na ma : Nat → Nat → Int32) (lo hi : Int) (code : Int) (z k : Int32) (m : Int) : Prop := Zr cf (TyA G na ma lo hi (G.L code) z k m.toNat)
def ZTr (cf : Nat → Int32) (G : Gm) (na ma : Nat → Nat → Int32) (lo hi : Int) (z k : Int32) : Prop := Zr cf (TyR G na ma lo hi z k 0)
def RcR (ta : Nat → Nat → Int32) (c : Int) (na ma0 : Nat → Nat → Int32) (d : Nat) (lo hi : Int) (k : Int32) : Prop := RcE na (fun l h x => EcV ta c na ma0 d l h x) lo hi k
def RcN (ta : Nat → Nat → Int32) (c : Int) (na ma0 : Nat → Nat → Int32) (d : Nat) (n : Int32) (lo hi : Int) (k : Int32) : Prop := RcE na (fun l h x => EcV ta c na ma0 d l h x ∧ x.toInt ≠ n.toInt) lo hi k
def cod (f own : Int) : Int := if f < 0 then own else 100 + f
theorem zsa_mk (hm : ma 18 n.toNatClampNeg = y) (h : (w.toInt = 1 ∧ SyV ca ns ys y) ∨ ((w.toInt = 2 ∨ w.toInt = 3) ∧ SyA ca ns ys y) ∨ (w.toInt = 4 ∧ y.toInt < 0)) (hw : w.toInt = 2 ∨ w.toInt = 3) : ZSA cf ca ns ys ma n := fun _ => by
  rw [hm]
  rcases h with ⟨h1, h2⟩ | ⟨h1, h2⟩ | ⟨h1, h2⟩
  · omega
  · exact h2
  · omega
theorem zty_num {v num : Int} (h : ZTy cf G na ma lo hi n v) (hv : (v ≠ 2 ∧ v ≠ 3 ∧ v ≠ 4) ∨ num = 0) : ZNm cf num v := fun z q => by
  rcases h z with g | g
  · have := g.1; omega
  · have := g.1; omega
theorem ZTy.num {v : Int} (h : ZTy cf G na ma lo hi n v) (q : ZNm cf 1 v) : Zr cf (TyE G na ma lo hi n 0) := fun z => by
  have := q z rfl
  rcases h z with g | g
  · have := g.1; omega
  · exact g.2
theorem ZTy.pl {v : Int} (h : ZTy cf G na ma lo hi n v) (q : ZPl cf na ma n v) : Zr cf (TyE G na ma lo hi n 0) := fun z => by
  have := (q z).1
  rcases h z with g | g
  · have := g.1; omega
  · exact g.2
theorem ZTy.n0 {v : Int} (h : ZTy cf G na ma lo hi n v) (z : (cf 30).toInt = 0) : v ≠ 0 := by
  rcases h z with g | g
  · have := g.1; omega
  · have := g.1; omega
theorem zar_mk {v w : Int} (h : ZTy cf G na ma lo hi n v) (hg : w = 32 ∨ v = 0 ∨ v = 2 ∨ v = 3) (hw : w ≠ 105) : ZAr cf G na ma lo hi n w := fun z => ⟨fun q => absurd q hw, fun _ q => by
  rcases h z with g | g
  · exact g.2
  · have := g.1; omega⟩
theorem zar_i (h : Zr cf (TyE G na ma lo hi n 0)) : ZAr cf G na ma lo hi n 105 := fun z => ⟨fun _ => h z, fun q => absurd rfl q⟩
end CK
section CC
variable {ta ca na ma ma0 ma' : Nat → Nat → Int32} {c kn ns ys nf lo hi a b : Int} {n z k : Int32} {cf cf' : Nat → Int32} {G : Gm} {v : Int}
theorem ZTy.tr (h : ZTy cf G na ma lo hi n v) (e : KpE cf cf') (f : FrC a b ma ma') (hd : hi ≤ a ∨ b ≤ lo) : ZTy cf' G na ma' lo hi n v := Zr.kp h e (fun q => q.imp (fun q => ⟨q.1, q.2.fr f hd⟩) (fun q => ⟨q.1, q.2.fr f hd⟩))
theorem ZTy.kp (h : ZTy cf G na ma lo hi n v) (e : KpE cf cf') : ZTy cf' G na ma lo hi n v := Zr.kp h e id
theorem ZSA.tr (h : ZSA cf ca ns ys ma n) (e : KpE cf cf') (f : FrC a b ma ma') (hd : n.toInt < a ∨ b ≤ n.toInt) (h0 : 0 ≤ n.toInt) : ZSA cf' ca ns ys ma' n := Zr.kp h e (fun q => by rw [f.at hd h0]; exact q)
theorem ZPl.tr (h : ZPl cf na ma n v) (e : KpE cf cf') (f : FrC a b ma ma') (hd : n.toInt < a ∨ b ≤ n.toInt) (h0 : 0 ≤ n.toInt) : ZPl cf' na ma' n v := Zr.kp h e (fun q => by unfold PlO at q ⊢; rw [f.at hd h0]; exact q)
theorem zte_tr {t : Nat} (h : Zr cf (TyE G na ma lo hi n t)) (e : KpE cf cf') (f : FrC a b ma ma') (hd : hi ≤ a ∨ b ≤ lo) : Zr cf' (TyE G na ma' lo hi n t) := Zr.kp h e (fun q => q.fr f hd)
theorem ZTr.tr (h : ZTr cf G na ma lo hi z k) (e : KpE cf cf') (f : FrC a b ma ma') (hd : hi ≤ a ∨ b ≤ lo) : ZTr cf' G na ma' lo hi z k := Zr.kp h e (fun q => q.fr f hd)
theorem ZTa.tr {code m : Int} (h : ZTa cf G na ma lo hi code z k m) (e : KpE cf cf') (f : FrC a b ma ma') (hd : hi ≤ a ∨ b ≤ lo) : ZTa cf' G na ma' lo hi code z k m := Zr.kp h e (fun q => q.fr f hd)
theorem ZTr.s {hi' mid : Int} {k' : Int32} (h : ZTr cf G na ma lo mid z k) (q : Zr cf (TyE G na ma mid hi k 0)) (h1 : lo ≤ mid) (h2 : mid ≤ hi) (h0 : 0 ≤ k.toInt) (e : k' = na 21 k.toNatClampNeg) : ZTr cf G na ma lo hi z k' := fun zz => ((h zz).le (Int.le_refl _) h2).s ((q zz).le h1 (Int.le_refl _)) h0 e
theorem ZTa.s {mid code m m' w : Int} {k' : Int32} (h : ZTa cf G na ma lo mid code z k m) (q : ZAr cf G na ma mid hi k w) (hw : (cf 30).toInt = 0 → w = G.L code m.toNat) (h1 : lo ≤ mid) (h2 : mid ≤ hi) (h0 : 0 ≤ k.toInt) (e : k' = na 21 k.toNatClampNeg) (hm : m' = m + 1) (hm0 : 0 ≤ m) : ZTa cf G na ma lo hi code z k' m' := fun zz => ((h zz).le (Int.le_refl _) h2).s ((q zz).le h1 (Int.le_refl _)) (hw zz) h0 e (by first | with_reducible rfl | with_reducible assumption | omega)
/-- what taken tells, in the letters that were laid down -/
theorem tkv_at {f own k v : Int} {ma : Nat → Nat → Int32} (h : TkV na ma ca f own k v) (an : Ann na ma0 ma) (hf : FnP na ca nf) (hc : CeN nf (cod f own)) : v = (Gk ta ca na ma0 ns ys nf).L (cod f own) k.toNat := by
  show v = tkl na ma0 ca (cod f own) k.toNat
  rw [← tkl_ann an hf hc]; exact h
theorem tkv_rng {f own k v : Int} {ma : Nat → Nat → Int32} (h : TkV na ma ca f own k v) (hc : CeN nf (cod f own)) : v = 32 ∨ v = 105 ∨ v = 115 ∨ v = 97 ∨ v = 99 := by
  have e : v = tkl na ma ca (cod f own) k.toNat := h
  rw [e]; exact tkl_rng hc
theorem cen_mk {f own : Int} (h : (0 ≤ own ∧ own < 10 ∧ f < 0) ∨ (0 ≤ f ∧ f < nf)) : CeN nf (cod f own) := by
  unfold CeN cod
  rcases h with h | h
  · rw [if_pos h.2.2]; omega
  · rw [if_neg (by first | with_reducible rfl | with_reducible assumption | omega)]; omega
theorem cod_own {f own : Int} (h : f < 0) : cod f own = own := if_pos h
theorem cod_fun {f own : Int} (h : 0 ≤ f) : cod f own = 100 + f := if_neg (by first | with_reducible rfl | with_reducible assumption | omega)
def KbI (ma : Nat → Nat → Int32) (n : Int32) (b code : Int) : Prop := b = 1 → (ma 18 n.toNatClampNeg).toInt = code
theorem KbI.tr {b' code : Int} (h : KbI ma n b' code) (f : FrC a b ma ma') (hd : n.toInt < a ∨ b ≤ n.toInt) (h0 : 0 ≤ n.toInt) : KbI ma' n b' code := fun q => by rw [f.at hd h0]; exact h q
theorem ZTy_le {mid code m : Int} (h : ZTa cf G na ma lo mid code z k m) (h1 : mid ≤ hi) : ZTa cf G na ma lo hi code z k m := fun q => (h q).le (Int.le_refl _) h1
theorem call_ty {c' m v : Int} (hn : lo ≤ n.toInt ∧ n.toInt < hi ∧ 0 ≤ n.toInt) (e : (na 14 n.toNatClampNeg).toInt = 3) (ec : (ma 18 n.toNatClampNeg).toInt = c') (hc : CeN nf c') (ez : z = na 17 n.toNatClampNeg) (h : ZTa cf (Gk ta ca na ma0 ns ys nf) na ma (n.toInt + 1) hi c' z k m) (hk : k.toInt < 0) (hm : 0 ≤ m) (h1 : (Gk ta ca na ma0 ns ys nf).L c' m.toNat = 32) (h2 : m = 0 ∨ (Gk ta ca na ma0 ns ys nf).L c' (m - 1).toNat ≠ 32) (hv : v = 1 ∨ v = 4) : ZTy cf (Gk ta ca na ma0 ns ys nf) na ma lo hi n v := fun zz => Or.inr ⟨hv, by
  subst ec
  refine ty_3 hn e rfl hc ez ((h zz).le (by first | with_reducible rfl | with_reducible assumption | omega) (Int.le_refl _)) hk h1 (fun i hi => ?_)
  rcases h2 with h2 | h2
  · omega
  · exact tkl_lt hc (show i ≤ (m - 1).toNat by omega) h2⟩
end CC
