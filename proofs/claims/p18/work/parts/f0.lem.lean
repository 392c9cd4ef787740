theorem oz_2423877d93 {n0 n1 n2 n3 : Nat} (h0 : n1 = 3 * n2 + 1 + n3) (h1 : n0 = n2) : n0 ≠ n1 := by omega
/-! frames look at six of its rows alone -/
theorem RuI.arr {X : Cx} {K : KP} {ca qa qa' : Nat → Nat → Int32} {tc nf st0 m pc found base top st wk f : Int} {S : List Nat} {v : Nat} {P : Int → Prop} {nb : Int} (h : RuI X K ca qa tc nf st0 m pc found base top st wk f S v P nb) (e8 : qa' 8 = qa 8) (e9 : qa' 9 = qa 9) (ek : ∀ k : Nat, 15 ≤ k → k ≤ 18 → qa' k = qa k) : RuI X K ca qa' tc nf st0 m pc found base top st wk f S v P nb := by
  have q : ∀ {n : Nat} {f : Int} {P : Int → Prop} {base top nb st wk : Int}, FrI X K ca qa tc nf st0 n f P base top nb st wk → FrI X K ca qa' tc nf st0 n f P base top nb st wk := by
    intro n
    induction n with
    | zero => intro f P base top nb st wk h; exact h
    | succ n ih =>
      intro f P base top nb st wk h
      obtain ⟨a, f', P', base', top', nb', st', T, v', q, e1, e4, e5, e6, e7, e8', e9', e10⟩ := h
      exact ⟨by rw [ek 18 (by omega) (by omega)]; exact a, f', P', base', top', nb', st', T, v', ih q, e1, e4, by rw [e8]; exact e5, by rw [ek 16 (by omega) (by omega), ek 17 (by omega) (by omega)]; exact e6, by rw [e9]; exact e7, e8', by rw [ek 15 (by omega) (by omega)]; exact e9', by rw [ek 15 (by omega) (by omega)]; exact e10⟩
  exact ⟨q h.1, h.2.1, by rw [e9]; exact h.2.2.1, h.2.2.2⟩
/-! THE REFERENCE's system: eight programs, thirteen processes -/
abbrev Pgs : Type := (Nat) × (Nat → Nat) × (Nat → Nat → Option Nat) × (Nat → Int32) × (Nat → Nat → Int32) × (Nat → Int32) × (Nat → Nat → Int32) × (Nat → Nat → Int32) × (Nat → Nat → Int32) × (Nat → Int32) × (Nat → Nat → Int32) × (Nat → Int32) × (Nat → Nat → Int32) × (Nat → Int32) × (Nat → Nat → Int32)
abbrev Pgs.h (v : Pgs) : Nat := v.1
abbrev Pgs.r (v : Pgs) : Nat → Nat := v.2.1
abbrev Pgs.g (v : Pgs) : Nat → Nat → Option Nat := v.2.2.1
abbrev Pgs.tf (v : Pgs) : Nat → Int32 := v.2.2.2.1
abbrev Pgs.ta (v : Pgs) : Nat → Nat → Int32 := v.2.2.2.2.1
abbrev Pgs.pf (v : Pgs) : Nat → Int32 := v.2.2.2.2.2.1
abbrev Pgs.na (v : Pgs) : Nat → Nat → Int32 := v.2.2.2.2.2.2.1
abbrev Pgs.ma (v : Pgs) : Nat → Nat → Int32 := v.2.2.2.2.2.2.2.1
abbrev Pgs.wa (v : Pgs) : Nat → Nat → Int32 := v.2.2.2.2.2.2.2.2.1
abbrev Pgs.cf (v : Pgs) : Nat → Int32 := v.2.2.2.2.2.2.2.2.2.1
abbrev Pgs.ca (v : Pgs) : Nat → Nat → Int32 := v.2.2.2.2.2.2.2.2.2.2.1
abbrev Pgs.ef (v : Pgs) : Nat → Int32 := v.2.2.2.2.2.2.2.2.2.2.2.1
abbrev Pgs.ea (v : Pgs) : Nat → Nat → Int32 := v.2.2.2.2.2.2.2.2.2.2.2.2.1
abbrev Pgs.xf (v : Pgs) : Nat → Int32 := v.2.2.2.2.2.2.2.2.2.2.2.2.2.1
abbrev Pgs.xa (v : Pgs) : Nat → Nat → Int32 := v.2.2.2.2.2.2.2.2.2.2.2.2.2.2
def fPg (cs : Nat → ClassId) (PG : Nat → Pgs) (j : Nat) : va_W := wdP cs (PG j).h (PG j).r (PG j).g (PG j).tf (PG j).ta (PG j).pf (PG j).na (PG j).ma (PG j).wa (PG j).cf (PG j).ca (PG j).ef (PG j).ea (PG j).xf (PG j).xa
def fPr (cs : Nat → ClassId) (hq : Nat → Nat) (qr : Nat → Nat → Nat) (QO : Nat → Option Nat) (QF : Nat → Nat → Int32) (QA : Nat → Nat → Nat → Int32) (i : Nat) : va_W := wd_Mpr cs (hq i) (qr i) (fun _ => QO i) (QF i) (QA i) (fun _ _ => none)
def gMo (PG : Nat → Pgs) (hq : Nat → Nat) : Nat → Nat → Option Nat := fun k i => cond (Nat.beq k 4) (some (PG i).h) (some (hq i))
theorem fm_put {D : va_G} {A : Nat → Prop} {H0 H : Heap} {locs : List Loc} {pr : List va_W} {n : Nat} {T T' : Nat → va_W} {p : Nat} {w : va_W} (hw : pw D A H0 H locs (pr ++ [fo n T p, w])) (hp : p < n) (h1 : ∀ i, i ≠ p → T' i = T i) (h2 : T' p = w) : pw D A H0 H locs (pr ++ [fm n T']) := by
  have e : T' = va_up T p w := by
    funext i
    by_cases q : i = p
    · subst q; rw [va_up_s]; exact h2
    · rw [va_up_n q]; exact h1 i q
  rw [e]; exact fm_in hw hp
theorem fm_back {D : va_G} {A : Nat → Prop} {H0 H : Heap} {locs : List Loc} {pr : List va_W} {n : Nat} {T : Nat → va_W} {p : Nat} (hw : pw D A H0 H locs (pr ++ [fo n T p, T p])) (hp : p < n) : pw D A H0 H locs (pr ++ [fm n T]) := fm_put hw hp (fun _ _ => rfl) rfl
theorem fpr_in {D : va_G} {A : Nat → Prop} {H0 H : Heap} {locs : List Loc} {pr : List va_W} {cs : Nat → ClassId} {hq : Nat → Nat} {qr : Nat → Nat → Nat} {QO : Nat → Option Nat} {QF : Nat → Nat → Int32} {QA : Nat → Nat → Nat → Int32} {p : Nat} {o : Nat → Option Nat} {f : Nat → Int32} {a : Nat → Nat → Int32} {g : Nat → Nat → Option Nat} (hw : pw D A H0 H locs (pr ++ [fo 13 (fPr cs hq qr QO QF QA) p, wd_Mpr cs (hq p) (qr p) o f a g])) (hp : p < 13) : pw D A H0 H locs (pr ++ [fm 13 (fPr cs hq qr (va_up QO p (o 0)) (va_up QF p f) (va_up QA p a))]) :=
  fm_put hw hp (fun i hi => by unfold fPr; rw [va_up_n hi, va_up_n hi, va_up_n hi]) (by unfold fPr; rw [va_up_s, va_up_s, va_up_s]; rfl)
theorem wd_oo {cs : Nat → ClassId} {h : Nat} {r : Nat → Nat} {o o' : Nat → Option Nat} {f : Nat → Int32} {a : Nat → Nat → Int32} {g : Nat → Nat → Option Nat} (e : o 0 = o' 0) : wd_Mpr cs h r o f a g = wd_Mpr cs h r o' f a g := by
  unfold wd_Mpr; rw [e]
def OpS (o : Nat → Option Nat) (h : Nat) : Prop := o 0 = some h
def RMX : Int := 10000000000
/-- its own numbers -/
def PsB (f : Nat → Int32) : Prop := (0 ≤ (f 1).toInt ∧ (f 1).toInt ≤ 1) ∧ (0 ≤ (f 21).toInt ∧ (f 21).toInt ≤ 4) ∧ (0 ≤ (f 23).toInt ∧ (f 23).toInt ≤ 4) ∧ (0 ≤ (f 24).toInt ∧ (f 24).toInt ≤ 1000000) ∧ (0 ≤ (f 6).toInt ∧ (f 6).toInt ≤ 3) ∧ (0 ≤ (f 7).toInt ∧ (f 7).toInt ≤ 1)
/-- a text that runs -/
def PsT (g : Pgs) (R : Int) (f : Nat → Int32) (a : Nat → Nat → Int32) : Prop := ∃ (X : Cx) (K : KP) (st9 fn : Int) (S : List Nat) (v : Nat) (P : Int → Prop) (nb : Int), EnI X K g.ca g.na g.ma (g.ea 61) (g.ea 62) (g.ea 63) (g.cf 55).toInt (g.cf 38).toInt (g.ef 60).toInt ∧ RuI X K g.ca a (g.cf 55).toInt (g.cf 38).toInt st9 (f 14).toInt (f 11).toInt (f 10).toInt (f 12).toInt (f 13).toInt (f 5).toInt (f 4).toInt fn S v P nb ∧ (0 ≤ st9 ∧ st9 ≤ 512) ∧ rkN (f 4).toInt (f 14).toInt (v : Int) (f 11).toInt ≤ R ∧ (f 24).toInt + (f 4).toInt ≤ 100 ∧ ((f 7).toInt = 1 → (g.ea 61 (3 * (f 11).toInt).toNat).toInt = 16 ∧ ((g.ea 61 (3 * (f 11).toInt + 1).toNat).toInt = 1 → (f 24).toInt + (f 4).toInt ≤ 99))
/-- words that run -/
def PsW (R : Int) (f : Nat → Int32) : Prop := 0 ≤ (f 4).toInt ∧ (f 4).toInt + 1 ≤ R ∧ (f 24).toInt + (f 4).toInt ≤ 1600
def PsG (PG : Nat → Pgs) (R : Int) (o : Option Nat) (f : Nat → Int32) (a : Nat → Nat → Int32) : Prop := ∃ j : Nat, j < 8 ∧ o = some (PG j).h ∧ ((((PG j).xf 66).toInt = 2 ∧ PsW R f) ∨ (((PG j).xf 66).toInt = 1 ∧ PsT (PG j) R f a))
def PsR (PG : Nat → Pgs) (R : Int) (o : Option Nat) (f : Nat → Int32) (a : Nat → Nat → Int32) : Prop := PsB f ∧ 0 ≤ R ∧ ((f 1).toInt = 0 → RMX ≤ R) ∧ ((f 1).toInt = 1 → (f 2).toInt = -2 → PsG PG R o f a)
/-- whose process is not begun, or who has not so many children, has none there -/
def TrI (QF : Nat → Nat → Int32) : Prop := ∀ p k : Nat, k < 3 → 3 * p + 1 + k < 13 → ((QF p 1).toInt = 0 ∨ (QF p 6).toInt ≤ (k : Int)) → (QF (3 * p + 1 + k) 1).toInt = 0
def PrA (PG : Nat → Pgs) (RR : Nat → Int) (QO : Nat → Option Nat) (QF : Nat → Nat → Int32) (QA : Nat → Nat → Nat → Int32) : Prop := (∀ i : Nat, i < 13 → PsR PG (RR i) (QO i) (QF i) (QA i)) ∧ TrI QF
/-- a program's numbers -/
def PgO (g : Pgs) : Prop := ((0 ≤ (g.xf 66).toInt ∧ (g.xf 66).toInt ≤ 2) ∧ (0 ≤ (g.cf 46).toInt ∧ (g.cf 46).toInt ≤ 1) ∧ (0 ≤ (g.cf 47).toInt ∧ (g.cf 47).toInt ≤ 1)) ∧ (0 ≤ (g.xf 68).toInt ∧ (g.xf 68).toInt ≤ 512) ∧ ((g.xf 66).toInt = 1 → PgT g.tf g.cf g.ef g.ta g.na g.ma g.ca g.ea)
def PgA (PG : Nat → Pgs) : Prop := ∀ j : Nat, j < 8 → PgO (PG j)
section FA
variable {PG : Nat → Pgs} {RR : Nat → Int} {R R' : Int} {o o' : Option Nat} {QO : Nat → Option Nat} {QF : Nat → Nat → Int32} {QA : Nat → Nat → Nat → Int32} {f f' : Nat → Int32} {a a' : Nat → Nat → Int32} {p : Nat}
theorem TrI.up (h : TrI QF) (e1 : (f 1).toInt = (QF p 1).toInt) (e6 : (QF p 6).toInt ≤ (f 6).toInt) : TrI (va_up QF p f) := fun q k hk hq c => by
  have c' : (QF q 1).toInt = 0 ∨ (QF q 6).toInt ≤ (k : Int) := by
    by_cases e : q = p
    · subst e; rw [va_up_s] at c; omega
    · rw [va_up_n e] at c; exact c
  have r := h q k hk hq c'
  by_cases e : 3 * q + 1 + k = p
  · rw [e, va_up_s]; rw [e] at r; omega
  · rw [va_up_n e]; exact r
/-- a child begins -/
theorem TrI.bg {u j : Nat} (h : TrI QF) (hp : p = 3 * u + 1 + j) (hj : j < 3) (hp2 : p < 13) (hu : (j : Int) < (QF u 6).toInt) (hu1 : (QF u 1).toInt ≠ 0) (e0 : (QF p 1).toInt = 0) : TrI (va_up QF p f) := fun q k hk hq c => by
  by_cases e : 3 * q + 1 + k = p
  · have eq : q = u ∧ k = j := by omega
    obtain ⟨rfl, rfl⟩ := eq
    have ne : q ≠ p := by first | exact oz_2423877d93 hp eq.1 | omega
    rw [va_up_n ne] at c
    omega
  · rw [va_up_n e]
    by_cases e2 : q = p
    · exact h q k hk hq (Or.inl (by rw [e2]; exact e0))
    · rw [va_up_n e2] at c; exact h q k hk hq c
theorem PrA.up (h : PrA PG RR QO QF QA) (n : PsR PG (RR p) o f a) (e1 : (f 1).toInt = (QF p 1).toInt) (e6 : (QF p 6).toInt ≤ (f 6).toInt) : PrA PG RR (va_up QO p o) (va_up QF p f) (va_up QA p a) := ⟨fun i hi => by
  by_cases e : i = p
  · subst e; rw [va_up_s, va_up_s, va_up_s]; exact n
  · rw [va_up_n e, va_up_n e, va_up_n e]; exact h.1 i hi, h.2.up e1 e6⟩
theorem PrA.upT (h : PrA PG RR QO QF QA) (n : PsR PG (RR p) o f a) (t : TrI (va_up QF p f)) : PrA PG RR (va_up QO p o) (va_up QF p f) (va_up QA p a) := ⟨fun i hi => by
  by_cases e : i = p
  · subst e; rw [va_up_s, va_up_s, va_up_s]; exact n
  · rw [va_up_n e, va_up_n e, va_up_n e]; exact h.1 i hi, t⟩
theorem PrA.upR (h : PrA PG RR QO QF QA) (n : PsR PG R o f a) (e1 : (f 1).toInt = (QF p 1).toInt) (e6 : (QF p 6).toInt ≤ (f 6).toInt) : PrA PG (va_up RR p R) (va_up QO p o) (va_up QF p f) (va_up QA p a) := ⟨fun i hi => by
  by_cases e : i = p
  · subst e; rw [va_up_s, va_up_s, va_up_s, va_up_s]; exact n
  · rw [va_up_n e, va_up_n e, va_up_n e, va_up_n e]; exact h.1 i hi, h.2.up e1 e6⟩
theorem PsT.mono {g : Pgs} (h : PsT g R f a) (l : R ≤ R') : PsT g R' f a := by
  obtain ⟨X, K, st9, fn, S, v, P, nb, h1, h2, h3, h4, h5, h6⟩ := h
  exact ⟨X, K, st9, fn, S, v, P, nb, h1, h2, h3, by omega, h5, h6⟩
theorem PsR.mono (h : PsR PG R o f a) (l : R ≤ R') : PsR PG R' o f a := by
  obtain ⟨h1, h2, h3, h4⟩ := h
  refine ⟨h1, by omega, fun q => by have := h3 q; omega, fun q1 q2 => ?_⟩
  obtain ⟨j, hj, ho, hk⟩ := h4 q1 q2
  refine ⟨j, hj, ho, hk.imp (fun k => ⟨k.1, ?_⟩) (fun k => ⟨k.1, k.2.mono l⟩)⟩
  have := k.2; unfold PsW at this ⊢; omega
/-- only what lies in its mailboxes changes -/
theorem PsR.ud (h : PsR PG R o f a) (hb : PsB f') (e : ∀ k : Nat, k ≠ 21 → k ≠ 23 → f' k = f k) (ea : ∀ k : Nat, k ≠ 20 → k ≠ 22 → a' k = a k) : PsR PG R o f' a' := by
  obtain ⟨h1, h2, h3, h4⟩ := h
  refine ⟨hb, h2, fun q => h3 (by rw [← e 1 (by decide) (by decide)]; exact q), fun q1 q2 => ?_⟩
  rw [e 1 (by decide) (by decide)] at q1
  rw [e 2 (by decide) (by decide)] at q2
  obtain ⟨j, hj, ho, hk⟩ := h4 q1 q2
  refine ⟨j, hj, ho, hk.imp (fun k => ⟨k.1, ?_⟩) (fun k => ⟨k.1, ?_⟩)⟩
  · unfold PsW; rw [e 4 (by decide) (by decide), e 24 (by decide) (by decide)]; exact k.2
  · obtain ⟨X, K, st9, fn, S, v, P, nb, g1, g2, g3, g4, g5, g6⟩ := k.2
    refine ⟨X, K, st9, fn, S, v, P, nb, g1, ?_, g3, ?_⟩
    · rw [e 14 (by decide) (by decide), e 11 (by decide) (by decide), e 10 (by decide) (by decide), e 12 (by decide) (by decide), e 13 (by decide) (by decide), e 5 (by decide) (by decide), e 4 (by decide) (by decide)]
      exact g2.arr (ea 8 (by decide) (by decide)) (ea 9 (by decide) (by decide)) (fun k k1 k2 => ea k (by omega) (by omega))
    · rw [e 14 (by decide) (by decide), e 11 (by decide) (by decide), e 4 (by decide) (by decide), e 24 (by decide) (by decide), e 7 (by decide) (by decide)]
      exact ⟨g4, g5, g6⟩
/-- it has ended -/
theorem PsR.en (h : PsR PG R o f a) (hb : PsB f') (e1 : (f' 1).toInt = (f 1).toInt) (e2 : (f' 2).toInt ≠ -2) : PsR PG R o' f' a' :=
  ⟨hb, h.2.1, fun q => h.2.2.1 (by omega), fun _ q => absurd q e2⟩
theorem PsB.up {k : Nat} {x : Int32} (h : PsB f) (hk : k ≠ 1 ∧ k ≠ 21 ∧ k ≠ 23 ∧ k ≠ 24 ∧ k ≠ 6 ∧ k ≠ 7) : PsB (upd f k x) := by
  unfold PsB at h ⊢
  rw [pk_un (by omega), pk_un (by omega), pk_un (by omega), pk_un (by omega), pk_un (by omega), pk_un (by omega)]; exact h
/-- a text begins -/
theorem bg_T {g : Pgs} (h : PgT g.tf g.cf g.ef g.ta g.na g.ma g.ca g.ea) (e14 : (f 14).toInt = 0) (e11 : (f 11).toInt = 0) (e10 : (f 10).toInt = 1) (e12 : (f 12).toInt = (g.cf 55).toInt) (e13 : (f 13).toInt = (g.cf 55).toInt) (h5 : 0 ≤ (f 5).toInt ∧ (f 5).toInt ≤ 512) (h4 : 0 ≤ (f 4).toInt ∧ (f 4).toInt ≤ 100) (e24 : (f 24).toInt = 0) (e7 : (f 7).toInt = 0) : PsT g (RMX - 1) f a := by
  obtain ⟨ma0, mb, X, d, h1, h2, ⟨⟨x1, x2, x3⟩, ⟨y1, y2, y3⟩, hy⟩, ⟨K, k1, k2, k3⟩, hpa, ht, hft, hfp, hn⟩ := h
  refine ⟨X, K, (f 5).toInt, -1, [0], 0, fun c => 0 ≤ c ∧ c < (g.cf 55).toInt, 0, ⟨g.ta, ma0, mb, d, (g.cf 48).toInt, hy, ⟨y3, y1, y2, x1, x2⟩, ht, k1, k3, ⟨hpa, x3, h2⟩, by omega⟩, ⟨?_, ?_, ?_, by omega⟩, h5, ?_, by omega, fun q => by omega⟩
  · rw [e14]; exact ⟨rfl, fun c => Iff.rfl, e12, e13, rfl, rfl⟩
  · rw [e11]; exact k2
  · rw [e10]; rfl
  · rw [e14, e11]; unfold rkN RMX; omega
def PsQ (s : Int) (Q : Prop) : Prop := s = 1 → Q
end FA
