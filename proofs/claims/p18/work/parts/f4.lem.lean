/-! AN OWN CALL: what lies upon the stack -/
def oslots (own : Int) : List Nat := if own = 0 then [2, 1] else if own = 2 ∨ own = 5 then [0, 0] else if own = 7 ∨ own = 8 then [2, 1, 0] else [0]
theorem arc_m {X : Cx} {own : Int} {S T : List Nat} {r : Nat} (h : ArC X own S T) (h1 : X.L own r = 32) (h2 : ∀ i : Nat, i < r → X.L own i ≠ 32) : S = aslots (X.L own) r ++ T := by
  obtain ⟨m, e, a, b⟩ := h
  have em : m = r := by
    by_cases q : m < r
    · exact absurd a (h2 m q)
    · by_cases q' : r < m
      · exact absurd h1 (b r q')
      · omega
  subst em; exact e
theorem owl_v : (owl 0 0 ≠ 32 ∧ owl 0 0 ≠ 105 ∧ owl 0 1 = 32) ∧ (owl 1 0 = 105 ∧ owl 1 1 = 32) ∧ (owl 2 0 = 105 ∧ owl 2 1 = 105 ∧ owl 2 2 = 32) ∧ (owl 3 0 = 105 ∧ owl 3 1 = 32) ∧ (owl 4 0 = 105 ∧ owl 4 1 = 32) ∧ (owl 5 0 = 105 ∧ owl 5 1 = 105 ∧ owl 5 2 = 32) ∧ (owl 6 0 = 105 ∧ owl 6 1 = 32) ∧ (owl 7 0 = 105 ∧ owl 7 1 ≠ 105 ∧ owl 7 1 ≠ 32 ∧ owl 7 2 = 32) ∧ (owl 8 0 = 105 ∧ owl 8 1 ≠ 105 ∧ owl 8 1 ≠ 32 ∧ owl 8 2 = 32) ∧ (owl 9 0 = 105 ∧ owl 9 1 = 32) := by decide
section AO
variable {L : Nat → Int}
theorem asl_1 (a : L 0 = 105) : aslots L 1 = [0] := by show (if L 0 = 105 then [0] else [2, 1]) ++ [] = [0]; rw [if_pos a]; rfl
theorem asl_a (a : L 0 ≠ 105) : aslots L 1 = [2, 1] := by show (if L 0 = 105 then [0] else [2, 1]) ++ [] = [2, 1]; rw [if_neg a]; rfl
theorem asl_2 (a : L 0 = 105) (b : L 1 = 105) : aslots L 2 = [0, 0] := by show (if L 1 = 105 then [0] else [2, 1]) ++ aslots L 1 = [0, 0]; rw [if_pos b, asl_1 a]; rfl
theorem asl_3 (a : L 0 = 105) (b : L 1 ≠ 105) : aslots L 2 = [2, 1, 0] := by show (if L 1 = 105 then [0] else [2, 1]) ++ aslots L 1 = [2, 1, 0]; rw [if_neg b, asl_1 a]; rfl
end AO
theorem arc_own {X : Cx} {na ma0 ca : Nat → Nat → Int32} {own : Int} {S T : List Nat} (hL : X.L = tkl na ma0 ca) (h0 : 0 ≤ own) (h1 : own < 10) (h : ArC X own S T) : S = oslots own ++ T := by
  have e : ∀ k : Nat, X.L own k = owl own.toNat k := fun k => by rw [hL]; unfold tkl; rw [if_pos (by omega)]
  obtain ⟨n, rfl⟩ : ∃ n : Nat, own = n := ⟨own.toNat, by omega⟩
  rw [Int.toNat_natCast] at e
  obtain ⟨v0, v1, v2, v3, v4, v5, v6, v7, v8, v9⟩ := owl_v
  have one : ∀ {m : Nat}, n = m → owl m 0 = 105 → owl m 1 = 32 → oslots (n : Int) = [0] → S = oslots (n : Int) ++ T := fun {m} em a b o => by
    subst em
    rw [o, ← asl_1 (L := X.L n) (by rw [e]; exact a)]
    exact arc_m h (by rw [e]; exact b) (fun i hi => by rw [show i = 0 by omega, e, a]; decide)
  have two : ∀ {m : Nat}, n = m → owl m 0 = 105 → owl m 1 = 105 → owl m 2 = 32 → oslots (n : Int) = [0, 0] → S = oslots (n : Int) ++ T := fun {m} em a b c o => by
    subst em
    rw [o, ← asl_2 (L := X.L n) (by rw [e]; exact a) (by rw [e]; exact b)]
    exact arc_m h (by rw [e]; exact c) (fun i hi => by
      by_cases q : i = 0
      · rw [q, e, a]; decide
      · rw [show i = 1 by omega, e, b]; decide)
  have thr : ∀ {m : Nat}, n = m → owl m 0 = 105 → owl m 1 ≠ 105 → owl m 1 ≠ 32 → owl m 2 = 32 → oslots (n : Int) = [2, 1, 0] → S = oslots (n : Int) ++ T := fun {m} em a b b' c o => by
    subst em
    rw [o, ← asl_3 (L := X.L n) (by rw [e]; exact a) (by rw [e]; exact b)]
    exact arc_m h (by rw [e]; exact c) (fun i hi => by
      by_cases q : i = 0
      · rw [q, e, a]; decide
      · rw [show i = 1 by omega, e]; exact b')
  by_cases q0 : n = 0
  · subst q0
    show S = [2, 1] ++ T
    rw [← asl_a (L := X.L ((0 : Nat) : Int)) (by rw [e]; exact v0.2.1)]
    exact arc_m h (by rw [e]; exact v0.2.2) (fun i hi => by rw [show i = 0 by omega, e]; exact v0.1)
  by_cases q1 : n = 1
  · exact one q1 v1.1 v1.2 (by subst q1; rfl)
  by_cases q2 : n = 2
  · exact two q2 v2.1 v2.2.1 v2.2.2 (by subst q2; rfl)
  by_cases q3 : n = 3
  · exact one q3 v3.1 v3.2 (by subst q3; rfl)
  by_cases q4 : n = 4
  · exact one q4 v4.1 v4.2 (by subst q4; rfl)
  by_cases q5 : n = 5
  · exact two q5 v5.1 v5.2.1 v5.2.2 (by subst q5; rfl)
  by_cases q6 : n = 6
  · exact one q6 v6.1 v6.2 (by subst q6; rfl)
  by_cases q7 : n = 7
  · exact thr q7 v7.1 v7.2.1 v7.2.2.1 v7.2.2.2 (by subst q7; rfl)
  by_cases q8 : n = 8
  · exact thr q8 v8.1 v8.2.1 v8.2.2.1 v8.2.2.2 (by subst q8; rfl)
  · exact one (m := 9) (by omega) v9.1 v9.2 (by rw [show n = 9 by omega]; rfl)
/-- it stands before an own call -/
def PoT (g : Pgs) (R own : Int) (f : Nat → Int32) (a : Nat → Nat → Int32) : Prop := ∃ (X : Cx) (K : KP) (st9 fn : Int) (S : List Nat) (v : Nat) (P : Int → Prop) (nb : Int), EnI X K g.ca g.na g.ma (g.ea 61) (g.ea 62) (g.ea 63) (g.cf 55).toInt (g.cf 38).toInt (g.ef 60).toInt ∧ RuI X K g.ca a (g.cf 55).toInt (g.cf 38).toInt st9 (f 14).toInt (f 11).toInt (f 10).toInt (f 12).toInt (f 13).toInt (f 5).toInt (f 4).toInt fn S v P nb ∧ (0 ≤ st9 ∧ st9 ≤ 512) ∧ rkN (f 4).toInt (f 14).toInt (v : Int) (f 11).toInt ≤ R ∧ ((f 24).toInt + (f 4).toInt ≤ 100 ∧ (own = 1 → (f 24).toInt + (f 4).toInt ≤ 99)) ∧ ∃ T, S = oslots own ++ T ∧ K ((f 11).toInt.toNat + 1) fn (0 :: T) v
/-- it has been answered: at the next row it goes on -/
def PdT (g : Pgs) (R : Int) (f : Nat → Int32) (a : Nat → Nat → Int32) : Prop := ∃ (X : Cx) (K : KP) (st9 fn : Int) (S : List Nat) (v : Nat) (P : Int → Prop) (nb : Int), EnI X K g.ca g.na g.ma (g.ea 61) (g.ea 62) (g.ea 63) (g.cf 55).toInt (g.cf 38).toInt (g.ef 60).toInt ∧ RuI X K g.ca a (g.cf 55).toInt (g.cf 38).toInt st9 (f 14).toInt ((f 11).toInt + 1) (f 10).toInt (f 12).toInt (f 13).toInt (f 5).toInt (f 4).toInt fn S v P nb ∧ (0 ≤ st9 ∧ st9 ≤ 512) ∧ rkN (f 4).toInt (f 14).toInt (v : Int) ((f 11).toInt + 1) ≤ R - 1 ∧ (f 24).toInt + (f 4).toInt ≤ 100
section PO
variable {g : Pgs} {R own : Int} {f f' : Nat → Int32} {a a' : Nat → Nat → Int32}
theorem RuI.en {X : Cx} {K : KP} {ca na ma qa : Nat → Nat → Int32} {c en pa : Nat → Int32} {tc nf steps st0 m pc found base top st wk f nb : Int} {S : List Nat} {v : Nat} {P : Int → Prop} (h : RuI X K ca qa tc nf st0 m pc found base top st wk f S v P nb) (e : EnI X K ca na ma c en pa tc nf steps) (h5 : 0 ≤ st0 ∧ st0 ≤ 512) : MdI X K ca na ma c en pa qa tc nf steps st0 m pc found base top st wk f S v P nb := by
  obtain ⟨h1, h2, h3, h4⟩ := h
  have e' := e
  obtain ⟨ta, ma0, mb, d, ns, hy, h2', ht, hk, -⟩ := e'
  have kk := hk _ _ _ _ h2
  exact ⟨e, h1, h3, kk.2.2, by omega⟩
/-- at an own call -/
theorem PsT.owc (h : PsT g R f a) (o : (g.ea 61 (3 * (f 11).toInt).toNat).toInt = 16) (hown : (g.ea 61 (3 * (f 11).toInt + 1).toNat).toInt = own) (h1 : own = 1 → (f 24).toInt + (f 4).toInt ≤ 99) : (0 ≤ own ∧ own < 10) ∧ PoT g R own f a := by
  obtain ⟨X, K, st9, fn, S, v, P, nb, g1, g2, g3, g4, g5, g6⟩ := h
  have md := g2.en g1 g3
  have p0 := g2.2.2.2
  have lc := md.2.2.2.1
  rw [show (3 * (f 11).toInt).toNat = 3 * (f 11).toInt.toNat by omega] at o
  rw [show (3 * (f 11).toInt + 1).toNat = 3 * (f 11).toInt.toNat + 1 by omega] at hown
  obtain ⟨T, t1, t2, t3⟩ := lc.o16 o
  rw [hown] at t1 t2
  have g1' := g1
  obtain ⟨ta, ma0, mb, d, ns, -, -, -, -, -, hp, -⟩ := g1'
  exact ⟨t1, X, K, st9, fn, S, v, P, nb, g1, g2, g3, g4, ⟨g5, h1⟩, T, arc_own hp.2.1 t1.1 t1.2 t2, t3⟩
theorem PoT.num (h : PoT g R own f a) : ((oslots own).length : Int) ≤ (f 10).toInt ∧ (f 10).toInt ≤ 514 ∧ 0 ≤ (f 11).toInt ∧ (f 11).toInt < 6300 ∧ 0 ≤ (f 4).toInt ∧ 1 ≤ R ∧ (f 24).toInt + (f 4).toInt ≤ 100 := by
  obtain ⟨X, K, st9, fn, S, v, P, nb, g1, g2, g3, g4, g5, T, t1, t2⟩ := h
  have md := g2.en g1 g3
  have nm := md.num
  have p0 := g2.2.2.2
  have l : (S.length : Int) = (oslots own).length + T.length := by rw [t1, List.length_append]; omega
  have r := rk_nn (wk := (f 4).toInt) (m := (f 14).toInt) (v := (v : Int)) (pc := 6999) p0.2.1 p0.2.2.2.2 (by omega) (by omega)
  unfold rkN at r g4
  omega
/-- nothing of it changed -/
theorem PoT.kp (h : PoT g R own f a) (k : KpF f f') (ea : ∀ k : Nat, k ≠ 20 → k ≠ 22 → a' k = a k) : PoT g R own f' a' := by
  obtain ⟨X, K, st9, fn, S, v, P, nb, g1, g2, g3, g4, g5, g6⟩ := h
  obtain ⟨⟨k1, k4, k5, k7, k10, k11⟩, k12, k13, k14, k24⟩ := k
  refine ⟨X, K, st9, fn, S, v, P, nb, g1, ?_, g3, ?_, ?_, ?_⟩
  · rw [k14, k11, k10, k12, k13, k5, k4]; exact g2.arr (ea 8 (by decide) (by decide)) (ea 9 (by decide) (by decide)) (fun k a b => ea k (by omega) (by omega))
  · rw [k14, k11, k4]; exact g4
  · rw [k24, k4]; exact g5
  · rw [k11]; exact g6
/-- what it gives is an array -/
theorem PoT.arr (h : PoT g R own f a) (ho : own = 7 ∨ own = 8) : ∀ c : Int, (a 9 ((f 10).toInt - 2).toNat).toInt ≤ c → c < (a 9 ((f 10).toInt - 2).toNat).toInt + (a 9 ((f 10).toInt - 1).toNat).toInt → 0 ≤ c ∧ c < 37000 := by
  obtain ⟨X, K, st9, fn, S, v, P, nb, g1, g2, g3, g4, g5, T, t1, t2⟩ := h
  have md := g2.en g1 g3
  have nm := md.num
  have os : oslots own = [2, 1, 0] := by
    unfold oslots
    rw [if_neg (by omega), if_neg (by omega), if_pos (by omega)]
  rw [os] at t1
  have sv := g2.2.2.1
  rw [t1] at sv
  intro c c1 c2
  have := nm.2.2.2.1 c (sv.1 c c1 c2)
  omega
/-- it is answered -/
theorem PoT.ans {x : Int32} {a2 : Nat → Nat → Int32} (h : PoT g R own f a) (e : (f' 4).toInt = (f 4).toInt ∧ (f' 5).toInt = (f 5).toInt ∧ (f' 11).toInt = (f 11).toInt ∧ (f' 12).toInt = (f 12).toInt ∧ (f' 13).toInt = (f 13).toInt ∧ (f' 14).toInt = (f 14).toInt) (e10 : (f' 10).toInt = (f 10).toInt - ((oslots own).length : Int) + 1) (e24 : (f' 24).toInt = (f 24).toInt ∨ (own = 1 ∧ (f' 24).toInt = (f 24).toInt + 1)) (e8 : ∀ i : Nat, a2 8 i ≠ a 8 i → (own = 7 ∨ own = 8) ∧ (a 9 ((f 10).toInt - 2).toNat).toInt ≤ (i : Int) ∧ (i : Int) < (a 9 ((f 10).toInt - 2).toNat).toInt + (a 9 ((f 10).toInt - 1).toNat).toInt) (ek : ∀ k : Nat, k ≠ 8 → k ≠ 20 → k ≠ 22 → k ≠ 25 → a2 k = a k) (w : NuU a2 a' 9 ((f 10).toInt - ((oslots own).length : Int)) x) : PdT g R f' a' := by
  obtain ⟨X, K, st9, fn, S, v, P, nb, g1, g2, g3, g4, g5, T, t1, t2⟩ := h
  have md := g2.en g1 g3
  have nm := md.num
  obtain ⟨e4, e5, e11, e12, e13, e14⟩ := e
  have p0 := g2.2.2.2
  have l : (S.length : Int) = (oslots own).length + T.length := by rw [t1, List.length_append]; omega
  have sT : StV (a 9) P T ((f 10).toInt - ((oslots own).length : Int)) nb := by
    have sv := g2.2.2.1
    rw [t1] at sv
    unfold oslots at sv ⊢
    split at sv
    · rename_i q
      rw [if_pos q]; exact sv.2
    · rename_i q
      rw [if_neg q]
      split at sv
      · rename_i q'
        rw [if_pos q']
        have s1 : StV (a 9) P T ((f 10).toInt - 1 - 1) nb := sv
        rw [show (f 10).toInt - (([0, 0] : List Nat).length : Int) = (f 10).toInt - 1 - 1 by simp; omega]; exact s1
      · rename_i q'
        rw [if_neg q']
        split at sv
        · rename_i q2
          rw [if_pos q2]
          have s1 : StV (a 9) P T ((f 10).toInt - 2 - 1) nb := sv.2
          rw [show (f 10).toInt - (([2, 1, 0] : List Nat).length : Int) = (f 10).toInt - 2 - 1 by simp; omega]; exact s1
        · rename_i q2
          rw [if_neg q2]; exact sv
  have lT := sT.len
  have hP8 : ∀ i : Nat, ¬ P (i : Int) → a' 8 i = a 8 i := fun i hi => by
    rw [w.1 8 (by decide)]
    by_cases q : a2 8 i = a 8 i
    · exact q
    · obtain ⟨q1, q2, q3⟩ := e8 i q
      have os : oslots own = [2, 1, 0] := by unfold oslots; rw [if_neg (by omega), if_neg (by omega), if_pos (by omega)]
      have sv := g2.2.2.1
      rw [t1, os] at sv
      exact absurd (sv.1 _ q2 q3) hi
  have ek' : ∀ k : Nat, k ≠ 8 → k ≠ 9 → k ≠ 20 → k ≠ 22 → k ≠ 25 → a' k = a k := fun k k1 k2 k3 k4 k5 => by rw [w.1 k k2]; exact ek k k1 k3 k4 k5
  have e9 : ∀ i : Nat, (i : Int) < (f 10).toInt - ((oslots own).length : Int) → a' 9 i = a 9 i := fun i hi => by rw [w.2.1 i (by omega), ek 9 (by decide) (by decide) (by decide) (by decide)]
  refine ⟨X, K, st9, fn, 0 :: T, v, P, nb, g1, ⟨?_, ?_, ?_, by omega⟩, g3, ?_, by omega⟩
  · rw [e14, e12, e13, e5, e4]
    have g1' := g1
    obtain ⟨ta, ma0, mb, d, ns, hy, h2, ht, hk, he, hp, hn⟩ := g1'
    exact g2.1.fr hy h2.1 hn.1 (fun k k1 k2 i _ => by rw [ek' k (by omega) (by omega) (by omega) (by omega) (by omega)]) (fun i hi => e9 i (by omega)) (fun i _ hp => hP8 i hp)
  · rw [e11, show ((f 11).toInt + 1).toNat = (f 11).toInt.toNat + 1 by omega]; exact t2
  · exact sT.push (by omega) e9 (by omega)
  · rw [e4, e14, e11]
    unfold rkN at g4 ⊢
    omega
/-- the next row -/
theorem PdT.nx (h : PdT g R f a) (e : (f' 4).toInt = (f 4).toInt ∧ (f' 5).toInt = (f 5).toInt ∧ (f' 10).toInt = (f 10).toInt ∧ (f' 12).toInt = (f 12).toInt ∧ (f' 13).toInt = (f 13).toInt ∧ (f' 14).toInt = (f 14).toInt) (e11 : (f' 11).toInt = (f 11).toInt + 1) (e24 : (f' 24).toInt = (f 24).toInt) (e7 : (f' 7).toInt = 0) : PsT g (R - 1) f' a := by
  obtain ⟨X, K, st9, fn, S, v, P, nb, g1, g2, g3, g4, g5⟩ := h
  obtain ⟨e4, e5, e10, e12, e13, e14⟩ := e
  refine ⟨X, K, st9, fn, S, v, P, nb, g1, ?_, g3, ?_, by omega, fun q => by omega⟩
  · rw [e14, e11, e10, e12, e13, e5, e4]; exact g2
  · rw [e14, e11, e4]; exact g4
end PO
/-! what is sure of all but one -/
def PrX (PG : Nat → Pgs) (RR : Nat → Int) (QO : Nat → Option Nat) (QF : Nat → Nat → Int32) (QA : Nat → Nat → Nat → Int32) (p : Nat) : Prop := (∀ i : Nat, i < 13 → i ≠ p → PsR PG (RR i) (QO i) (QF i) (QA i)) ∧ TrI QF ∧ PsB (QF p)
section PX5
variable {PG : Nat → Pgs} {RR : Nat → Int} {R R' R0 : Int} {o o' : Option Nat} {QO : Nat → Option Nat} {QF : Nat → Nat → Int32} {QA : Nat → Nat → Nat → Int32} {f f' : Nat → Int32} {a a' : Nat → Nat → Int32} {p i : Nat} {g : Pgs}
theorem PrA.px (h : PrA PG RR QO QF QA) (hp : p < 13) : PrX PG RR QO QF QA p := ⟨fun i hi _ => h.1 i hi, h.2, (h.1 p hp).1⟩
theorem PrX.up (h : PrX PG RR QO QF QA p) (hb : PsB f) (e1 : (f 1).toInt = (QF p 1).toInt) (e6 : (QF p 6).toInt ≤ (f 6).toInt) : PrX PG RR (va_up QO p o) (va_up QF p f) (va_up QA p a) p := ⟨fun i hi e => by
  rw [va_up_n e, va_up_n e, va_up_n e]; exact h.1 i hi e, h.2.1.up e1 e6, by rw [va_up_s]; exact hb⟩
/-- the one is put back, its rank anew -/
theorem PrX.inR (h : PrX PG (va_up RR p R0) QO QF QA p) (n : PsR PG R o f a) (e1 : (f 1).toInt = (QF p 1).toInt) (e6 : (QF p 6).toInt ≤ (f 6).toInt) : PrA PG (va_up RR p R) (va_up QO p o) (va_up QF p f) (va_up QA p a) := ⟨fun i hi => by
  by_cases e : i = p
  · subst e; rw [va_up_s, va_up_s, va_up_s, va_up_s]; exact n
  · have q := h.1 i hi e
    rw [va_up_n e] at q
    rw [va_up_n e, va_up_n e, va_up_n e, va_up_n e]; exact q, h.2.1.up e1 e6⟩
theorem PrA.upR2 (h : PrA PG (va_up RR p R0) QO QF QA) (hp : p < 13) (n : PsR PG R o f a) (e1 : (f 1).toInt = (QF p 1).toInt) (e6 : (QF p 6).toInt ≤ (f 6).toInt) : PrA PG (va_up RR p R) (va_up QO p o) (va_up QF p f) (va_up QA p a) := (h.px hp).inR n e1 e6
theorem PrA.rs (h : PrA PG RR QO QF QA) (e : R = RR p) : PrA PG (va_up RR p R) QO QF QA := ⟨fun i hi => by
  by_cases q : i = p
  · subst q; rw [va_up_s, e]; exact h.1 i hi
  · rw [va_up_n q]; exact h.1 i hi, h.2⟩
theorem PrA.ml (h : PrA PG (va_up RR p R) QO QF QA) (l : R ≤ R') : PrA PG (va_up RR p R') QO QF QA := ⟨fun i hi => by
  have q := h.1 i hi
  by_cases e : i = p
  · subst e; rw [va_up_s] at q ⊢; exact q.mono l
  · rw [va_up_n e] at q ⊢; exact q, h.2⟩
/-- one child more -/
theorem PsR.chi (h : PsR PG R o f a) (hb : PsB f') (e : ∀ k : Nat, k ≠ 6 → f' k = f k) : PsR PG R o f' a := by
  obtain ⟨h1, h2, h3, h4⟩ := h
  refine ⟨hb, h2, fun q => h3 (by rw [← e 1 (by decide)]; exact q), fun q1 q2 => ?_⟩
  rw [e 1 (by decide)] at q1
  rw [e 2 (by decide)] at q2
  obtain ⟨j, hj, ho, hk⟩ := h4 q1 q2
  refine ⟨j, hj, ho, hk.imp (fun k => ⟨k.1, ?_⟩) (fun k => ⟨k.1, ?_⟩)⟩
  · unfold PsW; rw [e 4 (by decide), e 24 (by decide)]; exact k.2
  · obtain ⟨X, K, st9, fn, S, v, P, nb, g1, g2, g3, g4, g5, g6⟩ := k.2
    refine ⟨X, K, st9, fn, S, v, P, nb, g1, ?_, g3, ?_⟩
    · rw [e 14 (by decide), e 11 (by decide), e 10 (by decide), e 12 (by decide), e 13 (by decide), e 5 (by decide), e 4 (by decide)]
      exact g2
    · rw [e 14 (by decide), e 11 (by decide), e 4 (by decide), e 24 (by decide), e 7 (by decide)]
      exact ⟨g4, g5, g6⟩
/-- a child's place is free -/
theorem PrA.kid {z k : Nat} (h : PrA PG RR QO QF QA) (hz : z = 3 * p + 1 + k) (hk : k < 3) (h13 : z < 13) (h6 : (QF p 6).toInt ≤ (k : Int)) : (QF z 1).toInt = 0 ∧ RMX ≤ RR z := by
  have t := h.2 p k hk (by omega) (Or.inr h6)
  rw [← hz] at t
  exact ⟨t, (h.1 z h13).2.2.1 t⟩
theorem psr_bg {j : Nat} (hj : j < 8) (ho : o = some (PG j).h) (hb : PsB f) (hR : RMX ≤ R) (e1 : (f 1).toInt = 1) (e24 : (f 24).toInt = 0) (hs : ((PG j).xf 66).toInt = 1 ∨ ((PG j).xf 66).toInt = 2) (h2 : ((PG j).xf 66).toInt = 2 → 0 ≤ (f 4).toInt ∧ (f 4).toInt ≤ 1600) (h1 : PsQ ((PG j).xf 66).toInt (PsT (PG j) (RMX - 1) f a)) : PsR PG R o f a := by
  have rm : RMX = 10000000000 := rfl
  refine ⟨hb, by omega, fun q => by omega, fun _ _ => ⟨j, hj, ho, ?_⟩⟩
  rcases hs with s | s
  · exact Or.inr ⟨s, (h1 s).mono (by omega)⟩
  · refine Or.inl ⟨s, ?_⟩
    have := h2 s
    unfold PsW; omega
/-- a step of a text: its rank fell -/
theorem PsT.mk {X : Cx} {K : KP} {st9 R1 : Int} (e : EnI X K g.ca g.na g.ma (g.ea 61) (g.ea 62) (g.ea 63) (g.cf 55).toInt (g.cf 38).toInt (g.ef 60).toInt) (h : RuZ X K g.ca a' (g.cf 55).toInt (g.cf 38).toInt st9 (f' 14).toInt (f' 11).toInt (f' 10).toInt (f' 12).toInt (f' 13).toInt (f' 5).toInt (f' 4).toInt R1) (h5 : 0 ≤ st9 ∧ st9 ≤ 512) (hR : R1 ≤ R + 1) (hw : ∀ m v pc : Int, 0 ≤ m → 0 ≤ v → v ≤ 100 → pc ≤ 7000 → rkN (f' 4).toInt m v pc < R1 → (f' 24).toInt + (f' 4).toInt ≤ 100) (e7 : (f' 7).toInt = 0) : PsT g R f' a' := by
  obtain ⟨fn, S, v, P, nb, r, lt⟩ := h
  have md := r.en e h5
  have nm := md.num
  have q := r.2.2.2
  exact ⟨X, K, st9, fn, S, v, P, nb, e, r, h5, by omega, hw _ _ _ (by omega) (by omega) (by omega) (by omega) lt, fun z => by omega⟩
/-- it pays -/
theorem PsT.pay (h : PsT g R f a) (e : (f' 5).toInt = (f 5).toInt ∧ (f' 10).toInt = (f 10).toInt ∧ (f' 11).toInt = (f 11).toInt ∧ (f' 12).toInt = (f 12).toInt ∧ (f' 13).toInt = (f 13).toInt ∧ (f' 14).toInt = (f 14).toInt ∧ (f' 24).toInt = (f 24).toInt) (e4 : 0 ≤ (f' 4).toInt ∧ (f' 4).toInt ≤ (f 4).toInt) (o : (g.ea 61 (3 * (f 11).toInt).toNat).toInt = 16) (h1 : (g.ea 61 (3 * (f 11).toInt + 1).toNat).toInt = 1 → (f' 24).toInt + (f' 4).toInt ≤ 99) : PsT g R f' a := by
  obtain ⟨X, K, st9, fn, S, v, P, nb, g1, g2, g3, g4, g5, g6⟩ := h
  obtain ⟨e5, e10, e11, e12, e13, e14, e24⟩ := e
  have q := g2.2.2.2
  refine ⟨X, K, st9, fn, S, v, P, nb, g1, ⟨?_, ?_, ?_, by omega⟩, g3, ?_, by omega, fun _ => ⟨by rw [e11]; exact o, by rw [e11]; exact h1⟩⟩
  · rw [e14, e12, e13, e5]; exact g2.1.wle e4.2
  · rw [e11]; exact g2.2.1
  · rw [e10]; exact g2.2.2.1
  · rw [e14, e11]; unfold rkN at g4 ⊢; omega
theorem PsT.num (h : PsT g R f a) : 0 ≤ (f 11).toInt ∧ (f 11).toInt < 6300 ∧ 0 ≤ (f 4).toInt ∧ 1 ≤ R ∧ (f 24).toInt + (f 4).toInt ≤ 100 := by
  obtain ⟨X, K, st9, fn, S, v, P, nb, g1, g2, g3, g4, g5, g6⟩ := h
  have md := g2.en g1 g3
  have nm := md.num
  have p0 := g2.2.2.2
  have r := rk_nn (wk := (f 4).toInt) (m := (f 14).toInt) (v := (v : Int)) (pc := 6999) p0.2.1 p0.2.2.2.2 (by omega) (by omega)
  unfold rkN at r g4
  omega
end PX5
def OwQ (v : Int) (A B : Prop) : Prop := (v = 0 ∧ A) ∨ (v = 1 ∧ B)
def KpM (QO : Nat → Option Nat) (QF : Nat → Nat → Int32) (QA : Nat → Nat → Nat → Int32) (QO' : Nat → Option Nat) (QF' : Nat → Nat → Int32) (QA' : Nat → Nat → Nat → Int32) (p : Nat) (s n : Int) : Prop := QO' p = QO p ∧ KpF (QF p) (QF' p) ∧ (∀ k : Nat, k ≠ 8 → k ≠ 20 → k ≠ 22 → QA' p k = QA p k) ∧ ∀ i : Nat, QA' p 8 i ≠ QA p 8 i → s ≤ (i : Int) ∧ (i : Int) < s + n
theorem KpM.of {QO QO' : Nat → Option Nat} {QF QF' : Nat → Nat → Int32} {QA QA' : Nat → Nat → Nat → Int32} {p : Nat} {s n : Int} (h : KpP QO QF QA QO' QF' QA' p) : KpM QO QF QA QO' QF' QA' p s n := ⟨h.1, h.2.1, fun k _ a b => h.2.2 k a b, fun i q => absurd (by rw [h.2.2 8 (by decide) (by decide)]) q⟩
/-- a cell of the array is written -/
theorem KpM.w {QO QO' : Nat → Option Nat} {QF QF' : Nat → Nat → Int32} {QA QA' : Nat → Nat → Nat → Int32} {p : Nat} {s n : Int} {j x : Int32} (h : KpM QO QF QA QO' QF' QA' p s n) (h0 : 0 ≤ j.toInt) (h1 : s ≤ j.toInt) (h2 : j.toInt < s + n) : KpM QO QF QA (va_up QO' p (QO' p)) (va_up QF' p (QF' p)) (va_up QA' p (va_up (QA' p) 8 (upd (QA' p 8) j.toNatClampNeg x))) p s n := by
  obtain ⟨a, b, c, d⟩ := h
  have cj := cl_nat h0
  refine ⟨by rw [va_up_s]; exact a, by rw [va_up_s]; exact b, fun k k1 k2 k3 => by rw [va_up_s, va_up_n k1]; exact c k k1 k2 k3, fun i q => ?_⟩
  rw [va_up_s, va_up_s] at q
  by_cases e : i = j.toNatClampNeg
  · omega
  · rw [pk_un e] at q; exact d i q
theorem os_l {own : Int} : ((own = 0 ∨ own = 2 ∨ own = 5) → ((oslots own).length : Int) = 2) ∧ ((own = 7 ∨ own = 8) → ((oslots own).length : Int) = 3) ∧ (own ≠ 0 → own ≠ 2 → own ≠ 5 → own ≠ 7 → own ≠ 8 → ((oslots own).length : Int) = 1) ∧ 1 ≤ ((oslots own).length : Int) := by
  unfold oslots
  split
  · simp; omega
  · split
    · simp; omega
    · split
      · simp; omega
      · simp; omega
def KpO (QO : Nat → Option Nat) (QF : Nat → Nat → Int32) (QO' : Nat → Option Nat) (QF' : Nat → Nat → Int32) (p : Nat) : Prop := QO' p = QO p ∧ (QF' p 1).toInt = (QF p 1).toInt ∧ (QF' p 7).toInt = (QF p 7).toInt ∧ (QF' p 11).toInt = (QF p 11).toInt
theorem KpP.o {QO QO' : Nat → Option Nat} {QF QF' : Nat → Nat → Int32} {QA QA' : Nat → Nat → Nat → Int32} {p : Nat} (h : KpP QO QF QA QO' QF' QA' p) : KpO QO QF QO' QF' p := by
  obtain ⟨a, b, c⟩ := h
  unfold KpF at b
  exact ⟨a, by omega, by omega, by omega⟩
theorem va_uu {α : Type} {RR : Nat → α} {p : Nat} {a b : α} : va_up (va_up RR p a) p b = va_up RR p b := by
  funext i
  by_cases e : i = p
  · subst e; rw [va_up_s, va_up_s]
  · rw [va_up_n e, va_up_n e, va_up_n e]
def OqE (o : Option Nat) (h : Nat) : Prop := o = some h
def KpW (QO : Nat → Option Nat) (QF : Nat → Nat → Int32) (QO' : Nat → Option Nat) (QF' : Nat → Nat → Int32) (p : Nat) : Prop := QO' p = QO p ∧ KpF (QF p) (QF' p)
theorem KpP.kw {QO QO' : Nat → Option Nat} {QF QF' : Nat → Nat → Int32} {QA QA' : Nat → Nat → Nat → Int32} {p : Nat} (h : KpP QO QF QA QO' QF' QA' p) : KpW QO QF QO' QF' p := ⟨h.1, h.2.1⟩
/-- words that may be moved -/
def ClX (a : Int) : Prop := (5242880 ≤ a % 4294967296 ∧ a % 4294967296 < 5259264) ∨ (8257536 ≤ a % 4294967296 ∧ a % 4294967296 < 8388608)
def TxW (a n : Int) : Prop := 4194304 ≤ a % 4294967296 ∧ a % 4294967296 < 4194304 + (4 * n + 4095) / 4096 * 4096
def RdLw (inn a i n : Int) : Prop := ∀ k : Int, 0 ≤ k → k < i → (inn ≠ 0 → ClX (a + 4 * k)) ∧ (inn = 0 → TxW (a + 4 * k) n ∨ ClX (a + 4 * k))
def RdG (g : Int) (Q : Prop) : Prop := g = 1 → Q
theorem RdLw.nx {inn a i i' n : Int} (h : RdLw inn a i n) (e : i' = i + 1) (hc : inn ≠ 0 → ClX (a + 4 * i)) (ht : inn = 0 → TxW (a + 4 * i) n ∨ ClX (a + 4 * i)) : RdLw inn a i' n := fun k h0 h1 => by
  by_cases q : k = i
  · subst q; exact ⟨hc, ht⟩
  · exact h k h0 (by omega)
section RW5
variable {PG : Nat → Pgs} {RR : Nat → Int} {R R' R0 : Int} {o o' : Option Nat} {QO : Nat → Option Nat} {QF : Nat → Nat → Int32} {QA : Nat → Nat → Nat → Int32} {f f' : Nat → Int32} {a a' : Nat → Nat → Int32} {p i j : Nat}
theorem psr_raw (hj : j < 8) (ho : o = some (PG j).h) (hs : ((PG j).xf 66).toInt = 2) (hb : PsB f) (e1 : (f 1).toInt = 1) (hw : PsW R f) : PsR PG R o f a :=
  ⟨hb, by unfold PsW at hw; omega, fun q => by omega, fun _ _ => ⟨j, hj, ho, Or.inl ⟨hs, hw⟩⟩⟩
theorem psr_rw2 (hj : j < 8) (ho : o = some (PG j).h) (hs : ((PG j).xf 66).toInt = 2) (hb : PsB f) (e1 : (f 1).toInt = 1) (h0 : 0 ≤ R) (hw : (f 2).toInt = -2 → PsW R f) : PsR PG R o f a :=
  ⟨hb, h0, fun q => by omega, fun _ q => ⟨j, hj, ho, Or.inl ⟨hs, hw q⟩⟩⟩
theorem psr_tx (hj : j < 8) (ho : o = some (PG j).h) (hs : ((PG j).xf 66).toInt = 1) (hb : PsB f) (e1 : (f 1).toInt = 1) (h0 : 0 ≤ R) (hw : (f 2).toInt = -2 → PsT (PG j) R f a) : PsR PG R o f a :=
  ⟨hb, h0, fun q => by omega, fun _ q => ⟨j, hj, ho, Or.inr ⟨hs, hw q⟩⟩⟩
theorem psr_en (hb : PsB f) (e1 : (f 1).toInt = 1) (h0 : 0 ≤ R) (h2 : (f 2).toInt ≠ -2) : PsR PG R o f a := ⟨hb, h0, fun q => by omega, fun _ q => absurd q h2⟩
/-- it has ended: its rank may fall -/
theorem PrA.low (h : PrA PG RR QO QF QA) (e1 : (QF p 1).toInt = 1) (h2 : (QF p 2).toInt ≠ -2) (h0 : 0 ≤ R) (hp : p < 13) : PrA PG (va_up RR p R) QO QF QA := ⟨fun i hi => by
  by_cases e : i = p
  · subst e; rw [va_up_s]; exact psr_en (h.1 i hi).1 e1 h0 h2
  · rw [va_up_n e]; exact h.1 i hi, h.2⟩
theorem PsR.kf (h : PsR PG R o f a) (hb : PsB f') (k : KpF f f') (e2 : (f' 2).toInt = (f 2).toInt) : PsR PG R o f' a := by
  obtain ⟨h1, h2, h3, h4⟩ := h
  have k' := k
  obtain ⟨⟨k1, k4, k5, k7, k10, k11⟩, k12, k13, k14, k24⟩ := k'
  refine ⟨hb, h2, fun q => h3 (by omega), fun q1 q2 => ?_⟩
  obtain ⟨j, hj, ho, hk⟩ := h4 (by omega) (by omega)
  refine ⟨j, hj, ho, hk.imp (fun k => ⟨k.1, ?_⟩) (fun k => ⟨k.1, ?_⟩)⟩
  · have := k.2; unfold PsW at this ⊢; omega
  · obtain ⟨X, K, st9, fn, S, v, P, nb, g1, g2, g3, g4, g5, g6⟩ := k.2
    refine ⟨X, K, st9, fn, S, v, P, nb, g1, ?_, g3, ?_⟩
    · rw [k14, k11, k10, k12, k13, k5, k4]; exact g2
    · rw [k14, k11, k4, k24, k7]; exact ⟨g4, g5, g6⟩
theorem PgT.ft {tf cf ef : Nat → Int32} {ta na ma ca ea : Nat → Nat → Int32} (h : PgT tf cf ef ta na ma ca ea) : FnT (tf 6).toInt na ca (cf 38).toInt ∧ FnP na ca (cf 38).toInt := by
  obtain ⟨ma0, mb, X, d, h1, h2, h3, h4, h5, h6, h7, h8, h9⟩ := h
  exact ⟨h7, h8⟩
end RW5
