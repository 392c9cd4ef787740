/-! STATEMENTS' CODE: jumps that wait in two chains -/
/-- a chain from k down to k0 -/
def ChX (c : Nat → Int32) (k0 : Int32) : Int32 → List Nat → Prop
  | k, [] => k.toInt = k0.toInt
  | k, p :: l => k.toInt = (p : Int) ∧ ChX c k0 (c (3 * p + 1)) l
def wg (nb nc : List Nat) (S : List Nat) (v : Nat) : WP := fun p T u => (p ∈ nb ∨ p ∈ nc) ∧ T = S ∧ v ≤ u
def LsI (s s' : Int) (l : List Nat) : Prop := Dec9 s'.toNat l ∧ ∀ x ∈ l, s ≤ (x : Int)
/-- a place where code goes on: one of its points, or its end -/
def LbP (K : KP) (f : Int) (S : List Nat) (v : Nat) (s' a : Int) : Prop := 0 ≤ a ∧ (K a.toNat f S v ∨ a = s')
def ChP (c : Nat → Int32) (s s' : Int) (t : Nat) (b0 b1 c0 c1 : Int32) (nb nc : List Nat) : Prop := (ChX c b0 b1 nb ∧ LsI s s' nb ∧ (t < 3 → nb = [])) ∧ (ChX c c0 c1 nc ∧ LsI s s' nc ∧ (t < 4 → nc = [])) ∧ ∀ p ∈ nb, p ∉ nc
def StK (X : Cx) (c : Nat → Int32) (s s' f : Int) (S : List Nat) (v t : Nat) (b0 b1 c0 c1 : Int32) (K : KP) : Prop := (0 ≤ s ∧ s ≤ s') ∧ LbP K f S v s' s ∧ ∃ nb nc, ChP c s s' t b0 b1 c0 c1 nb nc ∧ ClW X c s.toNat s'.toNat f K (Ex9 s'.toNat f S v) (wg nb nc S v)
def StQ (X : Cx) (c : Nat → Int32) (s s' f : Int) (S : List Nat) (v t : Nat) (b0 b1 c0 c1 : Int32) : Prop := ∃ K, StK X c s s' f S v t b0 b1 c0 c1 K
section ST
variable {X : Cx} {c c' : Nat → Int32} {s m m' s' i j k g f : Int} {S : List Nat} {v t : Nat} {b0 b1 b2 c0 c1 c2 to : Int32} {K K1 K2 K3 E E' F : KP} {W W' : WP} {lo mid hi : Nat} {nb nc nb' nc' l l1 l2 : List Nat}
theorem ChX.eq {k0 : Int32} : ∀ {l : List Nat} {k : Int32}, ChX c k0 k l → (∀ p ∈ l, c' (3 * p + 1) = c (3 * p + 1)) → ChX c' k0 k l
  | [], _, h, _ => h
  | p :: l, _, h, e => ⟨h.1, by rw [e p (List.mem_cons_self ..)]; exact ChX.eq h.2 (fun q hq => e q (List.mem_cons_of_mem _ hq))⟩
theorem chx_k {k0 k k' : Int32} (h : ChX c k0 k l) (e : k'.toInt = k.toInt) : ChX c k0 k' l := by
  cases l with
  | nil => show k'.toInt = k0.toInt; rw [e]; exact h
  | cons p l => exact ⟨by rw [e]; exact h.1, h.2⟩
theorem ChX.app {k0 k1 : Int32} (g : ChX c k0 k1 l1) : ∀ {l2 : List Nat} {k2 : Int32}, ChX c k1 k2 l2 → ChX c k0 k2 (l2 ++ l1)
  | [], _, h => chx_k g h
  | _ :: _, _, h => ⟨h.1, ChX.app g h.2⟩
theorem ChX.app' {k0 k1 k2 : Int32} (h : ChX c k1 k2 l2) (g : ChX c k0 k1 l1) : ChX c k0 k2 (l2 ++ l1) := ChX.app g h
theorem ChX.an {k1 : Int32} (g : ChN c k1 l1) : ∀ {l2 : List Nat} {k2 : Int32}, ChX c k1 k2 l2 → ChN c k2 (l2 ++ l1)
  | [], _, h => chn_k g h
  | _ :: _, _, h => ⟨h.1, ChX.an g h.2⟩
theorem ChX.neg {k0 k : Int32} (h : ChX c k0 k l) (hk : k.toInt < 0) : l = [] := by
  cases l with
  | nil => rfl
  | cons p l => have := h.1; omega
theorem dec_app {n m : Nat} (h1 : Dec9 m l1) : ∀ {l2 : List Nat} {n : Nat}, Dec9 n l2 → (∀ x ∈ l2, m ≤ x) → m ≤ n → Dec9 n (l2 ++ l1)
  | [], n, _, _, hn => by
    cases l1 with
    | nil => trivial
    | cons p l => exact ⟨by have := h1.1; omega, h1.2⟩
  | q :: l2, n, h, hm, hn => ⟨h.1, dec_app (n := n) h1 h.2 (fun x hx => hm x (List.mem_cons_of_mem _ hx)) (hm q (List.mem_cons_self ..))⟩
theorem Dec9.up {n n' : Nat} (h : Dec9 n l) (hn : n ≤ n') : Dec9 n' l := by
  cases l with
  | nil => trivial
  | cons p l => exact ⟨by have := h.1; omega, h.2⟩
theorem LsI.wid {s0 s1 : Int} (h : LsI s s' l) (h1 : s0 ≤ s) (h2 : s' ≤ s1) : LsI s0 s1 l := ⟨h.1.up (by omega), fun x hx => by have := h.2 x hx; omega⟩
theorem LsI.rng {x : Nat} (h : LsI s s' l) (hx : x ∈ l) : s ≤ (x : Int) ∧ x < s'.toNat := ⟨h.2 x hx, h.1.mem hx⟩
theorem lsi_n : LsI s s' [] := ⟨trivial, fun _ h => absurd h List.not_mem_nil⟩
theorem lsi_1 (h0 : 0 ≤ s) (h : s' = s + 1) : LsI s s' [s.toNat] := ⟨⟨by omega, trivial⟩, fun x hx => by have := List.mem_singleton.mp hx; omega⟩
theorem LsI.app (h1 : LsI s m l1) (h2 : LsI m' s' l2) (h0 : 0 ≤ s) (hs : s ≤ m) (hm : m ≤ m') (hm' : m' ≤ s') : LsI s s' (l2 ++ l1) := by
  refine ⟨dec_app (n := 0) h1.1 h2.1 (fun x hx => ?_) (by omega), fun x hx => ?_⟩
  · have := h2.2 x hx; omega
  · rcases List.mem_append.mp hx with q | q
    · have := h2.2 x q; omega
    · exact h1.2 x q
theorem chp_0 (eb : b1.toInt = b0.toInt) (ec : c1.toInt = c0.toInt) : ChP c s s' t b0 b1 c0 c1 [] [] := ⟨⟨eb, lsi_n, fun _ => rfl⟩, ⟨ec, lsi_n, fun _ => rfl⟩, fun _ h => absurd h List.not_mem_nil⟩
theorem ChP.wid {s0 s1 : Int} (h : ChP c s s' t b0 b1 c0 c1 nb nc) (h1 : s0 ≤ s) (h2 : s' ≤ s1) : ChP c s0 s1 t b0 b1 c0 c1 nb nc := ⟨⟨h.1.1, h.1.2.1.wid h1 h2, h.1.2.2⟩, ⟨h.2.1.1, h.2.1.2.1.wid h1 h2, h.2.1.2.2⟩, h.2.2⟩
theorem ChP.fr (h : ChP c s s' t b0 b1 c0 c1 nb nc) (h0 : 0 ≤ s) (e : ∀ i : Nat, 3 * s ≤ (i : Int) → (i : Int) < 3 * s' → c' i = c i) : ChP c' s s' t b0 b1 c0 c1 nb nc := by
  have hx : ∀ {l : List Nat}, LsI s s' l → ∀ p ∈ l, c' (3 * p + 1) = c (3 * p + 1) := fun q p hp => by
    have r := q.rng hp
    exact e _ (by omega) (by omega)
  exact ⟨⟨h.1.1.eq (hx h.1.2.1), h.1.2⟩, ⟨h.2.1.1.eq (hx h.2.1.2.1), h.2.1.2⟩, h.2.2⟩
theorem ChP.app (h : ChP c s m t b0 b1 c0 c1 nb nc) (k : ChP c m' s' t b1 b2 c1 c2 nb' nc') (h0 : 0 ≤ s) (hs : s ≤ m) (hm : m ≤ m') (hm' : m' ≤ s') : ChP c s s' t b0 b2 c0 c2 (nb' ++ nb) (nc' ++ nc) := by
  refine ⟨⟨k.1.1.app' h.1.1, h.1.2.1.app k.1.2.1 h0 hs hm hm', fun q => by rw [h.1.2.2 q, k.1.2.2 q]; rfl⟩, ⟨k.2.1.1.app' h.2.1.1, h.2.1.2.1.app k.2.1.2.1 h0 hs hm hm', fun q => by rw [h.2.1.2.2 q, k.2.1.2.2 q]; rfl⟩, fun p hp hq => ?_⟩
  rcases List.mem_append.mp hp with r | r <;> rcases List.mem_append.mp hq with u | u
  · exact k.2.2 p r u
  · have := k.1.2.1.rng r; have := h.2.1.2.1.rng u; omega
  · have := h.1.2.1.rng r; have := k.2.1.2.1.rng u; omega
  · exact h.2.2 p r u
theorem wg_app {p : Nat} {T : List Nat} {u : Nat} : wor (wg nb nc S v) (wg nb' nc' S v) p T u ↔ wg (nb' ++ nb) (nc' ++ nc) S v p T u := by
  unfold wor wg
  rw [List.mem_append, List.mem_append]
  constructor
  · rintro (⟨h, q⟩ | ⟨h, q⟩)
    · exact ⟨h.elim (fun r => Or.inl (Or.inr r)) (fun r => Or.inr (Or.inr r)), q⟩
    · exact ⟨h.elim (fun r => Or.inl (Or.inl r)) (fun r => Or.inr (Or.inl r)), q⟩
  · rintro ⟨h, q⟩
    rcases h with (h | h) | (h | h)
    · exact Or.inr ⟨Or.inl h, q⟩
    · exact Or.inl ⟨Or.inl h, q⟩
    · exact Or.inr ⟨Or.inr h, q⟩
    · exact Or.inl ⟨Or.inr h, q⟩
theorem wg_0 {p : Nat} {T : List Nat} {u : Nat} : wg [] [] S v p T u ↔ w0 p T u := ⟨fun h => h.1.elim (fun q => absurd q List.not_mem_nil) (fun q => absurd q List.not_mem_nil), fun h => h.elim⟩
theorem wor_0l {p : Nat} {T : List Nat} {u : Nat} : wor w0 W p T u ↔ W p T u := ⟨fun h => h.elim (fun q => q.elim) id, Or.inr⟩
/-- other rows wait, or for more, but the same rows -/
theorem ClW.mw2 (h : ClW X c lo hi f K E W) (h1 : ∀ p T u, W p T u → W' p T u) (h2 : ∀ p T u, W' p T u → ∃ T' u', W p T' u') : ClW X c lo hi f K E W' :=
  ⟨fun p T u q => by obtain ⟨T', u', r⟩ := h2 p T u q; exact h.1 p T' u' r, fun p g R u q => by
    obtain ⟨a, b, d⟩ := h.2 p g R u q
    refine ⟨a, b, d.imp (fun r => ⟨r.1, fun T t w => ?_⟩) (fun r => r.elim fun T w => ⟨T, h1 _ _ _ w.1, w.2⟩)⟩
    obtain ⟨T', u', w'⟩ := h2 p T t w
    exact r.2 T' u' w'⟩
/-- one row, all of whose ends are known -/
theorem clw_r {n : Nat} {R : List Nat} {u : Nat} (h : LcC X c E n f R u) : ClW X c n (n + 1) f (Ex9 n f R u) E w0 := by
  refine ⟨fun _ _ _ q => q.elim, fun p g R' u' q => ?_⟩
  obtain ⟨rfl, rfl, rfl, rfl⟩ := q
  exact ⟨by omega, rfl, Or.inl ⟨h.mono (fun _ _ _ _ r => Or.inr r), fun _ _ r => r⟩⟩
/-- one row that waits: a number is looked at -/
theorem clw_w {n : Nat} (ht : (S.length : Int) + 1 ≤ X.tall f) (ho : (c (3 * n)).toInt = 13 ∨ (c (3 * n)).toInt = 14) : ClW X c n (n + 1) f (Ex9 n f (0 :: S) v) (Ex9 (n + 1) f S v) (wg [n] [] S v) := by
  refine ⟨fun p T u q => ?_, fun p g R u q => ?_⟩
  · rcases q.1 with r | r
    · have := List.mem_singleton.mp r; omega
    · exact absurd r List.not_mem_nil
  · obtain ⟨rfl, rfl, rfl, rfl⟩ := q
    exact ⟨by omega, rfl, Or.inr ⟨S, ⟨Or.inl (List.mem_singleton.mpr rfl), rfl, Nat.le_refl _⟩, by rw [List.length_cons]; omega, Or.inr ⟨ho, rfl, Or.inr ⟨rfl, rfl, rfl, rfl⟩⟩⟩⟩
theorem clw_b {n : Nat} (ht : (S.length : Int) ≤ X.tall f) (ho : (c (3 * n)).toInt = 12) (hw : ∀ p, p ∈ nb ∨ p ∈ nc ↔ p = n) : ClW X c n (n + 1) f (Ex9 n f S v) E (wg nb nc S v) := by
  refine ⟨fun p T u q => ?_, fun p g R u q => ?_⟩
  · have := (hw p).mp q.1; omega
  · obtain ⟨rfl, rfl, rfl, rfl⟩ := q
    exact ⟨by omega, rfl, Or.inr ⟨R, ⟨(hw p).mpr rfl, rfl, Nat.le_refl _⟩, ht, Or.inl ⟨ho, rfl⟩⟩⟩
theorem LbP.or1 (h : LbP K1 f S v m i) (k : LbP K2 f S v s' m) : LbP (kor K1 K2) f S v s' i := by
  refine ⟨h.1, ?_⟩
  rcases h.2 with q | q
  · exact Or.inl (Or.inl q)
  · subst q; exact k.2.imp Or.inr id
theorem LbP.or2 (h : LbP K2 f S v s' i) : LbP (kor K1 K2) f S v s' i := ⟨h.1, h.2.imp Or.inr id⟩
/-- nothing -/
theorem stk_0 (h : 0 ≤ s) (hs : s' = s) (eb : b1.toInt = b0.toInt) (ec : c1.toInt = c0.toInt) : StK X c s s' f S v t b0 b1 c0 c1 (fun _ _ _ _ => False) := by
  subst hs
  exact ⟨by omega, ⟨h, Or.inr rfl⟩, [], [], chp_0 eb ec, fun p T u q => absurd q (fun r => (wg_0.mp r).elim), fun _ _ _ _ q => q.elim⟩
theorem StK.fr (h : StK X c s s' f S v t b0 b1 c0 c1 K) (e : ∀ i : Nat, 3 * s ≤ (i : Int) → (i : Int) < 3 * s' → c' i = c i) : StK X c' s s' f S v t b0 b1 c0 c1 K := by
  obtain ⟨h0, h1, nb, nc, h2, h3⟩ := h
  exact ⟨h0, h1, nb, nc, h2.fr h0.1 e, h3.fr (fun i i1 i2 => e i (by omega) (by omega))⟩
/-- one behind the other -/
theorem StK.ap (h : StK X c s m f S v t b0 b1 c0 c1 K1) (k : StK X c m s' f S v t b1 b2 c1 c2 K2) : StK X c s s' f S v t b0 b2 c0 c2 (kor K1 K2) := by
  obtain ⟨h0, h1, nb, nc, h2, h3⟩ := h
  obtain ⟨k0, k1, nb', nc', k2, k3⟩ := k
  refine ⟨by omega, h1.or1 k1, _, _, h2.app k2 h0.1 h0.2 (Int.le_refl _) k0.2, (h3.un (F := Ex9 s'.toNat f S v) k3 (by omega) (by omega) (fun p g R u q => ?_) (fun _ _ _ _ q => Or.inr q)).mw (fun p T u => wg_app)⟩
  obtain ⟨rfl, rfl, rfl, rfl⟩ := q
  rcases k1.2 with q | q
  · exact Or.inl q
  · exact Or.inr ⟨by omega, rfl, rfl, rfl⟩
/-- code that neither breaks nor goes on -/
theorem stk_sg (h : SgQ X c s s' f S S v) (eb : b1.toInt = b0.toInt) (ec : c1.toInt = c0.toInt) : StQ X c s s' f S v t b0 b1 c0 c1 := by
  obtain ⟨h0, h1, h2⟩ := h
  obtain ⟨g0, K, g1, g2⟩ := h1.w
  refine ⟨K, by omega, ⟨h0, g2.imp id (fun q => by omega)⟩, [], [], chp_0 eb ec, g1.mw (fun p T u => wg_0.symm)⟩
theorem stq_br (h0 : 0 ≤ s) (hs : s' = s + 1) (ht : (S.length : Int) ≤ X.tall f) (h3 : 3 ≤ t) (ho : (c (3 * s.toNat)).toInt = 12) (ha : (c (3 * s.toNat + 1)).toInt = b0.toInt) (hb : b1.toInt = s) (ec : c1.toInt = c0.toInt) : StQ X c s s' f S v t b0 b1 c0 c1 := by
  have e1 : s'.toNat = s.toNat + 1 := by omega
  refine ⟨Ex9 s.toNat f S v, by omega, ⟨h0, Or.inl ⟨rfl, rfl, rfl, rfl⟩⟩, [s.toNat], [], ⟨⟨⟨by omega, ha⟩, lsi_1 h0 hs, fun q => by omega⟩, ⟨ec, lsi_n, fun _ => rfl⟩, fun _ _ => List.not_mem_nil⟩, ?_⟩
  rw [e1]
  exact clw_b ht ho (fun p => ⟨fun q => q.elim (fun r => List.mem_singleton.mp r) (fun r => absurd r List.not_mem_nil), fun q => Or.inl (List.mem_singleton.mpr q)⟩)
theorem stq_co (h0 : 0 ≤ s) (hs : s' = s + 1) (ht : (S.length : Int) ≤ X.tall f) (h4 : 4 ≤ t) (ho : (c (3 * s.toNat)).toInt = 12) (ha : (c (3 * s.toNat + 1)).toInt = c0.toInt) (hb : c1.toInt = s) (eb : b1.toInt = b0.toInt) : StQ X c s s' f S v t b0 b1 c0 c1 := by
  have e1 : s'.toNat = s.toNat + 1 := by omega
  refine ⟨Ex9 s.toNat f S v, by omega, ⟨h0, Or.inl ⟨rfl, rfl, rfl, rfl⟩⟩, [], [s.toNat], ⟨⟨eb, lsi_n, fun _ => rfl⟩, ⟨⟨by omega, ha⟩, lsi_1 h0 hs, fun q => by omega⟩, fun _ h => absurd h List.not_mem_nil⟩, ?_⟩
  rw [e1]
  exact clw_b ht ho (fun p => ⟨fun q => q.elim (fun r => absurd r List.not_mem_nil) (fun r => List.mem_singleton.mp r), fun q => Or.inr (List.mem_singleton.mpr q)⟩)
theorem SgQ.ne (h : SgQ X c s m f S (0 :: S) v) : (0 ≤ s ∧ s < m) ∧ ∃ K, ClW X c s.toNat m.toNat f K (Ex9 m.toNat f (0 :: S) v) w0 ∧ K s.toNat f S v := by
  obtain ⟨h0, h1, h2⟩ := h
  obtain ⟨g0, K, g1, g2⟩ := h1.w
  rcases g2 with g2 | ⟨-, g3⟩
  · have := (g1.2 _ _ _ _ g2).1
    exact ⟨by omega, K, g1, g2⟩
  · exact absurd (congrArg List.length g3) (by rw [List.length_cons]; omega)
/-- a jump whose end is known -/
theorem lc_go {n : Nat} {a u u' : Nat} (ht : (S.length : Int) ≤ X.tall f) (ho : (c (3 * n)).toInt = 12) (ha : (c (3 * n + 1)).toInt = (a : Int)) (hE : E a f S u') (hu : u' < u ∨ (u' = u ∧ n < a)) : LcC X c E n f S u := by
  have e : (c (3 * n + 1)).toNatClampNeg = a := by have := cl_nat (x := c (3 * n + 1)) (by omega); omega
  exact ⟨ht, Or.inr (Or.inl ⟨ho, by omega, u', by rw [e]; exact hE, by rw [e]; exact hu⟩)⟩
theorem lc_if {n : Nat} {a u u' u2 : Nat} (ht : (S.length : Int) + 1 ≤ X.tall f) (ho : (c (3 * n)).toInt = 13 ∨ (c (3 * n)).toInt = 14) (ha : (c (3 * n + 1)).toInt = (a : Int)) (hE : E a f S u') (hu : u' < u ∨ (u' = u ∧ n < a)) (h2 : E (n + 1) f S u2) (hu2 : u2 ≤ u) : LcC X c E n f (0 :: S) u := by
  have e : (c (3 * n + 1)).toNatClampNeg = a := by have := cl_nat (x := c (3 * n + 1)) (by omega); omega
  exact ⟨by rw [List.length_cons]; omega, Or.inr (Or.inr (Or.inl ⟨ho, S, rfl, ⟨u2, hu2, h2⟩, by omega, u', by rw [e]; exact hE, by rw [e]; exact hu⟩))⟩
/-- an if without an else -/
theorem stq_if (h1 : SgQ X c s m f S (0 :: S) v) (ho : (c (3 * m.toNat)).toInt = 13) (ha : (c (3 * m.toNat + 1)).toInt = s') (h2 : StQ X c m' s' f S v t b0 b1 c0 c1) (hm : m' = m + 1) (ht : (S.length : Int) + 1 ≤ X.tall f) : StQ X c s s' f S v t b0 b1 c0 c1 := by
  subst hm
  obtain ⟨a0, K1, a1, a2⟩ := h1.ne
  obtain ⟨K2, k0, k1, nb, nc, k2, k3⟩ := h2
  have e1 : (m + 1).toNat = m.toNat + 1 := by omega
  rw [e1] at k3
  have r : ClW X c m.toNat (m.toNat + 1) f (Ex9 m.toNat f (0 :: S) v) (kor (Ex9 (m.toNat + 1) f S v) (Ex9 s'.toNat f S v)) w0 := clw_r (lc_if (a := s'.toNat) (u' := v) (u2 := v) ht (Or.inl ho) (by omega) (Or.inr ⟨rfl, rfl, rfl, rfl⟩) (Or.inr ⟨rfl, by omega⟩) (Or.inl ⟨rfl, rfl, rfl, rfl⟩) (Nat.le_refl _))
  have q := r.un (F := Ex9 s'.toNat f S v) k3 (by omega) (by omega) (fun p g R u q => by
    rcases q with ⟨rfl, rfl, rfl, rfl⟩ | q
    · rcases k1.2 with w | w
      · exact Or.inl (by rw [e1] at w; exact w)
      · exact Or.inr ⟨by omega, rfl, rfl, rfl⟩
    · exact Or.inr q) (fun _ _ _ _ q => Or.inr q)
  have z := a1.un (F := Ex9 s'.toNat f S v) q (by omega) (by omega) (fun p g R u q => Or.inl (Or.inl q)) (fun _ _ _ _ q => Or.inr q)
  exact ⟨_, by omega, ⟨a0.1, Or.inl (Or.inl a2)⟩, nb, nc, k2.wid (by omega) (Int.le_refl _), z.mw (fun p T u => by rw [wor_0l, wor_0l])⟩
/-- an if with its else -/
theorem stq_ie (h1 : SgQ X c s m f S (0 :: S) v) (ho : (c (3 * m.toNat)).toInt = 13) (ha : (c (3 * m.toNat + 1)).toInt = j) (h2 : StQ X c m' i f S v t b0 b1 c0 c1) (ho2 : (c (3 * i.toNat)).toInt = 12) (ha2 : (c (3 * i.toNat + 1)).toInt = s') (h3 : StQ X c j s' f S v t b1 b2 c1 c2) (hm : m' = m + 1) (hj : j = i + 1) (ht : (S.length : Int) + 1 ≤ X.tall f) : StQ X c s s' f S v t b0 b2 c0 c2 := by
  subst hm; subst hj
  obtain ⟨a0, K1, a1, a2⟩ := h1.ne
  obtain ⟨K2, k0, k1, nb, nc, k2, k3⟩ := h2
  obtain ⟨K3, l0, l1, nb', nc', l2, l3⟩ := h3
  have e1 : (m + 1).toNat = m.toNat + 1 := by omega
  have e2 : (i + 1).toNat = i.toNat + 1 := by omega
  rw [e1] at k3
  rw [e2] at l3
  have r : ClW X c m.toNat (m.toNat + 1) f (Ex9 m.toNat f (0 :: S) v) (kor (Ex9 (m.toNat + 1) f S v) (Ex9 (i.toNat + 1) f S v)) w0 := clw_r (lc_if (a := i.toNat + 1) (u' := v) (u2 := v) ht (Or.inl ho) (by omega) (Or.inr ⟨rfl, rfl, rfl, rfl⟩) (Or.inr ⟨rfl, by omega⟩) (Or.inl ⟨rfl, rfl, rfl, rfl⟩) (Nat.le_refl _))
  have r2 : ClW X c i.toNat (i.toNat + 1) f (Ex9 i.toNat f S v) (Ex9 s'.toNat f S v) w0 := clw_r (lc_go (a := s'.toNat) (u' := v) (by omega) ho2 (by omega) ⟨rfl, rfl, rfl, rfl⟩ (Or.inr ⟨rfl, by omega⟩))
  have y1 := r2.un (F := Ex9 s'.toNat f S v) l3 (by omega) (by omega) (fun p g R u q => Or.inr q) (fun _ _ _ _ q => Or.inr q)
  have y2 := k3.un (F := Ex9 s'.toNat f S v) y1 (by omega) (by omega) (fun p g R u q => Or.inl (Or.inl q)) (fun _ _ _ _ q => Or.inr q)
  have y3 := r.un (F := Ex9 s'.toNat f S v) y2 (by omega) (by omega) (fun p g R u q => by
    rcases q with ⟨rfl, rfl, rfl, rfl⟩ | ⟨rfl, rfl, rfl, rfl⟩
    · rcases k1.2 with w | w
      · exact Or.inl (Or.inl (by rw [e1] at w; exact w))
      · exact Or.inl (Or.inr (Or.inl ⟨by omega, rfl, rfl, rfl⟩))
    · rcases l1.2 with w | w
      · exact Or.inl (Or.inr (Or.inr (by rw [e2] at w; exact w)))
      · exact Or.inr ⟨by omega, rfl, rfl, rfl⟩) (fun _ _ _ _ q => Or.inr q)
  have z := a1.un (F := Ex9 s'.toNat f S v) y3 (by omega) (by omega) (fun p g R u q => Or.inl (Or.inl q)) (fun _ _ _ _ q => Or.inr q)
  refine ⟨_, by omega, ⟨a0.1, Or.inl (Or.inl a2)⟩, _, _, (k2.app l2 (by omega) (by omega) (by omega) (by omega)).wid (by omega) (Int.le_refl _), z.mw (fun p T u => ?_)⟩
  rw [wor_0l, wor_0l, ← wg_app]
  exact ⟨fun h => h.imp id (fun q => wor_0l.mp q), fun h => h.imp id (fun q => wor_0l.mpr q)⟩
/-- it goes back -/
theorem stq_ret (h1 : SgQ X c s m f [] [0] v) (ho : (c (3 * m.toNat)).toInt = 18) (hs : s' = m + 1) (h0 : 0 ≤ f) (ht : 1 ≤ X.tall f) (eb : b1.toInt = b0.toInt) (ec : c1.toInt = c0.toInt) : StQ X c s s' f [] v t b0 b1 c0 c1 := by
  subst hs
  obtain ⟨a0, K1, a1, a2⟩ := h1.ne
  have r : ClW X c m.toNat (m.toNat + 1) f (Ex9 m.toNat f [0] v) (Ex9 (m + 1).toNat f [] v) w0 := clw_r ⟨by simpa using ht, Or.inr (Or.inr (Or.inr (Or.inr (Or.inr (Or.inl ⟨ho, rfl, h0⟩)))))⟩
  have z := a1.un (F := Ex9 (m + 1).toNat f [] v) r (by omega) (by omega) (fun p g R u q => Or.inl q) (fun _ _ _ _ q => Or.inr q)
  rw [← show (m + 1).toNat = m.toNat + 1 by omega] at z
  exact ⟨_, by omega, ⟨a0.1, Or.inl (Or.inl a2)⟩, [], [], chp_0 eb ec, z.mw (fun p T u => by rw [wor_0l, wg_0])⟩
/-! LOOPS -/
/-- as far as its work: what stands before it, what is asked -/
def LpH (X : Cx) (c : Nat → Int32) (s i k f : Int) (S : List Nat) (v : Nat) (bk : Int32) : Prop := (0 ≤ s ∧ s ≤ i ∧ i ≤ k) ∧ ∃ nb K, ChN c bk nb ∧ LsI i k nb ∧ ClW X c s.toNat k.toNat f K (Ex9 k.toNat f S v) (wg nb [] S v) ∧ LbP K f S v k s ∧ LbP K f S v k i
def LpB (X : Cx) (c : Nat → Int32) (s i j f : Int) (S : List Nat) (v : Nat) (bk : Int32) : Prop := (0 ≤ s ∧ s ≤ i ∧ i < j) ∧ ∃ nb K, ChN c bk nb ∧ LsI i j nb ∧ ClW X c s.toNat j.toNat f K (Ex9 j.toNat f S (v + 1)) (wg nb [] S v) ∧ K s.toNat f S v ∧ K i.toNat f S v
/-- whole, but that its breaks wait -/
def LpE (X : Cx) (c : Nat → Int32) (s s' f : Int) (S : List Nat) (v : Nat) (bk : Int32) : Prop := (0 ≤ s ∧ s < s') ∧ ∃ nb, ChN c bk nb ∧ LsI s s' nb ∧ ∀ (c' : Nat → Int32) (to : Int32), LaA c c' nb to → to.toInt = s' → ∀ (t : Nat) (b0 b1 c0 c1 : Int32), b1.toInt = b0.toInt → c1.toInt = c0.toInt → StQ X c' s s' f S v t b0 b1 c0 c1
theorem LpH.fr (h : LpH X c s i k f S v b1) (e : ∀ x : Nat, (x : Int) < 3 * k → c' x = c x) : LpH X c' s i k f S v b1 := by
  obtain ⟨h0, nb, K, h1, h2, h3, h4⟩ := h
  exact ⟨h0, nb, K, h1.eq (fun p hp => e _ (by have := h2.rng hp; omega)), h2, h3.fr (fun x x1 x2 => e x (by omega)), h4⟩
theorem LpB.fr (h : LpB X c s i j f S v b1) (e : ∀ x : Nat, (x : Int) < 3 * j → c' x = c x) : LpB X c' s i j f S v b1 := by
  obtain ⟨h0, nb, K, h1, h2, h3, h4⟩ := h
  exact ⟨h0, nb, K, h1.eq (fun p hp => e _ (by have := h2.rng hp; omega)), h2, h3.fr (fun x x1 x2 => e x (by omega)), h4⟩
theorem lph_0 (h : StQ X c s i f S v t b0 b1 c0 c1) (hb : b1.toInt < 0) (hc : c1.toInt < 0) : LpH X c s i i f S v b1 := by
  obtain ⟨K, h0, h1, nb, nc, h2, h3⟩ := h
  have e1 := h2.1.1.neg hb
  have e2 := h2.2.1.1.neg hc
  subst e1; subst e2
  exact ⟨by omega, [], K, hb, lsi_n, h3, h1, ⟨by omega, Or.inr rfl⟩⟩
/-- it asks -/
theorem LpH.ask (h : LpH X c s i i f S v b0) (q : SgQ X c i m f S (0 :: S) v) (hb : b0.toInt < 0) (ho : (c (3 * m.toNat)).toInt = 13) (ha : (c (3 * m.toNat + 1)).toInt < 0) (hk : k = m + 1) (h1 : b1.toInt = m) (ht : (S.length : Int) + 1 ≤ X.tall f) : LpH X c s i k f S v b1 := by
  subst hk
  obtain ⟨h0, nb, K, g1, g2, g3, g4, g5⟩ := h
  obtain ⟨a0, K1, a1, a2⟩ := q.ne
  have en : nb = [] := by
    cases nb with
    | nil => rfl
    | cons p l => have := g1.1; omega
  subst en
  have e1 : (m + 1).toNat = m.toNat + 1 := by omega
  have r : ClW X c m.toNat (m.toNat + 1) f (Ex9 m.toNat f (0 :: S) v) (Ex9 (m.toNat + 1) f S v) (wg [m.toNat] [] S v) := clw_w ht (Or.inl ho)
  have y := a1.un (F := Ex9 (m.toNat + 1) f S v) r (by omega) (by omega) (fun p g R u q => Or.inl q) (fun _ _ _ _ q => Or.inr q)
  have z := g3.un (F := Ex9 (m.toNat + 1) f S v) y (by omega) (by omega) (fun p g R u q => by
    obtain ⟨rfl, rfl, rfl, rfl⟩ := q
    exact Or.inl (Or.inl a2)) (fun _ _ _ _ q => Or.inr q)
  rw [← e1] at z
  refine ⟨by omega, [m.toNat], _, ⟨by omega, ha⟩, ?_, z.mw (fun p T u => ?_), ?_, ?_⟩
  · exact ⟨⟨by omega, trivial⟩, fun x hx => by have := List.mem_singleton.mp hx; omega⟩
  · exact ⟨fun h => h.elim (fun w => (wg_0.mp w).elim) (fun w => wor_0l.mp w), fun h => Or.inr (wor_0l.mpr h)⟩
  · refine ⟨g4.1, Or.inl ?_⟩
    rcases g4.2 with w | w
    · exact Or.inl w
    · rw [w]; exact Or.inr (Or.inl a2)
  · exact ⟨by omega, Or.inl (Or.inr (Or.inl a2))⟩
/-- it works, its inside is there: those that go on wait -/
theorem LpH.body (h : LpH X c s i k f S v b0) (ho : (c (3 * k.toNat)).toInt = 19) (q : StQ X c m j f S (v + 1) 4 b0 b1 c0 c1) (hm : m = k + 1) (hc : c0.toInt < 0) (ht : (S.length : Int) ≤ X.tall f) : ∃ nc, ChN c c1 nc ∧ LsI m j nc ∧ ∀ (c' : Nat → Int32) (to : Int32), LaA c c' nc to → to.toInt = j → LpB X c' s i j f S v b1 := by
  subst hm
  obtain ⟨h0, nb, K, g1, g2, g3, g4, g5⟩ := h
  obtain ⟨K2, k0, k1, nb', nc, k2, k3⟩ := q
  have e1 : (k + 1).toNat = k.toNat + 1 := by omega
  have hn : ChN c c1 nc := by
    have := ChX.an (k1 := c0) (l1 := []) hc k2.2.1.1
    rw [List.append_nil] at this; exact this
  refine ⟨nc, hn, k2.2.1.2.1, fun c' to la hto => ?_⟩
  have r : ClW X c k.toNat (k.toNat + 1) f (Ex9 k.toNat f S v) (Ex9 (k.toNat + 1) f S (v + 1)) w0 := clw_r ⟨ht, Or.inr (Or.inr (Or.inr (Or.inr (Or.inr (Or.inr ⟨ho, rfl, rfl, rfl, rfl⟩)))))⟩
  rw [e1] at k3
  have y1 := r.un (F := Ex9 j.toNat f S (v + 1)) k3 (by omega) (by omega) (fun p g R u q => by
    obtain ⟨rfl, rfl, rfl, rfl⟩ := q
    rcases k1.2 with w | w
    · exact Or.inl (by rw [e1] at w; exact w)
    · exact Or.inr ⟨by omega, rfl, rfl, rfl⟩) (fun _ _ _ _ q => Or.inr q)
  have y2 := g3.un (F := Ex9 j.toNat f S (v + 1)) y1 (by omega) (by omega) (fun p g R u q => Or.inl (Or.inl q)) (fun _ _ _ _ q => Or.inr q)
  have y3 := y2.la (t := j.toNat) la (by omega) (fun p hp => ⟨S, v + 1, Or.inr (Or.inr ⟨Or.inr hp, rfl, Nat.le_refl _⟩)⟩) (fun p T u hp w => by
    have rp := k2.2.1.2.1.rng hp
    rcases w with w | w
    · rcases w.1 with w | w
      · have := g2.rng w; omega
      · exact absurd w List.not_mem_nil
    · rcases w with w | w
      · exact w.elim
      · obtain ⟨-, rfl, hu⟩ := w
        exact ⟨v + 1, Or.inr ⟨rfl, rfl, rfl, rfl⟩, by omega⟩)
  have nn : ∀ p, p ∈ nb' ++ nb → p ∉ nc := fun p hp hq => by
    rcases List.mem_append.mp hp with w | w
    · exact k2.2.2 p w hq
    · have := g2.rng w; have := k2.2.1.2.1.rng hq; omega
  have kk : ∀ {a : Int}, LbP K f S v k a → kor K (kor (Ex9 k.toNat f S v) K2) a.toNat f S v := fun {a} q => by
    rcases q.2 with w | w
    · exact Or.inl w
    · rw [w]; exact Or.inr (Or.inl ⟨rfl, rfl, rfl, rfl⟩)
  refine ⟨by omega, nb' ++ nb, _, (ChX.an g1 k2.1.1).eq (fun p hp => (la _).2 (fun q hq e => nn p hp ((show p = q by omega) ▸ hq))), (g2.app k2.1.2.1 (by omega) (by omega) (by omega) (by omega)), y3.mw2 (fun p T u w => ?_) (fun p T u w => ?_), kk g4, kk g5⟩
  · obtain ⟨w, wn⟩ := w
    rcases w with w | w
    · exact ⟨w.1.elim (fun r => Or.inl (List.mem_append.mpr (Or.inr r))) (fun r => absurd r List.not_mem_nil), w.2⟩
    · rcases w with w | w
      · exact w.elim
      · exact ⟨w.1.elim (fun r => Or.inl (List.mem_append.mpr (Or.inl r))) (fun r => absurd r wn), w.2.1, by have := w.2.2; omega⟩
  · rcases w.1 with w' | w'
    · rcases List.mem_append.mp w' with r | r
      · exact ⟨S, v + 1, Or.inr (Or.inr ⟨Or.inl r, rfl, Nat.le_refl _⟩), nn p w'⟩
      · exact ⟨S, v, Or.inl ⟨Or.inl r, rfl, Nat.le_refl _⟩, nn p w'⟩
    · exact absurd w' List.not_mem_nil
/-- whole, but for its breaks -/
theorem LpB.fin {R : List Nat} {T : KP} {n : Nat} (h : LpB X c s i j f S v b1) (hT : ClW X c j.toNat n f T (kor (Ex9 s'.toNat f S v) (Ex9 i.toNat f S v)) w0) (hn : s'.toNat = n) (hj : j < s') (h0 : T j.toNat f S (v + 1)) : LpE X c s s' f S v b1 := by
  subst hn
  obtain ⟨a0, nb, K, g1, g2, g3, g4, g5⟩ := h
  refine ⟨by omega, nb, g1, g2.wid (by omega) (by omega), fun c' to la hto t b0 b1 c0 c1 eb ec => ?_⟩
  have y := g3.un (F := Ex9 s'.toNat f S v) hT (by omega) (by omega) (fun p g R u q => by
    obtain ⟨rfl, rfl, rfl, rfl⟩ := q
    exact Or.inl h0) (fun p g R u q => q.elim Or.inr (fun q => by
    obtain ⟨rfl, rfl, rfl, rfl⟩ := q
    exact Or.inl g5))
  have y3 := y.la (t := s'.toNat) la (by omega) (fun p hp => ⟨S, v, Or.inl ⟨Or.inl hp, rfl, Nat.le_refl _⟩⟩) (fun p T u hp w => by
    have rp := g2.rng hp
    rcases w with w | w
    · obtain ⟨-, rfl, hu⟩ := w
      exact ⟨v, Or.inr ⟨rfl, rfl, rfl, rfl⟩, by omega⟩
    · exact w.elim)
  refine ⟨_, by omega, ⟨a0.1, Or.inl (Or.inl g4)⟩, [], [], chp_0 eb ec, y3.mw (fun p T u => ?_)⟩
  rw [wg_0]
  refine ⟨fun w => ?_, fun w => w.elim⟩
  obtain ⟨w, wn⟩ := w
  rcases w with w | w
  · rcases w.1 with r | r
    · exact absurd r wn
    · exact absurd r List.not_mem_nil
  · exact w
theorem LpB.go (h : LpB X c s i j f S v b1) (q : SgQ X c j g f S S (v + 1)) (ho : (c (3 * g.toNat)).toInt = 12) (ha : (c (3 * g.toNat + 1)).toInt = i) (hs : s' = g + 1) (ht : (S.length : Int) ≤ X.tall f) : LpE X c s s' f S v b1 := by
  subst hs
  have a0 := h.1
  obtain ⟨q0, q1, q2⟩ := q
  obtain ⟨wl0, K1, a1, a2⟩ := q1.w
  have r : ClW X c g.toNat (g.toNat + 1) f (Ex9 g.toNat f S (v + 1)) (kor (Ex9 (g + 1).toNat f S v) (Ex9 i.toNat f S v)) w0 := clw_r (lc_go (a := i.toNat) (u' := v) ht ho (by omega) (Or.inr ⟨rfl, rfl, rfl, rfl⟩) (by omega))
  have y := a1.un (F := kor (Ex9 (g + 1).toNat f S v) (Ex9 i.toNat f S v)) r (by omega) (by omega) (fun p g R u q => Or.inl q) (fun _ _ _ _ q => Or.inr q)
  refine h.fin (R := S) (n := g.toNat + 1) (y.mw (fun p T u => by rw [wor_0l])) (by omega) (by omega) ?_
  rcases a2 with w | w
  · exact Or.inl w
  · exact Or.inr ⟨w.1, rfl, rfl, rfl⟩
theorem LpB.doo (h : LpB X c s i j f S v b1) (q : SgQ X c j g f S (0 :: S) (v + 1)) (ho : (c (3 * g.toNat)).toInt = 14) (ha : (c (3 * g.toNat + 1)).toInt = i) (hs : s' = g + 1) (ht : (S.length : Int) + 1 ≤ X.tall f) : LpE X c s s' f S v b1 := by
  subst hs
  have a0 := h.1
  obtain ⟨q0, K1, a1, a2⟩ := q.ne
  have r : ClW X c g.toNat (g.toNat + 1) f (Ex9 g.toNat f (0 :: S) (v + 1)) (kor (Ex9 (g + 1).toNat f S v) (Ex9 i.toNat f S v)) w0 := clw_r (lc_if (a := i.toNat) (u' := v) (u2 := v) ht (Or.inr ho) (by omega) (Or.inr ⟨rfl, rfl, rfl, rfl⟩) (by omega) (Or.inl ⟨by omega, rfl, rfl, rfl⟩) (by omega))
  have y := a1.un (F := kor (Ex9 (g + 1).toNat f S v) (Ex9 i.toNat f S v)) r (by omega) (by omega) (fun p g R u q => Or.inl q) (fun _ _ _ _ q => Or.inr q)
  exact h.fin (R := S) (n := g.toNat + 1) (y.mw (fun p T u => by rw [wor_0l])) (by omega) (by omega) (Or.inl a2)
end ST
/-! A ROW of statements: its nodes, the places of its cases -/
def VsR (na : Nat → Nat → Int32) : Int32 → List Int32 → Int32 → Prop
  | k0, [], k => k0 = k
  | k0, x :: r, k => k0 = x ∧ 0 ≤ x.toInt ∧ VsR na (na 21 x.toNatClampNeg) r k
def k29 (na : Nat → Nat → Int32) (x : Int32) : Int := if (na 14 x.toNatClampNeg).toInt = 29 then 1 else 0
def cn29 (na : Nat → Nat → Int32) : List Int32 → Int
  | [] => 0
  | x :: r => k29 na x + cn29 na r
def LbN (na ma : Nat → Nat → Int32) (K : KP) (f : Int) (S : List Nat) (v : Nat) (s' : Int) (x : Int32) : Prop := ((na 14 x.toNatClampNeg).toInt = 29 ∨ (na 14 x.toNatClampNeg).toInt = 30) → LbP K f S v s' (ma 19 x.toNatClampNeg).toInt
def StR (X : Cx) (c : Nat → Int32) (s s' f : Int) (S : List Nat) (v t : Nat) (b0 b1 c0 c1 : Int32) (na ma : Nat → Nat → Int32) (mid : Int) (k0 k : Int32) : Prop := ∃ r K, VsR na k0 r k ∧ (∀ x ∈ r, x.toInt < mid) ∧ StK X c s s' f S v t b0 b1 c0 c1 K ∧ ∀ x ∈ r, LbN na ma K f S v s' x
def StW (X : Cx) (c : Nat → Int32) (s s' f : Int) (S : List Nat) (v t : Nat) (b0 b1 c0 c1 : Int32) (na ma : Nat → Nat → Int32) (mid : Int) (k0 : Int32) : Prop := ∃ k : Int32, k.toInt < 0 ∧ StR X c s s' f S v t b0 b1 c0 c1 na ma mid k0 k
def FrL (lo hi : Int) (ma ma' : Nat → Nat → Int32) : Prop := ∀ x : Nat, ((x : Int) < lo ∨ hi ≤ (x : Int)) → ma' 19 x = ma 19 x
theorem FrL.rf {lo hi : Int} {ma : Nat → Nat → Int32} : FrL lo hi ma ma := fun _ _ => rfl
theorem FrL.tr {lo hi l h : Int} {ma m1 m2 : Nat → Nat → Int32} (q : FrL lo hi ma m1) (r : FrL l h m1 m2) (h1 : lo ≤ l) (h2 : h ≤ hi) : FrL lo hi ma m2 := fun x hx => (r x (by omega)).trans (q x hx)
section VS
variable {X : Cx} {ea ea' e0 e1 e2 e3 e4 : Nat → Nat → Int32} {c c' : Nat → Int32} {s m s' h g j f mid : Int} {S : List Nat} {v t : Nat} {b0 b1 b2 c0 c1 c2 to k0 k k' p op a b : Int32} {K K1 K2 : KP} {na ma ma' : Nat → Nat → Int32} {r r' : List Int32}
theorem VsR.snoc : ∀ {r : List Int32} {k0 k k' : Int32}, VsR na k0 r k → 0 ≤ k.toInt → k' = na 21 k.toNatClampNeg → VsR na k0 (r ++ [k]) k'
  | [], _, _, _, h, h0, e => ⟨h, h0, e.symm⟩
  | _ :: _, _, _, _, h, h0, e => ⟨h.1, h.2.1, VsR.snoc h.2.2 h0 e⟩
theorem VsR.mem : ∀ {r : List Int32} {k0 k x : Int32}, VsR na k0 r k → x ∈ r → 0 ≤ x.toInt
  | [], _, _, _, _, hx => absurd hx List.not_mem_nil
  | _ :: _, _, _, _, h, hx => by
    rcases List.mem_cons.mp hx with e | e
    · rw [e]; exact h.2.1
    · exact VsR.mem h.2.2 e
theorem VsR.det : ∀ {r r' : List Int32} {k0 k k' : Int32}, VsR na k0 r k → VsR na k0 r' k' → k.toInt < 0 → k'.toInt < 0 → r = r'
  | [], [], _, _, _, _, _, _, _ => rfl
  | [], x :: _, _, _, _, h, q, hk, _ => by
    replace h : _ = _ := h
    rw [h] at q; have := q.1; have := q.2.1; rw [← q.1] at this; omega
  | x :: _, [], _, _, _, h, q, _, hk => by
    replace q : _ = _ := q
    rw [q] at h; have := h.2.1; rw [← h.1] at this; omega
  | x :: r, y :: r', _, _, _, h, q, hk, hk' => by
    have e : x = y := h.1.symm.trans q.1
    subst e
    rw [VsR.det h.2.2 q.2.2 hk hk']
theorem cn29_nn {r : List Int32} : 0 ≤ cn29 na r := by
  induction r with
  | nil => exact Int.le_refl _
  | cons x r ih =>
    show 0 ≤ k29 na x + cn29 na r
    unfold k29; split <;> omega
theorem LbP.nx {x : Int} (h : LbP K1 f S v m x) (k : LbP K2 f S v s' m) : LbP (kor K1 K2) f S v s' x := h.or1 k
theorem str_0 (h : 0 ≤ s) (hs : s' = s) (eb : b1.toInt = b0.toInt) (ec : c1.toInt = c0.toInt) (ek : k = k0) : StR X c s s' f S v t b0 b1 c0 c1 na ma mid k0 k :=
  ⟨[], _, ek.symm, fun _ h => absurd h List.not_mem_nil, stk_0 h hs eb ec, fun _ h => absurd h List.not_mem_nil⟩
theorem StR.ap {mid' : Int} (h : StR X (ea 61) s m f S v t b0 b1 c0 c1 na ma mid k0 k) (cd : CdK ea ea' m) (q : StQ X (ea' 61) m s' f S v t b1 b2 c1 c2) (hk : 0 ≤ k.toInt) (hk2 : k.toInt < mid') (hm : mid ≤ mid') (fl : FrL mid mid' ma ma') (hl : (na 14 k.toNatClampNeg).toInt = 29 ∨ (na 14 k.toNatClampNeg).toInt = 30 → (ma' 19 k.toNatClampNeg).toInt = m) (e : k' = na 21 k.toNatClampNeg) : StR X (ea' 61) s s' f S v t b0 b2 c0 c2 na ma' mid' k0 k' := by
  obtain ⟨r, K, h1, h2, h3, h4⟩ := h
  obtain ⟨K2, q⟩ := q
  have q1 := q.2.1
  refine ⟨r ++ [k], kor K K2, h1.snoc hk e, fun x hx => ?_, (h3.fr (fun i i1 i2 => cd.2 i (by omega))).ap q, fun x hx => ?_⟩
  · rcases List.mem_append.mp hx with w | w
    · have := h2 x w; omega
    · rw [List.mem_singleton.mp w]; exact hk2
  · rcases List.mem_append.mp hx with w | w
    · intro hk9
      have x0 := h1.mem w
      have := h2 x w
      have := cl_nat x0
      rw [fl _ (by omega)]
      exact (h4 x w hk9).or1 q1
    · rw [List.mem_singleton.mp w]
      intro hk9
      rw [hl hk9]
      exact q1.or2
theorem StR.wm {mid' : Int} (h : StR X c s s' f S v t b0 b1 c0 c1 na ma mid k0 k) (hm : mid ≤ mid') : StR X c s s' f S v t b0 b1 c0 c1 na ma mid' k0 k := h.elim fun r q => q.elim fun K w => ⟨r, K, w.1, fun x hx => by have := w.2.1 x hx; omega, w.2.2⟩
theorem StR.q (h : StR X c s s' f S v t b0 b1 c0 c1 na ma mid k0 k) : StQ X c s s' f S v t b0 b1 c0 c1 := h.elim fun _ q => q.elim fun K r => ⟨K, r.2.2.1⟩
theorem StW.q (h : StW X c s s' f S v t b0 b1 c0 c1 na ma mid k0) : StQ X c s s' f S v t b0 b1 c0 c1 := h.elim fun _ q => q.2.q
/-! A SWITCH -/
def SwH (X : Cx) (c : Nat → Int32) (s h j f : Int) (S : List Nat) (v : Nat) : Prop := SgQ X c s h f S (0 :: S) v ∧ h ≤ j ∧ ∀ i : Nat, h ≤ (i : Int) → (i : Int) < j → (c (3 * i)).toInt = 23
theorem swh_0 (q : SgQ X c s h f S (0 :: S) v) (hj : j = h) : SwH X c s h j f S v := ⟨q, by omega, fun i i1 i2 => by omega⟩
theorem SwH.fr (q : SwH X c s h j f S v) (e : ∀ x : Nat, (x : Int) < 3 * j → (x : Int) < 3 * h ∨ (∃ i : Nat, x = 3 * i) → c' x = c x) : SwH X c' s h j f S v :=
  ⟨q.1.fr (fun i hi => e i (by have := q.2.1; omega) (Or.inl hi)), q.2.1, fun i i1 i2 => by rw [e _ (by omega) (Or.inr ⟨i, rfl⟩)]; exact q.2.2 i i1 i2⟩
theorem SwH.em {j' : Int} (q : SwH X (ea 61) s h j f S v) (u : EmU ea ea' p op a b) (hp : p.toInt = j) (ho : op.toInt = 23) (hj : j' = j + 1) : SwH X (ea' 61) s h j' f S v := by
  have h0 := q.1.1
  have h2 := q.1.2.2
  have q' := q.fr (c' := ea' 61) (fun x hx _ => u.2.1 x (by omega))
  have := q.2.1
  have r := u.rw (n := j.toNat) (by omega)
  refine ⟨q'.1, by omega, fun i i1 i2 => ?_⟩
  by_cases e : (i : Int) < j
  · exact q'.2.2 i i1 e
  · rw [show i = j.toNat by omega, r.1]; exact ho
def SwI (X : Cx) (c : Nat → Int32) (s h g j s' f : Int) (S : List Nat) (v t : Nat) (b1 c0 c1 : Int32) (na ma : Nat → Nat → Int32) (k : Int32) : Prop := (SwH X c s h g f S v ∧ h ≤ j) ∧ (c (3 * g.toNat)).toInt = 17 ∧ (c (3 * (g.toNat + 1))).toInt = 12 ∧ ∃ r ke K, ∃ b0 : Int32, (VsR na k r ke ∧ ke.toInt < 0 ∧ b0.toInt < 0 ∧ j + cn29 na r = g) ∧ StK X c (g + 2) s' f S v t b0 b1 c0 c1 K ∧ (∀ x ∈ r, LbN na ma K f S v s' x) ∧ (∀ i : Nat, h ≤ (i : Int) → (i : Int) < j → LbP K f S v s' (c (3 * i + 1)).toInt) ∧ LbP K f S v s' (c (3 * (g.toNat + 1) + 1)).toInt
theorem swi_0 {ke p1 p2 p3 o1 o2 a1 a2 d1 d2 : Int32} {m1 : Int} (q : SwH X (e0 61) s h g f S v) (u1 : EmU e0 e1 p1 o1 a1 d1) (u2 : EmU e1 e2 p2 o2 a2 d2) (cd : CdK e2 e3 m1) (w : StW X (e3 61) m1 s' f S v t b0 b1 c0 c1 na ma mid k) (la : LaU e3 e4 p3 to) (hr : VsR na k r ke) (hke : ke.toInt < 0) (hn : h + cn29 na r = g) (hb : b0.toInt < 0) (x1 : p1.toInt = g) (x2 : p2.toInt = g + 1) (x3 : p3.toInt = g + 1) (xm : m1 = g + 2) (y1 : o1.toInt = 17) (y2 : o2.toInt = 12) (xt : to.toInt = s') : SwI X (e4 61) s h g h s' f S v t b1 c0 c1 na ma k := by
  subst xm
  obtain ⟨ke', hke', r', K, w1, w2, w3, w4⟩ := w
  have er := hr.det w1 hke hke'
  subst er
  have g0 := q.1.1
  have g1 := q.1.2.2
  have g2 := q.2.1
  have r1 := u1.rw (n := g.toNat) (by omega)
  have r2 := u2.rw (n := g.toNat + 1) (by omega)
  have r4 := la.rw (n := g.toNat + 1) (by omega)
  have w0 := w3.1
  refine ⟨⟨q.fr (fun x x1 _ => ?_), Int.le_refl _⟩, ?_, ?_, r, ke, K, b0, ⟨hr, hke, hb, hn⟩, w3.fr (fun i i1 i2 => r4.2 i (by omega)), w4, fun i i1 i2 => by omega, ?_⟩
  · rw [r4.2 x (by omega), cd.2 x (by omega), u2.2.1 x (by omega), u1.2.1 x (by omega)]
  · rw [r4.2 _ (by omega), cd.2 _ (by omega), u2.2.1 _ (by omega), r1.1]; exact y1
  · rw [r4.2 _ (by omega), cd.2 _ (by omega), r2.1]; exact y2
  · rw [r4.1, xt]
    exact ⟨by omega, Or.inr rfl⟩
theorem SwI.at (q : SwI X c s h g j s' f S v t b1 c0 c1 na ma k) (hk : (na 14 k.toNatClampNeg).toInt = 29) (h0 : 0 ≤ k.toInt) : j < g := by
  obtain ⟨-, -, -, r, ke, K, b0, ⟨q1, q2, q3, q4⟩, -⟩ := q
  cases r with
  | nil => have q1 : k = ke := q1; rw [q1] at h0; omega
  | cons x r =>
    have e := q1.1
    subst e
    have := cn29_nn (na := na) (r := r)
    have : j + (k29 na k + cn29 na r) = g := q4
    unfold k29 at this
    rw [if_pos hk] at this; omega
theorem SwI.rng (q : SwI X c s h g j s' f S v t b1 c0 c1 na ma k) : 0 ≤ h ∧ h ≤ j ∧ j ≤ g ∧ g + 2 ≤ s' := by
  obtain ⟨⟨a1, a2⟩, -, -, r, ke, K, b0, ⟨q1, q2, q3, q4⟩, w, -⟩ := q
  have := cn29_nn (na := na) (r := r)
  exact ⟨a1.1.2.2, a2, by omega, w.1.2⟩
theorem SwI.inv (q : SwI X c s h g j s' f S v t b1 c0 c1 na ma k) (h0 : 0 ≤ k.toInt) : ∃ r ke K, ∃ b0 : Int32, (VsR na (na 21 k.toNatClampNeg) r ke ∧ ke.toInt < 0 ∧ b0.toInt < 0 ∧ j + (k29 na k + cn29 na r) = g) ∧ StK X c (g + 2) s' f S v t b0 b1 c0 c1 K ∧ LbN na ma K f S v s' k ∧ (∀ x ∈ r, LbN na ma K f S v s' x) ∧ (∀ i : Nat, h ≤ (i : Int) → (i : Int) < j → LbP K f S v s' (c (3 * i + 1)).toInt) ∧ LbP K f S v s' (c (3 * (g.toNat + 1) + 1)).toInt := by
  obtain ⟨-, -, -, r, ke, K, b0, ⟨q1, q2, q3, q4⟩, w, w1, w2, w3⟩ := q
  cases r with
  | nil => have q1 : k = ke := q1; rw [q1] at h0; omega
  | cons x r =>
    have ex := q1.1
    subst ex
    exact ⟨r, ke, K, b0, ⟨q1.2.2, q2, q3, q4⟩, w, w1 k (List.mem_cons_self ..), fun y hy => w1 y (List.mem_cons_of_mem _ hy), w2, w3⟩
theorem SwI.sk (q : SwI X c s h g j s' f S v t b1 c0 c1 na ma k) (h0 : 0 ≤ k.toInt) (hk : (na 14 k.toNatClampNeg).toInt ≠ 29) (e : k' = na 21 k.toNatClampNeg) : SwI X c s h g j s' f S v t b1 c0 c1 na ma k' := by
  obtain ⟨r, ke, K, b0, ⟨q1, q2, q3, q4⟩, w, wk, w1, w2, w3⟩ := q.inv h0
  have : k29 na k = 0 := if_neg hk
  exact ⟨q.1, q.2.1, q.2.2.1, r, ke, K, b0, ⟨by rw [e]; exact q1, q2, q3, by omega⟩, w, w1, w2, w3⟩
theorem SwI.df (q : SwI X (ea 61) s h g j s' f S v t b1 c0 c1 na ma k) (h0 : 0 ≤ k.toInt) (hk : (na 14 k.toNatClampNeg).toInt = 30) (la : LaU ea ea' p to) (hp : p.toInt = g + 1) (ez : to = ma 19 k.toNatClampNeg) (e : k' = na 21 k.toNatClampNeg) : SwI X (ea' 61) s h g j s' f S v t b1 c0 c1 na ma k' := by
  have rg := q.rng
  obtain ⟨r, ke, K, b0, ⟨q1, q2, q3, q4⟩, w, wk, w1, w2, w3⟩ := q.inv h0
  obtain ⟨⟨a1, a2⟩, a3, a4, -⟩ := q
  have : k29 na k = 0 := if_neg (by omega)
  have r4 := la.rw (n := g.toNat + 1) (by omega)
  refine ⟨⟨a1.fr (fun x x1 x2 => r4.2 x (by omega)), a2⟩, by rw [r4.2 _ (by omega)]; exact a3, by rw [r4.2 _ (by omega)]; exact a4, r, ke, K, b0, ⟨by rw [e]; exact q1, q2, q3, by omega⟩, w.fr (fun i i1 i2 => r4.2 i (by omega)), w1, fun i i1 i2 => ?_, ?_⟩
  · rw [r4.2 _ (by omega)]; exact w2 i i1 i2
  · rw [r4.1, ez]; exact wk (Or.inr hk)
theorem SwI.cs {j' : Int} (q : SwI X (ea 61) s h g j s' f S v t b1 c0 c1 na ma k) (h0 : 0 ≤ k.toInt) (hk : (na 14 k.toNatClampNeg).toInt = 29) (la : LaU ea ea' p to) (hp : p.toInt = j) (hj : j' = j + 1) (ez : to = ma 19 k.toNatClampNeg) (e : k' = na 21 k.toNatClampNeg) : SwI X (ea' 61) s h g j' s' f S v t b1 c0 c1 na ma k' := by
  have rg := q.rng
  have jg := q.at hk h0
  obtain ⟨r, ke, K, b0, ⟨q1, q2, q3, q4⟩, w, wk, w1, w2, w3⟩ := q.inv h0
  obtain ⟨⟨a1, a2⟩, a3, a4, -⟩ := q
  have : k29 na k = 1 := if_pos hk
  have r4 := la.rw (n := j.toNat) (by omega)
  refine ⟨⟨a1.fr (fun x x1 x2 => r4.2 x (by rcases x2 with x2 | ⟨i, rfl⟩ <;> omega)), by omega⟩, by rw [r4.2 _ (by omega)]; exact a3, by rw [r4.2 _ (by omega)]; exact a4, r, ke, K, b0, ⟨by rw [e]; exact q1, q2, q3, by omega⟩, w.fr (fun i i1 i2 => r4.2 i (by omega)), w1, fun i i1 i2 => ?_, ?_⟩
  · by_cases hi : (i : Int) < j
    · rw [r4.2 _ (by omega)]; exact w2 i i1 hi
    · rw [show i = j.toNat by omega, r4.1, ez]; exact wk (Or.inl hk)
  · rw [r4.2 _ (by omega)]; exact w3
theorem SwI.tq {s1 h1 g1 j1 z1 : Int} {x1 y0 y1 : Int32} (q : SwI X c s h g j s' f S v t b1 c0 c1 na ma k) (e1 : s = s1) (e2 : h = h1) (e3 : g = g1) (e4 : j = j1) (e5 : s' = z1) (e6 : x1.toInt = b1.toInt) (e7 : y0.toInt = c0.toInt) (e8 : y1.toInt = c1.toInt) (e9 : k' = k) : SwI X c s1 h1 g1 j1 z1 f S v t x1 y0 y1 na ma k' := by
  have z6 := Int32.toInt_inj.mp e6; have z7 := Int32.toInt_inj.mp e7; have z8 := Int32.toInt_inj.mp e8
  subst e1; subst e2; subst e3; subst e4; subst e5; subst z6; subst z7; subst z8; subst e9; exact q
/-- whole, but that its breaks wait -/
def SwE (X : Cx) (c : Nat → Int32) (s s' f : Int) (S : List Nat) (v t : Nat) (b1 c0 c1 : Int32) : Prop := (0 ≤ s ∧ s < s') ∧ ∃ nb, ChN c b1 nb ∧ LsI s s' nb ∧ ∀ (c' : Nat → Int32) (to : Int32), LaA c c' nb to → to.toInt = s' → ∀ (t' : Nat) (b0 b1 : Int32), b1.toInt = b0.toInt → (t' < 4 → t < 4) → StQ X c' s s' f S v t' b0 b1 c0 c1
theorem SwI.fin (q : SwI X c s h g j s' f S v t b1 c0 c1 na ma k) (hk : k.toInt < 0) (ht : (S.length : Int) + 1 ≤ X.tall f) : SwE X c s s' f S v t b1 c0 c1 := by
  have rg := q.rng
  obtain ⟨⟨⟨a1, a1', a2⟩, a3⟩, a4, a5, r, ke, K, b0, ⟨q1, q2, q3, q4⟩, w, w1, w2, w3⟩ := q
  have ej : j = g := by
    cases r with
    | nil => have : j + 0 = g := q4; omega
    | cons x r => have := q1.2.1; rw [← q1.1] at this; omega
  subst ej
  obtain ⟨n0, K1, n1, n2⟩ := a1.ne
  obtain ⟨k0, k1, nb, nc, k2, k3⟩ := w
  have eg : (j + 2).toNat = j.toNat + 2 := by omega
  rw [eg] at k3
  have lab : ∀ (a : Int32), LbP K f S v s' a.toInt → j.toNat + 2 ≤ a.toNatClampNeg ∧ 0 ≤ a.toInt ∧ kor K (Ex9 s'.toNat f S v) a.toNatClampNeg f S v := fun a la => by
    have ca := cl_nat la.1
    have ea : a.toInt.toNat = a.toNatClampNeg := by omega
    rcases la.2 with z | z
    · rw [ea] at z
      have := (k3.2 _ _ _ _ z).1
      exact ⟨by omega, la.1, Or.inl z⟩
    · exact ⟨by omega, la.1, Or.inr ⟨by omega, rfl, rfl, rfl⟩⟩
  let Kh : KP := fun p g R u => g = f ∧ u = v ∧ ((h.toNat ≤ p ∧ p ≤ j.toNat ∧ R = 0 :: S) ∨ (p = j.toNat + 1 ∧ R = S))
  have hd : ClW X c h.toNat (j.toNat + 2) f Kh (kor K (Ex9 s'.toNat f S v)) w0 := by
    refine ⟨fun _ _ _ z => z.elim, fun p g R u z => ?_⟩
    obtain ⟨rfl, rfl, z⟩ := z
    rcases z with ⟨z1, z2, rfl⟩ | ⟨rfl, rfl⟩
    · refine ⟨by omega, rfl, Or.inl ⟨⟨by rw [List.length_cons]; omega, ?_⟩, fun _ _ z => z⟩⟩
      by_cases hp : p = j.toNat
      · subst hp
        exact Or.inl ⟨S, .pop S a4, Or.inl ⟨rfl, rfl, Or.inr ⟨rfl, rfl⟩⟩⟩
      · obtain ⟨l1, l2, l3⟩ := lab _ (w2 p (by omega) (by omega))
        exact Or.inr (Or.inr (Or.inr (Or.inl ⟨a2 p (by omega) (by omega), S, rfl, Or.inl ⟨rfl, rfl, Or.inl ⟨by omega, by omega, rfl⟩⟩, l2, u, Or.inr l3, Or.inr ⟨rfl, by omega⟩⟩)))
    · obtain ⟨l1, l2, l3⟩ := lab _ w3
      exact ⟨by omega, rfl, Or.inl ⟨⟨by omega, Or.inr (Or.inl ⟨a5, l2, u, Or.inr l3, Or.inr ⟨rfl, by omega⟩⟩)⟩, fun _ _ z => z⟩⟩
  have y1 := hd.un (F := Ex9 s'.toNat f S v) k3 (by omega) (by omega) (fun p g R u z => z) (fun _ _ _ _ z => Or.inr z)
  have y2 := n1.un (F := Ex9 s'.toNat f S v) y1 (by omega) (by omega) (fun p g R u z => by
    obtain ⟨rfl, rfl, rfl, rfl⟩ := z
    exact Or.inl (Or.inl ⟨rfl, rfl, Or.inl ⟨by omega, by omega, rfl⟩⟩)) (fun _ _ _ _ z => Or.inr z)
  have hn : ChN c b1 nb := by
    have := ChX.an (k1 := b0) (l1 := []) q3 k2.1.1
    rw [List.append_nil] at this; exact this
  refine ⟨by omega, nb, hn, k2.1.2.1.wid (by omega) (Int.le_refl _), fun c' to la hto t' b0' b1' eb ht' => ?_⟩
  have y3 := y2.la (t := s'.toNat) la (by omega) (fun p hp => ⟨S, v, Or.inr (Or.inr ⟨Or.inl hp, rfl, Nat.le_refl _⟩)⟩) (fun p T u hp z => by
    have rp := k2.1.2.1.rng hp
    rcases z with z | z
    · exact z.elim
    · rcases z with z | z
      · exact z.elim
      · obtain ⟨-, rfl, hu⟩ := z
        exact ⟨v, Or.inr ⟨rfl, rfl, rfl, rfl⟩, by omega⟩)
  refine ⟨_, by omega, ⟨n0.1, Or.inl (Or.inl n2)⟩, [], nc, ⟨⟨eb, lsi_n, fun _ => rfl⟩, ⟨k2.2.1.1.eq (fun p hp => (la _).2 (fun q hq e => k2.2.2 q hq ((show p = q by omega) ▸ hp))), k2.2.1.2.1.wid (by omega) (Int.le_refl _), fun z => k2.2.1.2.2 (ht' z)⟩, fun _ z => absurd z List.not_mem_nil⟩, y3.mw (fun p T u => ?_)⟩
  constructor
  · rintro ⟨z, zn⟩
    rcases z with z | z
    · exact z.elim
    · rcases z with z | z
      · exact z.elim
      · exact ⟨z.1.elim (fun w => absurd w zn) Or.inr, z.2⟩
  · rintro ⟨z, z2⟩
    rcases z with z | z
    · exact absurd z List.not_mem_nil
    · exact ⟨Or.inr (Or.inr ⟨Or.inr z, z2⟩), fun w => k2.2.2 p w z⟩
end VS
/-! WHAT IS TO BE MADE of statements: checked, weighed, measured; the checker's notes stand but for the places of cases -/
def Kc (na mb ma : Nat → Nat → Int32) : Prop := ∀ k x : Nat, (k ≠ 19 ∨ ((na 14 x).toInt ≠ 29 ∧ (na 14 x).toInt ≠ 30)) → ma k x = mb k x
/-- numbers and arrays alone -/
def V1 (V : Nat → Nat → Prop) : Nat → Nat → Prop := fun x t => V x t ∧ t ≤ 1
section KC
variable {ta na ma0 mb ma ma' ca : Nat → Nat → Int32} {c : Int} {G : Gm} {V : Nat → Nat → Prop} {d : Nat} {nd lo hi w b : Int} {t : Nat} {n z : Int32} {L : Int → Nat → Int}
theorem Kc.rf : Kc na mb mb := fun _ _ _ => rfl
theorem Kc.up {i v : Int32} (h : Kc na mb ma) (u : ma' = va_up ma 19 (upd (ma 19) i.toNatClampNeg v)) (hk : (na 14 i.toNatClampNeg).toInt = 29 ∨ (na 14 i.toNatClampNeg).toInt = 30) : Kc na mb ma' := fun k x q => by
  subst u
  by_cases e : k = 19
  · subst e
    have hx : x ≠ i.toNatClampNeg := fun e => by subst e; omega
    rw [va_up_s, pk_un hx]; exact h 19 x q
  · rw [va_up_n e]; exact h k x q
theorem Kc.f {k x : Nat} (h : Kc na mb ma) (q : k ≠ 19) : ma k x = mb k x := h k x (Or.inl q)
theorem Kc.g {x : Nat} (h : Kc na mb ma) (q : (na 14 x).toInt ≠ 29 ∧ (na 14 x).toInt ≠ 30) : ma 19 x = mb 19 x := h 19 x (Or.inr q)
theorem FrL.up {i v : Int32} {l h : Int} (u : ma' = va_up ma 19 (upd (ma 19) i.toNatClampNeg v)) (h0 : 0 ≤ i.toInt) (h1 : l ≤ i.toInt) (h2 : i.toInt < h) : FrL l h ma ma' := fun x hx => by
  have := cl_nat h0
  subst u
  rw [va_up_s, pk_un (by omega)]
theorem Ann.kc (h : Ann na ma0 mb) (k : Kc na mb ma) : Ann na ma0 ma := fun x => ⟨fun a1 a2 a3 a4 a5 a6 => (k 18 x (Or.inl (by decide))).trans ((h x).1 a1 a2 a3 a4 a5 a6), fun a1 a2 a3 => (k 19 x (Or.inr ⟨a2, a3⟩)).trans ((h x).2.1 a1 a2 a3), fun a1 a2 => (k 20 x (Or.inl (by decide))).trans ((h x).2.2.1 a1 a2), fun a => (k 22 x (Or.inl (by decide))).trans ((h x).2.2.2 a)⟩
theorem AgR.v1 {l : Nat → Int} : ∀ {m k : Nat} {e : Int32}, AgR na V l m k e → AgR na (V1 V) l m k e
  | 0, _, _, g => g
  | m + 1, _, _, g => g.imp id (fun q => ⟨q.1, q.2.1, ⟨q.2.2.1, by split <;> omega⟩, AgR.v1 q.2.2.2⟩)
theorem PcT.kc {p : Int32} (h : PcT na mb V p) (k : Kc na mb ma) : PcT na ma (V1 V) p := ⟨⟨h.1, by decide⟩, h.2.imp id (fun q => ⟨q.1, by rw [k.f (by decide)]; exact q.2⟩)⟩
theorem RwA.v1 : ∀ {m : Nat} {e : Int32}, RwA na (fun y => V y 0) m e → RwA na (fun y => V1 V y 0) m e
  | 0, _, g => g
  | _ + 1, _, g => g.imp id (fun q => ⟨⟨q.1, by decide⟩, RwA.v1 q.2⟩)
theorem LcE.kc {x : Nat} (h : LcE G na mb V x t) (k : Kc na mb ma) : LcE G na ma (V1 V) x t := by
  have e18 : ma 18 x = mb 18 x := k.f (by decide)
  unfold LcE at h ⊢
  rw [e18]
  rcases h with h | ⟨h0, h⟩
  · exact Or.inl h
  · refine Or.inr ⟨h0, ?_⟩
    rcases h with h | h | ⟨h, h1, m, h2⟩ | ⟨h, h1, h2⟩ | ⟨h, h1, h2⟩ | ⟨h, h1, h2⟩ | ⟨h, h1⟩ | ⟨h, m, h1⟩ | ⟨h, h1, h2, h3⟩ | ⟨h, h1, h2⟩
    · exact Or.inl h
    · exact Or.inr (Or.inl h)
    · exact Or.inr (Or.inr (Or.inl ⟨h, h1, m, h2.v1⟩))
    · exact Or.inr (Or.inr (Or.inr (Or.inl ⟨h, h1, h2, by decide⟩)))
    · exact Or.inr (Or.inr (Or.inr (Or.inr (Or.inl ⟨h, h1, h2.kc k⟩))))
    · exact Or.inr (Or.inr (Or.inr (Or.inr (Or.inr (Or.inl ⟨h, h1, h2, by decide⟩)))))
    · exact Or.inr (Or.inr (Or.inr (Or.inr (Or.inr (Or.inr (Or.inl ⟨h, h1.kc k⟩))))))
    · exact Or.inr (Or.inr (Or.inr (Or.inr (Or.inr (Or.inr (Or.inr (Or.inl ⟨h, m, h1.v1⟩)))))))
    · have e19 : ma 19 x = mb 19 x := k.g (by omega)
      rw [e19]
      exact Or.inr (Or.inr (Or.inr (Or.inr (Or.inr (Or.inr (Or.inr (Or.inr (Or.inl ⟨h, ⟨h1, by decide⟩, ⟨h2, by decide⟩, h3, by decide⟩))))))))
    · exact Or.inr (Or.inr (Or.inr (Or.inr (Or.inr (Or.inr (Or.inr (Or.inr (Or.inr ⟨h, h1.kc k, h2, by decide⟩))))))))
theorem Ts.kc (s : Ts G na mb lo hi V) (k : Kc na mb ma) : Ts G na ma lo hi (V1 V) := fun x t h => by
  refine ⟨(s x t h.1).1, ?_⟩
  have ht : t ≤ 1 := h.2
  rcases (s x t h.1).2 with g | g | g
  · exact Or.inl (g.kc k)
  · have := g.1.1; omega
  · have := g.1; omega
theorem HgB.kc : ∀ {d : Nat} {n : Int32} {b : Int}, HgB na ma0 mb L d n b → Kc na mb ma → HgB na ma0 ma L d n b
  | 0, _, _, h, _ => h.elim
  | d + 1, n, b, h, k => by
    have e18 : ma 18 n.toNatClampNeg = mb 18 n.toNatClampNeg := k.f (by decide)
    obtain ⟨h0, h⟩ := h
    refine ⟨h0, ?_⟩
    rw [e18]
    rcases h with h | h | ⟨h, m, h1⟩ | ⟨h, h', h1⟩ | ⟨h, h1, m, h2⟩ | ⟨h, h1, h2, h3⟩ | ⟨h, h1, h2⟩ | ⟨h, h1, h2, h3⟩
    · exact Or.inl h
    · exact Or.inr (Or.inl h)
    · exact Or.inr (Or.inr (Or.inl ⟨h, m, h1.im (fun x c q => q.kc k)⟩))
    · exact Or.inr (Or.inr (Or.inr (Or.inl ⟨h, h', h1.kc k⟩)))
    · exact Or.inr (Or.inr (Or.inr (Or.inr (Or.inl ⟨h, h1.kc k, m, h2.mono (fun e q => q.kc k)⟩))))
    · exact Or.inr (Or.inr (Or.inr (Or.inr (Or.inr (Or.inl ⟨h, h1.kc k, h2.kc k, h3.kc k⟩)))))
    · exact Or.inr (Or.inr (Or.inr (Or.inr (Or.inr (Or.inr (Or.inl ⟨h, h1, h2.kc k⟩))))))
    · exact Or.inr (Or.inr (Or.inr (Or.inr (Or.inr (Or.inr (Or.inr ⟨h, h1, h2.kc k, h3.kc k⟩))))))
theorem MkB.kc (h : MkB ta c na ma0 mb ca V d nd w b n) (k : Kc na mb ma) : MkB ta c na ma0 ma ca (V1 V) d nd w b n := ⟨h.1, ⟨h.2.1, by decide⟩, h.2.2.kc k⟩
theorem mkb_er (h : ErV ta c na ma0 d lo hi w z) (hv : V z.toNatClampNeg 0) (hb : HgB na ma0 mb (tkl na ma0 ca) d z b) (h1 : 0 ≤ lo) (h2 : hi ≤ nd) : MkB ta c na ma0 mb ca V d nd w b z := ⟨h.ew.le (Nat.le_refl _) h1 h2 (Int.le_refl _), hv, hb⟩
theorem HgO.get (h : HgO na ma0 mb L d z b) (h0 : 0 ≤ z.toInt) : HgB na ma0 mb L d z b := h.elim (fun q => absurd q (by omega)) id
/-! what a measured statement tells -/
theorem HsB.k20 (h : HsB na ma0 mb L (d + 1) n b) (k : (na 14 n.toNatClampNeg).toInt = 20) : HsW na ma0 mb L d (na 17 n.toNatClampNeg) b := by
  rcases h with h | ⟨h, h1⟩ | ⟨h, -⟩ | ⟨h, -⟩ | ⟨h, -⟩ | ⟨h, -⟩ | ⟨h, -⟩
  all_goals first | (exfalso; omega) | exact h1
theorem HsB.k22 (h : HsB na ma0 mb L (d + 1) n b) (k : (na 14 n.toNatClampNeg).toInt = 22 ∨ (na 14 n.toNatClampNeg).toInt = 33) : HgO na ma0 mb L d (na 17 n.toNatClampNeg) b := by
  rcases h with h | ⟨h, -⟩ | ⟨h, h1⟩ | ⟨h, -⟩ | ⟨h, -⟩ | ⟨h, -⟩ | ⟨h, -⟩
  all_goals first | (exfalso; omega) | exact h1
theorem HsB.k23 (h : HsB na ma0 mb L (d + 1) n b) (k : (na 14 n.toNatClampNeg).toInt = 23) : ∃ m, RwI na (HvB na ma0 mb L d b) m (na 17 n.toNatClampNeg) := by
  rcases h with h | ⟨h, -⟩ | ⟨h, -⟩ | ⟨h, h1⟩ | ⟨h, -⟩ | ⟨h, -⟩ | ⟨h, -⟩
  all_goals first | (exfalso; omega) | exact h1
theorem HsB.k246 (h : HsB na ma0 mb L (d + 1) n b) (k : 24 ≤ (na 14 n.toNatClampNeg).toInt ∧ (na 14 n.toNatClampNeg).toInt ≤ 26) : HgO na ma0 mb L d (na 17 n.toNatClampNeg) b ∧ HsB na ma0 mb L d (ma0 18 n.toNatClampNeg) b ∧ ((ma0 19 n.toNatClampNeg).toInt < 0 ∨ HsB na ma0 mb L d (ma0 19 n.toNatClampNeg) b) := by
  rcases h with h | ⟨h, -⟩ | ⟨h, -⟩ | ⟨h, -⟩ | ⟨h, h1⟩ | ⟨h, -⟩ | ⟨h, -⟩
  all_goals first | (exfalso; omega) | exact h1
theorem HsB.k27 (h : HsB na ma0 mb L (d + 1) n b) (k : (na 14 n.toNatClampNeg).toInt = 27) : ((na 17 n.toNatClampNeg).toInt < 0 ∨ HsB na ma0 mb L d (na 17 n.toNatClampNeg) b) ∧ HgO na ma0 mb L d (ma0 18 n.toNatClampNeg) b ∧ HgO na ma0 mb L d (ma0 19 n.toNatClampNeg) b ∧ HsB na ma0 mb L d (ma0 20 n.toNatClampNeg) b := by
  rcases h with h | ⟨h, -⟩ | ⟨h, -⟩ | ⟨h, -⟩ | ⟨h, -⟩ | ⟨h, h1⟩ | ⟨h, -⟩
  all_goals first | (exfalso; omega) | exact h1
theorem HsB.k28 (h : HsB na ma0 mb L (d + 1) n b) (k : (na 14 n.toNatClampNeg).toInt = 28) : HgO na ma0 mb L d (na 17 n.toNatClampNeg) b ∧ HsW na ma0 mb L d (ma0 18 n.toNatClampNeg) b := by
  rcases h with h | ⟨h, -⟩ | ⟨h, -⟩ | ⟨h, -⟩ | ⟨h, -⟩ | ⟨h, -⟩ | ⟨h, h1⟩
  all_goals first | (exfalso; omega) | exact h1
theorem HsW.go (h : HsW na ma0 mb L d z b) (h0 : 0 ≤ z.toInt) : HsB na ma0 mb L d z b ∧ HsW na ma0 mb L d (na 21 z.toNatClampNeg) b := by
  obtain ⟨m, h⟩ := h
  cases m with
  | zero => exact absurd h (by show ¬ z.toInt < 0; omega)
  | succ m =>
    rcases h with h | ⟨h1, h2⟩
    · exact absurd h (by omega)
    · exact ⟨h1, m, h2⟩
theorem RwI.go {P : Int32 → Prop} (h : ∃ m, RwI na P m z) (h0 : 0 ≤ z.toInt) : P z ∧ ∃ m, RwI na P m (na 21 z.toNatClampNeg) := by
  obtain ⟨m, h⟩ := h
  cases m with
  | zero => exact absurd h (by show ¬ z.toInt < 0; omega)
  | succ m =>
    rcases h with h | ⟨h1, h2⟩
    · exact absurd h (by omega)
    · exact ⟨h1, m, h2⟩
theorem LcS.k31 {x : Nat} (h : LcS G na mb V x t) (k : (na 14 x).toInt = 31) : 3 ≤ t := by
  rcases h.2 with h | h | h | ⟨h, -⟩ | ⟨h, -⟩ | ⟨h, -⟩ | ⟨h, -⟩ | ⟨h, -⟩ | ⟨h, -⟩ | ⟨h, -⟩ | ⟨h, h1⟩ | ⟨h, -⟩ | ⟨h, -⟩
  all_goals first | exact absurd h (by omega) | exact h1
theorem LcS.k32 {x : Nat} (h : LcS G na mb V x t) (k : (na 14 x).toInt = 32) : t = 4 := by
  rcases h.2 with h | h | h | ⟨h, -⟩ | ⟨h, -⟩ | ⟨h, -⟩ | ⟨h, -⟩ | ⟨h, -⟩ | ⟨h, -⟩ | ⟨h, -⟩ | ⟨h, -⟩ | ⟨h, h1⟩ | ⟨h, -⟩
  all_goals first | exact absurd h (by omega) | exact h1
theorem Ts.v56 {x : Nat} (s : Ts G na mb lo hi V) (h : V x t) (ht : t = 5 ∨ t = 6) : LcV G na mb V x t := by
  rcases (s x t h).2 with g | g | g
  · rcases g with g | g
    · have := g.1; omega
    · have := g.1; omega
  · have := g.1; omega
  · exact g.2
end KC
/-! a statement, a row of them, a row of variables -/
def VsB (na : Nat → Nat → Int32) (k : Int32) (r : List Int32) (ke : Int32) (hi : Int) : Prop := VsR na k r ke ∧ ke.toInt < 0 ∧ ∀ x ∈ r, x.toInt < hi
def SkB (ta : Nat → Nat → Int32) (c : Int) (na ma0 mb ca : Nat → Nat → Int32) (V : Nat → Nat → Prop) (d : Nat) (nd lo hi w b : Int) (t : Nat) (n : Int32) : Prop := ScV ta c na ma0 d lo hi w n ∧ (V n.toNatClampNeg t ∧ 2 ≤ t ∧ t ≤ 4) ∧ HsB na ma0 mb (tkl na ma0 ca) d n b ∧ (0 ≤ lo ∧ hi ≤ nd)
def RkB (ta : Nat → Nat → Int32) (c : Int) (na ma0 mb ca : Nat → Nat → Int32) (V : Nat → Nat → Prop) (d : Nat) (nd lo hi w b : Int) (t : Nat) (k : Int32) : Prop := RvE na (fun l h v x => ScV ta c na ma0 d l h (v + k29 na x) x) lo hi w k ∧ RwV0 na V t k ∧ HsW na ma0 mb (tkl na ma0 ca) d k b ∧ (0 ≤ lo ∧ hi ≤ nd) ∧ 2 ≤ t ∧ t ≤ 4
def VrK (ta : Nat → Nat → Int32) (c : Int) (na ma0 mb ca : Nat → Nat → Int32) (V : Nat → Nat → Prop) (d : Nat) (nd lo hi w b : Int) (t : Nat) (n : Int32) : Prop := VcV ta c na ma0 d lo hi w n ∧ V n.toNatClampNeg t ∧ (t = 5 → HvB na ma0 mb (tkl na ma0 ca) d b n) ∧ (0 ≤ lo ∧ hi ≤ nd) ∧ (t = 5 ∨ t = 6)
def VkB (ta : Nat → Nat → Int32) (c : Int) (na ma0 mb ca : Nat → Nat → Int32) (V : Nat → Nat → Prop) (d : Nat) (nd lo hi w b : Int) (t : Nat) (k : Int32) : Prop := RvE na (fun l h v x => VcV ta c na ma0 d l h v x) lo hi w k ∧ RwV0 na V t k ∧ (t = 5 → ∃ m, RwI na (HvB na ma0 mb (tkl na ma0 ca) d b) m k) ∧ (0 ≤ lo ∧ hi ≤ nd) ∧ (t = 5 ∨ t = 6)
section SK
variable {ta : Nat → Nat → Int32} {c : Int} {na ma0 mb ma ca : Nat → Nat → Int32} {V : Nat → Nat → Prop} {d : Nat} {nd lo hi w b ns ys nf vl vh : Int} {t : Nat} {n z y x k : Int32}
theorem VsB.go {r : List Int32} {ke : Int32} (h : VsB na k r ke hi) (h0 : 0 ≤ k.toInt) : ∃ r', r = k :: r' ∧ k.toInt < hi ∧ VsB na (na 21 k.toNatClampNeg) r' ke hi ∧ cn29 na r = k29 na k + cn29 na r' ∧ (r.length : Int) = (r'.length : Int) + 1 := by
  obtain ⟨h1, h2, h3⟩ := h
  cases r with
  | nil => have h1 : k = ke := h1; rw [h1] at h0; omega
  | cons x r =>
    have e := h1.1
    subst e
    exact ⟨r, rfl, h3 k (List.mem_cons_self ..), ⟨h1.2.2, h2, fun x hx => h3 x (List.mem_cons_of_mem _ hx)⟩, rfl, by simp⟩
theorem VsB.nil {r : List Int32} {ke : Int32} (h : VsB na k r ke hi) (h0 : k.toInt < 0) : cn29 na r = 0 := by
  cases r with
  | nil => rfl
  | cons x r => have := h.1.2.1; rw [← h.1.1] at this; omega
theorem SkB.rng (h : SkB ta c na ma0 mb ca V d nd lo hi w b t n) : (lo ≤ n.toInt ∧ n.toInt < hi ∧ 0 ≤ n.toInt ∧ 0 ≤ w) ∧ (0 ≤ lo ∧ hi ≤ nd) ∧ (20 ≤ (na 14 n.toNatClampNeg).toInt ∧ (na 14 n.toNatClampNeg).toInt ≤ 33) ∧ 2 ≤ t ∧ t ≤ 4 := ⟨h.1.rng, h.2.2.2, h.1.kind.2.1, h.2.1.2⟩
theorem skb_0 (h : SkB ta c na ma0 mb ca V 0 nd lo hi w b t n) : False := h.2.2.1
theorem RkB.wp (h : RkB ta c na ma0 mb ca V d nd lo hi w b t k) : 0 ≤ w := h.1.wp
theorem RkB.mw {w' : Int} (h : RkB ta c na ma0 mb ca V d nd lo hi w b t k) (hw : w ≤ w') : RkB ta c na ma0 mb ca V d nd lo hi w' b t k := ⟨h.1.elim fun m q => ⟨m, q.mono hw⟩, h.2⟩
theorem RkB.go (h : RkB ta c na ma0 mb ca V d nd lo hi w b t k) (h0 : 0 ≤ k.toInt) : ∃ mid wa : Int, (lo ≤ mid ∧ mid ≤ hi ∧ lo ≤ k.toInt ∧ k.toInt < mid ∧ 0 ≤ wa ∧ wa ≤ w) ∧ SkB ta c na ma0 mb ca V d nd lo mid (wa + k29 na k) b t k ∧ RkB ta c na ma0 mb ca V d nd mid hi (w - wa) b t (na 21 k.toNatClampNeg) := by
  obtain ⟨h1, h2, h3, h4, h5⟩ := h
  obtain ⟨mid, wa, q1, q2, q3, q4, q5, q6⟩ := h1.step h0
  obtain ⟨v1, v2⟩ := h2.go h0 rfl
  obtain ⟨g1, g2⟩ := h3.go h0
  have := q6.wp
  exact ⟨mid, wa, by omega, ⟨q4, ⟨v1, h5⟩, g1, by omega⟩, q6, v2, g2, by omega, h5⟩
/-- a row of the checker: how many cases, and what is left without them -/
theorem rk_of : ∀ {m : Nat} {lo hi w : Int} {k : Int32}, Rv na (fun l h v x => ScV ta c na ma0 d l h v x) m lo hi w k → ∃ r ke, VsB na k r ke hi ∧ Rv na (fun l h v x => ScV ta c na ma0 d l h (v + k29 na x) x) m lo hi (w - cn29 na r) k
  | 0, _, _, _, k, h => ⟨[], k, ⟨rfl, h.1, fun _ q => absurd q List.not_mem_nil⟩, h.1, by show 0 ≤ _ - (0 : Int); have := h.2; omega⟩
  | m + 1, lo, hi, w, k, h => by
    rcases h with h | ⟨mid, wa, h1, h2, h3, h4, h5, h6⟩
    · exact ⟨[], k, ⟨rfl, h.1, fun _ q => absurd q List.not_mem_nil⟩, Or.inl ⟨h.1, by show 0 ≤ _ - (0 : Int); have := h.2; omega⟩⟩
    · obtain ⟨r, ke, ⟨q1, q2, q4⟩, q3⟩ := rk_of h6
      have hw : 0 ≤ wa - k29 na k := by
        by_cases e : (na 14 k.toNatClampNeg).toInt = 29
        · have := (h4.t29 e rfl).ec.2.2
          unfold k29; rw [if_pos e]; omega
        · unfold k29; rw [if_neg e]; omega
      refine ⟨k :: r, ke, ⟨⟨rfl, by have := h4.rng; omega, q1⟩, q2, fun x hx => ?_⟩, Or.inr ⟨mid, wa - k29 na k, h1, h2, hw, ?_, h5, ?_⟩⟩
      · rcases List.mem_cons.mp hx with e | e
        · rw [e]; omega
        · exact q4 x e
      · show ScV ta c na ma0 d lo mid (wa - k29 na k + k29 na k) k
        rw [show wa - k29 na k + k29 na k = wa by omega]; exact h4
      · show Rv na _ m mid hi (w - (k29 na k + cn29 na r) - (wa - k29 na k)) _
        rw [show w - (k29 na k + cn29 na r) - (wa - k29 na k) = w - wa - cn29 na r by omega]; exact q3
theorem VkB.go (h : VkB ta c na ma0 mb ca V d nd lo hi w b t k) (h0 : 0 ≤ k.toInt) : ∃ mid wa : Int, (lo ≤ mid ∧ mid ≤ hi ∧ lo ≤ k.toInt ∧ k.toInt < mid ∧ 6 ≤ wa ∧ wa ≤ w) ∧ VrK ta c na ma0 mb ca V d nd lo mid wa b t k ∧ VkB ta c na ma0 mb ca V d nd mid hi (w - wa) b t (na 21 k.toNatClampNeg) := by
  obtain ⟨h1, h2, h3, h4, h5⟩ := h
  obtain ⟨mid, wa, q1, q2, q3, q4, q5, q6⟩ := h1.step h0
  obtain ⟨v1, v2⟩ := h2.go h0 rfl
  have := q6.wp
  have := q4.rng
  exact ⟨mid, wa, by omega, ⟨q4, v1, fun e => (RwI.go (h3 e) h0).1, by omega, h5⟩, q6, v2, fun e => (RwI.go (h3 e) h0).2, by omega, h5⟩
theorem VkB.wp (h : VkB ta c na ma0 mb ca V d nd lo hi w b t k) : 0 ≤ w := h.1.wp
theorem SkB.f20 (s : Ts (Gk ta ca na ma0 ns ys nf) na mb vl vh V) (h : SkB ta c na ma0 mb ca V (d + 1) nd lo hi w b t n) (q : (na 14 n.toNatClampNeg).toInt = 20) (e : z = na 17 n.toNatClampNeg) : RkB ta c na ma0 mb ca V d nd (n.toInt + 1) hi w b t z := by
  have r := h.rng
  obtain ⟨m, g⟩ := h.1.s20 q e
  obtain ⟨r', ke, g1, g3⟩ := rk_of g
  have := cn29_nn (na := na) (r := r')
  refine ⟨⟨m, g3.mono (by omega)⟩, ?_, ?_, by omega, h.2.1.2⟩
  · rw [e]; exact (s.s h.2.1.1 h.2.1.2).k20 q
  · rw [e]; exact h.2.2.1.k20 q
theorem SkB.f22 (s : Ts (Gk ta ca na ma0 ns ys nf) na mb vl vh V) (h : SkB ta c na ma0 mb ca V (d + 1) nd lo hi w b t n) (q : (na 14 n.toNatClampNeg).toInt = 22) (e : z = na 17 n.toNatClampNeg) : MkB ta c na ma0 mb ca V d nd (w - 1) b z := by
  have r := h.rng
  have g := h.1.s22 q e
  have g0 := g.ec.1.rng
  refine mkb_er g ?_ (HgO.get (by rw [e]; exact h.2.2.1.k22 (Or.inl q)) (by omega)) (by omega) (by omega)
  rw [e]; exact (s.s h.2.1.1 h.2.1.2).k22 q
theorem SkB.f33 (s : Ts (Gk ta ca na ma0 ns ys nf) na mb vl vh V) (h : SkB ta c na ma0 mb ca V (d + 1) nd lo hi w b t n) (q : (na 14 n.toNatClampNeg).toInt = 33) (e : z = na 17 n.toNatClampNeg) : 2 ≤ w ∧ (0 ≤ z.toInt → MkB ta c na ma0 mb ca V d nd (w - 2) b z) := by
  have r := h.rng
  have g := h.1.s33 q e
  refine ⟨?_, fun h0 => ?_⟩
  · rcases g with g | g
    · omega
    · have := g.ec.2.2; omega
  · refine mkb_er (g.get h0) ?_ (HgO.get (by rw [e]; exact h.2.2.1.k22 (Or.inr q)) (by omega)) (by omega) (by omega)
    rw [e]; exact ((s.s h.2.1.1 h.2.1.2).k33 q).get (by rw [← e]; exact h0)
theorem SkB.f23 (s : Ts (Gk ta ca na ma0 ns ys nf) na mb vl vh V) (h : SkB ta c na ma0 mb ca V (d + 1) nd lo hi w b t n) (q : (na 14 n.toNatClampNeg).toInt = 23) (e : z = na 17 n.toNatClampNeg) : VkB ta c na ma0 mb ca V d nd (n.toInt + 1) hi w b 5 z := by
  have r := h.rng
  refine ⟨(h.1.s23 q e).2, ?_, fun _ => ?_, by omega, Or.inl rfl⟩
  · rw [e]; exact (s.s h.2.1.1 h.2.1.2).k23 q
  · rw [e]; exact h.2.2.1.k23 q
theorem SkB.f31 (s : Ts (Gk ta ca na ma0 ns ys nf) na mb vl vh V) (h : SkB ta c na ma0 mb ca V (d + 1) nd lo hi w b t n) (q : (na 14 n.toNatClampNeg).toInt = 31 ∨ (na 14 n.toNatClampNeg).toInt = 32) : 1 ≤ w ∧ ((na 14 n.toNatClampNeg).toInt = 31 → 3 ≤ t) ∧ ((na 14 n.toNatClampNeg).toInt = 32 → t = 4) := ⟨h.1.w1 q, fun e => (s.s h.2.1.1 h.2.1.2).k31 e, fun e => (s.s h.2.1.1 h.2.1.2).k32 e⟩
theorem SkB.f24 (s : Ts (Gk ta ca na ma0 ns ys nf) na mb vl vh V) (hab : Ann na ma0 mb) (h : SkB ta c na ma0 mb ca V (d + 1) nd lo hi w b t n) (q : (na 14 n.toNatClampNeg).toInt = 24) : ∃ m1 m2 wa wb we : Int, (n.toInt < m1 ∧ m1 ≤ m2 ∧ m2 ≤ hi) ∧ MkB ta c na ma0 mb ca V d nd wa b (na 17 n.toNatClampNeg) ∧ SkB ta c na ma0 mb ca V d nd m1 m2 wb b t (mb 18 n.toNatClampNeg) ∧ (0 ≤ (mb 19 n.toNatClampNeg).toInt → SkB ta c na ma0 mb ca V d nd m2 hi we b t (mb 19 n.toNatClampNeg)) ∧ (0 ≤ wa ∧ 0 ≤ wb ∧ 0 ≤ we ∧ wa + wb + we + 4 ≤ w) := by
  have r := h.rng
  have e18 : mb 18 n.toNatClampNeg = ma0 18 n.toNatClampNeg := (hab _).1 (by omega) (by omega) (by omega) (by omega) (by omega) (by omega)
  have e19 : mb 19 n.toNatClampNeg = ma0 19 n.toNatClampNeg := (hab _).2.1 (by omega) (by omega) (by omega)
  obtain ⟨m1, m2, wa, wb, we, g1, g2, g3, g4, g5, g6, g7, g8, g9, g10, g11⟩ := h.1.s24 (Or.inl q) rfl rfl rfl
  obtain ⟨v1, v2, v3⟩ := (s.s h.2.1.1 h.2.1.2).k24 q
  obtain ⟨u1, u2, u3⟩ := h.2.2.1.k246 (by omega)
  have r4 := g4.ec.1.rng
  refine ⟨m1, m2, wa, wb, we, by omega, mkb_er g4 v1 (u1.get (by omega)) (by omega) (by omega), ⟨by rw [e18]; exact g5, ⟨v2, h.2.1.2⟩, by rw [e18]; exact u2, by omega⟩, fun h0 => ?_, by omega⟩
  refine ⟨by rw [e19] at h0 ⊢; exact g6.get h0, ⟨v3.get h0, h.2.1.2⟩, ?_, by omega⟩
  rw [e19] at h0 ⊢
  exact u3.elim (fun e => by omega) id
/-- a loop of any sort -/
theorem SkB.fl (s : Ts (Gk ta ca na ma0 ns ys nf) na mb vl vh V) (hab : Ann na ma0 mb) (h : SkB ta c na ma0 mb ca V (d + 1) nd lo hi w b t n) (q : 25 ≤ (na 14 n.toNatClampNeg).toInt ∧ (na 14 n.toNatClampNeg).toInt ≤ 27) : ∃ l1 h1 l2 h2 w1 w2 w3 w4 : Int, (n.toInt < l1 ∧ h1 ≤ hi ∧ n.toInt < l2 ∧ h2 ≤ hi) ∧ (0 ≤ w1 ∧ 0 ≤ w2 ∧ 0 ≤ w3 ∧ 0 ≤ w4 ∧ w1 + w2 + w3 + w4 + 4 ≤ w) ∧
    ((na 14 n.toNatClampNeg).toInt = 27 → 0 ≤ (na 17 n.toNatClampNeg).toInt → SkB ta c na ma0 mb ca V d nd l1 h1 w1 b t (na 17 n.toNatClampNeg) ∧ ((na 14 (na 17 n.toNatClampNeg).toNatClampNeg).toInt = 22 ∨ (na 14 (na 17 n.toNatClampNeg).toNatClampNeg).toInt = 23)) ∧
    ((na 14 n.toNatClampNeg).toInt = 27 → 0 ≤ (mb 18 n.toNatClampNeg).toInt → MkB ta c na ma0 mb ca V d nd w2 b (mb 18 n.toNatClampNeg)) ∧
    ((na 14 n.toNatClampNeg).toInt ≠ 27 → MkB ta c na ma0 mb ca V d nd w2 b (na 17 n.toNatClampNeg)) ∧
    ((na 14 n.toNatClampNeg).toInt = 27 → 0 ≤ (mb 19 n.toNatClampNeg).toInt → MkB ta c na ma0 mb ca V d nd w3 b (mb 19 n.toNatClampNeg)) ∧
    ((na 14 n.toNatClampNeg).toInt = 27 → SkB ta c na ma0 mb ca V d nd l2 h2 w4 b 4 (mb 20 n.toNatClampNeg)) ∧
    ((na 14 n.toNatClampNeg).toInt ≠ 27 → SkB ta c na ma0 mb ca V d nd l2 h2 w4 b 4 (mb 18 n.toNatClampNeg)) := by
  have r := h.rng
  have e18 : mb 18 n.toNatClampNeg = ma0 18 n.toNatClampNeg := (hab _).1 (by omega) (by omega) (by omega) (by omega) (by omega) (by omega)
  have e19 : mb 19 n.toNatClampNeg = ma0 19 n.toNatClampNeg := (hab _).2.1 (by omega) (by omega) (by omega)
  have lc := s.s h.2.1.1 h.2.1.2
  by_cases k7 : (na 14 n.toNatClampNeg).toInt = 27
  · obtain ⟨m1, m2, m3, wa, wb, wc, we, g1, g2, g3, g4, g5, g6, g7, g8, g9, g10, g11, g12, g13⟩ := h.1.s27 k7 rfl rfl rfl rfl
    obtain ⟨v1, v2, v3, v4⟩ := lc.k27 k7
    obtain ⟨u1, u2, u3, u4⟩ := h.2.2.1.k27 k7
    have r8 := g8.rng
    have e20 : mb 20 n.toNatClampNeg = ma0 20 n.toNatClampNeg := (hab _).2.2.1 (by omega) (by omega)
    refine ⟨n.toInt + 1, m1, m3, hi, wa, wb, wc, we, by omega, by omega, fun _ h0 => ⟨⟨g5.get h0, ⟨v1.get h0, h.2.1.2⟩, u1.elim (fun e => by omega) id, by omega⟩, h.1.s27k k7 rfl h0⟩, fun _ h0 => ?_, fun e => absurd k7 e, fun _ h0 => ?_, fun _ => ⟨by rw [e20]; exact g8, ⟨v4, by decide⟩, by rw [e20]; exact u4, by omega⟩, fun e => absurd k7 e⟩
    · have v2' := v2.get h0
      rw [e18] at h0 v2' ⊢
      exact mkb_er (g6.get h0) v2' (u2.get h0) (by omega) (by omega)
    · have v3' := v3.get h0
      rw [e19] at h0 v3' ⊢
      exact mkb_er (g7.get h0) v3' (u3.get h0) (by omega) (by omega)
  · obtain ⟨v1, v2⟩ := lc.k25 (by omega)
    obtain ⟨u1, u2, u3⟩ := h.2.2.1.k246 (by omega)
    obtain ⟨l1, h1, w1, l2, h2, w2, e0, e1, e2, e3⟩ : ∃ l1 h1 w1 l2 h2 w2 : Int, (n.toInt < l1 ∧ h1 ≤ hi ∧ n.toInt < l2 ∧ h2 ≤ hi) ∧ (0 ≤ w1 ∧ 0 ≤ w2 ∧ w1 + w2 + 4 ≤ w) ∧ ErV ta c na ma0 d l1 h1 w1 (na 17 n.toNatClampNeg) ∧ ScV ta c na ma0 d l2 h2 w2 (ma0 18 n.toNatClampNeg) := by
      by_cases k6 : (na 14 n.toNatClampNeg).toInt = 26
      · obtain ⟨m1, wa, wb, a1, a2, a3, a4, a5, a6, a7, a8⟩ := h.1.s26 k6 rfl rfl
        exact ⟨m1, hi, wa, n.toInt + 1, m1, wb, by omega, by omega, a4, a3⟩
      · obtain ⟨m1, m2, wa, wb, we, g1, g2, g3, g4, g5, g6, g7, g8, g9, g10, g11⟩ := h.1.s24 (by omega) rfl rfl rfl
        exact ⟨n.toInt + 1, m1, wa, m1, m2, wb, by omega, by omega, g4, g5⟩
    have r2 := e2.ec.1.rng
    exact ⟨n.toInt + 1, hi, l2, h2, 0, w1, 0, w2, by omega, by omega, fun e => absurd e k7, fun e => absurd e k7, fun _ => mkb_er e2 v1 (u1.get (by omega)) (by omega) (by omega), fun e => absurd e k7, fun e => absurd e k7, fun _ => ⟨by rw [e18]; exact e3, ⟨v2, by decide⟩, by rw [e18]; exact u2, by omega⟩⟩
theorem SkB.f28 (s : Ts (Gk ta ca na ma0 ns ys nf) na mb vl vh V) (hab : Ann na ma0 mb) (h : SkB ta c na ma0 mb ca V (d + 1) nd lo hi w b t n) (q : (na 14 n.toNatClampNeg).toInt = 28) : ∃ m1 wa wr : Int, ∃ r ke, (n.toInt < m1 ∧ m1 ≤ hi) ∧ MkB ta c na ma0 mb ca V d nd wa b (na 17 n.toNatClampNeg) ∧ RkB ta c na ma0 mb ca V d nd m1 hi wr b (if t = 4 then 4 else 3) (mb 18 n.toNatClampNeg) ∧ VsB na (mb 18 n.toNatClampNeg) r ke hi ∧ (0 ≤ wa ∧ 0 ≤ wr ∧ 0 ≤ cn29 na r ∧ wa + wr + cn29 na r + 2 ≤ w) := by
  have r := h.rng
  have e18 : mb 18 n.toNatClampNeg = ma0 18 n.toNatClampNeg := (hab _).1 (by omega) (by omega) (by omega) (by omega) (by omega) (by omega)
  obtain ⟨m1, wa, wr, g1, g2, g3, ⟨m, g4⟩, g5, g6⟩ := h.1.s28 q rfl rfl
  obtain ⟨v1, v2⟩ := (s.s h.2.1.1 h.2.1.2).k28 q
  obtain ⟨u1, u2⟩ := h.2.2.1.k28 q
  have r3 := g3.ec.1.rng
  obtain ⟨r', ke, a1, a3⟩ := rk_of g4
  have := cn29_nn (na := na) (r := r')
  have := a3.wp
  refine ⟨m1, wa, wr - cn29 na r', r', ke, by omega, mkb_er g3 v1 (u1.get (by omega)) (by omega) (by omega), ⟨⟨m, by rw [e18]; exact a3⟩, v2, by rw [e18]; exact u2, by omega, by split <;> omega, by split <;> omega⟩, by rw [e18]; exact a1, by omega⟩
/-- a variable: it begins with a number -/
theorem VrK.k22 (s : Ts (Gk ta ca na ma0 ns ys nf) na mb vl vh V) (hab : Ann na ma0 mb) (h : VrK ta c na ma0 mb ca V d nd lo hi w b t n) : mb 22 n.toNatClampNeg = ma0 22 n.toNatClampNeg := (hab _).2.2.2 (by have := h.1.kind; omega)
theorem VrK.f1 (s : Ts (Gk ta ca na ma0 ns ys nf) na mb vl vh V) (hab : Ann na ma0 mb) (h : VrK ta c na ma0 mb ca V d nd lo hi w b t n) (q : (mb 22 n.toNatClampNeg).toInt = 1) : SyV ca ns ys (mb 20 n.toNatClampNeg) ∧ (0 ≤ (mb 18 n.toNatClampNeg).toInt ∧ (mb 18 n.toNatClampNeg).toInt < nd) ∧ (t = 5 → MkB ta c na ma0 mb ca V d nd (w - 6) b (mb 18 n.toNatClampNeg)) ∧ 6 ≤ w := by
  have rg := h.1.rng
  have kd := h.1.kind
  have e22 := VrK.k22 s hab h
  have e18 : mb 18 n.toNatClampNeg = ma0 18 n.toNatClampNeg := (hab _).1 (by omega) (by omega) (by omega) (by omega) (by omega) (by omega)
  have q0 : (ma0 22 n.toNatClampNeg).toInt = 1 := by rw [← e22]; exact q
  have ng := h.1.neg q0
  have er := h.1.v11 ng q0 rfl
  have r2 := er.ec.1.rng
  have hb := h.2.2.2.1
  have lv := s.v56 h.2.1 h.2.2.2.2
  refine ⟨?_, by rw [e18]; omega, fun e5 => ?_, rg.2.2.2⟩
  · rcases lv with ⟨-, l1, -⟩ | ⟨l0, -⟩
    · exact l1
    · omega
  · subst e5
    have hv := lv.i1 ng q
    rw [e18] at hv ⊢
    exact mkb_er er hv ((h.2.2.1 rfl q0).elim (fun e => by omega) id) (by omega) (by omega)
theorem VrK.f0 (s : Ts (Gk ta ca na ma0 ns ys nf) na mb vl vh V) (hab : Ann na ma0 mb) (h : VrK ta c na ma0 mb ca V d nd lo hi w b t n) : (SyV ca ns ys (mb 20 n.toNatClampNeg) ∨ (SyA ca ns ys (mb 20 n.toNatClampNeg) ∧ (ca 49 (mb 20 n.toNatClampNeg).toNatClampNeg).toInt ≤ 3)) ∧ 6 ≤ w := by
  refine ⟨?_, h.1.rng.2.2.2⟩
  rcases s.v56 h.2.1 h.2.2.2.2 with ⟨-, l1, -⟩ | ⟨-, l1, l2, -⟩
  · exact Or.inl l1
  · exact Or.inr ⟨l1, l2⟩
/-- the numbers that an array begins with: of k the i-th -/
def FlR (ta : Nat → Nat → Int32) (c : Int) (na ma0 ca : Nat → Nat → Int32) (d : Nat) (nd lo hi w i : Int) (y k : Int32) : Prop := RvE na (fun l h v x => ErV ta c na ma0 d l h (v - 3) x) lo hi w k ∧ (∃ m : Nat, RwL na m k ∧ i + (m : Int) ≤ (ca 52 y.toNatClampNeg).toInt) ∧ (0 ≤ lo ∧ hi ≤ nd)
theorem VrK.f2 (s : Ts (Gk ta ca na ma0 ns ys nf) na mb vl vh V) (hab : Ann na ma0 mb) (h : VrK ta c na ma0 mb ca V d nd lo hi w b t n) (q : (mb 22 n.toNatClampNeg).toInt = 2) : (SyA ca ns ys (mb 20 n.toNatClampNeg) ∧ (ca 49 (mb 20 n.toNatClampNeg).toNatClampNeg).toInt ≤ 3) ∧ ∃ m1 wr : Int, (n.toInt < m1 ∧ m1 ≤ hi) ∧ FlR ta c na ma0 ca d nd m1 hi wr 0 (mb 20 n.toNatClampNeg) (mb 18 n.toNatClampNeg) ∧ wr + 6 ≤ w := by
  have rg := h.1.rng
  have kd := h.1.kind
  have e22 := VrK.k22 s hab h
  have e18 : mb 18 n.toNatClampNeg = ma0 18 n.toNatClampNeg := (hab _).1 (by omega) (by omega) (by omega) (by omega) (by omega) (by omega)
  have q0 : (ma0 22 n.toNatClampNeg).toInt = 2 := by rw [← e22]; exact q
  have hb := h.2.2.2.1
  rcases s.v56 h.2.1 h.2.2.2.2 with ⟨l0, -⟩ | ⟨l0, l1, l2, l3⟩
  · have := h.1.v10 l0; omega
  · obtain ⟨m1, wa, a1, a2, a3, a4, a5⟩ := h.1.v3 l0 rfl
    obtain ⟨⟨wr, b1, b2⟩, b3⟩ := a5.k2 q0
    rcases l3 with l3 | ⟨l3, m, l4, l5⟩ | ⟨l3, -⟩
    · omega
    · exact ⟨⟨l1, l2⟩, m1, wr, ⟨a1, a2⟩, ⟨by rw [e18]; exact b1, ⟨m, l4, by show 0 + (m : Int) ≤ _; have : (m : Int) ≤ (ca 52 (mb 20 n.toNatClampNeg).toNatClampNeg).toInt := l5; omega⟩, by omega⟩, by omega⟩
    · omega
theorem FlR.go {i i' : Int} (h : FlR ta c na ma0 ca d nd lo hi w i y k) (h0 : 0 ≤ k.toInt) (hi' : i' = i + 1) : ∃ mid wa : Int, (lo ≤ mid ∧ mid ≤ hi ∧ lo ≤ k.toInt ∧ k.toInt < mid ∧ 3 ≤ wa ∧ wa ≤ w ∧ k.toInt < nd) ∧ i + 1 ≤ (ca 52 y.toNatClampNeg).toInt ∧ FlR ta c na ma0 ca d nd mid hi (w - wa) i' y (na 21 k.toNatClampNeg) := by
  obtain ⟨h1, ⟨m, h2, h3⟩, h4⟩ := h
  obtain ⟨mid, wa, q1, q2, q3, q4, q5, q6⟩ := h1.step h0
  have := q6.wp
  have := q4.ec.2.2
  cases m with
  | zero => exact absurd h2 (by show ¬ k.toInt < 0; omega)
  | succ m => exact ⟨mid, wa, by omega, by omega, q6, ⟨m, h2.2, by omega⟩, by omega⟩
theorem FlR.wp {i : Int} (h : FlR ta c na ma0 ca d nd lo hi w i y k) : 0 ≤ w := h.1.wp
theorem VrK.f3 (s : Ts (Gk ta ca na ma0 ns ys nf) na mb vl vh V) (hab : Ann na ma0 mb) (h : VrK ta c na ma0 mb ca V d nd lo hi w b t n) (q : (mb 22 n.toNatClampNeg).toInt = 3) : (SyA ca ns ys (mb 20 n.toNatClampNeg) ∧ (ca 49 (mb 20 n.toNatClampNeg).toNatClampNeg).toInt ≤ 3) ∧ (0 ≤ (mb 19 n.toNatClampNeg).toInt ∧ (mb 19 n.toNatClampNeg).toInt < c ∧ so ta (mb 19 n.toNatClampNeg) = 4) ∧ wh ta (mb 19 n.toNatClampNeg) + 1 ≤ (ca 52 (mb 20 n.toNatClampNeg).toNatClampNeg).toInt ∧ 3 * sz ta (mb 19 n.toNatClampNeg) + 6 ≤ w := by
  have rg := h.1.rng
  have kd := h.1.kind
  have e22 := VrK.k22 s hab h
  have e19 : mb 19 n.toNatClampNeg = ma0 19 n.toNatClampNeg := (hab _).2.1 (by omega) (by omega) (by omega)
  have q0 : (ma0 22 n.toNatClampNeg).toInt = 3 := by rw [← e22]; exact q
  rcases s.v56 h.2.1 h.2.2.2.2 with ⟨l0, -⟩ | ⟨l0, l1, l2, l3⟩
  · have := h.1.v10 l0; omega
  · obtain ⟨m1, wa, a1, a2, a3, a4, a5⟩ := h.1.v3 l0 rfl
    have b3 := a5.k3 q0
    rcases l3 with l3 | ⟨l3, -⟩ | ⟨-, l3⟩
    · omega
    · omega
    · refine ⟨⟨l1, l2⟩, by rw [e19]; exact b3, l3, ?_⟩
      rw [e19]
      rcases a5 with ⟨c1, -⟩ | ⟨c1, -⟩ | ⟨c1, c2, c3, c4, c5⟩
      · omega
      · omega
      · omega
end SK
/-! the same, out of what each call tells -/
def StX (na ma : Nat → Nat → Int32) (n : Int32) (s s' b0 b1 c0 c1 : Int) : Prop := ((na 14 n.toNatClampNeg).toInt = 29 → s' = s) ∧ ((na 14 n.toNatClampNeg).toInt = 29 ∨ (na 14 n.toNatClampNeg).toInt = 30 → (ma 19 n.toNatClampNeg).toInt = s) ∧ ((na 14 n.toNatClampNeg).toInt = 22 ∨ (na 14 n.toNatClampNeg).toInt = 23 → b1 = b0 ∧ c1 = c0)
theorem StX.le {na ma : Nat → Nat → Int32} {n : Int32} {s s' b0 b1 c0 c1 w : Int} (h : StX na ma n s s' b0 b1 c0 c1) (h1 : s' ≤ s + (w + k29 na n)) (h0 : 0 ≤ w) : s' ≤ s + w := by
  by_cases e : (na 14 n.toNatClampNeg).toInt = 29
  · have := h.1 e; omega
  · unfold k29 at h1; rw [if_neg e] at h1; omega
theorem k29_r {na : Nat → Nat → Int32} {n : Int32} : 0 ≤ k29 na n ∧ k29 na n ≤ 1 := by unfold k29; split <;> omega
section WR
variable {X : Cx} {ea ea' e0 e1 e2 e3 e4 e5 e6 : Nat → Nat → Int32} {c c' : Nat → Int32} {s m m' m1 m2 s' i i' j j' k g f : Int} {S : List Nat} {v t : Nat} {b0 b1 b2 c0 c1 c2 p p2 p4 p6 op op2 a a2 b d2 to to2 : Int32}
theorem StQ.cd (h : StQ X (ea 61) s s' f S v t b0 b1 c0 c1) (cd : CdK ea ea' m) (hm : s' ≤ m) : StQ X (ea' 61) s s' f S v t b0 b1 c0 c1 := h.elim fun K q => ⟨K, q.fr (fun i i1 i2 => cd.2 i (by omega))⟩
theorem StQ.fr (h : StQ X c s s' f S v t b0 b1 c0 c1) (e : ∀ i : Nat, 3 * s ≤ (i : Int) → (i : Int) < 3 * s' → c' i = c i) : StQ X c' s s' f S v t b0 b1 c0 c1 := h.elim fun K q => ⟨K, q.fr e⟩
theorem StQ.rg (h : StQ X c s s' f S v t b0 b1 c0 c1) : 0 ≤ s ∧ s ≤ s' := h.elim fun K q => q.1
theorem StQ.tq {s1 s2 : Int} {x0 x1 y0 y1 : Int32} (h : StQ X c s s' f S v t b0 b1 c0 c1) (e1 : s = s1) (e2 : s' = s2) (f0 : x0.toInt = b0.toInt) (f1 : x1.toInt = b1.toInt) (g0 : y0.toInt = c0.toInt) (g1 : y1.toInt = c1.toInt) : StQ X c s1 s2 f S v t x0 x1 y0 y1 := by
  have h0 := Int32.toInt_inj.mp f0; have h1 := Int32.toInt_inj.mp f1; have h2 := Int32.toInt_inj.mp g0; have h3 := Int32.toInt_inj.mp g1
  subst e1; subst e2; subst h0; subst h1; subst h2; subst h3; exact h
theorem stw_br (u : EmU ea ea' p op a b) (h0 : 0 ≤ s) (hp : p.toInt = s) (hs : s' = s + 1) (ho : op.toInt = 12) (ha : a.toInt = b0.toInt) (hb : b1.toInt = s) (ec : c1.toInt = c0.toInt) (h3 : 3 ≤ t) (ht : (S.length : Int) ≤ X.tall f) : StQ X (ea' 61) s s' f S v t b0 b1 c0 c1 := by
  have r := u.rw (n := s.toNat) (by omega)
  exact stq_br h0 hs ht h3 (by rw [r.1]; exact ho) (by rw [r.2.1]; exact ha) hb ec
theorem stw_co (u : EmU ea ea' p op a b) (h0 : 0 ≤ s) (hp : p.toInt = s) (hs : s' = s + 1) (ho : op.toInt = 12) (ha : a.toInt = c0.toInt) (hb : c1.toInt = s) (eb : b1.toInt = b0.toInt) (h4 : 4 ≤ t) (ht : (S.length : Int) ≤ X.tall f) : StQ X (ea' 61) s s' f S v t b0 b1 c0 c1 := by
  have r := u.rw (n := s.toNat) (by omega)
  exact stq_co h0 hs ht h4 (by rw [r.1]; exact ho) (by rw [r.2.1]; exact ha) hb eb
theorem stw_ret (h1 : SgQ X (e1 61) s m f [] [0] v) (u : EmU e1 e2 p op a b) (hp : p.toInt = m) (hs : s' = m + 1) (ho : op.toInt = 18) (h0 : 0 ≤ f) (ht : 1 ≤ X.tall f) (eb : b1.toInt = b0.toInt) (ec : c1.toInt = c0.toInt) : StQ X (e2 61) s s' f [] v t b0 b1 c0 c1 := by
  have n := h1.ne.1
  have r := u.rw (n := m.toNat) (by omega)
  exact stq_ret (h1.cd u.cd (by omega)) (by rw [r.1]; exact ho) hs h0 ht eb ec
theorem stw_if (h1 : SgQ X (e1 61) s m f S (0 :: S) v) (u : EmU e1 e2 p op a b) (cd : CdK e2 e3 m1) (q : StQ X (e3 61) m1 s' f S v t b0 b1 c0 c1) (la : LaU e3 e4 p4 to) (hp : p.toInt = m) (hp4 : p4.toInt = m) (hm : m1 = m + 1) (ho : op.toInt = 13) (ht : to.toInt = s') (hl : (S.length : Int) + 1 ≤ X.tall f) : StQ X (e4 61) s s' f S v t b0 b1 c0 c1 := by
  subst hm
  have n := h1.ne.1
  have r := u.rw (n := m.toNat) (by omega)
  have r4 := la.rw (n := m.toNat) (by omega)
  refine stq_if (m := m) (h1.fr (fun i hi => ?_)) ?_ ?_ (q.fr (fun i i1 i2 => r4.2 i (by omega))) rfl hl
  · rw [r4.2 i (by omega), cd.2 i (by omega), u.2.1 i (by omega)]
  · rw [r4.2 _ (by omega), cd.2 _ (by omega), r.1]; exact ho
  · rw [r4.1]; exact ht
theorem stw_ie {x1 y1 : Int32} (h1 : SgQ X (e1 61) s m f S (0 :: S) v) (u : EmU e1 e2 p op a b) (cd : CdK e2 e3 m1) (q : StQ X (e3 61) m1 m2 f S v t b0 b1 c0 c1) (u2 : EmU e3 e4 p2 op2 a2 d2) (la : LaU e4 e5 p4 to) (cd2 : CdK e5 e6 m') (q2 : StQ X (e6 61) m' s' f S v t x1 b2 y1 c2) (la2 : LaU e6 ea p6 to2) (ex : b1.toInt = x1.toInt) (ey : c1.toInt = y1.toInt) (hp : p.toInt = m) (hp4 : p4.toInt = m) (hm : m1 = m + 1) (ho : op.toInt = 13) (hp2 : p2.toInt = m2) (hp6 : p6.toInt = m2) (hm' : m' = m2 + 1) (ho2 : op2.toInt = 12) (ht : to.toInt = m') (ht2 : to2.toInt = s') (hl : (S.length : Int) + 1 ≤ X.tall f) : StQ X (ea 61) s s' f S v t b0 b2 c0 c2 := by
  subst hm; subst hm'
  have q2 := q2.tq (x0 := b1) (y0 := c1) rfl rfl ex rfl ey rfl
  have n := h1.ne.1
  have n1 := q.rg
  have n2 := q2.rg
  have r := u.rw (n := m.toNat) (by omega)
  have r2 := u2.rw (n := m2.toNat) (by omega)
  have r4 := la.rw (n := m.toNat) (by omega)
  have r6 := la2.rw (n := m2.toNat) (by omega)
  refine stq_ie (m := m) (i := m2) (h1.fr (fun i hi => ?_)) ?_ ?_ (q.fr (fun i i1 i2 => ?_)) ?_ ?_ (q2.fr (fun i i1 i2 => r6.2 i (by omega))) rfl rfl hl
  · rw [r6.2 i (by omega), cd2.2 i (by omega), r4.2 i (by omega), u2.2.1 i (by omega), cd.2 i (by omega), u.2.1 i (by omega)]
  · rw [r6.2 _ (by omega), cd2.2 _ (by omega), r4.2 _ (by omega), u2.2.1 _ (by omega), cd.2 _ (by omega), r.1]; exact ho
  · rw [r6.2 _ (by omega), cd2.2 _ (by omega), r4.1]; exact ht
  · rw [r6.2 i (by omega), cd2.2 i (by omega), r4.2 i (by omega), u2.2.1 i (by omega)]
  · rw [r6.2 _ (by omega), cd2.2 _ (by omega), r4.2 _ (by omega), r2.1]; exact ho2
  · rw [r6.1]; exact ht2
theorem LpH.bq (h : LpH X c s i k f S v b1) (e : b2.toInt = b1.toInt) : LpH X c s i k f S v b2 := by have := Int32.toInt_inj.mp e; subst this; exact h
theorem LpH.cd (h : LpH X (ea 61) s i k f S v b1) (cd : CdK ea ea' m) (hm : k ≤ m) : LpH X (ea' 61) s i k f S v b1 := h.fr (fun x hx => cd.2 x (by omega))
theorem lpw_0 (h : 0 ≤ s) (hi : i = s) (hb : b1.toInt < 0) : LpH X c s i i f S v b1 := lph_0 (b0 := b1) (c0 := b1) (c1 := b1) (t := 2) ⟨_, stk_0 h hi rfl rfl⟩ hb hb
theorem lpw_ask (h : LpH X (e0 61) s i i f S v b0) (cd : CdK e0 e1 i') (q : SgQ X (e1 61) i' m f S (0 :: S) v) (u : EmU e1 e2 p op a b) (hi : i' = i) (hb : b0.toInt < 0) (hp : p.toInt = m) (ho : op.toInt = 13) (ha : a.toInt < 0) (hk : k = m + 1) (h1 : b1.toInt = m) (ht : (S.length : Int) + 1 ≤ X.tall f) : LpH X (e2 61) s i k f S v b1 := by
  subst hi
  have n := q.ne.1
  have r := u.rw (n := m.toNat) (by omega)
  exact ((h.cd cd (Int.le_refl _)).cd u.cd (by omega)).ask (q.cd u.cd (by omega)) hb (by rw [r.1]; exact ho) (by rw [r.2.1]; exact ha) hk h1 ht
theorem lpw_body (h : LpH X (e0 61) s i k f S v b0) (u : EmU e0 e1 p op a b) (cd : CdK e1 e2 m) (q : StQ X (e2 61) m j f S (v + 1) 4 b0 b1 c0 c1) (hp : p.toInt = k) (ho : op.toInt = 19) (hm : m = k + 1) (hc : c0.toInt < 0) (ht : (S.length : Int) ≤ X.tall f) : ∃ nc, ChN (e2 61) c1 nc ∧ LsI m j nc ∧ ∀ (c' : Nat → Int32) (to : Int32), LaA (e2 61) c' nc to → to.toInt = j → LpB X c' s i j f S v b1 := by
  subst hm
  have n := h.1
  have r := u.rw (n := k.toNat) (by omega)
  exact ((h.cd u.cd (by omega)).cd cd (by omega)).body (by rw [cd.2 _ (by omega), r.1]; exact ho) q rfl hc ht
theorem LpB.cd (h : LpB X (ea 61) s i j f S v b1) (cd : CdK ea ea' m) (hm : j ≤ m) : LpB X (ea' 61) s i j f S v b1 := h.fr (fun x hx => cd.2 x (by omega))
theorem lpw_go (h : LpB X (e0 61) s i j f S v b1) (cd : CdK e0 e1 j') (q : SgQ X (e1 61) j' g f S S (v + 1)) (u : EmU e1 e2 p op a b) (hj : j' = j) (hp : p.toInt = g) (ho : op.toInt = 12) (ha : a.toInt = i) (hs : s' = g + 1) (ht : (S.length : Int) ≤ X.tall f) : LpE X (e2 61) s s' f S v b1 := by
  subst hj
  have n := h.1
  have n2 := q.2.2
  have n3 := q.2.1.1
  have r := u.rw (n := g.toNat) (by omega)
  exact ((h.cd cd (Int.le_refl _)).cd u.cd (by omega)).go (q.cd u.cd (by omega)) (by rw [r.1]; exact ho) (by rw [r.2.1]; exact ha) hs ht
theorem lpw_do (h : LpB X (e0 61) s i j f S v b1) (cd : CdK e0 e1 j') (q : SgQ X (e1 61) j' g f S (0 :: S) (v + 1)) (u : EmU e1 e2 p op a b) (hj : j' = j) (hp : p.toInt = g) (ho : op.toInt = 14) (ha : a.toInt = i) (hs : s' = g + 1) (ht : (S.length : Int) + 1 ≤ X.tall f) : LpE X (e2 61) s s' f S v b1 := by
  subst hj
  have n := q.ne.1
  have n2 := h.1
  have r := u.rw (n := g.toNat) (by omega)
  exact ((h.cd cd (Int.le_refl _)).cd u.cd (by omega)).doo (q.cd u.cd (by omega)) (by rw [r.1]; exact ho) (by rw [r.2.1]; exact ha) hs ht
theorem CxI.clear {ca : Nat → Nat → Int32} {ns ys nf : Int} {L : Int → Nat → Int} {op : Int} (h : CxI X f ca ns ys nf L) (q : SyV ca ns ys a ∨ (SyA ca ns ys a ∧ (ca 49 a.toNatClampNeg).toInt ≤ 3)) (o : op = 20) : StC9 X f op a b S S := .clear S o (q.imp (fun r => h.v r) (fun r => ⟨h.ar r.1, by rw [h.1]; exact r.2⟩))
theorem CxI.fill {ca : Nat → Nat → Int32} {ns ys nf : Int} {L : Int → Nat → Int} {op : Int} (h : CxI X f ca ns ys nf L) (q : SyA ca ns ys a ∧ (ca 49 a.toNatClampNeg).toInt ≤ 3) (o : op = 21) (hb : 0 ≤ b.toInt ∧ b.toInt < (ca 52 a.toNatClampNeg).toInt) : StC9 X f op a b (0 :: S) S := .fill S o ⟨h.ar q.1, by rw [h.1]; exact q.2⟩ (by rw [h.1]; exact hb)
end WR
