theorem oz_28b8ae67bf {n0 : Nat}  : ¬ ((n0 : Int) < 0) := by omega
/-! THE WHOLE TEXT's code -/
/-- what a checked function is to the code -/
def FnY (ta ca na ma0 mb : Nat → Nat → Int32) (nf ns : Int) (d : Nat) (X : Cx) (f : Nat) : Prop := ∃ (V : Nat → Nat → Prop) (vl vh lo m1 tall : Int), Ts (Gk ta ca na ma0 (X.ye f) (X.ys f) nf) na mb vl vh V ∧ RwV0 na V 2 (na 17 (ma0 18 (ca 39 f).toNatClampNeg).toNatClampNeg) ∧ HsW na ma0 mb (tkl na ma0 ca) d (na 17 (ma0 18 (ca 39 f).toNatClampNeg).toNatClampNeg) tall ∧ X.tall f = tall + 1 ∧
  ((0 ≤ X.ys f ∧ X.ys f ≤ X.ye f ∧ X.ye f ≤ ns) ∧ SyR ca (X.ys f) (X.ye f) (ca 56 f).toInt 0 ∧ (0 ≤ tall ∧ 0 ≤ (ca 56 f).toInt ∧ (ca 56 f).toInt ≤ 4 * ((ca 40 f).toInt - 4 - tall)) ∧ ∃ k : Int32, k.toInt < 0 ∧ PrS ca (X.ye f) (X.ys f) na mb lo m1 (na 17 (ca 39 f).toNatClampNeg) k)
def TxX (ta ca na ma0 mb : Nat → Nat → Int32) (nf ns : Int) (d : Nat) (X : Cx) : Prop := (X.ca = ca ∧ X.nf = nf ∧ X.L = tkl na ma0 ca) ∧ (X.ys (-1) = 5000 ∧ X.ye (-1) = ns ∧ X.tall (-1) = 2) ∧ ∀ f : Nat, (f : Int) < nf → FnY ta ca na ma0 mb nf ns d X f
section DX
variable {ta ca na ma0 mb : Nat → Nat → Int32} {c nf ns N : Int} {d : Nat}
theorem SgV.rw0 {V : Nat → Nat → Prop} {t : Nat} : ∀ {m : Nat} {z k : Int32}, SgV na (fun y => V y t) m z k → k.toInt < 0 → RwV0 na V t z
  | 0, z, k, h, hk => ⟨0, by have h : z = k := h; show z.toInt < 0; rw [h]; exact hk⟩
  | m + 1, z, k, h, hk => by
    obtain ⟨⟨h0, h1⟩, h2⟩ := h
    obtain ⟨m', q⟩ := SgV.rw0 h2 hk
    exact ⟨m' + 1, Or.inr ⟨h1, q⟩⟩
theorem tx_x (h : FnA ta ca na ma0 mb c nf ns d N nf) : ∃ X : Cx, TxX ta ca na ma0 mb nf ns d X := by
  have key : ∀ f : Nat, ∃ q : Int × Int × Int, (f : Int) < nf → ∃ (V : Nat → Nat → Prop) (vl vh lo m1 : Int), Ts (Gk ta ca na ma0 q.2.1 q.1 nf) na mb vl vh V ∧ RwV0 na V 2 (na 17 (ma0 18 (ca 39 f).toNatClampNeg).toNatClampNeg) ∧ HsW na ma0 mb (tkl na ma0 ca) d (na 17 (ma0 18 (ca 39 f).toNatClampNeg).toNatClampNeg) q.2.2 ∧
      ((0 ≤ q.1 ∧ q.1 ≤ q.2.1 ∧ q.2.1 ≤ ns) ∧ SyR ca q.1 q.2.1 (ca 56 f).toInt 0 ∧ (0 ≤ q.2.2 ∧ 0 ≤ (ca 56 f).toInt ∧ (ca 56 f).toInt ≤ 4 * ((ca 40 f).toInt - 4 - q.2.2)) ∧ ∃ k : Int32, k.toInt < 0 ∧ PrS ca q.2.1 q.1 na mb lo m1 (na 17 (ca 39 f).toNatClampNeg) k) := fun f => by
    by_cases hf : (f : Int) < nf
    · obtain ⟨⟨lo, hi, w, hb, -, ys, ye, m1, tall, e1, e2, e3, e4, ⟨k, hk, V, m, e5, e6⟩, e7⟩, -⟩ := h f hf
      exact ⟨(ys, ye, tall), fun _ => ⟨V, m1, hi, lo, m1, e5, e6.rw0 hk, e7, ⟨e1.2.1.1, e1.2.1.2, e1.2.2⟩, e2, e3, e4⟩⟩
    · exact ⟨(0, 0, 0), fun e => absurd e hf⟩
  refine ⟨⟨ca, fun i => if i < 0 then 5000 else (Classical.choose (key i.toNat)).1, fun i => if i < 0 then ns else (Classical.choose (key i.toNat)).2.1, fun i => if i < 0 then 2 else (Classical.choose (key i.toNat)).2.2 + 1, nf, tkl na ma0 ca⟩, ⟨rfl, rfl, rfl⟩, ⟨rfl, rfl, rfl⟩, fun f hf => ?_⟩
  obtain ⟨V, vl, vh, lo, m1, q1, q2, q3, q4⟩ := Classical.choose_spec (key f) hf
  have e : ¬ ((f : Int) < 0) := by first | exact oz_28b8ae67bf | omega
  have ef : ((f : Int)).toNat = f := by omega
  refine ⟨V, vl, vh, lo, m1, (Classical.choose (key f)).2.2, ?_, q2, q3, ?_, ?_⟩
  · show Ts (Gk ta ca na ma0 (if (f : Int) < 0 then ns else (Classical.choose (key (f : Int).toNat)).2.1) (if (f : Int) < 0 then 5000 else (Classical.choose (key (f : Int).toNat)).1) nf) na mb vl vh V
    rw [if_neg e, if_neg e, ef]; exact q1
  · show (if (f : Int) < 0 then (2 : Int) else (Classical.choose (key (f : Int).toNat)).2.2 + 1) = _
    rw [if_neg e, ef]
  · show (0 ≤ (if (f : Int) < 0 then (5000 : Int) else (Classical.choose (key (f : Int).toNat)).1) ∧ (if (f : Int) < 0 then (5000 : Int) else (Classical.choose (key (f : Int).toNat)).1) ≤ (if (f : Int) < 0 then ns else (Classical.choose (key (f : Int).toNat)).2.1) ∧ (if (f : Int) < 0 then ns else (Classical.choose (key (f : Int).toNat)).2.1) ≤ ns) ∧ SyR ca (if (f : Int) < 0 then (5000 : Int) else (Classical.choose (key (f : Int).toNat)).1) (if (f : Int) < 0 then ns else (Classical.choose (key (f : Int).toNat)).2.1) _ 0 ∧ _ ∧ ∃ k : Int32, k.toInt < 0 ∧ PrS ca (if (f : Int) < 0 then ns else (Classical.choose (key (f : Int).toNat)).2.1) (if (f : Int) < 0 then (5000 : Int) else (Classical.choose (key (f : Int).toNat)).1) na mb lo m1 _ k
    rw [if_neg e, if_neg e, ef]; exact q4
theorem TxX.cx {X : Cx} (h : TxX ta ca na ma0 mb nf ns d X) (f : Int) : CxI X f ca (X.ye f) (X.ys f) nf (tkl na ma0 ca) := ⟨h.1.1, rfl, rfl, h.1.2.1, h.1.2.2⟩
theorem TxX.ct {X : Cx} (h : TxX ta ca na ma0 mb nf ns d X) : CxI X (-1) ca ns 5000 nf (tkl na ma0 ca) := ⟨h.1.1, h.2.1.2.1, h.2.1.1, h.1.2.1, h.1.2.2⟩
/-! how much each function weighs, how much the rest -/
def sumF (wt : Nat → Int) : Nat → Nat → Int
  | _, 0 => 0
  | i, m + 1 => wt i + sumF wt (i + 1) m
theorem sumF_eq {wt wt' : Nat → Int} : ∀ {m i : Nat}, (∀ j, i ≤ j → wt' j = wt j) → sumF wt' i m = sumF wt i m
  | 0, _, _ => rfl
  | m + 1, i, h => by
    show wt' i + sumF wt' (i + 1) m = wt i + sumF wt (i + 1) m
    rw [h i (Nat.le_refl _), sumF_eq (fun j hj => h j (by omega))]
def PcN (ta ca na ma0 mb : Nat → Nat → Int32) (c nf ns : Int) (d : Nat) (l h v : Int) (x : Int32) : Prop := 0 ≤ v ∧ ((na 14 x.toNatClampNeg).toInt = 23 → ScV ta c na ma0 (d + 1) l h v x ∧ ∃ lo hi : Int, PcD ta ca na ma0 mb nf ns lo hi x.toNatClampNeg)
def RvD (ta ca na ma0 mb : Nat → Nat → Int32) (c nf ns : Int) (d : Nat) (lo hi w : Int) (k : Int32) : Prop := RvE na (fun l h v x => PcN ta ca na ma0 mb c nf ns d l h v x) lo hi w k
def FwA (ta ca na ma0 : Nat → Nat → Int32) (c nf nd : Int) (d : Nat) (wt : Nat → Int) : Prop := ∀ j : Nat, (j : Int) < nf → ∃ lo hi : Int, FuV ta c na ma0 d lo hi (wt j) (ca 39 j) ∧ 0 ≤ lo ∧ hi ≤ nd
theorem fw_of {nd : Int} : ∀ {m : Nat} {lo hi w : Int} {k : Int32} {i m' m9 : Nat} {ke : Int32}, Rv na (fun l h v x => PcV ta c na ma0 d l h v x) m lo hi w k → FqR na ca nf m' k (i : Int) → SgV na (PcP ta ca na ma0 mb nf ns N) m9 k ke → ke.toInt < 0 → 0 ≤ lo → hi ≤ nd → (i : Int) ≤ nf → ∃ wt : Nat → Int, (∀ j : Nat, i ≤ j → (j : Int) < nf → ∃ lo hi : Int, FuV ta c na ma0 d lo hi (wt j) (ca 39 j) ∧ 0 ≤ lo ∧ hi ≤ nd) ∧ Rv na (fun l h v x => PcN ta ca na ma0 mb c nf ns d l h v x) m lo hi (w - sumF wt i (nf.toNat - i)) k := by
  intro m
  induction m with
  | zero =>
    intro lo hi w k i m' m9 ke h q s hk h0 hn hi'
    have e : (i : Int) = nf := by
      cases m' with
      | zero => exact q.2
      | succ m' => exact q.elim (fun r => r.2) (fun r => by have := h.1; omega)
    refine ⟨fun _ => 0, fun j h1 h2 => by omega, h.1, ?_⟩
    rw [show nf.toNat - i = 0 by omega]
    show 0 ≤ w - 0; have := h.2; omega
  | succ m ih =>
    intro lo hi w k i m' m9 ke h q s hk h0 hn hi'
    rcases h with h | ⟨mid, wa, h1, h2, h3, h4, h5, h6⟩
    · have e : (i : Int) = nf := by
        cases m' with
        | zero => exact q.2
        | succ m' => exact q.elim (fun r => r.2) (fun r => by have := h.1; omega)
      refine ⟨fun _ => 0, fun j h1 h2 => by omega, Or.inl ⟨h.1, ?_⟩⟩
      rw [show nf.toNat - i = 0 by omega]
      show 0 ≤ w - 0; have := h.2; omega
    · have r := h4.rng
      cases m' with
      | zero => have := q.1; omega
      | succ m' =>
        rcases q with q | ⟨-, q⟩
        · omega
        · cases m9 with
          | zero => have s : k = ke := s; rw [← s] at hk; omega
          | succ m9 =>
            obtain ⟨⟨s0, s1⟩, s2⟩ := s
            rcases q with ⟨kd, q1, q2, q3⟩ | ⟨kd, q3⟩
            · have q3' : FqR na ca nf m' (na 21 k.toNatClampNeg) ((i + 1 : Nat) : Int) := by
                rw [show ((i + 1 : Nat) : Int) = (i : Int) + 1 by omega]; exact q3
              obtain ⟨wt, g1, g2⟩ := ih h6 q3' s2 hk (by omega) hn (by omega)
              have fu := h4.fu kd
              rw [show ((i : Int)).toNat = i by omega] at q2
              refine ⟨fun j => if j = i then wa else wt j, fun j j1 j2 => ?_, Or.inr ⟨mid, 0, h1, h2, Int.le_refl _, ⟨Int.le_refl _, fun e => by omega⟩, h5, ?_⟩⟩
              · by_cases e : j = i
                · subst e
                  refine ⟨lo, mid, ?_, h0, by omega⟩
                  show FuV ta c na ma0 d lo mid (if j = j then wa else wt j) (ca 39 j)
                  rw [if_pos rfl, q2]; exact fu
                · obtain ⟨l, h, z1, z2⟩ := g1 j (by omega) j2
                  refine ⟨l, h, ?_, z2⟩
                  show FuV ta c na ma0 d l h (if j = i then wa else wt j) (ca 39 j)
                  rw [if_neg e]; exact z1
              · have es : sumF (fun j => if j = i then wa else wt j) i (nf.toNat - i) = wa + sumF wt (i + 1) (nf.toNat - (i + 1)) := by
                  rw [show nf.toNat - i = (nf.toNat - (i + 1)) + 1 by omega]
                  show (if i = i then wa else wt i) + sumF _ (i + 1) _ = _
                  rw [if_pos rfl, sumF_eq (fun j hj => if_neg (by omega))]
                rw [es, show w - (wa + sumF wt (i + 1) (nf.toNat - (i + 1))) - 0 = w - wa - sumF wt (i + 1) (nf.toNat - (i + 1)) by omega]
                exact g2
            · obtain ⟨wt, g1, g2⟩ := ih h6 q3 s2 hk (by omega) hn hi'
              refine ⟨wt, g1, Or.inr ⟨mid, wa, h1, h2, h3, ⟨h3, fun e => ⟨h4.de e, ?_⟩⟩, h5, ?_⟩⟩
              · obtain ⟨l, h, -, z⟩ := s1 e
                exact ⟨l, h, z⟩
              · rw [show w - sumF wt i (nf.toNat - i) - wa = w - wa - sumF wt i (nf.toNat - i) by omega]; exact g2
theorem fw_ex {nd w : Int} {z : Int32} (h : RvC ta c na ma0 d 0 nd w z) (q : FqZ na ca nf z) (s : ∃ k : Int32, k.toInt < 0 ∧ PcR ta ca na ma0 mb nf ns N z k) (hn : 0 ≤ nf) : ∃ wt : Nat → Int, FwA ta ca na ma0 c nf nd d wt ∧ RvD ta ca na ma0 mb c nf ns d 0 nd (w - sumF wt 0 nf.toNat) z := by
  obtain ⟨m, h⟩ := h
  obtain ⟨m', q⟩ := q
  obtain ⟨ke, hk, m9, s⟩ := s
  obtain ⟨wt, g1, g2⟩ := fw_of (nd := nd) (i := 0) h q s hk (Int.le_refl _) (Int.le_refl _) hn
  exact ⟨wt, fun j hj => g1 j (Nat.zero_le _) hj, m, g2⟩
theorem sumF_s {wt : Nat → Int} {i n : Int} {i' : Int} (h0 : 0 ≤ i) (h1 : i < n) (e : i' = i + 1) : sumF wt i.toNat (n - i).toNat = wt i.toNat + sumF wt i'.toNat (n - i').toNat := by
  subst e
  rw [show (n - i).toNat = (n - (i + 1)).toNat + 1 by omega, show (i + 1).toNat = i.toNat + 1 by omega]; rfl
theorem sumF_nn {nd : Int} {wt : Nat → Int} (h : FwA ta ca na ma0 c nf nd d wt) : ∀ {m i : Nat}, (i : Int) + m ≤ nf → 0 ≤ sumF wt i m
  | 0, _, _ => Int.le_refl _
  | m + 1, i, hi => by
    obtain ⟨l, h', z, -⟩ := h i (by omega)
    have := z.2.2.2.2.1
    have := sumF_nn h (m := m) (i := i + 1) (by omega)
    show 0 ≤ wt i + _; omega
/-- which one is main, what it takes -/
theorem mn_ok {tf : Nat → Int32} {sb : Nat → Int32} {v : Int} {X : Cx} {z : Int32} (hk : TkI tf ta) (t : TxR ta ca na ma0 mb (tf 6).toInt (tf 5).toInt nf ns sb d N z) (x : TxX ta ca na ma0 mb nf ns d X) (h : MfV ta na ca (tf 5).toInt sb nf v) : (0 ≤ v ∧ v < nf) ∧ ArC X (100 + v) [0] [] := by
  obtain ⟨fa, -, f, hf1, hf2, o1, o2, o3⟩ := t
  have ft : ∀ j : Nat, (j : Int) < nf → 0 ≤ (na 15 (ca 39 j).toNatClampNeg).toInt ∧ (na 15 (ca 39 j).toNatClampNeg).toInt < (tf 6).toInt := fun j hj => by
    obtain ⟨⟨lo, hi, w, -, u, -⟩, -⟩ := fa j hj
    exact u.2.2.1
  have un : ∀ a b : Nat, (a : Int) < nf → (b : Int) < nf → MnT ta (tf 5).toInt sb (na 15 (ca 39 a).toNatClampNeg) → MnT ta (tf 5).toInt sb (na 15 (ca 39 b).toNatClampNeg) → ¬ a < b := fun a b ha hb qa qb hab =>
    (fa b hb).2 a hab (mnt_same hk (ft a ha) (ft b hb) qa qb)
  rcases h with ⟨-, h⟩ | ⟨h0, h1, h2⟩
  · exact absurd hf2 (h f hf1)
  · have e : f = v.toNat := by
      have := un f v.toNat hf1 (by omega) hf2 h2
      have := un v.toNat f (by omega) hf1 h2 hf2
      omega
    subst e
    refine ⟨⟨h0, h1⟩, 1, ?_, ?_, fun i hi => ?_⟩
    · rw [x.1.2.2]
      show [0] = (if tkl na ma0 ca (100 + v) 0 = 105 then [0] else [2, 1]) ++ [] ++ []
      have : tkl na ma0 ca (100 + v) 0 = 105 := by
        unfold tkl
        rw [if_neg (by omega), show (100 + v - 100).toNat = v.toNat by omega, tkf_0 o1, if_pos o3]
      rw [if_pos this]; rfl
    · rw [x.1.2.2]
      unfold tkl
      rw [if_neg (by omega), show (100 + v - 100).toNat = v.toNat by omega, tkf_s o1 rfl, tkf_neg o2]
    · rw [x.1.2.2, show i = 0 by omega]
      unfold tkl
      rw [if_neg (by omega), show (100 + v - 100).toNat = v.toNat by omega, tkf_0 o1, if_pos o3]; decide
end DX
/-! the code of all: its points, its functions' first ones -/
def PgK (X : Cx) (c en : Nat → Int32) (i s : Int) : Prop := ∃ K : KP, (∀ p f S v, K p f S v → (p : Int) < s ∧ (-1 ≤ f ∧ f < i) ∧ LcC X c K p f S v) ∧ K 0 (-1) [0] 0 ∧ ∀ j : Nat, (j : Int) < i → 0 ≤ (en j).toInt ∧ K (en j).toNatClampNeg j [] 0
def PaK (L : Int → Nat → Int) (pa : Nat → Int32) (i : Int) : Prop := ∀ j : Nat, (j : Int) < i → ∃ m : Nat, (pa j).toInt = ((aslots (L (100 + (j : Int))) m).length : Int) ∧ L (100 + (j : Int)) m = 32 ∧ ∀ i : Nat, i < m → L (100 + (j : Int)) i ≠ 32
section PG
variable {X : Cx} {e0 e1 e2 e3 e4 e5 : Nat → Nat → Int32} {en : Nat → Int32} {i s s1 : Int} {p p1 p2 op a b o1 o2 a1 a2 d1 d2 : Int32} {b0 b1 c0 c1 k0 : Int32} {na ma : Nat → Nat → Int32} {mid : Int}
theorem pgk_0 (h : SgQ X (e0 61) 0 s (-1) [0] [0] 0) (u : EmU e0 e1 p op a b) (hp : p.toInt = s) (ho : op.toInt = 15) (ha : 0 ≤ a.toInt ∧ a.toInt < X.nf) (hr : ArC X (100 + a.toInt) [0] []) (ht : 1 ≤ X.tall (-1)) (hs : s1 = s + 1) : PgK X (e1 61) en 0 s1 := by
  subst hs
  have h0 := h.2.2
  obtain ⟨-, g0, K, g1, g2⟩ := (⟨h.1, (h.cd u.cd (by omega)).2.1⟩ : 0 ≤ (0 : Int) ∧ SgC X (e1 61) (0 : Int).toNat s.toNat (-1) [0] [0] 0)
  have r := u.rw (n := s.toNat) (by omega)
  refine ⟨fun q h R t => K q h R t ∨ (q = s.toNat ∧ h = -1 ∧ R = [0] ∧ t = 0), fun q f R t k => ?_, ?_, fun j hj => by omega⟩
  · rcases k with k | ⟨rfl, rfl, rfl, rfl⟩
    · obtain ⟨a1, a2, a3⟩ := g1 q f R t k
      refine ⟨by omega, by omega, a3.mono (fun p g S v w => ?_)⟩
      rcases w with w | ⟨rfl, rfl, rfl, rfl⟩
      · exact Or.inl w
      · exact Or.inr ⟨rfl, rfl, rfl, rfl⟩
    · exact ⟨by omega, by omega, ht, Or.inr (Or.inr (Or.inr (Or.inr (Or.inl ⟨by rw [r.1]; exact ho, by rw [r.2.1]; exact ha, [], by rw [r.2.1]; exact hr, Or.inl (by decide)⟩))))⟩
  · rcases g2 with g2 | ⟨g2, -⟩
    · exact Or.inl g2
    · exact Or.inr ⟨g2, rfl, rfl, rfl⟩
theorem PgK.fn {i' s2 s0 f : Int} (h : PgK X (e2 61) (e2 62) i s) (h0 : 0 ≤ i) (hen : (e2 62 i.toNat).toInt = s) (cd : CdK e2 e3 s0) (w : StW X (e3 61) s0 s1 f [] 0 2 b0 b1 c0 c1 na ma mid k0) (u1 : EmU e3 e4 p1 o1 a1 d1) (u2 : EmU e4 e5 p2 o2 a2 d2) (x1 : p1.toInt = s1) (x2 : p2.toInt = s1 + 1) (y1 : o1.toInt = 1) (y2 : o2.toInt = 18) (ht : 1 ≤ X.tall f) (hi : i' = i + 1) (hs : s2 = s1 + 2) (hs0 : s0 = s) (hf : f = i) : PgK X (e5 61) (e5 62) i' s2 := by
  subst hi; subst hs
  have hs1 := hs0.symm; subst hs1
  have hf1 := hf.symm; subst hf1
  obtain ⟨K, k1, k2, k3⟩ := h
  obtain ⟨K2, n0, n1, nb, nc, n2, n3⟩ := w.q
  have eb := n2.1.2.2 (by decide)
  have ec := n2.2.1.2.2 (by decide)
  subst eb; subst ec
  have r1 := u1.rw (n := s1.toNat) (by omega)
  have r2 := u2.rw (n := s1.toNat + 1) (by omega)
  have e62 : e5 62 = e2 62 := by rw [u2.1 62 (by decide), u1.1 62 (by decide), cd.1 62 (by decide)]
  have old : ∀ q : Nat, (q : Int) < 3 * s → e5 61 q = e2 61 q := fun q hq => by rw [u2.2.1 q (by omega), u1.2.1 q (by omega), cd.2 q hq]
  have mm : ∀ q : Nat, 3 * s ≤ (q : Int) → (q : Int) < 3 * s1 → e5 61 q = e3 61 q := fun q _ hq => by rw [u2.2.1 q (by omega), u1.2.1 q (by omega)]
  let K' : KP := fun q g R t => K q g R t ∨ K2 q g R t ∨ (q = s1.toNat ∧ g = i ∧ R = [] ∧ t = 0) ∨ (q = s1.toNat + 1 ∧ g = i ∧ R = [0] ∧ t = 0)
  refine ⟨K', fun q g R t k => ?_, Or.inl k2, fun j hj => ?_⟩
  · rcases k with k | k | ⟨rfl, rfl, rfl, rfl⟩ | ⟨rfl, rfl, rfl, rfl⟩
    · obtain ⟨g1, g2, g3⟩ := k1 q g R t k
      refine ⟨by omega, by omega, (g3.eq ⟨old _ (by omega), old _ (by omega), old _ (by omega)⟩).mono (fun _ _ _ _ w => Or.inl w)⟩
    · obtain ⟨g1, g2, g3⟩ := n3.2 q g R t k
      refine ⟨by omega, by omega, ?_⟩
      rcases g3 with ⟨g3, -⟩ | ⟨T, g3, -⟩
      · refine (g3.eq ⟨mm _ (by omega) (by omega), mm _ (by omega) (by omega), mm _ (by omega) (by omega)⟩).mono (fun p f S v w => ?_)
        rcases w with w | ⟨rfl, rfl, rfl, rfl⟩
        · exact Or.inr (Or.inl w)
        · exact Or.inr (Or.inr (Or.inl ⟨rfl, rfl, rfl, rfl⟩))
      · exact (wg_0.mp g3).elim
    · refine ⟨by omega, by omega, by show (0 : Int) ≤ _; omega, Or.inl ⟨[0], .push [] ?_, Or.inr (Or.inr (Or.inr ⟨rfl, rfl, rfl, rfl⟩))⟩⟩
      rw [u2.2.1 _ (by omega), r1.1]; exact y1
    · refine ⟨by omega, by omega, ht, Or.inr (Or.inr (Or.inr (Or.inr (Or.inr (Or.inl ⟨?_, rfl, h0⟩)))))⟩
      rw [r2.1]; exact y2
  · rw [e62]
    by_cases e : (j : Int) = i
    · have ej : j = i.toNat := by omega
      rw [ej]
      have ez := cl_nat (x := e2 62 i.toNat) (by omega)
      refine ⟨by omega, ?_⟩
      rw [show (e2 62 i.toNat).toNatClampNeg = s.toNat by omega, show ((i.toNat : Nat) : Int) = i by omega]
      rcases n1.2 with w | w
      · exact Or.inr (Or.inl w)
      · exact Or.inr (Or.inr (Or.inl ⟨by omega, rfl, rfl, rfl⟩))
    · have := k3 j (by omega)
      exact ⟨this.1, Or.inl this.2⟩
theorem PgK.ent {x z : Int32} (h : PgK X (e0 61) (e0 62) i s) (hx : x.toInt = i) (h0 : 0 ≤ i) (ue : e1 = va_up e0 62 (upd (e0 62) x.toNatClampNeg z)) (hz : z.toInt = s) : PgK X (e1 61) (e1 62) i s ∧ (e1 62 i.toNat).toInt = s := by
  have cx := cl_nat (x := x) (by first | exact oz_016f458179 cx | omega)
  obtain ⟨K, k1, k2, k3⟩ := h
  subst ue
  refine ⟨⟨K, fun p f S v k => ?_, k2, fun j hj => ?_⟩, ?_⟩
  · rw [va_up_n (by decide)]; exact k1 p f S v k
  · rw [va_up_s, pk_un (by omega)]; exact k3 j hj
  · rw [va_up_s, show i.toNat = x.toNatClampNeg by omega, pk_us]; exact hz
theorem PgK.pa {x z : Int32} (h : PgK X (e0 61) (e0 62) i s) (ue : e1 = va_up e0 63 (upd (e0 63) x.toNatClampNeg z)) (hz : (e0 62 i.toNat).toInt = s) : PgK X (e1 61) (e1 62) i s ∧ (e1 62 i.toNat).toInt = s := by
  subst ue
  rw [va_up_n (by decide), va_up_n (by decide)]; exact ⟨h, hz⟩
theorem PgK.eq {i' s' : Int} {c : Nat → Int32} (h : PgK X c en i s) (e : i = i') (e2 : s = s') : PgK X c en i' s' := e ▸ e2 ▸ h
theorem PaK.kp {L : Int → Nat → Int} {s0 i' : Int} (h : PaK L (e2 63) i) (cd : CdK e2 e3 s0) (u1 : EmU e3 e4 p1 o1 a1 d1) (u2 : EmU e4 e5 p2 o2 a2 d2) (e : i = i') : PaK L (e5 63) i' := by
  subst e
  rw [u2.1 63 (by decide), u1.1 63 (by decide), cd.1 63 (by decide)]; exact h
theorem PaK.nx {L : Int → Nat → Int} {pa pa' : Nat → Int32} {x v : Int32} {i' : Int} {m : Nat} (h : PaK L pa i) (h0 : 0 ≤ i) (hx : x.toInt = i) (u : pa' = upd pa x.toNatClampNeg v) (e : v.toInt = ((aslots (L (100 + i)) m).length : Int)) (h1 : L (100 + i) m = 32) (h2 : ∀ k : Nat, k < m → L (100 + i) k ≠ 32) (hi : i' = i + 1) : PaK L pa' i' := fun j hj => by
  subst hi; subst u
  have cx := cl_nat (x := x) (by first | exact oz_016f458179 cx | omega)
  by_cases q : j = x.toNatClampNeg
  · subst q
    rw [pk_us, show ((x.toNatClampNeg : Nat) : Int) = i by omega]
    exact ⟨m, e, h1, h2⟩
  · rw [pk_un q]; exact h j (by omega)
end PG
/-- parameters, as far as they are counted -/
def PaL (na ma0 : Nat → Nat → Int32) (p0 : Int32) (n : Int) (p : Int32) : Prop := ∃ k : Nat, n = ((aslots (fun i => tkf na ma0 i p0) k).length : Int) ∧ (∀ i : Nat, tkf na ma0 (k + i) p0 = tkf na ma0 i p) ∧ ∀ i : Nat, i < k → tkf na ma0 i p0 ≠ 32
section PL
variable {na ma0 ca : Nat → Nat → Int32} {p0 p z : Int32} {n n' : Int}
theorem pal_0 (h : n = 0) (e : p = p0) : PaL na ma0 p0 n p := by
  subst h; subst e
  exact ⟨0, rfl, fun i => by rw [Nat.zero_add], fun i hi => by omega⟩
theorem PaL.nx (h : PaL na ma0 p0 n p) (h0 : 0 ≤ p.toInt) (e : z = na 21 p.toNatClampNeg) (hn : n' = n + if (na 17 p.toNatClampNeg).toInt < 0 then 1 else 2) : PaL na ma0 p0 n' z := by
  obtain ⟨k, h1, h2, h3⟩ := h
  have hk := h2 0
  rw [Nat.add_zero, tkf_0 h0] at hk
  have h5 : (tkf na ma0 k p0 = 105) = ((na 17 p.toNatClampNeg).toInt < 0) := by
    rw [hk]
    by_cases q : (na 17 p.toNatClampNeg).toInt < 0
    · rw [if_pos q]; simp [q]
    · rw [if_neg q]; split <;> simp [q]
  refine ⟨k + 1, ?_, fun i => ?_, fun i hi => ?_⟩
  · rw [aslots_len, hn, h1]
    simp only [h5]
  · rw [show k + 1 + i = k + (i + 1) by omega, h2 (i + 1), tkf_s h0 e]
  · by_cases q : i = k
    · rw [q, hk]; split
      · decide
      · split <;> decide
    · exact h3 i (by omega)
theorem PaL.fin {f : Int} (h : PaL na ma0 p0 n p) (hp : p.toInt < 0) (hf : 0 ≤ f) (e : p0 = na 17 (ca 39 f.toNat).toNatClampNeg) : ∃ m : Nat, n = ((aslots (tkl na ma0 ca (100 + f)) m).length : Int) ∧ tkl na ma0 ca (100 + f) m = 32 ∧ ∀ i : Nat, i < m → tkl na ma0 ca (100 + f) i ≠ 32 := by
  obtain ⟨k, h1, h2, h3⟩ := h
  have el : tkl na ma0 ca (100 + f) = fun i => tkf na ma0 i p0 := by
    funext i
    unfold tkl
    rw [if_neg (by omega), show (100 + f - 100).toNat = f.toNat by omega, e]
  rw [el]
  refine ⟨k, h1, ?_, h3⟩
  have := h2 0
  rw [Nat.add_zero] at this
  show tkf na ma0 k p0 = 32
  rw [this, tkf_neg hp]
end PL

def NdE (ca : Nat → Nat → Int32) (x v : Int32) : Prop := v = ca 39 x.toNatClampNeg
/-- a function's inside, as it is to be made -/
theorem fu_rk {ta ca na ma0 mb : Nat → Nat → Int32} {c nf ns lo hi w nd : Int} {d : Nat} {X : Cx} {f : Nat} (h : FuV ta c na ma0 d lo hi w (ca 39 f)) (q : FnY ta ca na ma0 mb nf ns d X f) (h0 : 0 ≤ lo) (hn : hi ≤ nd) : ∃ (V : Nat → Nat → Prop) (vl vh l wb tall : Int), Ts (Gk ta ca na ma0 (X.ye f) (X.ys f) nf) na mb vl vh V ∧ RkB ta c na ma0 mb ca V d nd l hi wb tall 2 (na 17 (ma0 18 (ca 39 f).toNatClampNeg).toNatClampNeg) ∧ (X.tall f = tall + 1 ∧ 0 ≤ tall ∧ wb + 2 ≤ w ∧ l ≤ hi ∧ 0 ≤ wb) ∧ (0 ≤ (ma0 18 (ca 39 f).toNatClampNeg).toInt ∧ (ma0 18 (ca 39 f).toNatClampNeg).toInt < nd) := by
  obtain ⟨h1, h2, h3, h4, h5, m1, wp, wb, h6, h7, h8, h9, h10, h11, h12⟩ := h
  obtain ⟨V, vl, vh, lo', m1', tall, q1, q2, q3, q4, q5, q6, q7, -⟩ := q
  have r := h9.rng
  obtain ⟨m, g⟩ := h9.s20 h8 rfl
  obtain ⟨r', ke, g1, g2⟩ := rk_of g
  have := cn29_nn (na := na) (r := r')
  exact ⟨V, vl, vh, (ma0 18 (ca 39 f).toNatClampNeg).toInt + 1, wb, tall, q1, ⟨⟨m, g2.mono (by omega)⟩, q2, q3, by omega, by decide, by decide⟩, ⟨q4, q7.1, by omega, by omega, h12⟩, by omega⟩
theorem fu_pa {ta na ma0 : Nat → Nat → Int32} {c lo hi w nd : Int} {d : Nat} {n : Int32} (h : FuV ta c na ma0 d lo hi w n) (h0 : 0 ≤ lo) (hn : hi ≤ nd) : ∃ m1 wp : Int, RvP ta c na ma0 (n.toInt + 1) m1 wp (na 17 n.toNatClampNeg) ∧ (0 ≤ n.toInt ∧ n.toInt < m1 ∧ m1 ≤ nd) := by
  obtain ⟨h1, h2, h3, h4, h5, m1, wp, wb, h6, h7, -⟩ := h
  exact ⟨m1, wp, h7, by omega⟩
/-- how much is left for the functions that are not made -/
def SwL9 (wf : Nat → Int) (nf i s W : Int) : Prop := s + sumF wf i.toNat (nf - i).toNat ≤ W
section SM
variable {wf : Nat → Int} {nf i i' s s' W : Int}
theorem swl9_0 (h : s + sumF wf 0 nf.toNat ≤ W) : SwL9 wf nf 0 s W := by
  show s + sumF wf 0 (nf - 0).toNat ≤ W
  rw [Int.sub_zero]; exact h
theorem SwL9.eq (h : SwL9 wf nf i s W) (e : i = i') (e2 : s = s') : SwL9 wf nf i' s' W := e ▸ e2 ▸ h
theorem SwL9.nx (h : SwL9 wf nf i s W) (h0 : 0 ≤ i) (h1 : i < nf) (e : i' = i + 1) (hs : s' ≤ s + wf i.toNat) : SwL9 wf nf i' s' W := by
  have q := sumF_s (wt := wf) h0 h1 e
  unfold SwL9 at h ⊢
  rw [q] at h; omega
theorem SwL9.ub {ta ca na ma0 : Nat → Nat → Int32} {c nd : Int} {d : Nat} (h : SwL9 wf nf i s W) (hf : FwA ta ca na ma0 c nf nd d wf) (h0 : 0 ≤ i) (h1 : i ≤ nf) : s ≤ W := by
  have := sumF_nn hf (m := (nf - i).toNat) (i := i.toNat) (by omega)
  unfold SwL9 at h; omega
theorem SwL9.at {ta ca na ma0 : Nat → Nat → Int32} {c nd : Int} {d : Nat} (h : SwL9 wf nf i s W) (hf : FwA ta ca na ma0 c nf nd d wf) (h0 : 0 ≤ i) (h1 : i < nf) : s + wf i.toNat ≤ W := by
  have q := sumF_s (wt := wf) (i' := i + 1) h0 h1 rfl
  have := sumF_nn hf (m := (nf - (i + 1)).toNat) (i := (i + 1).toNat) (by omega)
  unfold SwL9 at h; rw [q] at h; omega
end SM
