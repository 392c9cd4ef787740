/-! THE REFERENCE's checker: heights told ahead; what a step over statements gives -/
/-- arrays of a later time, where nothing was written in [lo, hi) -/
def RgM (na ca0 : Nat → Nat → Int32) (M0 : Nat → Int32) (ma : Nat → Nat → Int32) (lo hi : Nat) (ca1 ma1 : Nat → Nat → Int32) : Prop := ca1 39 = ca0 39 ∧ MgO na M0 (ma1 22) ∧ ∀ f i : Nat, lo ≤ i → i < hi → ma1 f i = ma f i
theorem RgM.le {na ca0 ma ca1 ma1 : Nat → Nat → Int32} {M0 : Nat → Int32} {lo hi lo' hi' : Nat} (h : RgM na ca0 M0 ma lo hi ca1 ma1) (h1 : lo ≤ lo') (h2 : hi' ≤ hi) : RgM na ca0 M0 ma lo' hi' ca1 ma1 := ⟨h.1, h.2.1, fun f i a b => h.2.2 f i (by omega) (by omega)⟩
theorem RgM.fr {na ca0 ma ma' ca1 ma1 : Nat → Nat → Int32} {M0 : Nat → Int32} {lo hi l r : Nat} (h : RgM na ca0 M0 ma' lo hi ca1 ma1) (g : FrM ma ma' l r) (q : hi ≤ l ∨ r ≤ lo) : RgM na ca0 M0 ma lo hi ca1 ma1 := ⟨h.1, h.2.1, fun f i a b => (h.2.2 f i a b).trans (g f i (by omega))⟩
/-- the height is raised to h -/
def Ups (h : Int) (a b : Nat → Int32) : Prop := (∀ j : Nat, ¬ j = 59 → b j = a j) ∧ (b 59).toInt = max (a 59).toInt h
theorem Ups.tr {h g : Int} {a b d : Nat → Int32} (x : Ups h a b) (y : Ups g b d) : Ups (max h g) a d := ⟨fun j q => (y.1 j q).trans (x.1 j q), by rw [y.2, x.2]; omega⟩
theorem Ups.nn {h : Int} {a b : Nat → Int32} (x : Ups h a b) (h0 : 0 ≤ (a 59).toInt) : 0 ≤ (b 59).toInt := by rw [x.2]; omega
theorem Ups.rf {a : Nat → Int32} (h0 : 0 ≤ (a 59).toInt) : Ups 0 a a := ⟨fun _ _ => rfl, by omega⟩
/-- the height of an expression -/
def HtX (na ca0 : Nat → Nat → Int32) (M0 : Nat → Int32) (lo hi : Nat) (p0 : Int32) (h : Int) (ma : Nat → Nat → Int32) : Prop := (0 ≤ h ∧ h ≤ 300000) ∧ ∀ (ca1 ma1 : Nat → Nat → Int32) (v : Int32), RgM na ca0 M0 ma lo hi ca1 ma1 → RX_mp_height na ma1 ca1 p0 v → v.toInt = h
/-- of a statement at node p0 -/
def Ms (na ca0 : Nat → Nat → Int32) (M0 : Nat → Int32) (lo hi : Nat) (p0 : Int32) (h : Int) (ma : Nat → Nat → Int32) : Prop := (0 ≤ h ∧ h ≤ 300000) ∧ ∀ (ca1 ma1 : Nat → Nat → Int32) (cf cf' : Nat → Int32), RgM na ca0 M0 ma lo hi ca1 ma1 → 0 ≤ (cf 59).toInt → RX_mp_measureOne na ma1 ca1 p0 cf cf' → Ups h cf cf'
/-- of a row of statements -/
def MsR (na ca0 : Nat → Nat → Int32) (M0 : Nat → Int32) (lo hi : Nat) (n : Int) (h : Int) (ma : Nat → Nat → Int32) : Prop := (0 ≤ h ∧ h ≤ 300000) ∧ ∀ (RL : T_mp_measureOne) (ca1 ma1 : Nat → Nat → Int32) (m : Nat) (q x : Int32) (cf cf' : Nat → Int32), (∀ (p : Int32) (a b : Nat → Int32), RL na ma1 ca1 p a b → RX_mp_measureOne na ma1 ca1 p a b) → RgM na ca0 M0 ma lo hi ca1 ma1 → 0 ≤ (cf 59).toInt → x.toInt = n → E_mp_measure RL na ma1 ca1 q cf' m 2 [x] [] [] [] [] cf → Ups h cf cf'
/-- of a variable at node lo, of a row of them -/
def WV (na ca0 : Nat → Nat → Int32) (M0 : Nat → Int32) (lo hi : Nat) (h : Int) (ma : Nat → Nat → Int32) : Prop := (0 ≤ h ∧ h ≤ 300000) ∧ ∀ (ca1 ma1 : Nat → Nat → Int32) (cf cf' : Nat → Int32), RgM na ca0 M0 ma lo hi ca1 ma1 → 0 ≤ (cf 59).toInt → ((ma1 22 lo).toInt = 1 → R_mp_raise na ma1 ca1 (ma1 18 lo) cf cf') → (¬ (ma1 22 lo).toInt = 1 → R_mp_raise na ma1 ca1 (-1) cf cf') → Ups h cf cf'
def WVs (na ca0 : Nat → Nat → Int32) (M0 : Nat → Int32) (lo hi : Nat) (n : Int) (h : Int) (ma : Nat → Nat → Int32) : Prop := (0 ≤ h ∧ h ≤ 300000) ∧ ∀ (RL : T_mp_measureOne) (ca1 ma1 : Nat → Nat → Int32) (m : Nat) (q x : Int32) (cf cf' : Nat → Int32), RgM na ca0 M0 ma lo hi ca1 ma1 → 0 ≤ (cf 59).toInt → x.toInt = n → E_mp_measureOne RL na ma1 ca1 q cf' m 109 [x] [] [] [] [] cf → Ups h cf cf'
section SD
variable {tf : Nat → Int32} {ta na ca ca0 ca1 ma ma' ma1 : Nat → Nat → Int32} {vl M0 : Nat → Int32} {k : Nat → Int} {ql : Nat → Int} {c sc lo hi mid : Nat} {n38 : Int32} {F : Int32 → Option Fnc} {cf cf' cf1 : Nat → Int32} {L : Nms} {p0 p1 v : Int32} {e : Ast} {h0 h1 h2 : Int}
theorem raise_x (X : HtX na ca0 M0 lo hi p0 h0 ma) (g : RgM na ca0 M0 ma lo hi ca1 ma1) (hp : 0 ≤ p0.toInt) (h : R_mp_raise na ma1 ca1 p0 cf cf') : Ups h0 cf cf' := by
  rcases h with (⟨g1, v4, g2, (⟨g3, e0⟩ | ⟨g3, e0⟩)⟩ | ⟨g1, (⟨g2, e0⟩ | ⟨g2, e0⟩)⟩) | h
  · have y := X.2 ca1 ma1 v4 g g2
    rw [e0]
    exact ⟨fun j q => pk_un q, by rw [pk_us]; omega⟩
  · have y := X.2 ca1 ma1 v4 g g2
    rw [e0]
    exact ⟨fun j q => pk_un q, by rw [pk_us]; omega⟩
  · exact absurd hp g1
  · exact absurd hp g1
  · exact h.elim
theorem raise_n (hp : p0.toInt < 0) (hc : 0 ≤ (cf 59).toInt) (h : R_mp_raise na ma1 ca1 p0 cf cf') : Ups 0 cf cf' := by
  rcases h with (⟨g1, v4, g2, (⟨g3, e0⟩ | ⟨g3, e0⟩)⟩ | ⟨g1, (⟨g2, e0⟩ | ⟨g2, e0⟩)⟩) | h
  · exfalso; omega
  · exfalso; omega
  · rw [e0]
    exact ⟨fun j q => pk_un q, by rw [pk_us]; omega⟩
  · exact absurd hc g2
  · exact h.elim
theorem htx_r {a : Atr} (hO : OkE k c na ma e p0.toInt lo hi) (hh : hi ≤ 100000) (ag : AgKr na ma ma' lo hi) (ha : att k vl (lkp L) F e [] 0 = some a) (nt : ∀ d : Nat, NtN na ca0 vl M0 F ma' d p0.toInt) : HtX na ca0 M0 lo hi p0 a.2.2.2 ma' := by
  have hle : lo ≤ hi := Nat.le_of_lt (oke_le hO)
  have hR' := rep_k2 _ _ _ _ _ _ hO.2.1 ag
  have bd := (att_bd e false _ 0 lo hi hR' hle).1 hO.1 a ha
  refine ⟨by omega, fun ca1 ma1 v g hr => ?_⟩
  obtain ⟨g1, g2, g3⟩ := g
  have hR1 : Rep k c na ma1 e false p0.toInt 0 lo hi := rep_k2 _ _ _ _ _ _ hR' (fun i x y => ⟨fun _ => ⟨g3 18 i x y, g3 19 i x y⟩, g3 20 i x y, g3 22 i x y⟩)
  exact ht_x (M := ma1 22) rfl e p0 v lo hi a hO.1 ⟨hle, hh⟩ hR1 ha (fun d => nt_cm g1 g2 d _ ((nt_kp (szA e) e false _ 0 lo hi (Nat.le_refl _) rfl rfl hR' g3).1 hO.1 d (nt d))) hr
theorem HtX.fr {l r : Nat} (h : HtX na ca0 M0 lo hi p0 h0 ma) (g : FrM ma ma' l r) (q : hi ≤ l ∨ r ≤ lo) : HtX na ca0 M0 lo hi p0 h0 ma' := ⟨h.1, fun ca1 ma1 v x => h.2 ca1 ma1 v (x.fr g q)⟩
theorem Ms.fr {l r : Nat} (h : Ms na ca0 M0 lo hi p0 h0 ma) (g : FrM ma ma' l r) (q : hi ≤ l ∨ r ≤ lo) : Ms na ca0 M0 lo hi p0 h0 ma' := ⟨h.1, fun ca1 ma1 a b x => h.2 ca1 ma1 a b (x.fr g q)⟩
theorem MsR.nil {n : Int} (hn : n < 0) : MsR na ca0 M0 lo hi n 0 ma := by
  refine ⟨by decide, fun RL ca1 ma1 m q x cf cf' hL hg hc hx h => ?_⟩
  rcases iv_mp_measure_2 h with ⟨m', (⟨g1, e0⟩ | ⟨g1, cf6, g2, z15, g3, hQ⟩)⟩
  · rw [e0]; exact Ups.rf hc
  · exfalso; omega
theorem MsR.cons {n : Int} {i : Nat} (hn : n = (i : Int)) (hp : p0.toInt = (i : Int)) (a : Ms na ca0 M0 lo mid p0 h1 ma) (b : MsR na ca0 M0 mid hi (na 21 i).toInt h2 ma) (hl : lo ≤ mid ∧ mid ≤ hi) : MsR na ca0 M0 lo hi n (max h1 h2) ma := by
  have a0 := a.1
  have b0 := b.1
  refine ⟨by omega, fun RL ca1 ma1 m q x cf cf' hL hg hc hx h => ?_⟩
  rcases iv_mp_measure_2 h with ⟨m', (⟨g1, e0⟩ | ⟨g1, cf6, g2, z15, g3, hQ⟩)⟩
  · exfalso; omega
  · have ex : x = p0 := Int32.toInt_inj.mp (by omega)
    have u1 := a.2 ca1 ma1 cf cf6 (hg.le (Nat.le_refl _) hl.2) hc (by rw [← ex]; exact hL x cf cf6 g2)
    have xi : x.toNatClampNeg = i := cn_of (by omega)
    rw [xi] at g3
    exact u1.tr (b.2 RL ca1 ma1 m' q z15 cf6 cf' hL (hg.le hl.1 (Nat.le_refl _)) (u1.nn hc) (by rw [g3]) hQ)
theorem MsR.fr {l r : Nat} {n : Int} (h : MsR na ca0 M0 lo hi n h0 ma) (g : FrM ma ma' l r) (q : hi ≤ l ∨ r ≤ lo) : MsR na ca0 M0 lo hi n h0 ma' := ⟨h.1, fun RL ca1 ma1 m q' x a b hL hx => h.2 RL ca1 ma1 m q' x a b hL (hx.fr g q)⟩
theorem WV.fr {l r : Nat} (h : WV na ca0 M0 lo hi h0 ma) (g : FrM ma ma' l r) (q : hi ≤ l ∨ r ≤ lo) : WV na ca0 M0 lo hi h0 ma' := ⟨h.1, fun ca1 ma1 a b x => h.2 ca1 ma1 a b (x.fr g q)⟩
theorem WVs.nil {n : Int} (hn : n < 0) : WVs na ca0 M0 lo hi n 0 ma := by
  refine ⟨by decide, fun RL ca1 ma1 m q x cf cf' hg hc hx h => ?_⟩
  rcases iv_mp_measureOne_109 h with ⟨m', (⟨g1, e0⟩ | ⟨g1, z5, g2, (⟨g3, cf9, g4, z18, g5, hQ⟩ | ⟨g3, z19, g4, cf21, g5, z30, g6, hQ⟩)⟩)⟩
  · rw [e0]; exact Ups.rf hc
  · exfalso; omega
  · exfalso; omega
theorem WVs.cons {n : Int} (hn : n = (lo : Int)) (a : WV na ca0 M0 lo mid h1 ma) (b : WVs na ca0 M0 mid hi (na 21 lo).toInt h2 ma) (hl : lo ≤ mid ∧ mid ≤ hi) : WVs na ca0 M0 lo hi n (max h1 h2) ma := by
  have a0 := a.1
  have b0 := b.1
  refine ⟨by omega, fun RL ca1 ma1 m q x cf cf' hg hc hx h => ?_⟩
  have xi : x.toNatClampNeg = lo := cn_of (by omega)
  rcases iv_mp_measureOne_109 h with ⟨m', (⟨g1, e0⟩ | ⟨g1, z5, g2, (⟨g3, cf9, g4, z18, g5, hQ⟩ | ⟨g3, z19, g4, cf21, g5, z30, g6, hQ⟩)⟩)⟩
  · exfalso; omega
  · rw [xi] at g2 g5
    rw [g2] at g3
    have u1 := a.2 ca1 ma1 cf cf9 (hg.le (Nat.le_refl _) hl.2) hc (fun w => absurd w g3) (fun _ => g4)
    exact u1.tr (b.2 RL ca1 ma1 m' q z18 cf9 cf' (hg.le hl.1 (Nat.le_refl _)) (u1.nn hc) (by rw [g5]) hQ)
  · rw [xi] at g2 g4 g6
    rw [g2] at g3
    rw [g4] at g5
    have u1 := a.2 ca1 ma1 cf cf21 (hg.le (Nat.le_refl _) hl.2) hc (fun _ => g5) (fun w => absurd g3 w)
    exact u1.tr (b.2 RL ca1 ma1 m' q z30 cf21 cf' (hg.le hl.1 (Nat.le_refl _)) (u1.nn hc) (by rw [g6]) hQ)
end SD
/-- fields that statements leave alone -/
def DfS (a b : Nat → Int32) : Prop := ∀ j : Nat, ¬ j = 30 → ¬ j = 31 → ¬ j = 33 → ¬ j = 42 → ¬ j = 48 → ¬ j = 54 → ¬ j = 57 → ¬ j = 58 → b j = a j
theorem DfS.rf {a : Nat → Int32} : DfS a a := fun _ _ _ _ _ _ _ _ _ => rfl
theorem DfS.tr {a b d : Nat → Int32} (h : DfS a b) (g : DfS b d) : DfS a d := fun j h1 h2 h3 h4 h5 h6 h7 h8 => (g j h1 h2 h3 h4 h5 h6 h7 h8).trans (h j h1 h2 h3 h4 h5 h6 h7 h8)
theorem SmK.df {a b : Nat → Int32} (h : SmK a b) : DfS a b := fun j h1 h2 _ _ _ _ _ _ => h j h1 h2
theorem D57.df {a b : Nat → Int32} (h : D57 a b) : DfS a b := fun j h1 h2 _ _ _ _ h7 _ => h j h1 h2 h7
/-- a step over [lo, hi) from the names L: its meaning x; W: the height that it adds -/
def OkZ (k : Nat → Int) (vl : Nat → Int32) (c : Nat) (na ca0 : Nat → Nat → Int32) (n38 : Int32) (M0 : Nat → Int32) (L : Nms) (sc lo hi : Nat) (W : Int → (Nat → Nat → Int32) → Prop) (tp : Bool) (x : Sg → Option Sg) (ma : Nat → Nat → Int32) (cf : Nat → Int32) (ma' : Nat → Nat → Int32) (cf' : Nat → Int32) (ca' : Nat → Nat → Int32) : Prop := ∃ X : Nms, CkS k vl c na ca0 n38 M0 (L ++ X) sc cf' ca' ma' ∧ (L ++ X).length ≤ hi ∧ FrM ma ma' lo hi ∧ DfS cf cf' ∧ (0 ≤ (cf' 42).toInt ∧ (cf' 42).toInt ≤ 5000 * (hi : Int)) ∧ ∀ s : Sg, s.1 = L → AC cf cf' (x s) (fun s' => s'.1 = L ++ X ∧ s'.2.1 = s.2.1 + ((cf' 42).toInt - (cf 42).toInt) ∧ s'.2.2.2 = s.2.2.2 ∧ (tp = false → 0 ≤ s.2.2.1 → ∃ h : Int, s'.2.2.1 = max s.2.2.1 h ∧ 0 ≤ h ∧ W h ma'))
section SE
variable {tf : Nat → Int32} {ta na ca ca0 ca1 ca' ma ma' ma1 : Nat → Nat → Int32} {vl M0 : Nat → Int32} {k : Nat → Int} {ql : Nat → Int} {c sc lo hi mid : Nat} {n38 : Int32} {F : Int32 → Option Fnc} {cf cf' cf1 : Nat → Int32} {L : Nms} {p0 p1 v : Int32} {e : Ast} {tp : Bool} {x f : Sg → Option Sg} {W W1 W2 : Int → (Nat → Nat → Int32) → Prop}
theorem OkZ.seq (a : OkZ k vl c na ca0 n38 M0 L sc lo mid W1 tp x ma cf ma1 cf1 ca1) (b : ∀ X1 : Nms, CkS k vl c na ca0 n38 M0 (L ++ X1) sc cf1 ca1 ma1 → (L ++ X1).length ≤ mid → (0 ≤ (cf1 42).toInt ∧ (cf1 42).toInt ≤ 5000 * (mid : Int)) → OkZ k vl c na ca0 n38 M0 (L ++ X1) sc mid hi W2 tp f ma1 cf1 ma' cf' ca') (hl : lo ≤ mid ∧ mid ≤ hi) (hW : ∀ h1 h2 : Int, 0 ≤ h1 → 0 ≤ h2 → FrM ma1 ma' mid hi → W1 h1 ma1 → W2 h2 ma' → W (max h1 h2) ma') : OkZ k vl c na ca0 n38 M0 L sc lo hi W tp (fun s => (x s).bind f) ma cf ma' cf' ca' := by
  obtain ⟨X1, a1, a2, a3, a4, a5, a6⟩ := a
  obtain ⟨X2, b1, b2, b3, b4, b5, b6⟩ := b X1 a1 a2 a5
  refine ⟨X1 ++ X2, by rw [← List.append_assoc]; exact b1, by rw [← List.append_assoc]; exact b2, (a3.le (Nat.le_refl _) hl.2).tr (b3.le hl.1 (Nat.le_refl _)), a4.tr b4, b5, fun s hs => ?_⟩
  refine AC.bind (a6 s hs) (fun s1 q => ?_) (b6 (L ++ X1, 0, 0, [], false) rfl).1
  obtain ⟨q1, q2, q3, q4⟩ := q
  refine (b6 s1 q1).imp (fun s2 r => ⟨by rw [r.1, List.append_assoc], by rw [r.2.1, q2]; omega, r.2.2.1.trans q3, fun ht h0 => ?_⟩)
  obtain ⟨h1, g1, g2, g3⟩ := q4 ht h0
  obtain ⟨h2, g4, g5, g6⟩ := r.2.2.2 ht (by omega)
  exact ⟨max h1 h2, by rw [g4, g1]; omega, by omega, hW h1 h2 g2 g5 b3 g3 g6⟩
theorem OkZ.mp {x' : Sg → Option Sg} {W' : Int → (Nat → Nat → Int32) → Prop} {lo' hi' : Nat} (a : OkZ k vl c na ca0 n38 M0 L sc lo hi W tp x ma cf ma' cf' ca') (hx : ∀ s : Sg, s.1 = L → x' s = x s) (hW : ∀ h : Int, 0 ≤ h → W h ma' → W' h ma') (h1 : lo' ≤ lo) (h2 : hi ≤ hi') : OkZ k vl c na ca0 n38 M0 L sc lo' hi' W' tp x' ma cf ma' cf' ca' := by
  obtain ⟨X, a1, a2, a3, a4, a5, a6⟩ := a
  refine ⟨X, a1, by omega, a3.le h1 h2, a4, by omega, fun s hs => ?_⟩
  rw [hx s hs]
  refine (a6 s hs).imp (fun s' r => ⟨r.1, r.2.1, r.2.2.1, fun ht h0 => ?_⟩)
  obtain ⟨h, g1, g2, g3⟩ := r.2.2.2 ht h0
  exact ⟨h, g1, g2, hW h g2 g3⟩
/-- nothing is done -/
theorem OkZ.nop (S : CkS k vl c na ca0 n38 M0 L sc cf ca ma) (hL : L.length ≤ hi) (hw : 0 ≤ (cf 42).toInt ∧ (cf 42).toInt ≤ 5000 * (hi : Int)) (hW : tp = false → W 0 ma) : OkZ k vl c na ca0 n38 M0 L sc lo hi W tp (fun s => some s) ma cf ma cf ca := by
  refine ⟨[], by rw [List.append_nil]; exact S, by rw [List.append_nil]; exact hL, FrM.rf, DfS.rf, hw, fun s hs => AC.ret ⟨by rw [List.append_nil]; exact hs, by omega, rfl, fun ht h0 => ⟨0, by omega, Int.le_refl _, hW ht⟩⟩⟩
/-- an expression, its height counts -/
theorem e_t {g : Atr → Option Atr} {N : Atr → Prop} (hg : ∀ a b : Atr, g a = some b → b.2.2.2 = a.2.2.2) (hO : OkE k c na ma e p0.toInt lo hi) (hh : hi ≤ 100000) (hL : L.length ≤ hi) (hw : 0 ≤ (cf 42).toInt ∧ (cf 42).toInt ≤ 5000 * (hi : Int)) (o1 : SmK cf cf') (o2 : FrM ma ma' lo hi) (o3 : AgKr na ma ma' lo hi) (o4 : CkS k vl c na ca0 n38 M0 L sc cf' ca ma') (o5 : AC cf cf' ((att k vl (lkp L) F e [] 0).bind g) N) (o6 : Uc cf' → ∀ d : Nat, NtN na ca0 vl M0 F ma' d p0.toInt) : OkZ k vl c na ca0 n38 M0 L sc lo hi (HtX na ca0 M0 lo hi p0) tp (fun s => semE k vl F g e s) ma cf ma' cf' ca := by
  have e42 : cf' 42 = cf 42 := o1 42 (by decide) (by decide)
  refine ⟨[], by rw [List.append_nil]; exact o4, by rw [List.append_nil]; exact hL, o2, o1.df, by rw [e42]; exact hw, fun s hs => ?_⟩
  have es : semE k vl F g e s = ((att k vl (lkp L) F e [] 0).bind g).bind fun a => some (s.1, s.2.1, max s.2.2.1 a.2.2.2, s.2.2.2) := by unfold semE; rw [hs]
  show AC cf cf' (semE k vl F g e s) _
  rw [es]
  refine AC.of o5.1 (fun u => ?_)
  cases hz : (att k vl (lkp L) F e [] 0).bind g with
  | none => exact Or.inl ⟨rfl, o5.n u hz⟩
  | some b =>
    have w := o5.y u hz
    refine Or.inr ⟨(s.1, s.2.1, max s.2.2.1 b.2.2.2, s.2.2.2), rfl, w.1, by rw [List.append_nil]; exact hs, by rw [e42]; show s.2.1 = _; omega, rfl, fun _ _ => ⟨b.2.2.2, rfl, ?_⟩⟩
    cases ha : att k vl (lkp L) F e [] 0 with
    | none => rw [ha] at hz; exact absurd hz (by simp)
    | some a =>
      rw [ha] at hz
      have hb := hg a b hz
      have y := htx_r hO hh o3 ha (o6 w.1)
      rw [← hb] at y
      exact ⟨y.1.1, y⟩
theorem num_e (a b : Atr) (h : aNum a = some b) : b.2.2.2 = a.2.2.2 := num_h h
theorem eff_e (a b : Atr) (h : aEff a = some b) : b.2.2.2 = a.2.2.2 := by
  unfold aEff at h
  split at h
  · exact absurd h (by simp)
  · injection h with h; rw [h]
theorem nu_t (H : TxH tf ta na ca0 k vl ql c n38 M0 F) (S : CkS k vl c na ca0 n38 M0 L sc cf ca ma) (hO : OkE k c na ma e p0.toInt lo hi) (hh : hi ≤ 100000) (hL : L.length ≤ hi) (hw : 0 ≤ (cf 42).toInt ∧ (cf 42).toInt ≤ 5000 * (hi : Int)) (h : RX_mp_check tf ta na ca p0 (1 : Int32) ma cf ma' cf' v) : OkZ k vl c na ca0 n38 M0 L sc lo hi (HtX na ca0 M0 lo hi p0) tp (fun s => semE k vl F aNum e s) ma cf ma' cf' ca := by
  obtain ⟨o1, o2, o3, o4, o5, o6⟩ := ex_s H S true hh hO (by decide) h
  rw [bd_t] at o5
  exact e_t num_e hO hh hL hw o1 o2 o3 o4 o5 o6
theorem al_t (H : TxH tf ta na ca0 k vl ql c n38 M0 F) (S : CkS k vl c na ca0 n38 M0 L sc cf ca ma) (hO : OkE k c na ma e p0.toInt lo hi) (hh : hi ≤ 100000) (hL : L.length ≤ hi) (hw : 0 ≤ (cf 42).toInt ∧ (cf 42).toInt ≤ 5000 * (hi : Int)) (h : R_mp_checkAlone tf ta na ca p0 ma cf ma' cf') : OkZ k vl c na ca0 n38 M0 L sc lo hi (HtX na ca0 M0 lo hi p0) tp (fun s => semE k vl F aEff e s) ma cf ma' cf' ca := by
  obtain ⟨o1, o2, o3, o4, o5, o6⟩ := al_s H S hh hO h
  exact e_t eff_e hO hh hL hw o1 o2 o3 o4 o5 o6
end SE
