/-! THE REFERENCE's checker: rows of variables (laid by gens3.py) -/
def semAr (k : Nat → Int) (vl : Nat → Int32) (ql : Nat → Int) (G : Int32 → Option Ent) (F : Int32 → Option Fnc) (ch : Bool) (w : Ast) : Option Int := match w with
  | .sub (.arg _) e => semSz k vl G F e
  | .rem (.arg _) (.elem e l) => (semSz k vl G F e).bind fun n => (semKs k vl G F l).bind fun m => if m ≤ n then some n else none
  | .div (.arg _) (.elem e (.arg u)) => (semSz k vl G F e).bind fun n => if ch = true ∧ ql u < n then some n else none
  | _ => none
theorem wds_f {n : Int} : wds false n = n := by simp [wds]
theorem wds_t {n : Int} : wds true n = (n + 3) / 4 := by simp [wds]
theorem dv4 {x y z : Int32} (h1 : y = x + (3 : Int32)) (h2 : z = y / (4 : Int32)) (hx : 0 ≤ x.toInt ∧ x.toInt ≤ 4096) : z.toInt = (x.toInt + 3) / 4 := by
  have a := ti_add h1 rfl (show (3 : Int32).toInt = 3 from rfl) (by omega) (by omega)
  rw [i_div4 h2 (by omega), a]
def D58 (a b : Nat → Int32) : Prop := ∀ j : Nat, ¬ j = 30 → ¬ j = 31 → ¬ j = 57 → ¬ j = 58 → b j = a j
section SC
variable {tf : Nat → Int32} {ta na ca ca0 ma ma' ma1 : Nat → Nat → Int32} {vl M0 : Nat → Int32} {k : Nat → Int} {ql : Nat → Int} {c sc lo hi t : Nat} {n38 : Int32} {F : Int32 → Option Fnc} {cf cf' cf1 cf2 : Nat → Int32} {L : Nms} {p0 p1 v s : Int32} {e : Ast} {ch : Bool} {X : Int}
/-- the size is known, or something is wrong -/
def SzT (k : Nat → Int) (vl : Nat → Int32) (c : Nat) (na ca0 : Nat → Nat → Int32) (n38 : Int32) (M0 : Nat → Int32) (F : Int32 → Option Fnc) (L : Nms) (sc : Nat) (e : Ast) (ca : Nat → Nat → Int32) (cf cf1 : Nat → Int32) (ma1 : Nat → Nat → Int32) (x : Int) : Prop := D57 cf cf1 ∧ CkS k vl c na ca0 n38 M0 L sc cf1 ca ma1 ∧ AC cf cf1 (semSz k vl (lkp L) F e) (fun n => n = x) ∧ (x < 0 → Bc cf1) ∧ (x = -1 ∨ (1 ≤ x ∧ x ≤ 4096))
theorem da_a (o : AC cf cf1 ((att k vl (lkp L) F e [] 0).bind aKon) (fun a => v.toInt = 1 ∧ cf1 57 = a.2.2.1)) (hv : v.toInt = 0) (d : D57 cf cf1) (S : CkS k vl c na ca0 n38 M0 L sc cf1 ca ma1) : SzT k vl c na ca0 n38 M0 F L sc e ca cf cf1 ma1 ((-1 : Int32).toInt) := by
  have n : Uc cf → (att k vl (lkp L) F e [] 0).bind aKon = none := fun u => by
    cases hz : (att k vl (lkp L) F e [] 0).bind aKon with
    | none => rfl
    | some a => have := (o.y u hz).2.1; exfalso; omega
  have B : Bc cf1 := by
    by_cases u : Uc cf
    · exact o.n u (n u)
    · exact o.1 u
  exact ⟨d, S, AC.of (fun _ => B) (fun u => Or.inl ⟨by unfold semSz; rw [n u]; rfl, B⟩), fun _ => B, Or.inl rfl⟩
theorem da_b (o : AC cf cf1 ((att k vl (lkp L) F e [] 0).bind aKon) (fun a => v.toInt = 1 ∧ cf1 57 = a.2.2.1)) (hr : 1 ≤ (cf1 57).toInt ∧ (cf1 57).toInt ≤ 4096) (d : D57 cf cf1) (S : CkS k vl c na ca0 n38 M0 L sc cf1 ca ma1) : SzT k vl c na ca0 n38 M0 F L sc e ca cf cf1 ma1 ((cf1 57).toInt) := by
  refine ⟨d, S, AC.of o.1 (fun u => ?_), fun w => by exfalso; omega, Or.inr hr⟩
  cases hz : (att k vl (lkp L) F e [] 0).bind aKon with
  | none => exact Or.inl ⟨by unfold semSz; rw [hz]; rfl, o.n u hz⟩
  | some a =>
    have w := o.y u hz
    refine Or.inr ⟨(cf1 57).toInt, ?_, w.1, rfl⟩
    unfold semSz
    rw [hz]
    show (if 1 ≤ a.2.2.1.toInt ∧ a.2.2.1.toInt ≤ 4096 then some a.2.2.1.toInt else none) = _
    rw [← w.2.2, if_pos hr]
theorem da_c {x y : Int32} (o : AC cf cf1 ((att k vl (lkp L) F e [] 0).bind aKon) (fun a => v.toInt = 1 ∧ cf1 57 = a.2.2.1)) (hr : ¬ (1 ≤ (cf1 57).toInt ∧ (cf1 57).toInt ≤ 4096)) (d : D57 cf cf1) (S : CkS k vl c na ca0 n38 M0 L sc cf1 ca ma1) (hb : R_mp_bad x y cf1 cf2) (hx : ¬ x.toInt = 0) : SzT k vl c na ca0 n38 M0 F L sc e ca cf cf2 ma1 ((4096 : Int32).toInt) := by
  have bb := bad_r hb hx
  refine ⟨fun j h1 h2 h3 => (bb.2 j h1 h2).trans (d j h1 h2 h3), S.sm (bb.2 33 (by decide) (by decide)) (bb.2 37 (by decide) (by decide)) (bb.2 38 (by decide) (by decide)) S.2.2.2.1, AC.of (fun _ => bb.1) (fun u => Or.inl ⟨?_, bb.1⟩), fun w => absurd w (by decide), Or.inr (by decide)⟩
  cases hz : (att k vl (lkp L) F e [] 0).bind aKon with
  | none => unfold semSz; rw [hz]; rfl
  | some a =>
    have w := o.y u hz
    unfold semSz
    rw [hz]
    show (if 1 ≤ a.2.2.1.toInt ∧ a.2.2.1.toInt ≤ 4096 then some a.2.2.1.toInt else none) = _
    rw [← w.2.2, if_neg hr]
/-- what declareArray gives -/
def DaQ (k : Nat → Int) (vl : Nat → Int32) (c : Nat) (na ca0 : Nat → Nat → Int32) (n38 : Int32) (M0 : Nat → Int32) (F : Int32 → Option Fnc) (ql : Nat → Int) (L : Nms) (sc : Nat) (ch : Bool) (w : Ast) (lo hi : Nat) (v : Int) (ca ma : Nat → Nat → Int32) (cf : Nat → Int32) (ma' : Nat → Nat → Int32) (cf' : Nat → Int32) : Prop := D58 cf cf' ∧ FrM ma ma' (lo + 1) hi ∧ ma' 22 = ma 22 ∧ CkS k vl c na ca0 n38 M0 L sc cf' ca ma' ∧ (0 ≤ v ∧ v ≤ 4096) ∧ AC cf cf' (semAr k vl ql (lkp L) F ch w) (fun n => v = wds ch n)
theorem da_fin {w : Ast} {ma2 : Nat → Nat → Int32} {f : Int → Option Int} {V : Int} (T : SzT k vl c na ca0 n38 M0 F L sc e ca cf cf1 ma1 X) (hw : semAr k vl ql (lkp L) F ch w = (semSz k vl (lkp L) F e).bind f) (fr : FrM ma ma2 (lo + 1) hi) (e22 : ma2 22 = ma 22) (S2 : CkS k vl c na ca0 n38 M0 L sc cf2 ca ma2) (d2 : D57 cf1 cf2) (mo : Bc cf1 → Bc cf2) (g : Uc cf1 → (f X = some X ∧ Uc cf2) ∨ (f X = none ∧ Bc cf2)) (hv : 0 ≤ X → V = wds ch X) (hn : X < 0 → V = 0) : DaQ k vl c na ca0 n38 M0 F ql L sc ch w lo hi V ca ma cf ma2 (upd cf2 58 s) := by
  obtain ⟨t1, t2, t3, t4, t5⟩ := T
  have e30 : (upd cf2 58 s) 30 = cf2 30 := pk_un (by decide)
  have B : Bc cf2 → Bc (upd cf2 58 s) := fun q => by unfold Bc; rw [e30]; exact q
  refine ⟨fun j h1 h2 h3 h4 => by rw [pk_un h4]; exact (d2 j h1 h2 h3).trans (t1 j h1 h2 h3), fr, e22, S2.sm (pk_un (by decide)) (pk_un (by decide)) (pk_un (by decide)) S2.2.2.2.1, ?_, ?_⟩
  · rcases t5 with y | y
    · have := hn (by omega); omega
    · have q := hv (by omega)
      rw [q]
      cases ch with
      | false => rw [wds_f]; omega
      | true => rw [wds_t]; omega
  · rw [hw]
    refine AC.of (fun q => B (mo (t3.1 q))) (fun u => ?_)
    cases hz : semSz k vl (lkp L) F e with
    | none => exact Or.inl ⟨rfl, B (mo (t3.n u hz))⟩
    | some n =>
      obtain ⟨u1, en⟩ := t3.y u hz
      have x0 : 0 ≤ X := by
        by_cases q : X < 0
        · exact absurd u1 (t4 q)
        · omega
      rcases g u1 with ⟨f1, u2⟩ | ⟨f1, b2⟩
      · exact Or.inr ⟨X, (show f n = some X by rw [en]; exact f1), by unfold Uc; rw [e30]; exact u2, hv x0⟩
      · exact Or.inl ⟨(show f n = none by rw [en]; exact f1), B b2⟩
theorem da_row {V : Int} (T : SzT k vl c na ca0 n38 M0 F L sc e ca cf cf1 ma1 X) (fr : FrM ma ma1 (lo + 1) hi) (e22 : ma1 22 = ma 22) (hv : 0 ≤ X → V = wds ch X) (hn : X < 0 → V = 0) : DaQ k vl c na ca0 n38 M0 F ql L sc ch (vRow t e) lo hi V ca ma cf ma1 (upd cf1 58 s) := by
  refine da_fin (f := some) T ?_ fr e22 T.2.1 (fun _ _ _ _ => rfl) id (fun u => Or.inl ⟨rfl, u⟩) hv hn
  show semSz k vl (lkp L) F e = (semSz k vl (lkp L) F e).bind some
  cases semSz k vl (lkp L) F e <;> rfl
theorem da_str {V : Int} {u : Nat} (T : SzT k vl c na ca0 n38 M0 F L sc e ca cf cf1 ma1 X) (fr : FrM ma ma1 (lo + 1) hi) (e22 : ma1 22 = ma 22) (sm : SmK cf1 cf2) (mo : Bc cf1 → Bc cf2) (g : Uc cf1 → ((ch = true ∧ ql u < X) ∧ Uc cf2) ∨ (¬ (ch = true ∧ ql u < X) ∧ Bc cf2)) (hv : 0 ≤ X → V = wds ch X) (hn : X < 0 → V = 0) : DaQ k vl c na ca0 n38 M0 F ql L sc ch (vStr t e u) lo hi V ca ma cf ma1 (upd cf2 58 s) := by
  refine da_fin (f := fun n => if ch = true ∧ ql u < n then some n else none) T rfl fr e22 (T.2.1.sm (sm 33 (by decide) (by decide)) (sm 37 (by decide) (by decide)) (sm 38 (by decide) (by decide)) T.2.1.2.2.2.1) (fun j h1 h2 _ => sm j h1 h2) mo (fun y => ?_) hv hn
  rcases g y with ⟨g1, g2⟩ | ⟨g1, g2⟩
  · exact Or.inl ⟨if_pos g1, g2⟩
  · exact Or.inr ⟨if_neg g1, g2⟩
/-- the length of a string, and its end -/
theorem str_l {u : Nat} {z1 z2 z3 : Int32} (H : TxH tf ta na ca0 k vl ql c n38 M0 F) (hp : p0.toInt = (lo : Int)) (hu : (ma 19 lo).toInt = (u : Int) ∧ u < c ∧ k u = 18) {m : Nat} (fr : FrM ma ma1 (lo + 1) m) (h1 : z1 = ma1 19 p0.toNatClampNeg) (h2 : z2 = ta 10 z1.toNatClampNeg) (h3 : z3 = z2 + (1 : Int32)) : z3.toInt = ql u + 1 := by
  rw [cn_of hp, fr 19 lo (by omega)] at h1
  have e1 : z1.toNatClampNeg = u := cn_of (by rw [h1]; exact hu.1)
  rw [e1] at h2
  obtain ⟨q1, q2, q3⟩ := H.2.2.2.2.2.2.2 u hu.2.1 hu.2.2
  exact ti_add h3 (show z2.toInt = ql u by rw [h2]; exact q1) (show (1 : Int32).toInt = 1 from rfl) (by omega) (by omega)
/-- the row of values -/
theorem da_73 {x3 : Int32} (H : TxH tf ta na ca0 k vl ql c n38 M0 F) (hc0 : p1.toInt = 0 → ch = false) (hc1 : ¬ p1.toInt = 0 → ch = true) (hx3 : x3.toInt = -1 ∨ (1 ≤ x3.toInt ∧ x3.toInt ≤ 4096)) : ∀ (l : Ast) (m : Nat) (x4 x5 : Int32) (lo hi n0 : Nat) (ma : Nat → Nat → Int32) (cf : Nat → Int32), E_mp_declareArray tf ta na ca p0 p1 ma' cf' v m 73 [x3, x4, x5] [] [] [] [] ma cf → isRw l = true → Rep k c na ma l false x5.toInt 0 lo hi → hi ≤ 100000 → CkS k vl c na ca0 n38 M0 L sc cf ca ma → x4.toInt = (n0 : Int) → n0 ≤ lo → lo ≤ hi → (x3.toInt < 0 → Bc cf) →
    ∃ (cf2 : Nat → Int32) (s : Int32), cf' = upd cf2 58 s ∧ D57 cf cf2 ∧ FrM ma ma' lo hi ∧ ma' 22 = ma 22 ∧ CkS k vl c na ca0 n38 M0 L sc cf2 ca ma' ∧ (Bc cf → Bc cf2) ∧ (Uc cf → (∃ q : Int, semKs k vl (lkp L) F l = some q ∧ (n0 : Int) + q ≤ x3.toInt ∧ Uc cf2) ∨ ((∀ q : Int, semKs k vl (lkp L) F l = some q → ¬ (n0 : Int) + q ≤ x3.toInt) ∧ Bc cf2)) ∧ (0 ≤ x3.toInt → v.toInt = wds ch x3.toInt) ∧ (x3.toInt < 0 → v.toInt = 0) := by
  intro l
  induction l with
  | null =>
    intro m x4 x5 lo hi n0 ma cf h _ hR hh S hx4 hn hlo hB
    have hneg : x5.toInt < 0 := by unfold Rep at hR; exact hR
    have ks : semKs k vl (lkp L) F .null = some 0 := by first | rfl | simp [semKs]
    rcases iv_mp_declareArray_73 h with ⟨m', (⟨h1, (⟨h2, (⟨h3, (⟨h4, e0, e1, ev⟩ | ⟨h4, z9, h5, z10, h6, e0, e1, ev⟩)⟩ | ⟨h3, (⟨h4, e0, e1, ev⟩ | ⟨h4, z13, h5, z14, h6, e0, e1, ev⟩)⟩)⟩ | ⟨h2, (⟨h3, (⟨h4, (⟨h5, e0, e1, ev⟩ | ⟨h5, z21, h6, z22, h7, e0, e1, ev⟩)⟩ | ⟨h4, (⟨h5, e0, e1, ev⟩ | ⟨h5, z25, h6, z26, h7, e0, e1, ev⟩)⟩)⟩ | ⟨h3, z27, h4, cf29, h5, (⟨h6, (⟨h7, e0, e1, ev⟩ | ⟨h7, z56, h8, z57, h9, e0, e1, ev⟩)⟩ | ⟨h6, (⟨h7, e0, e1, ev⟩ | ⟨h7, z60, h8, z61, h9, e0, e1, ev⟩)⟩)⟩)⟩)⟩ | ⟨h1, ma66, cf67, v69, h2, z82, h3, z83, h4, hQ⟩)⟩
    · exfalso; omega
    · exfalso; omega
    · rw [e0, e1, ev]
      exact ⟨cf, 0, rfl, fun _ _ _ _ => rfl, FrM.rf, rfl, S, id, fun u => absurd u (hB h2), fun w => by exfalso; omega, fun _ => rfl⟩
    · rw [e0, e1, ev]
      exact ⟨cf, 0, rfl, fun _ _ _ _ => rfl, FrM.rf, rfl, S, id, fun u => absurd u (hB h2), fun w => by exfalso; omega, fun _ => by rw [dv4 h5 h6 (by decide)]; rfl⟩
    · rw [e0, e1, ev]
      exact ⟨cf, x3, rfl, fun _ _ _ _ => rfl, FrM.rf, rfl, S, id, fun u => Or.inl ⟨0, ks, by omega, u⟩, fun _ => by rw [hc0 h5, wds_f], fun w => by exfalso; omega⟩
    · rw [e0, e1, ev]
      exact ⟨cf, x3, rfl, fun _ _ _ _ => rfl, FrM.rf, rfl, S, id, fun u => Or.inl ⟨0, ks, by omega, u⟩, fun _ => by rw [hc1 h5, wds_t]; exact dv4 h6 h7 (by omega), fun w => by exfalso; omega⟩
    · exfalso; omega
    · exfalso; omega
    · have bb := bad_r h5 (by decide)
      rw [e0, e1, ev]
      exact ⟨_, x3, rfl, fun j h1 h2 _ => bb.2 j h1 h2, FrM.rf, rfl, S.sm (bb.2 33 (by decide) (by decide)) (bb.2 37 (by decide) (by decide)) (bb.2 38 (by decide) (by decide)) S.2.2.2.1, fun _ => bb.1, fun _ => Or.inr ⟨fun q hq => by rw [ks] at hq; injection hq with hq; omega, bb.1⟩, fun _ => by rw [hc0 h7, wds_f], fun w => by exfalso; omega⟩
    · have bb := bad_r h5 (by decide)
      rw [e0, e1, ev]
      exact ⟨_, x3, rfl, fun j h1 h2 _ => bb.2 j h1 h2, FrM.rf, rfl, S.sm (bb.2 33 (by decide) (by decide)) (bb.2 37 (by decide) (by decide)) (bb.2 38 (by decide) (by decide)) S.2.2.2.1, fun _ => bb.1, fun _ => Or.inr ⟨fun q hq => by rw [ks] at hq; injection hq with hq; omega, bb.1⟩, fun _ => by rw [hc1 h7, wds_t]; exact dv4 h8 h9 (by omega), fun w => by exfalso; omega⟩
    · exfalso; omega
    · exfalso; omega
    · exfalso; omega
  | add e r ihe ihr =>
    intro m x4 x5 lo hi n0 ma cf h _ hR hh S hx4 hn hlo hB
    unfold Rep at hR
    obtain ⟨i, mid, r1, r2, rq, r3, r4⟩ := hR
    rcases iv_mp_declareArray_73 h with ⟨m', (⟨h1, (⟨h2, (⟨h3, (⟨h4, e0, e1, ev⟩ | ⟨h4, z9, h5, z10, h6, e0, e1, ev⟩)⟩ | ⟨h3, (⟨h4, e0, e1, ev⟩ | ⟨h4, z13, h5, z14, h6, e0, e1, ev⟩)⟩)⟩ | ⟨h2, (⟨h3, (⟨h4, (⟨h5, e0, e1, ev⟩ | ⟨h5, z21, h6, z22, h7, e0, e1, ev⟩)⟩ | ⟨h4, (⟨h5, e0, e1, ev⟩ | ⟨h5, z25, h6, z26, h7, e0, e1, ev⟩)⟩)⟩ | ⟨h3, z27, h4, cf29, h5, (⟨h6, (⟨h7, e0, e1, ev⟩ | ⟨h7, z56, h8, z57, h9, e0, e1, ev⟩)⟩ | ⟨h6, (⟨h7, e0, e1, ev⟩ | ⟨h7, z60, h8, z61, h9, e0, e1, ev⟩)⟩)⟩)⟩)⟩ | ⟨h1, ma66, cf67, v69, h2, z82, h3, z83, h4, hQ⟩)⟩
    · exfalso; omega
    · exfalso; omega
    · exfalso; omega
    · exfalso; omega
    · exfalso; omega
    · exfalso; omega
    · exfalso; omega
    · exfalso; omega
    · exfalso; omega
    · exfalso; omega
    · exfalso; omega
    · exfalso; omega
    · obtain ⟨o1, o2, o3, o4, o5⟩ := kn_s (hi := mid) H S (by omega) ⟨rq.1, r3, i, r1, r2.1, r2.2.1⟩ h2
      have z1 := ti_add h3 hx4 (show (1 : Int32).toInt = 1 from rfl) (by omega) (by omega)
      rw [cn_of r1] at h4
      have ks : semKs k vl (lkp L) F (.add e r) = ((att k vl (lkp L) F e [] 0).bind aKon).bind fun _ => (semKs k vl (lkp L) F r).bind fun n => some (n + 1) := by first | rfl | simp [semKs]
      obtain ⟨cf2, s, g1, g2, g3, g4, g5, g6, g7, g8, g9⟩ := ihr m' z82 z83 mid hi (n0 + 1) ma66 cf67 hQ rq.2 (by rw [h4]; exact rep_kp _ _ _ _ _ _ r4 (fun _ => (FrM.ag o2 (Or.inr (Nat.le_refl _)) : AgF na ma na ma66 mid hi (-1)).rt (Or.inl (by omega))) (fun z => absurd z (by decide))) hh o4 (by omega) (by omega) (by omega) (fun w => o5.1 (hB w))
      refine ⟨cf2, s, g1, fun j h1 h2 h3 => (g2 j h1 h2 h3).trans (o1 j h1 h2 h3), (o2.le (Nat.le_refl _) r2.2.2).tr (g3.le (by omega) (Nat.le_refl _)), g4.trans o3, g5, fun q => g6 (o5.1 q), fun u => ?_, g8, g9⟩
      rw [ks]
      cases hz : (att k vl (lkp L) F e [] 0).bind aKon with
      | none => exact Or.inr ⟨fun q hq => absurd hq (by simp), g6 (o5.n u hz)⟩
      | some a =>
        have u1 := (o5.y u hz).1
        rcases g7 u1 with ⟨q, q1, q2, q3⟩ | ⟨q1, q2⟩
        · exact Or.inl ⟨q + 1, by rw [q1]; rfl, by omega, q3⟩
        · refine Or.inr ⟨fun q hq => ?_, q2⟩
          cases hy : semKs k vl (lkp L) F r with
          | none => rw [hy] at hq; exact absurd hq (by simp)
          | some y =>
            rw [hy] at hq
            have hq' : some (y + 1) = some q := hq
            injection hq' with hq'
            have := q1 y hy
            omega
  | _ => intro m x4 x5 lo hi n0 ma cf h hw; exact absurd hw Bool.false_ne_true
theorem da_lst {V : Int} {l : Ast} {ma2 : Nat → Nat → Int32} (T : SzT k vl c na ca0 n38 M0 F L sc e ca cf cf1 ma1 X) (fr : FrM ma ma2 (lo + 1) hi) (e22 : ma2 22 = ma 22) (S2 : CkS k vl c na ca0 n38 M0 L sc cf2 ca ma2) (d2 : D57 cf1 cf2) (mo : Bc cf1 → Bc cf2) (g : Uc cf1 → (∃ q : Int, semKs k vl (lkp L) F l = some q ∧ ((0 : Nat) : Int) + q ≤ X ∧ Uc cf2) ∨ ((∀ q : Int, semKs k vl (lkp L) F l = some q → ¬ ((0 : Nat) : Int) + q ≤ X) ∧ Bc cf2)) (hv : 0 ≤ X → V = wds ch X) (hn : X < 0 → V = 0) : DaQ k vl c na ca0 n38 M0 F ql L sc ch (vList t e l) lo hi V ca ma cf ma2 (upd cf2 58 s) := by
  refine da_fin (f := fun n => (semKs k vl (lkp L) F l).bind fun m => if m ≤ n then some n else none) T rfl fr e22 S2 d2 mo (fun y => ?_) hv hn
  rcases g y with ⟨q, q1, q2, q3⟩ | ⟨q1, q2⟩
  · refine Or.inl ⟨?_, q3⟩
    show (semKs k vl (lkp L) F l).bind (fun m => if m ≤ X then some X else none) = some X
    rw [q1]
    show (if q ≤ X then some X else none) = some X
    exact if_pos (by omega)
  · refine Or.inr ⟨?_, q2⟩
    show (semKs k vl (lkp L) F l).bind (fun m => if m ≤ X then some X else none) = none
    cases hy : semKs k vl (lkp L) F l with
    | none => rfl
    | some q =>
      have := q1 q hy
      show (if q ≤ X then some X else none) = none
      exact if_neg (by omega)
/-- a row of variables, or of a string's letters -/
theorem da_r {w : Ast} {m : Nat} {O : Int} (H : TxH tf ta na ca0 k vl ql c n38 M0 F) (S : CkS k vl c na ca0 n38 M0 L sc cf ca ma) (hh : hi ≤ 100000) (hp : p0.toInt = (lo : Int)) (hc0 : p1.toInt = 0 → ch = false) (hc1 : ¬ p1.toInt = 0 → ch = true) (hO : (ma 22 lo).toInt = O) (hE : OkE k c na ma e (na 17 lo).toInt (lo + 1) m) (hm : m ≤ hi) (sR : O = 0 → w = vRow t e) (sS : O = 3 → ∃ u : Nat, w = vStr t e u ∧ ((ma 19 lo).toInt = (u : Int) ∧ u < c ∧ k u = 18)) (sL : O = 2 → ∃ l : Ast, w = vList t e l ∧ isRw l = true ∧ Rep k c na ma l false (ma 18 lo).toInt 0 m hi) (hOk : O = 0 ∨ O = 2 ∨ O = 3) (h : R_mp_declareArray tf ta na ca p0 p1 ma cf ma' cf' v) : DaQ k vl c na ca0 n38 M0 F ql L sc ch w lo hi v.toInt ca ma cf ma' cf' := by
  obtain ⟨m0, h⟩ := h
  have lem := oke_le hE
  rcases iv_mp_declareArray_0 h with ⟨m', z84, h1, ma87, cf88, v90, h2, (⟨h3, z105, h4, (⟨h5, z108, h6, (⟨h7, (⟨h8, e0, e1, ev⟩ | ⟨h8, z114, h9, z115, h10, e0, e1, ev⟩)⟩ | ⟨h7, z116, h8, z117, h9, z118, h10, (⟨h11, z121, h12, cf123, h13, (⟨h14, e0, e1, ev⟩ | ⟨h14, z149, h15, z150, h16, e0, e1, ev⟩)⟩ | ⟨h11, (⟨h12, e0, e1, ev⟩ | ⟨h12, z155, h13, z156, h14, e0, e1, ev⟩)⟩)⟩)⟩ | ⟨h5, z157, h6, hQ⟩)⟩ | ⟨h3, (⟨h4, z160, h5, v162, h6, cf167, h7, z190, h8, (⟨h9, z193, h10, (⟨h11, (⟨h12, e0, e1, ev⟩ | ⟨h12, z199, h13, z200, h14, e0, e1, ev⟩)⟩ | ⟨h11, z201, h12, z202, h13, z203, h14, (⟨h15, z206, h16, cf208, h17, (⟨h18, e0, e1, ev⟩ | ⟨h18, z234, h19, z235, h20, e0, e1, ev⟩)⟩ | ⟨h15, (⟨h16, (⟨h17, e0, e1, ev⟩ | ⟨h17, z242, h18, z243, h19, e0, e1, ev⟩)⟩ | ⟨h16, z244, h17, cf246, h18, (⟨h19, e0, e1, ev⟩ | ⟨h19, z272, h20, z273, h21, e0, e1, ev⟩)⟩)⟩)⟩)⟩ | ⟨h9, z274, h10, hQ⟩)⟩ | ⟨h4, (⟨h5, z277, h6, (⟨h7, z280, h8, (⟨h9, (⟨h10, (⟨h11, e0, e1, ev⟩ | ⟨h11, z288, h12, z289, h13, e0, e1, ev⟩)⟩ | ⟨h10, (⟨h11, e0, e1, ev⟩ | ⟨h11, z292, h12, z293, h13, e0, e1, ev⟩)⟩)⟩ | ⟨h9, z294, h10, z295, h11, z296, h12, (⟨h13, z299, h14, cf301, h15, (⟨h16, (⟨h17, e0, e1, ev⟩ | ⟨h17, z329, h18, z330, h19, e0, e1, ev⟩)⟩ | ⟨h16, (⟨h17, e0, e1, ev⟩ | ⟨h17, z333, h18, z334, h19, e0, e1, ev⟩)⟩)⟩ | ⟨h13, (⟨h14, (⟨h15, (⟨h16, e0, e1, ev⟩ | ⟨h16, z342, h17, z343, h18, e0, e1, ev⟩)⟩ | ⟨h15, (⟨h16, e0, e1, ev⟩ | ⟨h16, z346, h17, z347, h18, e0, e1, ev⟩)⟩)⟩ | ⟨h14, (⟨h15, (⟨h16, (⟨h17, e0, e1, ev⟩ | ⟨h17, z355, h18, z356, h19, e0, e1, ev⟩)⟩ | ⟨h16, (⟨h17, e0, e1, ev⟩ | ⟨h17, z359, h18, z360, h19, e0, e1, ev⟩)⟩)⟩ | ⟨h15, z361, h16, cf363, h17, (⟨h18, (⟨h19, e0, e1, ev⟩ | ⟨h19, z391, h20, z392, h21, e0, e1, ev⟩)⟩ | ⟨h18, (⟨h19, e0, e1, ev⟩ | ⟨h19, z395, h20, z396, h21, e0, e1, ev⟩)⟩)⟩)⟩)⟩)⟩)⟩ | ⟨h7, z397, h8, hQ⟩)⟩ | ⟨h5, z398, h6, v400, h7, cf405, h8, z428, h9, (⟨h10, z431, h11, (⟨h12, (⟨h13, e0, e1, ev⟩ | ⟨h13, z437, h14, z438, h15, e0, e1, ev⟩)⟩ | ⟨h12, z439, h13, z440, h14, z441, h15, (⟨h16, z444, h17, cf446, h18, (⟨h19, e0, e1, ev⟩ | ⟨h19, z472, h20, z473, h21, e0, e1, ev⟩)⟩ | ⟨h16, (⟨h17, (⟨h18, e0, e1, ev⟩ | ⟨h18, z480, h19, z481, h20, e0, e1, ev⟩)⟩ | ⟨h17, z482, h18, cf484, h19, (⟨h20, e0, e1, ev⟩ | ⟨h20, z510, h21, z511, h22, e0, e1, ev⟩)⟩)⟩)⟩)⟩ | ⟨h10, z512, h11, hQ⟩)⟩)⟩)⟩)⟩
  · obtain ⟨o1, o2, o3, o4, o5⟩ := kn_s (hi := m) H S (by omega) (by rw [h1, cn_of hp]; exact hE) h2
    have T := da_a o5 h3 o1 o4
    have y4 : z105.toInt = O := by rw [h4, cn_of hp, o3]; exact hO
    have y6 : z108.toInt = O := by rw [h6, cn_of hp, o3]; exact hO
    rw [sR (by omega), e0, e1, ev]
    exact da_row T (o2.le (Nat.le_refl _) hm) o3 (fun w => absurd w (by decide)) (fun _ => rfl)
  · obtain ⟨o1, o2, o3, o4, o5⟩ := kn_s (hi := m) H S (by omega) (by rw [h1, cn_of hp]; exact hE) h2
    have T := da_a o5 h3 o1 o4
    have y4 : z105.toInt = O := by rw [h4, cn_of hp, o3]; exact hO
    have y6 : z108.toInt = O := by rw [h6, cn_of hp, o3]; exact hO
    rw [sR (by omega), e0, e1, ev]
    exact da_row T (o2.le (Nat.le_refl _) hm) o3 (fun w => absurd w (by decide)) (fun _ => by rw [dv4 h9 h10 (by decide)]; rfl)
  · obtain ⟨o1, o2, o3, o4, o5⟩ := kn_s (hi := m) H S (by omega) (by rw [h1, cn_of hp]; exact hE) h2
    have T := da_a o5 h3 o1 o4
    have y4 : z105.toInt = O := by rw [h4, cn_of hp, o3]; exact hO
    have y6 : z108.toInt = O := by rw [h6, cn_of hp, o3]; exact hO
    obtain ⟨u, hw, hu⟩ := sS (by omega)
    have SL := str_l H hp hu o2 h8 h9 h10
    rw [hw, e0, e1, ev]
    exact da_str T (o2.le (Nat.le_refl _) hm) o3 (bad_r h13 (by decide)).2 (fun _ => (bad_r h13 (by decide)).1) (fun _ => Or.inr ⟨fun w => by rw [hc0 h11] at w; exact absurd w.1 (by decide), (bad_r h13 (by decide)).1⟩) (fun w => absurd w (by decide)) (fun _ => rfl)
  · exfalso; omega
  · exfalso; omega
  · obtain ⟨o1, o2, o3, o4, o5⟩ := kn_s (hi := m) H S (by omega) (by rw [h1, cn_of hp]; exact hE) h2
    have T := da_a o5 h3 o1 o4
    have y4 : z105.toInt = O := by rw [h4, cn_of hp, o3]; exact hO
    have y6 : z108.toInt = O := by rw [h6, cn_of hp, o3]; exact hO
    obtain ⟨u, hw, hu⟩ := sS (by omega)
    have SL := str_l H hp hu o2 h8 h9 h10
    rw [hw, e0, e1, ev]
    exact da_str T (o2.le (Nat.le_refl _) hm) o3 SmK.rf id (fun y => absurd y (T.2.2.2.1 (by decide))) (fun w => absurd w (by decide)) (fun _ => by rw [dv4 h13 h14 (by decide)]; rfl)
  · obtain ⟨o1, o2, o3, o4, o5⟩ := kn_s (hi := m) H S (by omega) (by rw [h1, cn_of hp]; exact hE) h2
    have T := da_a o5 h3 o1 o4
    have y4 : z105.toInt = O := by rw [h4, cn_of hp, o3]; exact hO
    obtain ⟨l, hw, hr, hl⟩ := sL (by omega)
    obtain ⟨cf2, s, g1, g2, g3, g4, g5, g6, g7, g8, g9⟩ := da_73 (x3 := (-1 : Int32)) (p0 := p0) (ma' := ma') (v := v) H hc0 hc1 T.2.2.2.2 l m' (0 : Int32) z157 m hi 0 ma87 cf88 hQ hr (by rw [h6, cn_of hp, o2 18 lo (by omega)]; exact rep_kp _ _ _ _ _ _ hl (fun _ => (FrM.ag o2 (Or.inr (Nat.le_refl _)) : AgF na ma na ma87 m hi (-1)).rt (Or.inl (by omega))) (fun z => absurd z (by decide))) hh T.2.1 rfl (by omega) hm T.2.2.2.1
    rw [hw, g1]
    exact da_lst T ((o2.le (Nat.le_refl _) hm).tr (g3.le (by omega) (Nat.le_refl _))) (g4.trans o3) g5 g2 g6 g7 g8 g9
  · obtain ⟨o1, o2, o3, o4, o5⟩ := kn_s (hi := m) H S (by omega) (by rw [h1, cn_of hp]; exact hE) h2
    have T := da_c o5 (by omega) o1 o4 h7 (by decide)
    have y8 : z190.toInt = O := by rw [h8, cn_of hp, o3]; exact hO
    have y10 : z193.toInt = O := by rw [h10, cn_of hp, o3]; exact hO
    rw [sR (by omega), e0, e1, ev]
    exact da_row T (o2.le (Nat.le_refl _) hm) o3 (fun _ => by rw [hc0 h12, wds_f]) (fun w => absurd w (by decide))
  · obtain ⟨o1, o2, o3, o4, o5⟩ := kn_s (hi := m) H S (by omega) (by rw [h1, cn_of hp]; exact hE) h2
    have T := da_c o5 (by omega) o1 o4 h7 (by decide)
    have y8 : z190.toInt = O := by rw [h8, cn_of hp, o3]; exact hO
    have y10 : z193.toInt = O := by rw [h10, cn_of hp, o3]; exact hO
    rw [sR (by omega), e0, e1, ev]
    exact da_row T (o2.le (Nat.le_refl _) hm) o3 (fun _ => by rw [hc1 h12, wds_t]; exact dv4 h13 h14 (by decide)) (fun w => absurd w (by decide))
  · obtain ⟨o1, o2, o3, o4, o5⟩ := kn_s (hi := m) H S (by omega) (by rw [h1, cn_of hp]; exact hE) h2
    have T := da_c o5 (by omega) o1 o4 h7 (by decide)
    have y8 : z190.toInt = O := by rw [h8, cn_of hp, o3]; exact hO
    have y10 : z193.toInt = O := by rw [h10, cn_of hp, o3]; exact hO
    obtain ⟨u, hw, hu⟩ := sS (by omega)
    have SL := str_l H hp hu o2 h12 h13 h14
    rw [hw, e0, e1, ev]
    exact da_str T (o2.le (Nat.le_refl _) hm) o3 (bad_r h17 (by decide)).2 (fun _ => (bad_r h17 (by decide)).1) (fun _ => Or.inr ⟨fun w => by rw [hc0 h15] at w; exact absurd w.1 (by decide), (bad_r h17 (by decide)).1⟩) (fun _ => by rw [hc0 h15, wds_f]) (fun w => absurd w (by decide))
  · exfalso; omega
  · exfalso; omega
  · obtain ⟨o1, o2, o3, o4, o5⟩ := kn_s (hi := m) H S (by omega) (by rw [h1, cn_of hp]; exact hE) h2
    have T := da_c o5 (by omega) o1 o4 h7 (by decide)
    have y8 : z190.toInt = O := by rw [h8, cn_of hp, o3]; exact hO
    have y10 : z193.toInt = O := by rw [h10, cn_of hp, o3]; exact hO
    obtain ⟨u, hw, hu⟩ := sS (by omega)
    have SL := str_l H hp hu o2 h12 h13 h14
    rw [hw, e0, e1, ev]
    exact da_str T (o2.le (Nat.le_refl _) hm) o3 SmK.rf id (fun y => Or.inl ⟨⟨hc1 h15, by have q4 : (4096 : Int32).toInt = 4096 := rfl; omega⟩, y⟩) (fun _ => by rw [hc1 h15, wds_t]; exact dv4 h18 h19 (by decide)) (fun w => absurd w (by decide))
  · exfalso; omega
  · obtain ⟨o1, o2, o3, o4, o5⟩ := kn_s (hi := m) H S (by omega) (by rw [h1, cn_of hp]; exact hE) h2
    have T := da_c o5 (by omega) o1 o4 h7 (by decide)
    have y8 : z190.toInt = O := by rw [h8, cn_of hp, o3]; exact hO
    have y10 : z193.toInt = O := by rw [h10, cn_of hp, o3]; exact hO
    obtain ⟨u, hw, hu⟩ := sS (by omega)
    have SL := str_l H hp hu o2 h12 h13 h14
    rw [hw, e0, e1, ev]
    exact da_str T (o2.le (Nat.le_refl _) hm) o3 (bad_r h18 (by decide)).2 (fun _ => (bad_r h18 (by decide)).1) (fun _ => Or.inr ⟨fun w => by have := w.2; have q4 : (4096 : Int32).toInt = 4096 := rfl; omega, (bad_r h18 (by decide)).1⟩) (fun _ => by rw [hc1 h15, wds_t]; exact dv4 h20 h21 (by decide)) (fun w => absurd w (by decide))
  · obtain ⟨o1, o2, o3, o4, o5⟩ := kn_s (hi := m) H S (by omega) (by rw [h1, cn_of hp]; exact hE) h2
    have T := da_c o5 (by omega) o1 o4 h7 (by decide)
    have y8 : z190.toInt = O := by rw [h8, cn_of hp, o3]; exact hO
    obtain ⟨l, hw, hr, hl⟩ := sL (by omega)
    obtain ⟨cf2, s, g1, g2, g3, g4, g5, g6, g7, g8, g9⟩ := da_73 (x3 := (4096 : Int32)) (p0 := p0) (ma' := ma') (v := v) H hc0 hc1 T.2.2.2.2 l m' (0 : Int32) z274 m hi 0 ma87 cf167 hQ hr (by rw [h10, cn_of hp, o2 18 lo (by omega)]; exact rep_kp _ _ _ _ _ _ hl (fun _ => (FrM.ag o2 (Or.inr (Nat.le_refl _)) : AgF na ma na ma87 m hi (-1)).rt (Or.inl (by omega))) (fun z => absurd z (by decide))) hh T.2.1 rfl (by omega) hm T.2.2.2.1
    rw [hw, g1]
    exact da_lst T ((o2.le (Nat.le_refl _) hm).tr (g3.le (by omega) (Nat.le_refl _))) (g4.trans o3) g5 g2 g6 g7 g8 g9
  · obtain ⟨o1, o2, o3, o4, o5⟩ := kn_s (hi := m) H S (by omega) (by rw [h1, cn_of hp]; exact hE) h2
    have T := da_b o5 ⟨by omega, h5⟩ o1 o4
    have y6 : z277.toInt = O := by rw [h6, cn_of hp, o3]; exact hO
    have y8 : z280.toInt = O := by rw [h8, cn_of hp, o3]; exact hO
    rw [sR (by omega), e0, e1, ev]
    exact da_row T (o2.le (Nat.le_refl _) hm) o3 (fun _ => by rw [hc0 h11, wds_f]) (fun w => by exfalso; omega)
  · obtain ⟨o1, o2, o3, o4, o5⟩ := kn_s (hi := m) H S (by omega) (by rw [h1, cn_of hp]; exact hE) h2
    have T := da_b o5 ⟨by omega, h5⟩ o1 o4
    have y6 : z277.toInt = O := by rw [h6, cn_of hp, o3]; exact hO
    have y8 : z280.toInt = O := by rw [h8, cn_of hp, o3]; exact hO
    rw [sR (by omega), e0, e1, ev]
    exact da_row T (o2.le (Nat.le_refl _) hm) o3 (fun _ => by rw [hc1 h11, wds_t]; exact dv4 h12 h13 ⟨by omega, by omega⟩) (fun w => by exfalso; omega)
  · exfalso; omega
  · exfalso; omega
  · obtain ⟨o1, o2, o3, o4, o5⟩ := kn_s (hi := m) H S (by omega) (by rw [h1, cn_of hp]; exact hE) h2
    have T := da_b o5 ⟨by omega, h5⟩ o1 o4
    have y6 : z277.toInt = O := by rw [h6, cn_of hp, o3]; exact hO
    have y8 : z280.toInt = O := by rw [h8, cn_of hp, o3]; exact hO
    obtain ⟨u, hw, hu⟩ := sS (by omega)
    have SL := str_l H hp hu o2 h10 h11 h12
    rw [hw, e0, e1, ev]
    exact da_str T (o2.le (Nat.le_refl _) hm) o3 (bad_r h15 (by decide)).2 (fun _ => (bad_r h15 (by decide)).1) (fun _ => Or.inr ⟨fun w => by rw [hc0 h13] at w; exact absurd w.1 (by decide), (bad_r h15 (by decide)).1⟩) (fun _ => by rw [hc0 h13, wds_f]) (fun w => by exfalso; omega)
  · exfalso; omega
  · exfalso; omega
  · exfalso; omega
  · exfalso; omega
  · exfalso; omega
  · exfalso; omega
  · exfalso; omega
  · exfalso; omega
  · obtain ⟨o1, o2, o3, o4, o5⟩ := kn_s (hi := m) H S (by omega) (by rw [h1, cn_of hp]; exact hE) h2
    have T := da_b o5 ⟨by omega, h5⟩ o1 o4
    have y6 : z277.toInt = O := by rw [h6, cn_of hp, o3]; exact hO
    have y8 : z280.toInt = O := by rw [h8, cn_of hp, o3]; exact hO
    obtain ⟨u, hw, hu⟩ := sS (by omega)
    have SL := str_l H hp hu o2 h10 h11 h12
    rw [hw, e0, e1, ev]
    exact da_str T (o2.le (Nat.le_refl _) hm) o3 SmK.rf id (fun y => Or.inl ⟨⟨hc1 h13, by omega⟩, y⟩) (fun _ => by rw [hc1 h13, wds_t]; exact dv4 h18 h19 ⟨by omega, by omega⟩) (fun w => by exfalso; omega)
  · exfalso; omega
  · exfalso; omega
  · exfalso; omega
  · obtain ⟨o1, o2, o3, o4, o5⟩ := kn_s (hi := m) H S (by omega) (by rw [h1, cn_of hp]; exact hE) h2
    have T := da_b o5 ⟨by omega, h5⟩ o1 o4
    have y6 : z277.toInt = O := by rw [h6, cn_of hp, o3]; exact hO
    have y8 : z280.toInt = O := by rw [h8, cn_of hp, o3]; exact hO
    obtain ⟨u, hw, hu⟩ := sS (by omega)
    have SL := str_l H hp hu o2 h10 h11 h12
    rw [hw, e0, e1, ev]
    exact da_str T (o2.le (Nat.le_refl _) hm) o3 (bad_r h17 (by decide)).2 (fun _ => (bad_r h17 (by decide)).1) (fun _ => Or.inr ⟨fun w => by have := w.2; skip; omega, (bad_r h17 (by decide)).1⟩) (fun _ => by rw [hc1 h13, wds_t]; exact dv4 h20 h21 ⟨by omega, by omega⟩) (fun w => by exfalso; omega)
  · exfalso; omega
  · exfalso; omega
  · obtain ⟨o1, o2, o3, o4, o5⟩ := kn_s (hi := m) H S (by omega) (by rw [h1, cn_of hp]; exact hE) h2
    have T := da_b o5 ⟨by omega, h5⟩ o1 o4
    have y6 : z277.toInt = O := by rw [h6, cn_of hp, o3]; exact hO
    obtain ⟨l, hw, hr, hl⟩ := sL (by omega)
    obtain ⟨cf2, s, g1, g2, g3, g4, g5, g6, g7, g8, g9⟩ := da_73 (x3 := (cf88 57)) (p0 := p0) (ma' := ma') (v := v) H hc0 hc1 T.2.2.2.2 l m' (0 : Int32) z397 m hi 0 ma87 cf88 hQ hr (by rw [h8, cn_of hp, o2 18 lo (by omega)]; exact rep_kp _ _ _ _ _ _ hl (fun _ => (FrM.ag o2 (Or.inr (Nat.le_refl _)) : AgF na ma na ma87 m hi (-1)).rt (Or.inl (by omega))) (fun z => absurd z (by decide))) hh T.2.1 rfl (by omega) hm T.2.2.2.1
    rw [hw, g1]
    exact da_lst T ((o2.le (Nat.le_refl _) hm).tr (g3.le (by omega) (Nat.le_refl _))) (g4.trans o3) g5 g2 g6 g7 g8 g9
  · obtain ⟨o1, o2, o3, o4, o5⟩ := kn_s (hi := m) H S (by omega) (by rw [h1, cn_of hp]; exact hE) h2
    have T := da_c o5 (by omega) o1 o4 h8 (by decide)
    have y9 : z428.toInt = O := by rw [h9, cn_of hp, o3]; exact hO
    have y11 : z431.toInt = O := by rw [h11, cn_of hp, o3]; exact hO
    rw [sR (by omega), e0, e1, ev]
    exact da_row T (o2.le (Nat.le_refl _) hm) o3 (fun _ => by rw [hc0 h13, wds_f]) (fun w => absurd w (by decide))
  · obtain ⟨o1, o2, o3, o4, o5⟩ := kn_s (hi := m) H S (by omega) (by rw [h1, cn_of hp]; exact hE) h2
    have T := da_c o5 (by omega) o1 o4 h8 (by decide)
    have y9 : z428.toInt = O := by rw [h9, cn_of hp, o3]; exact hO
    have y11 : z431.toInt = O := by rw [h11, cn_of hp, o3]; exact hO
    rw [sR (by omega), e0, e1, ev]
    exact da_row T (o2.le (Nat.le_refl _) hm) o3 (fun _ => by rw [hc1 h13, wds_t]; exact dv4 h14 h15 (by decide)) (fun w => absurd w (by decide))
  · obtain ⟨o1, o2, o3, o4, o5⟩ := kn_s (hi := m) H S (by omega) (by rw [h1, cn_of hp]; exact hE) h2
    have T := da_c o5 (by omega) o1 o4 h8 (by decide)
    have y9 : z428.toInt = O := by rw [h9, cn_of hp, o3]; exact hO
    have y11 : z431.toInt = O := by rw [h11, cn_of hp, o3]; exact hO
    obtain ⟨u, hw, hu⟩ := sS (by omega)
    have SL := str_l H hp hu o2 h13 h14 h15
    rw [hw, e0, e1, ev]
    exact da_str T (o2.le (Nat.le_refl _) hm) o3 (bad_r h18 (by decide)).2 (fun _ => (bad_r h18 (by decide)).1) (fun _ => Or.inr ⟨fun w => by rw [hc0 h16] at w; exact absurd w.1 (by decide), (bad_r h18 (by decide)).1⟩) (fun _ => by rw [hc0 h16, wds_f]) (fun w => absurd w (by decide))
  · exfalso; omega
  · exfalso; omega
  · obtain ⟨o1, o2, o3, o4, o5⟩ := kn_s (hi := m) H S (by omega) (by rw [h1, cn_of hp]; exact hE) h2
    have T := da_c o5 (by omega) o1 o4 h8 (by decide)
    have y9 : z428.toInt = O := by rw [h9, cn_of hp, o3]; exact hO
    have y11 : z431.toInt = O := by rw [h11, cn_of hp, o3]; exact hO
    obtain ⟨u, hw, hu⟩ := sS (by omega)
    have SL := str_l H hp hu o2 h13 h14 h15
    rw [hw, e0, e1, ev]
    exact da_str T (o2.le (Nat.le_refl _) hm) o3 SmK.rf id (fun y => Or.inl ⟨⟨hc1 h16, by have q4 : (4096 : Int32).toInt = 4096 := rfl; omega⟩, y⟩) (fun _ => by rw [hc1 h16, wds_t]; exact dv4 h19 h20 (by decide)) (fun w => absurd w (by decide))
  · exfalso; omega
  · obtain ⟨o1, o2, o3, o4, o5⟩ := kn_s (hi := m) H S (by omega) (by rw [h1, cn_of hp]; exact hE) h2
    have T := da_c o5 (by omega) o1 o4 h8 (by decide)
    have y9 : z428.toInt = O := by rw [h9, cn_of hp, o3]; exact hO
    have y11 : z431.toInt = O := by rw [h11, cn_of hp, o3]; exact hO
    obtain ⟨u, hw, hu⟩ := sS (by omega)
    have SL := str_l H hp hu o2 h13 h14 h15
    rw [hw, e0, e1, ev]
    exact da_str T (o2.le (Nat.le_refl _) hm) o3 (bad_r h19 (by decide)).2 (fun _ => (bad_r h19 (by decide)).1) (fun _ => Or.inr ⟨fun w => by have := w.2; have q4 : (4096 : Int32).toInt = 4096 := rfl; omega, (bad_r h19 (by decide)).1⟩) (fun _ => by rw [hc1 h16, wds_t]; exact dv4 h21 h22 (by decide)) (fun w => absurd w (by decide))
  · obtain ⟨o1, o2, o3, o4, o5⟩ := kn_s (hi := m) H S (by omega) (by rw [h1, cn_of hp]; exact hE) h2
    have T := da_c o5 (by omega) o1 o4 h8 (by decide)
    have y9 : z428.toInt = O := by rw [h9, cn_of hp, o3]; exact hO
    obtain ⟨l, hw, hr, hl⟩ := sL (by omega)
    obtain ⟨cf2, s, g1, g2, g3, g4, g5, g6, g7, g8, g9⟩ := da_73 (x3 := (4096 : Int32)) (p0 := p0) (ma' := ma') (v := v) H hc0 hc1 T.2.2.2.2 l m' (0 : Int32) z512 m hi 0 ma87 cf405 hQ hr (by rw [h11, cn_of hp, o2 18 lo (by omega)]; exact rep_kp _ _ _ _ _ _ hl (fun _ => (FrM.ag o2 (Or.inr (Nat.le_refl _)) : AgF na ma na ma87 m hi (-1)).rt (Or.inl (by omega))) (fun z => absurd z (by decide))) hh T.2.1 rfl (by omega) hm T.2.2.2.1
    rw [hw, g1]
    exact da_lst T ((o2.le (Nat.le_refl _) hm).tr (g3.le (by omega) (Nat.le_refl _))) (g4.trans o3) g5 g2 g6 g7 g8 g9
end SC
