/-! THE REFERENCE's checker: statements (laid by gens7.py) -/
section SH
variable {tf : Nat → Int32} {ta na ca ca0 ca1 ca' ma ma' ma1 : Nat → Nat → Int32} {vl M0 : Nat → Int32} {k : Nat → Int} {ql : Nat → Int} {c sc lo hi mid d : Nat} {n38 : Int32} {F : Int32 → Option Fnc} {cf cf' cf1 cf0 cf6 cf7 : Nat → Int32} {L : Nms} {p0 p1 v : Int32} {e a b s : Ast} {tp lp bk : Bool} {x f : Sg → Option Sg} {W W1 W2 : Int → (Nat → Nat → Int32) → Prop} {rt : Int} {RL : T_mp_checkStatement}
theorem AC.e30 {α : Type} {a b a' b' : Nat → Int32} {x : Option α} {M : α → Prop} (h : AC a b x M) (ea : a' 30 = a 30) (eb : b' 30 = b 30) : AC a' b' x M := by
  refine ⟨fun q => ?_, fun u => ?_⟩
  · unfold Bc; rw [eb]
    exact h.1 (by unfold Bc at q; rw [ea] at q; exact q)
  · have w := h.2 (by unfold Uc at u; rw [ea] at u; exact u)
    cases x with
    | none => unfold Bc; rw [eb]; exact w
    | some y => exact ⟨by unfold Uc; rw [eb]; exact w.1, w.2⟩
theorem FrM.ags {l h : Nat} (g : FrM ma ma' lo hi) (q : hi ≤ l) : AgS na ma na ma' l h (-1) := ⟨FrM.ag g (Or.inr q), fun i a b => g 20 i (by omega)⟩
/-- a field that is put back -/
theorem OkZ.cj {J : Nat} (hJ : ¬ J = 30 ∧ ¬ J = 33 ∧ ¬ J = 37 ∧ ¬ J = 38 ∧ ¬ J = 42) (a : OkZ k vl c na ca0 n38 M0 L sc lo hi W tp x ma cf0 ma' cf7 ca') (h0 : ∀ j : Nat, ¬ j = J → cf0 j = cf j) (h7 : ∀ j : Nat, ¬ j = J → cf' j = cf7 j) (hj : cf' J = cf J) : OkZ k vl c na ca0 n38 M0 L sc lo hi W tp x ma cf ma' cf' ca' := by
  obtain ⟨X, a1, a2, a3, a4, a5, a6⟩ := a
  have e42 : cf' 42 = cf7 42 := h7 42 (by omega)
  have e42' : cf0 42 = cf 42 := h0 42 (by omega)
  refine ⟨X, a1.sm (h7 33 (by omega)) (h7 37 (by omega)) (h7 38 (by omega)) a1.2.2.2.1, a2, a3, fun j h1 h2 h3 h4 h5 h6 h7' h8 => ?_, by rw [e42]; exact a5, fun s hs => ?_⟩
  · by_cases q : j = J
    · rw [q]; exact hj
    · exact (h7 j q).trans ((a4 j h1 h2 h3 h4 h5 h6 h7' h8).trans (h0 j q))
  · rw [e42, ← e42']
    exact (a6 s hs).e30 (h0 30 (by omega)).symm (h7 30 (by omega))
/-- names of a block are left -/
theorem lv_t {p q : Int32} (S : CkS k vl c na ca0 n38 M0 L sc cf ca ma) (hLh : L.length ≤ hi) (a : OkZ k vl c na ca0 n38 M0 L L.length lo hi W tp x ma cf0 ma' cf6 ca') (hc0 : ∀ j : Nat, ¬ j = 37 → cf0 j = cf j) (h : R_mp_leave p q cf6 cf') (hp : p = cf 33) (hq : q = cf 37) : OkZ k vl c na ca0 n38 M0 L sc lo hi W tp (fun s => (x s).bind fun s' => some (s'.1.take s.1.length, s'.2)) ma cf ma' cf' ca' := by
  rcases h with e0 | h
  · obtain ⟨X, a1, a2, a3, a4, a5, a6⟩ := a
    have fr : ∀ j : Nat, ¬ j = 33 → ¬ j = 37 → cf' j = cf6 j := fun j q1 q2 => by rw [e0, pk_un q2, pk_un q1]
    have e33 : cf' 33 = cf 33 := by rw [e0, pk_un (by decide), pk_us, hp]
    have e37 : cf' 37 = cf 37 := by rw [e0, pk_us, hq]
    have e42 : cf' 42 = cf6 42 := fr 42 (by decide) (by decide)
    have e42' : cf0 42 = cf 42 := hc0 42 (by decide)
    have df := fun (j : Nat) (q : ¬ j = 37) => hc0 j q
    have E := a1.1.tk (n := L.length) (cf' := cf') (by rw [List.length_append]; omega) (by rw [e33]; exact S.1.1)
    rw [List.take_left] at E
    refine ⟨[], ?_, by rw [List.append_nil]; exact hLh, a3, fun j h1 h2 h3 h4 h5 h6 h7 h8 => ?_, by rw [e42]; exact a5, fun s hs => ?_⟩
    · rw [List.append_nil]
      exact ⟨E, (fr 38 (by decide) (by decide)).trans a1.2.1, a1.2.2.1, a1.2.2.2.1, by rw [e37]; exact S.2.2.2.2.1, S.2.2.2.2.2.1, a1.2.2.2.2.2.2⟩
    · by_cases q : j = 37
      · rw [q]; exact e37
      · exact (fr j h3 q).trans ((a4 j h1 h2 h3 h4 h5 h6 h7 h8).trans (hc0 j q))
    · have base := (a6 s hs).e30 (a' := cf) (b' := cf') (hc0 30 (by decide)).symm (fr 30 (by decide) (by decide))
      refine AC.bind base (fun s1 q => AC.ret ⟨?_, ?_, q.2.2.1, q.2.2.2⟩) id
      · show s1.1.take s.1.length = L ++ []
        rw [q.1, hs, List.take_left, List.append_nil]
      · show s1.2.1 = _
        rw [q.2.1, e42, e42']
  · exact h.elim
/-- loops and switches around, the function -/
def CtS (na : Nat → Nat → Int32) (M0 : Nat → Int32) (rt : Int) (lp bk : Bool) (lo : Nat) (cf : Nat → Int32) : Prop := (0 ≤ (cf 43).toInt ∧ ¬ (na 14 (cf 43).toNatClampNeg).toInt = 29 ∧ ((M0 (cf 43).toNatClampNeg).toInt = 2 ↔ rt = 3)) ∧ (0 ≤ (cf 44).toInt ∧ (cf 44).toInt ≤ (lo : Int) ∧ (lp = true ↔ 0 < (cf 44).toInt)) ∧ (0 ≤ (cf 45).toInt ∧ (cf 45).toInt ≤ (lo : Int) ∧ (bk = true ↔ 0 < (cf 44).toInt ∨ 0 < (cf 45).toInt))
theorem CtS.eq {lo' : Nat} (h : CtS na M0 rt lp bk lo cf) (e43 : cf' 43 = cf 43) (e44 : cf' 44 = cf 44) (e45 : cf' 45 = cf 45) (hl : lo ≤ lo') : CtS na M0 rt lp bk lo' cf' := by
  obtain ⟨h1, ⟨h2, h3, h4⟩, h5, h6, h7⟩ := h
  unfold CtS
  rw [e43, e44, e45]
  exact ⟨h1, ⟨h2, by omega, h4⟩, h5, by omega, h7⟩
theorem CtS.df {lo' : Nat} (h : CtS na M0 rt lp bk lo cf) (d : DfS cf cf') (hl : lo ≤ lo') : CtS na M0 rt lp bk lo' cf' := h.eq (d 43 (by decide) (by decide) (by decide) (by decide) (by decide) (by decide) (by decide) (by decide)) (d 44 (by decide) (by decide) (by decide) (by decide) (by decide) (by decide) (by decide) (by decide)) (d 45 (by decide) (by decide) (by decide) (by decide) (by decide) (by decide) (by decide) (by decide)) hl
/-- statements are checked as they mean -/
def HSz (tf : Nat → Int32) (ta na ca0 : Nat → Nat → Int32) (k : Nat → Int) (vl : Nat → Int32) (ql : Nat → Int) (c : Nat) (n38 : Int32) (M0 : Nat → Int32) (F : Int32 → Option Fnc) (rt : Int) (RL : T_mp_checkStatement) : Prop := ∀ (d : Nat) (s : Ast) (p0 : Int32) (lo hi sc : Nat) (L : Nms) (lp bk : Bool) (ma : Nat → Nat → Int32) (cf : Nat → Int32) (ca ma' : Nat → Nat → Int32) (cf' : Nat → Int32) (ca' : Nat → Nat → Int32), RepS k c na ma d s lo hi → hi ≤ 100000 → p0.toInt = (lo : Int) → CkS k vl c na ca0 n38 M0 L sc cf ca ma → L.length ≤ lo → (0 ≤ (cf 42).toInt ∧ (cf 42).toInt ≤ 5000 * (lo : Int)) → CtS na M0 rt lp bk lo cf → RL tf ta na p0 ma cf ca ma' cf' ca' → OkZ k vl c na ca0 n38 M0 L sc lo hi (Ms na ca0 M0 lo hi p0) false (fun z => sem k vl ql F rt s sc lp bk z) ma cf ma' cf' ca'

theorem sm_n {z : Sg} : sem k vl ql F rt .null sc lp bk z = some z := by first | rfl | simp [sem, sNd, sRow1, sRow2]
theorem sm_a {z : Sg} : sem k vl ql F rt (.add a b) sc lp bk z = (sem k vl ql F rt a sc lp bk z).bind fun z => sem k vl ql F rt b sc lp bk z := by first | rfl | simp [sem, sNd, sRow1, sRow2]
theorem sm_0r {z : Sg} : sem k vl ql F rt (sNd 0 a b) sc lp bk z = (sem k vl ql F rt a z.1.length lp bk z).bind fun z' => some (z'.1.take z.1.length, z'.2) := by first | rfl | simp [sem, sNd, sRow1, sRow2]
theorem sm_1 {z : Sg} : sem k vl ql F rt (sNd 1 a b) sc lp bk z = some z := by first | rfl | simp [sem, sNd, sRow1, sRow2]
theorem sm_2 {z : Sg} : sem k vl ql F rt (sNd 2 a b) sc lp bk z = semE k vl F aEff a z := by first | rfl | simp [sem, sNd, sRow1, sRow2]
theorem sm_3 {z : Sg} : sem k vl ql F rt (sNd 3 a b) sc lp bk z = semVars k vl ql F false (isChr a) sc b z := by first | rfl | simp [sem, sNd, sRow1, sRow2]
theorem sm_4 {z : Sg} : sem k vl ql F rt (sNd 4 a b) sc lp bk z = (semE k vl F aNum a z).bind fun z => sem k vl ql F rt b sc lp bk z := by first | rfl | simp [sem, sNd, sRow1, sRow2]
theorem sm_5 {z : Sg} : sem k vl ql F rt (sNd 5 a b) sc lp bk z = (semE k vl F aNum a z).bind fun z => sem k vl ql F rt b sc true true z := by first | rfl | simp [sem, sNd, sRow1, sRow2]
theorem sm_6 {z : Sg} : sem k vl ql F rt (sNd 6 a b) sc lp bk z = (sem k vl ql F rt a sc true true z).bind fun z => semE k vl F aNum b z := by first | rfl | simp [sem, sNd, sRow1, sRow2]
theorem sm_7 {z : Sg} : sem k vl ql F rt (sNd 7 a b) sc lp bk z = (sem k vl ql F rt a z.1.length lp bk z).bind fun z' => (sem k vl ql F rt b z.1.length true true z').bind fun z2 => some (z2.1.take z.1.length, z2.2) := by first | rfl | simp [sem, sNd, sRow1, sRow2]
theorem sm_8 {z : Sg} : sem k vl ql F rt (sNd 8 a b) sc lp bk z = semE k vl F aNum a z := by first | rfl | simp [sem, sNd, sRow1, sRow2]
theorem sm_9 {z : Sg} : sem k vl ql F rt (sNd 9 a b) sc lp bk z = (semE k vl F aNum a z).bind fun z' => (sem k vl ql F rt b z.1.length lp true (z'.1, z'.2.1, z'.2.2.1, [], false)).bind fun z2 => some (z2.1.take z.1.length, z2.2.1, z2.2.2.1, z.2.2.2) := by first | rfl | simp [sem, sNd, sRow1, sRow2]
theorem sm_10 {z : Sg} : sem k vl ql F rt (sNd 10 a b) sc lp bk z = ((att k vl (lkp z.1) F a [] 0).bind aKon).bind fun x => if x.2.2.1 ∈ z.2.2.2.1 then none else some (z.1, z.2.1, z.2.2.1, z.2.2.2.1 ++ [x.2.2.1], z.2.2.2.2) := by first | rfl | simp [sem, sNd, sRow1, sRow2]
theorem sm_11 {z : Sg} : sem k vl ql F rt (sNd 11 a b) sc lp bk z = if z.2.2.2.2 = true then none else some (z.1, z.2.1, z.2.2.1, z.2.2.2.1, true) := by first | rfl | simp [sem, sNd, sRow1, sRow2]
theorem sm_12 {z : Sg} : sem k vl ql F rt (sNd 12 a b) sc lp bk z = if bk = true then some z else none := by first | rfl | simp [sem, sNd, sRow1, sRow2]
theorem sm_13 {z : Sg} : sem k vl ql F rt (sNd 13 a b) sc lp bk z = if lp = true then some z else none := by first | rfl | simp [sem, sNd, sRow1, sRow2]
theorem sm_14 {z : Sg} : sem k vl ql F rt (sNd 14 a b) sc lp bk z = if rt = 3 then some z else none := by first | rfl | simp [sem, sNd, sRow1, sRow2]
theorem sm_15 {z : Sg} : sem k vl ql F rt (sNd 15 a b) sc lp bk z = if rt = 3 then none else semE k vl F aNum a z := by first | rfl | simp [sem, sNd, sRow1, sRow2]
theorem bnd_id {α : Type} {x : Option α} : (x.bind fun z => some z) = x := by cases x <;> rfl
theorem sm_r1 {z : Sg} : sem k vl ql F rt (sRow1 a) sc lp bk z = sem k vl ql F rt a sc lp bk z := by
  show sem k vl ql F rt (.add a .null) sc lp bk z = _
  rw [sm_a]
  show ((sem k vl ql F rt a sc lp bk z).bind fun z => some z) = _
  exact bnd_id
theorem sm_r2 {z : Sg} : sem k vl ql F rt (sRow2 a b) sc lp bk z = (sem k vl ql F rt a sc lp bk z).bind fun z => sem k vl ql F rt b sc lp bk z := by
  show sem k vl ql F rt (.add a (sRow1 b)) sc lp bk z = _
  rw [sm_a]
  congr 1
  funext z
  exact sm_r1
theorem sm_r3 {z : Sg} : sem k vl ql F rt (.add a (.add b (.add e .null))) sc lp bk z = ((sem k vl ql F rt a sc lp bk z).bind fun z => sem k vl ql F rt b sc lp bk z).bind fun z => sem k vl ql F rt e sc lp bk z := by
  rw [sm_a]
  rcases opt_c (sem k vl ql F rt a sc lp bk z) with h | ⟨y, h⟩
  · rw [h]; rfl
  · rw [h]
    show sem k vl ql F rt (.add b (sRow1 e)) sc lp bk y = (sem k vl ql F rt b sc lp bk y).bind fun z => sem k vl ql F rt e sc lp bk z
    exact sm_r2 (z := y)
/-- a row of statements -/
theorem st_2 {q0 : Int32} (HS : HSz tf ta na ca0 k vl ql c n38 M0 F rt RL) : ∀ (a : Ast) (m : Nat) (x : Int32) (lo hi : Nat) (ma : Nat → Nat → Int32) (cf : Nat → Int32) (ca : Nat → Nat → Int32) (L : Nms), E_mp_statements RL tf ta na q0 ma' cf' ca' m 2 [x] [] [] [] [] ma cf ca → RowS na (RepS k c na ma d) a x.toInt lo hi → hi ≤ 100000 → CkS k vl c na ca0 n38 M0 L sc cf ca ma → L.length ≤ lo → (0 ≤ (cf 42).toInt ∧ (cf 42).toInt ≤ 5000 * (lo : Int)) → CtS na M0 rt lp bk lo cf → OkZ k vl c na ca0 n38 M0 L sc lo hi (MsR na ca0 M0 lo hi x.toInt) false (fun z => sem k vl ql F rt a sc lp bk z) ma cf ma' cf' ca' := by
  intro a
  induction a with
  | null =>
    intro m x lo hi ma cf ca L h hR hh S hL hw hC
    have hR' : x.toInt < 0 ∧ lo ≤ hi := hR
    rcases iv_mp_statements_2 h with ⟨m', (⟨h1, e0, e1, e2⟩ | ⟨h1, ma8, cf9, ca10, h2, z42, h3, hQ⟩)⟩
    · rw [e0, e1, e2]
      exact (OkZ.nop (W := MsR na ca0 M0 lo hi x.toInt) (lo := lo) (hi := hi) S (by omega) (by omega) (fun _ => MsR.nil hR'.1)).mp (fun z _ => sm_n) (fun _ _ q => q) (Nat.le_refl _) (Nat.le_refl _)
    · exfalso; omega
  | add s r ihs ihr =>
    intro m x lo hi ma cf ca L h hR hh S hL hw hC
    obtain ⟨mid, r1, r2, r3, r4⟩ := hR
    have xi : x.toNatClampNeg = lo := cn_of r1
    rcases iv_mp_statements_2 h with ⟨m', (⟨h1, e0, e1, e2⟩ | ⟨h1, ma8, cf9, ca10, h2, z42, h3, hQ⟩)⟩
    · exfalso; omega
    · rw [xi] at h3
      have one := HS d s x lo mid sc L lp bk ma cf ca ma8 cf9 ca10 r3 (by omega) r1 S hL hw hC h2
      have fr : FrM ma ma8 lo mid := by obtain ⟨_, -, -, q, -⟩ := one; exact q
      have df : DfS cf cf9 := by obtain ⟨_, -, -, -, q, -⟩ := one; exact q
      refine (OkZ.seq (W := MsR na ca0 M0 lo hi x.toInt) one (fun X1 s1 s2 s3 => ihr m' z42 mid hi ma8 cf9 ca10 (L ++ X1) hQ (by rw [h3]; exact row_kp _ _ _ _ r4 (fun _ _ _ => rfl) (fun s l h q1 q2 q3 => rps_kp d s l h (-1) q3 (fr.ags q1) (by omega))) hh s1 s2 s3 (hC.df df (by omega))) ⟨by omega, r2.2⟩ (fun h1 h2 _ _ f2 w1 w2 => ?_)).mp (fun z _ => sm_a) (fun _ _ q => q) (Nat.le_refl _) (Nat.le_refl _)
      rw [h3] at w2
      exact MsR.cons r1 r1 (w1.fr f2 (Or.inl (Nat.le_refl _))) w2 ⟨by omega, r2.2⟩
  | _ => intro m x lo hi ma cf ca L h hR; exact hR.elim
theorem st_r (HS : HSz tf ta na ca0 k vl ql c n38 M0 F rt RL) (hR : RowS na (RepS k c na ma d) a p0.toInt lo hi) (hh : hi ≤ 100000) (S : CkS k vl c na ca0 n38 M0 L sc cf ca ma) (hL : L.length ≤ lo) (hw : 0 ≤ (cf 42).toInt ∧ (cf 42).toInt ≤ 5000 * (lo : Int)) (hC : CtS na M0 rt lp bk lo cf) (h : R_mp_statements RL tf ta na p0 ma cf ca ma' cf' ca') : OkZ k vl c na ca0 n38 M0 L sc lo hi (MsR na ca0 M0 lo hi p0.toInt) false (fun z => sem k vl ql F rt a sc lp bk z) ma cf ma' cf' ca' := by
  obtain ⟨m, h⟩ := h
  obtain ⟨m', h⟩ := iv_mp_statements_0 h
  exact st_2 HS a m' p0 lo hi ma cf ca L h hR hh S hL hw hC
/-- the body of a loop -/
theorem bo_t (HS : HSz tf ta na ca0 k vl ql c n38 M0 F rt RL) (hR : RepS k c na ma d s lo hi) (hh : hi ≤ 100000) (hp : p0.toInt = (lo : Int)) (S : CkS k vl c na ca0 n38 M0 L sc cf ca ma) (hL : L.length ≤ lo) (hw : 0 ≤ (cf 42).toInt ∧ (cf 42).toInt ≤ 5000 * (lo : Int)) {l0 : Nat} (hC : CtS na M0 rt lp bk l0 cf) (hl0 : l0 < lo) (h : R_mp_checkBody RL tf ta na p0 ma cf ca ma' cf' ca') : OkZ k vl c na ca0 n38 M0 L sc lo hi (Ms na ca0 M0 lo hi p0) false (fun z => sem k vl ql F rt s sc true true z) ma cf ma' cf' ca' := by
  have hl := rps_lt hR
  rcases h with ⟨z2, h1, ma6, cf7, ca8, h2, z41, h3, e0, e1, e2⟩ | h
  · obtain ⟨c1, ⟨c2, c3, c4⟩, c5, c6, c7⟩ := hC
    have z1 := ti_add h1 rfl (show (1 : Int32).toInt = 1 from rfl) (by omega) (by omega)
    have hC' : CtS na M0 rt true true lo (upd cf 44 z2) := by
      unfold CtS
      rw [pk_un (show (43 : Nat) ≠ 44 by decide), pk_us, pk_un (show (45 : Nat) ≠ 44 by decide)]
      exact ⟨c1, ⟨by omega, by omega, ⟨fun _ => by omega, fun _ => rfl⟩⟩, c5, by omega, ⟨fun _ => Or.inl (by omega), fun _ => rfl⟩⟩
    have one := HS d s p0 lo hi sc L true true ma (upd cf 44 z2) ca ma6 cf7 ca8 hR hh hp (S.sm (pk_un (by decide)) (pk_un (by decide)) (pk_un (by decide)) S.2.2.2.1) hL (by rw [pk_un (by decide)]; exact hw) hC' h2
    have df : DfS (upd cf 44 z2) cf7 := by obtain ⟨_, -, -, -, q, -⟩ := one; exact q
    have e44 : cf7 44 = z2 := (df 44 (by decide) (by decide) (by decide) (by decide) (by decide) (by decide) (by decide) (by decide)).trans pk_us
    rw [e44] at h3
    have z3 := ti_sub h3 z1 (show (1 : Int32).toInt = 1 from rfl) (by omega) (by omega)
    rw [e0, e1, e2]
    exact one.cj (J := 44) (by decide) (fun j q => pk_un q) (fun j q => pk_un q) (by rw [pk_us]; exact Int32.toInt_inj.mp (by omega))
  · exact h.elim

theorem k22_t (H : TxH tf ta na ca0 k vl ql c n38 M0 F) (HS : HSz tf ta na ca0 k vl ql c n38 M0 F rt RL) (hh : hi ≤ 100000) (hlh : lo < hi) (hp : p0.toInt = (lo : Int)) (S : CkS k vl c na ca0 n38 M0 L sc cf ca ma) (hL : L.length ≤ lo) (hw : 0 ≤ (cf 42).toInt ∧ (cf 42).toInt ≤ 5000 * (lo : Int)) (hC : CtS na M0 rt lp bk lo cf) (hR : RepX k c na ma s lo hi) {z0 : Int32} (hz : z0 = na 17 lo) (h : R_mp_checkAlone tf ta na ca z0 ma cf ma' cf') (hca : ca' = ca) : OkZ k vl c na ca0 n38 M0 L sc lo hi (Ms na ca0 M0 lo hi p0) false (fun z => sem k vl ql F rt s sc lp bk z) ma cf ma' cf' ca' := by
  obtain ⟨e, x1, x2, x3⟩ := hR
  obtain ⟨j, j1, j2⟩ := x3.2.2
  rw [← hz] at x3 j1
  rw [x1, hca]
  exact (al_t (tp := false) H S x3 hh (by omega) (by omega) h).mp (fun z _ => sm_2) (fun h0 _ q => ms_22 hp (Or.inl x2) hz (by omega) q ⟨by omega, Nat.le_refl _⟩) (by omega) (Nat.le_refl _)
theorem k23_t (H : TxH tf ta na ca0 k vl ql c n38 M0 F) (HS : HSz tf ta na ca0 k vl ql c n38 M0 F rt RL) (hh : hi ≤ 100000) (hlh : lo < hi) (hp : p0.toInt = (lo : Int)) (S : CkS k vl c na ca0 n38 M0 L sc cf ca ma) (hL : L.length ≤ lo) (hw : 0 ≤ (cf 42).toInt ∧ (cf 42).toInt ≤ 5000 * (lo : Int)) (hC : CtS na M0 rt lp bk lo cf) (hR : RepD k c na ma s lo hi) (h : R_mp_declare tf ta na p0 (0 : Int32) ma cf ca ma' cf' ca') : OkZ k vl c na ca0 n38 M0 L sc lo hi (Ms na ca0 M0 lo hi p0) false (fun z => sem k vl ql F rt s sc lp bk z) ma cf ma' cf' ca' := by
  obtain ⟨n, vs, x1, x2, x3, x4, x5⟩ := hR
  have c43 := hC.1.1
  rw [x1]
  have hch : (ma 22 lo).toInt = (if isChr (.arg n) = true then 1 else 0) := by
    rw [x4]
    rcases x3 with w | w
    · rw [w]; rfl
    · rw [w]; rfl
  exact (dc_r (tp := false) (ch := isChr (.arg n)) H hp ⟨fun w => absurd w (by decide), fun w => absurd rfl w⟩ x5 hh (by omega) hch S (by omega) (by omega) ⟨fun w => absurd w (by decide), fun w => by exfalso; omega⟩ h).mp (fun z _ => sm_3) (fun h0 _ q => ms_23 hp x2 rfl q ⟨by omega, Nat.le_refl _⟩) (by omega) (Nat.le_refl _)
theorem k20_t (H : TxH tf ta na ca0 k vl ql c n38 M0 F) (HS : HSz tf ta na ca0 k vl ql c n38 M0 F rt RL) (hh : hi ≤ 100000) (hlh : lo < hi) (hp : p0.toInt = (lo : Int)) (S : CkS k vl c na ca0 n38 M0 L sc cf ca ma) (hL : L.length ≤ lo) (hw : 0 ≤ (cf 42).toInt ∧ (cf 42).toInt ≤ 5000 * (lo : Int)) (hC : CtS na M0 rt lp bk lo cf) (hs : s = sNd 0 a .null) (h14 : (na 14 lo).toInt = 20) (hR : RowS na (RepS k c na ma d) a (na 17 lo).toInt (lo + 1) hi) (h : R_mp_checkBlock RL tf ta na p0 ma cf ca ma' cf' ca') : OkZ k vl c na ca0 n38 M0 L sc lo hi (Ms na ca0 M0 lo hi p0) false (fun z => sem k vl ql F rt s sc lp bk z) ma cf ma' cf' ca' := by
  rcases h with ⟨z1, h1, ma5, cf6, ca7, h2, cf40, h3, e0, e1, e2⟩ | h
  · rw [cn_of hp] at h1
    have S1 : CkS k vl c na ca0 n38 M0 L L.length (upd cf 37 (cf 33)) ca ma := ⟨S.1.sm (pk_un (by decide)), (pk_un (by decide)).trans S.2.1, S.2.2.1, S.2.2.2.1, by rw [pk_us]; exact S.1.1, Nat.le_refl _, S.2.2.2.2.2.2⟩
    have one := st_r (lp := lp) (bk := bk) HS (by rw [h1]; exact hR) hh S1 (by omega) (by rw [pk_un (by decide)]; omega) (hC.eq (pk_un (by decide)) (pk_un (by decide)) (pk_un (by decide)) (Nat.le_succ _)) h2
    rw [e0, e1, e2, hs]
    exact (lv_t S (by omega) one (fun j q => pk_un q) h3 rfl rfl).mp (fun z hz => by rw [← hz]; exact sm_0r) (fun h0 _ q => ms_20 hp h14 (by rw [h1]) q ⟨by omega, Nat.le_refl _⟩) (by omega) (Nat.le_refl _)
  · exact h.elim
theorem k24_t (H : TxH tf ta na ca0 k vl ql c n38 M0 F) (HS : HSz tf ta na ca0 k vl ql c n38 M0 F rt RL) (hh : hi ≤ 100000) (hlh : lo < hi) (hp : p0.toInt = (lo : Int)) (S : CkS k vl c na ca0 n38 M0 L sc cf ca ma) (hL : L.length ≤ lo) (hw : 0 ≤ (cf 42).toInt ∧ (cf 42).toInt ≤ 5000 * (lo : Int)) (hC : CtS na M0 rt lp bk lo cf) {m : Nat} {b1 : Ast} {z1 z2 w1 : Int32} {ma2 : Nat → Nat → Int32} {cf2 : Nat → Int32} (hs : s = sNd 4 e (sRow1 b1)) (h14 : (na 14 lo).toInt = 24) (hE : OkE k c na ma e (na 17 lo).toInt (lo + 1) m) (h18 : (ma 18 lo).toInt = (m : Int)) (hR : RepS k c na ma d b1 m hi) (h19 : (ma 19 lo).toInt < 0) (hz1 : z1 = na 17 lo) (hc : RX_mp_check tf ta na ca z1 (1 : Int32) ma cf ma2 cf2 w1) (hz2 : z2 = ma2 18 lo) (hb : RL tf ta na z2 ma2 cf2 ca ma' cf' ca') : OkZ k vl c na ca0 n38 M0 L sc lo hi (Ms na ca0 M0 lo hi p0) false (fun z => sem k vl ql F rt s sc lp bk z) ma cf ma' cf' ca' := by
  have l1 := oke_le hE
  have l2 := rps_lt hR
  obtain ⟨j, j1, j2⟩ := hE.2.2
  rw [← hz1] at hE j1
  have one := nu_t (tp := false) H S hE (by omega) (by omega) (by omega) hc
  have fr : FrM ma ma2 (lo + 1) m := by obtain ⟨_, -, -, q, -⟩ := one; exact q
  have df : DfS cf cf2 := by obtain ⟨_, -, -, -, q, -⟩ := one; exact q
  rw [fr 18 lo (by omega)] at hz2
  have p2 : z2.toInt = (m : Int) := by rw [hz2]; exact h18
  rw [hs]
  refine (OkZ.seq (W := Ms na ca0 M0 lo hi p0) one (fun X1 s1 s2 s3 => HS d b1 z2 m hi sc (L ++ X1) lp bk ma2 cf2 ca ma' cf' ca' (rps_kp d b1 m hi (-1) hR (fr.ags (Nat.le_refl _)) (by omega)) hh p2 s1 s2 s3 (hC.df df (by omega)) hb) ⟨by omega, by omega⟩ (fun g1 g2 _ g0 f2 w1 w2 => ?_)).mp (fun z _ => ?_) (fun _ _ q => q) (by omega) (Nat.le_refl _)
  · have e18 : (ma' 18 lo).toInt = z2.toInt := by rw [f2 18 lo (by omega), fr 18 lo (by omega), hz2]
    have y := ms_24 (w := 0) (g3 := 0) (l3 := 0) (r3 := 0) hp hlh (Or.inl h14) hz1 (by omega) (w1.fr f2 (Or.inl (Nat.le_refl _))) ⟨by omega, by omega⟩ e18 w2 ⟨by omega, Nat.le_refl _⟩ (Or.inl ⟨by rw [f2 19 lo (by omega), fr 19 lo (by omega)]; exact h19, rfl⟩)
    rw [show max g1 (max g2 0) = max g1 g2 by omega] at y
    exact y
  · try dsimp only
    rw [sm_4]
    rcases opt_c (semE k vl F aNum e z) with h | ⟨y, h⟩
    · rw [h]; rfl
    · rw [h]
      exact sm_r1 (z := y)
theorem k24_n (H : TxH tf ta na ca0 k vl ql c n38 M0 F) (HS : HSz tf ta na ca0 k vl ql c n38 M0 F rt RL) (hh : hi ≤ 100000) (hlh : lo < hi) (hp : p0.toInt = (lo : Int)) (S : CkS k vl c na ca0 n38 M0 L sc cf ca ma) (hL : L.length ≤ lo) (hw : 0 ≤ (cf 42).toInt ∧ (cf 42).toInt ≤ 5000 * (lo : Int)) (hC : CtS na M0 rt lp bk lo cf) {m : Nat} {b1 : Ast} {z1 z2 w1 : Int32} {ma2 ma3 ca3 : Nat → Nat → Int32} {cf2 cf3 : Nat → Int32} (h14 : (na 14 lo).toInt = 24) (hE : OkE k c na ma e (na 17 lo).toInt (lo + 1) m) (h18 : (ma 18 lo).toInt = (m : Int)) (hR : RepS k c na ma d b1 m hi) (hz1 : z1 = na 17 lo) (hc : RX_mp_check tf ta na ca z1 (1 : Int32) ma cf ma2 cf2 w1) (hz2 : z2 = ma2 18 lo) (hb : RL tf ta na z2 ma2 cf2 ca ma3 cf3 ca3) : ma3 19 lo = ma 19 lo := by
  have l1 := oke_le hE
  have l2 := rps_lt hR
  rw [← hz1] at hE
  obtain ⟨X1, x1, x2, x3, x4, x5, x6⟩ := nu_t (tp := false) H S hE (by omega) (by omega) (by omega) hc
  rw [x3 18 lo (by omega)] at hz2
  obtain ⟨_, -, -, f2, -⟩ := HS d b1 z2 m hi sc (L ++ X1) lp bk ma2 cf2 ca ma3 cf3 ca3 (rps_kp d b1 m hi (-1) hR (x3.ags (Nat.le_refl _)) (by omega)) hh (by rw [hz2]; exact h18) x1 x2 x5 (hC.df x4 (by omega)) hb
  rw [f2 19 lo (by omega), x3 19 lo (by omega)]
theorem k24b_t (H : TxH tf ta na ca0 k vl ql c n38 M0 F) (HS : HSz tf ta na ca0 k vl ql c n38 M0 F rt RL) (hh : hi ≤ 100000) (hlh : lo < hi) (hp : p0.toInt = (lo : Int)) (S : CkS k vl c na ca0 n38 M0 L sc cf ca ma) (hL : L.length ≤ lo) (hw : 0 ≤ (cf 42).toInt ∧ (cf 42).toInt ≤ 5000 * (lo : Int)) (hC : CtS na M0 rt lp bk lo cf) {m m2 : Nat} {b1 b2 : Ast} {z1 z2 z3 w1 : Int32} {ma2 ma3 ca3 : Nat → Nat → Int32} {cf2 cf3 : Nat → Int32} (hs : s = sNd 4 e (sRow2 b1 b2)) (h14 : (na 14 lo).toInt = 24) (hE : OkE k c na ma e (na 17 lo).toInt (lo + 1) m) (h18 : (ma 18 lo).toInt = (m : Int)) (hR : RepS k c na ma d b1 m m2) (h19 : (ma 19 lo).toInt = (m2 : Int)) (hR2 : RepS k c na ma d b2 m2 hi) (hz1 : z1 = na 17 lo) (hc : RX_mp_check tf ta na ca z1 (1 : Int32) ma cf ma2 cf2 w1) (hz2 : z2 = ma2 18 lo) (hb : RL tf ta na z2 ma2 cf2 ca ma3 cf3 ca3) (hz3 : z3 = ma3 19 lo) (hb2 : RL tf ta na z3 ma3 cf3 ca3 ma' cf' ca') : OkZ k vl c na ca0 n38 M0 L sc lo hi (Ms na ca0 M0 lo hi p0) false (fun z => sem k vl ql F rt s sc lp bk z) ma cf ma' cf' ca' := by
  have l1 := oke_le hE
  have l2 := rps_lt hR
  have l3 := rps_lt hR2
  obtain ⟨j, j1, j2⟩ := hE.2.2
  rw [← hz1] at hE j1
  have one := nu_t (tp := false) H S hE (by omega) (by omega) (by omega) hc
  have fr : FrM ma ma2 (lo + 1) m := by obtain ⟨_, -, -, q, -⟩ := one; exact q
  have df : DfS cf cf2 := by obtain ⟨_, -, -, -, q, -⟩ := one; exact q
  rw [fr 18 lo (by omega)] at hz2
  have p2 : z2.toInt = (m : Int) := by rw [hz2]; exact h18
  have two := OkZ.seq (W := fun h ma => ∃ g1 g2 : Int, h = max g1 g2 ∧ HtX na ca0 M0 (lo + 1) m z1 g1 ma ∧ Ms na ca0 M0 m m2 z2 g2 ma) one (fun X1 s1 s2 s3 => HS d b1 z2 m m2 sc (L ++ X1) lp bk ma2 cf2 ca ma3 cf3 ca3 (rps_kp d b1 m m2 (-1) hR (fr.ags (Nat.le_refl _)) (by omega)) (by omega) p2 s1 s2 s3 (hC.df df (by omega)) hb) ⟨by omega, by omega⟩ (fun g1 g2 _ g0 f2 w1 w2 => ⟨g1, g2, rfl, w1.fr f2 (Or.inl (Nat.le_refl _)), w2⟩)
  have fr2 : FrM ma ma3 (lo + 1) m2 := by obtain ⟨_, -, -, q, -⟩ := two; exact q
  have df2 : DfS cf cf3 := by obtain ⟨_, -, -, -, q, -⟩ := two; exact q
  rw [fr2 19 lo (by omega)] at hz3
  have p3 : z3.toInt = (m2 : Int) := by rw [hz3]; exact h19
  rw [hs]
  refine (OkZ.seq (W := Ms na ca0 M0 lo hi p0) two (fun X1 s1 s2 s3 => HS d b2 z3 m2 hi sc (L ++ X1) lp bk ma3 cf3 ca3 ma' cf' ca' (rps_kp d b2 m2 hi (-1) hR2 (fr2.ags (Nat.le_refl _)) (by omega)) hh p3 s1 s2 s3 (hC.df df2 (by omega)) hb2) ⟨by omega, by omega⟩ (fun g g3 _ g0 f2 w1 w2 => ?_)).mp (fun z _ => ?_) (fun _ _ q => q) (by omega) (Nat.le_refl _)
  · obtain ⟨g1, g2, q1, q2, q3⟩ := w1
    have e18 : (ma' 18 lo).toInt = z2.toInt := by rw [f2 18 lo (by omega), fr2 18 lo (by omega), hz2]
    have y := ms_24 (w := z3) hp hlh (Or.inl h14) hz1 (by omega) (q2.fr f2 (Or.inl (by omega))) ⟨by omega, by omega⟩ e18 (q3.fr f2 (Or.inl (Nat.le_refl _))) ⟨by omega, by omega⟩ (Or.inr ⟨by rw [f2 19 lo (by omega), fr2 19 lo (by omega), hz3], by omega, w2, by omega, Nat.le_refl _⟩)
    rw [show max g1 (max g2 g3) = max g g3 by omega] at y
    exact y
  · try dsimp only
    rw [sm_4]
    rcases opt_c (semE k vl F aNum e z) with h | ⟨y, h⟩
    · rw [h]; rfl
    · rw [h]
      exact sm_r2 (z := y)
theorem k25_t (H : TxH tf ta na ca0 k vl ql c n38 M0 F) (HS : HSz tf ta na ca0 k vl ql c n38 M0 F rt RL) (hh : hi ≤ 100000) (hlh : lo < hi) (hp : p0.toInt = (lo : Int)) (S : CkS k vl c na ca0 n38 M0 L sc cf ca ma) (hL : L.length ≤ lo) (hw : 0 ≤ (cf 42).toInt ∧ (cf 42).toInt ≤ 5000 * (lo : Int)) (hC : CtS na M0 rt lp bk lo cf) {m : Nat} {b1 : Ast} {z1 z2 w1 : Int32} {ma2 : Nat → Nat → Int32} {cf2 : Nat → Int32} (hs : s = sNd 5 e (sRow1 b1)) (h14 : (na 14 lo).toInt = 25) (hE : OkE k c na ma e (na 17 lo).toInt (lo + 1) m) (h18 : (ma 18 lo).toInt = (m : Int)) (hR : RepS k c na ma d b1 m hi) (h19 : (ma 19 lo).toInt < 0) (hz1 : z1 = na 17 lo) (hc : RX_mp_check tf ta na ca z1 (1 : Int32) ma cf ma2 cf2 w1) (hz2 : z2 = ma2 18 lo) (hb : R_mp_checkBody RL tf ta na z2 ma2 cf2 ca ma' cf' ca') : OkZ k vl c na ca0 n38 M0 L sc lo hi (Ms na ca0 M0 lo hi p0) false (fun z => sem k vl ql F rt s sc lp bk z) ma cf ma' cf' ca' := by
  have l1 := oke_le hE
  have l2 := rps_lt hR
  obtain ⟨j, j1, j2⟩ := hE.2.2
  rw [← hz1] at hE j1
  have one := nu_t (tp := false) H S hE (by omega) (by omega) (by omega) hc
  have fr : FrM ma ma2 (lo + 1) m := by obtain ⟨_, -, -, q, -⟩ := one; exact q
  have df : DfS cf cf2 := by obtain ⟨_, -, -, -, q, -⟩ := one; exact q
  rw [fr 18 lo (by omega)] at hz2
  have p2 : z2.toInt = (m : Int) := by rw [hz2]; exact h18
  rw [hs]
  refine (OkZ.seq (W := Ms na ca0 M0 lo hi p0) one (fun X1 s1 s2 s3 => bo_t HS (rps_kp d b1 m hi (-1) hR (fr.ags (Nat.le_refl _)) (by omega)) hh p2 s1 s2 s3 (hC.df df (Nat.le_refl _)) (by omega) hb) ⟨by omega, by omega⟩ (fun g1 g2 _ g0 f2 w1 w2 => ?_)).mp (fun z _ => ?_) (fun _ _ q => q) (by omega) (Nat.le_refl _)
  · have e18 : (ma' 18 lo).toInt = z2.toInt := by rw [f2 18 lo (by omega), fr 18 lo (by omega), hz2]
    have y := ms_24 (w := 0) (g3 := 0) (l3 := 0) (r3 := 0) hp hlh (Or.inr (Or.inl h14)) hz1 (by omega) (w1.fr f2 (Or.inl (Nat.le_refl _))) ⟨by omega, by omega⟩ e18 w2 ⟨by omega, Nat.le_refl _⟩ (Or.inl ⟨by rw [f2 19 lo (by omega), fr 19 lo (by omega)]; exact h19, rfl⟩)
    rw [show max g1 (max g2 0) = max g1 g2 by omega] at y
    exact y
  · try dsimp only
    rw [sm_5]
    rcases opt_c (semE k vl F aNum e z) with h | ⟨y, h⟩
    · rw [h]; rfl
    · rw [h]
      exact sm_r1 (z := y)
theorem k26_t (H : TxH tf ta na ca0 k vl ql c n38 M0 F) (HS : HSz tf ta na ca0 k vl ql c n38 M0 F rt RL) (hh : hi ≤ 100000) (hlh : lo < hi) (hp : p0.toInt = (lo : Int)) (S : CkS k vl c na ca0 n38 M0 L sc cf ca ma) (hL : L.length ≤ lo) (hw : 0 ≤ (cf 42).toInt ∧ (cf 42).toInt ≤ 5000 * (lo : Int)) (hC : CtS na M0 rt lp bk lo cf) {m : Nat} {b1 : Ast} {z1 z2 w1 : Int32} {ma2 ca2 : Nat → Nat → Int32} {cf2 : Nat → Int32} (hs : s = sNd 6 (sRow1 b1) e) (h14 : (na 14 lo).toInt = 26) (h18 : (ma 18 lo).toInt = ((lo + 1 : Nat) : Int)) (hR : RepS k c na ma d b1 (lo + 1) m) (hE : OkE k c na ma e (na 17 lo).toInt m hi) (h19 : (ma 19 lo).toInt < 0) (hz2 : z2 = ma 18 lo) (hb : R_mp_checkBody RL tf ta na z2 ma cf ca ma2 cf2 ca2) (hz1 : z1 = na 17 lo) (hc : RX_mp_check tf ta na ca2 z1 (1 : Int32) ma2 cf2 ma' cf' w1) (hca : ca' = ca2) : OkZ k vl c na ca0 n38 M0 L sc lo hi (Ms na ca0 M0 lo hi p0) false (fun z => sem k vl ql F rt s sc lp bk z) ma cf ma' cf' ca' := by
  have l1 := oke_le hE
  have l2 := rps_lt hR
  obtain ⟨j, j1, j2⟩ := hE.2.2
  rw [← hz1] at hE j1
  have p2 : z2.toInt = ((lo + 1 : Nat) : Int) := by rw [hz2]; exact h18
  have one := bo_t HS hR (by omega) p2 S (by omega) (by omega) hC (Nat.lt_succ_self _) hb
  have fr : FrM ma ma2 (lo + 1) m := by obtain ⟨_, -, -, q, -⟩ := one; exact q
  rw [hs, hca]
  refine (OkZ.seq (W := Ms na ca0 M0 lo hi p0) one (fun X1 s1 s2 s3 => nu_t (tp := false) H s1 (hE.kp (FrM.ag (r := -1) fr (Or.inr (Nat.le_refl _))) (Or.inl (by omega))) hh (by omega) (by omega) hc) ⟨by omega, by omega⟩ (fun g2 g1 g0 _ f2 w2 w1 => ?_)).mp (fun z _ => ?_) (fun _ _ q => q) (by omega) (Nat.le_refl _)
  · have e18 : (ma' 18 lo).toInt = z2.toInt := by rw [f2 18 lo (by omega), fr 18 lo (by omega), hz2]
    have y := ms_24 (w := 0) (g3 := 0) (l3 := 0) (r3 := 0) hp hlh (Or.inr (Or.inr h14)) hz1 (by omega) w1 ⟨by omega, Nat.le_refl _⟩ e18 (w2.fr f2 (Or.inl (Nat.le_refl _))) ⟨by omega, by omega⟩ (Or.inl ⟨by rw [f2 19 lo (by omega), fr 19 lo (by omega)]; exact h19, rfl⟩)
    rw [show max g1 (max g2 0) = max g2 g1 by omega] at y
    exact y
  · try dsimp only
    rw [sm_6, sm_r1]
theorem kbad {x y : Int32} (S : CkS k vl c na ca0 n38 M0 L sc cf ca ma) (hL : L.length ≤ hi) (hw : 0 ≤ (cf 42).toInt ∧ (cf 42).toInt ≤ 5000 * (hi : Int)) (hb : R_mp_bad x y cf cf') (hx : ¬ x.toInt = 0) (hs : ∀ z : Sg, z.1 = L → f z = none) : OkZ k vl c na ca0 n38 M0 L sc lo hi W tp f ma cf ma cf' ca := by
  have bb := bad_r hb hx
  refine ⟨[], by rw [List.append_nil]; exact S.sm (bb.2 33 (by decide) (by decide)) (bb.2 37 (by decide) (by decide)) (bb.2 38 (by decide) (by decide)) S.2.2.2.1, by rw [List.append_nil]; exact hL, FrM.rf, bb.2.df, by rw [bb.2 42 (by decide) (by decide)]; exact hw, fun z hz => ?_⟩
  rw [hs z hz]
  exact AC.bad hb hx
theorem k33_t (H : TxH tf ta na ca0 k vl ql c n38 M0 F) (HS : HSz tf ta na ca0 k vl ql c n38 M0 F rt RL) (hh : hi ≤ 100000) (hlh : lo < hi) (hp : p0.toInt = (lo : Int)) (S : CkS k vl c na ca0 n38 M0 L sc cf ca ma) (hL : L.length ≤ lo) (hw : 0 ≤ (cf 42).toInt ∧ (cf 42).toInt ≤ 5000 * (lo : Int)) (hC : CtS na M0 rt lp bk lo cf) (h14 : (na 14 lo).toInt = 33) (hR : (s = sNd 14 .null .null ∧ (na 17 lo).toInt < 0) ∨ (∃ e : Ast, s = sNd 15 e .null ∧ OkE k c na ma e (na 17 lo).toInt (lo + 1) hi)) (h : R_mp_checkReturn RL tf ta na p0 ma cf ca ma' cf' ca') : OkZ k vl c na ca0 n38 M0 L sc lo hi (Ms na ca0 M0 lo hi p0) false (fun z => sem k vl ql F rt s sc lp bk z) ma cf ma' cf' ca' := by
  obtain ⟨c1, c2, c3⟩ := hC.1
  have m22 : ma 22 (cf 43).toNatClampNeg = M0 (cf 43).toNatClampNeg := S.2.2.2.1 _ c2
  have ck : ∀ {e : Ast} {z w : Int32} {ma1 : Nat → Nat → Int32} {cf1 cf2 : Nat → Int32}, OkE k c na ma e (na 17 lo).toInt (lo + 1) hi → z = na 17 lo → CkS k vl c na ca0 n38 M0 L sc cf2 ca ma → SmK cf cf2 → RX_mp_check tf ta na ca z (1 : Int32) ma cf2 ma1 cf1 w → OkZ k vl c na ca0 n38 M0 L sc lo hi (Ms na ca0 M0 lo hi p0) false (fun z => semE k vl F aNum e z) ma cf2 ma1 cf1 ca := by
    intro e z w ma1 cf1 cf2 hE hz S2 sm hc
    obtain ⟨j, j1, j2⟩ := hE.2.2
    rw [← hz] at hE j1
    exact (nu_t (tp := false) H S2 hE hh (by omega) (by rw [sm 42 (by decide) (by decide)]; omega) hc).mp (fun _ _ => rfl) (fun h0 _ q => ms_22 hp (Or.inr h14) hz (by omega) q ⟨by omega, Nat.le_refl _⟩) (by omega) (Nat.le_refl _)
  rcases h with ⟨z1, h1, (⟨h2, z4, h3, (⟨h4, z8, h5, cf10, h6, z33, h7, (⟨h8, e0, e1, e2⟩ | ⟨h8, z36, h9, ma39, cf40, v42, h10, e0, e1, e2⟩)⟩ | ⟨h4, z60, h5, (⟨h6, e0, e1, e2⟩ | ⟨h6, z63, h7, ma66, cf67, v69, h8, e0, e1, e2⟩)⟩)⟩ | ⟨h2, z86, h3, (⟨h4, z90, h5, (⟨h6, e0, e1, e2⟩ | ⟨h6, z93, h7, ma96, cf97, v99, h8, e0, e1, e2⟩)⟩ | ⟨h4, z117, h5, cf119, h6, z142, h7, (⟨h8, e0, e1, e2⟩ | ⟨h8, z145, h9, ma148, cf149, v151, h10, e0, e1, e2⟩)⟩)⟩)⟩ | h
  case inr => exact h.elim
  all_goals rw [m22] at h1
  all_goals rw [cn_of hp] at h3
  -- not void, no value
  · rcases hR with ⟨r1, r2⟩ | ⟨e, r1, r2⟩
    · rw [e0, e1, e2, r1]
      exact kbad S (by omega) (by omega) h6 (by decide) (fun z _ => by rw [sm_14, if_neg (fun w => h2 (by rw [h1]; exact c3.mpr w))])
    · exfalso; obtain ⟨j, j1, -⟩ := r2.2.2; rw [h3] at h4; omega
  · exfalso; rw [cn_of hp] at h7; rw [h3] at h4; rw [h7] at h8; omega
  · exfalso; rw [cn_of hp] at h5; rw [h3] at h4; rw [h5] at h6; omega
  · rcases hR with ⟨r1, r2⟩ | ⟨e, r1, r2⟩
    · exfalso; rw [h3] at h4; omega
    · rw [cn_of hp] at h7
      rw [e0, e1, e2, r1]
      exact (ck r2 h7 S SmK.rf h8).mp (fun z _ => by rw [sm_15, if_neg (fun w => h2 (by rw [h1]; exact c3.mpr w))]) (fun _ _ q => q) (Nat.le_refl _) (Nat.le_refl _)
  · rcases hR with ⟨r1, r2⟩ | ⟨e, r1, r2⟩
    · rw [e0, e1, e2, r1]
      exact (OkZ.nop (W := Ms na ca0 M0 lo hi p0) (lo := lo) (hi := hi) S (by omega) (by omega) (fun _ => ms_33n hp h14 r2)).mp (fun z _ => by rw [sm_14, if_pos (c3.mp (by rw [← h1]; exact h2))]) (fun _ _ q => q) (Nat.le_refl _) (Nat.le_refl _)
    · exfalso; obtain ⟨j, j1, -⟩ := r2.2.2; rw [h3] at h4; omega
  · exfalso; rw [cn_of hp] at h5; rw [h3] at h4; rw [h5] at h6; omega
  · exfalso; rw [cn_of hp] at h7; rw [h3] at h4; rw [h7] at h8; omega
  · rcases hR with ⟨r1, r2⟩ | ⟨e, r1, r2⟩
    · exfalso; rw [h3] at h4; omega
    · rw [cn_of hp] at h9
      have bb := bad_r h6 (by decide)
      have S2 := S.sm (bb.2 33 (by decide) (by decide)) (bb.2 37 (by decide) (by decide)) (bb.2 38 (by decide) (by decide)) S.2.2.2.1
      obtain ⟨X, a1, a2, a3, a4, a5, a6⟩ := ck r2 h9 S2 bb.2 h10
      rw [e0, e1, e2, r1]
      refine ⟨X, a1, a2, a3, bb.2.df.tr a4, a5, fun z hz => ?_⟩
      have B := (a6 z hz).1 bb.1
      exact AC.of (fun _ => B) (fun _ => Or.inl ⟨by dsimp only; rw [sm_15, if_pos (c3.mp (by rw [← h1]; exact h2))], B⟩)

end SH
