/-! THE REFERENCE's checker: for, break, continue (laid by gens8.py) -/
section SI
variable {tf : Nat → Int32} {ta na ca ca0 ca1 ca' ma ma' ma1 : Nat → Nat → Int32} {vl M0 : Nat → Int32} {k : Nat → Int} {ql : Nat → Int} {c sc lo hi mid d : Nat} {n38 : Int32} {F : Int32 → Option Fnc} {cf cf' cf1 cf0 cf6 cf7 : Nat → Int32} {L : Nms} {p0 p1 v : Int32} {e a b s : Ast} {tp lp bk : Bool} {x f : Sg → Option Sg} {W W1 W2 : Int → (Nat → Nat → Int32) → Prop} {rt : Int} {RL : T_mp_checkStatement}
theorem HtO.fr {l r l2 r2 : Nat} {z : Int32} {g : Int} (h : HtO na ca0 M0 l r z g ma) (f : FrM ma ma' l2 r2) (q : r ≤ l2 ∨ r2 ≤ l) : HtO na ca0 M0 l r z g ma' := by
  rcases h with h | ⟨h1, h2⟩
  · exact Or.inl h
  · exact Or.inr ⟨h1, h2.fr f q⟩
/-- what stands first in the brackets -/
def WfA (na ca0 : Nat → Nat → Int32) (M0 : Nat → Int32) (l r : Nat) (x : Int32) (g : Int) (ma : Nat → Nat → Int32) : Prop := (x.toInt < 0 ∧ g = 0) ∨ (0 ≤ x.toInt ∧ Ms na ca0 M0 l r x g ma)
theorem WfA.fr {l r l2 r2 : Nat} {x : Int32} {g : Int} (h : WfA na ca0 M0 l r x g ma) (f : FrM ma ma' l2 r2) (q : r ≤ l2 ∨ r2 ≤ l) : WfA na ca0 M0 l r x g ma' := by
  rcases h with h | ⟨h1, h2⟩
  · exact Or.inl h
  · exact Or.inr ⟨h1, h2.fr f q⟩
theorem fa_t {z0 : Int32} (HS : HSz tf ta na ca0 k vl ql c n38 M0 F rt RL) (hA : OkF k c na ma a z0.toInt lo hi) (hh : hi ≤ 100000) (S : CkS k vl c na ca0 n38 M0 L sc cf ca ma) (hL : L.length ≤ lo) (hw : 0 ≤ (cf 42).toInt ∧ (cf 42).toInt ≤ 5000 * (lo : Int)) (hC : CtS na M0 rt lp bk lo cf) (h : (z0.toInt < 0 ∧ ma' = ma ∧ cf' = cf ∧ ca' = ca) ∨ (¬ z0.toInt < 0 ∧ RL tf ta na z0 ma cf ca ma' cf' ca')) : OkZ k vl c na ca0 n38 M0 L sc lo hi (WfA na ca0 M0 lo hi z0) false (fun z => sem k vl ql F rt a sc lp bk z) ma cf ma' cf' ca' := by
  have le := okf_le hA
  rcases h with ⟨h1, h2, h3, h4⟩ | ⟨h1, h2⟩
  · rcases hA with ⟨x1, -⟩ | ⟨s, x1, x2, -⟩
    · rw [x1, h2, h3, h4]
      exact (OkZ.nop (W := WfA na ca0 M0 lo hi z0) (lo := lo) (hi := hi) S (by omega) (by omega) (fun _ => Or.inl ⟨h1, rfl⟩)).mp (fun z _ => sm_n) (fun _ _ q => q) (Nat.le_refl _) (Nat.le_refl _)
    · exfalso; omega
  · rcases hA with ⟨x1, x2, -⟩ | ⟨s, x1, x2, x3, x4⟩
    · exact absurd x2 h1
    · have hR : RepS k c na ma 1 s lo hi := ⟨x3, x4.elim (fun q => Or.inl q) (fun q => Or.inr (Or.inl q))⟩
      rw [x1]
      exact (HS 1 s z0 lo hi sc L lp bk ma cf ca ma' cf' ca' hR hh x2 S hL hw hC h2).mp (fun z _ => sm_r1) (fun h0 _ q => Or.inr ⟨by omega, q⟩) (Nat.le_refl _) (Nat.le_refl _)
theorem fb_t {z0 : Int32} (H : TxH tf ta na ca0 k vl ql c n38 M0 F) (hA : OkO k c na ma 8 a z0.toInt lo hi) (hh : hi ≤ 100000) (S : CkS k vl c na ca0 n38 M0 L sc cf ca ma) (hL : L.length ≤ lo) (hw : 0 ≤ (cf 42).toInt ∧ (cf 42).toInt ≤ 5000 * (lo : Int)) (h : (z0.toInt < 0 ∧ ma' = ma ∧ cf' = cf) ∨ (¬ z0.toInt < 0 ∧ ∃ w : Int32, RX_mp_check tf ta na ca z0 (1 : Int32) ma cf ma' cf' w)) : OkZ k vl c na ca0 n38 M0 L sc lo hi (HtO na ca0 M0 lo hi z0) false (fun z => sem k vl ql F rt a sc lp bk z) ma cf ma' cf' ca := by
  have le := oko_le hA
  rcases h with ⟨h1, h2, h3⟩ | ⟨h1, w, h2⟩
  · rcases hA with ⟨x1, -⟩ | ⟨e, x1, x2⟩
    · rw [x1, h2, h3]
      exact (OkZ.nop (W := HtO na ca0 M0 lo hi z0) (lo := lo) (hi := hi) S (by omega) (by omega) (fun _ => Or.inl ⟨h1, rfl⟩)).mp (fun z _ => sm_n) (fun _ _ q => q) (Nat.le_refl _) (Nat.le_refl _)
    · exfalso; obtain ⟨j, j1, -⟩ := x2.2.2; omega
  · rcases hA with ⟨x1, x2, -⟩ | ⟨e, x1, x2⟩
    · exact absurd x2 h1
    · rw [x1]
      exact (nu_t (tp := false) H S x2 hh (by omega) (by omega) h2).mp (fun z _ => sm_r1.trans sm_8) (fun h0 _ q => Or.inr ⟨by omega, q⟩) (Nat.le_refl _) (Nat.le_refl _)
theorem fc_t {z0 : Int32} (H : TxH tf ta na ca0 k vl ql c n38 M0 F) (hA : OkO k c na ma 2 a z0.toInt lo hi) (hh : hi ≤ 100000) (S : CkS k vl c na ca0 n38 M0 L sc cf ca ma) (hL : L.length ≤ lo) (hw : 0 ≤ (cf 42).toInt ∧ (cf 42).toInt ≤ 5000 * (lo : Int)) (h : (z0.toInt < 0 ∧ ma' = ma ∧ cf' = cf) ∨ (¬ z0.toInt < 0 ∧ R_mp_checkAlone tf ta na ca z0 ma cf ma' cf')) : OkZ k vl c na ca0 n38 M0 L sc lo hi (HtO na ca0 M0 lo hi z0) false (fun z => sem k vl ql F rt a sc lp bk z) ma cf ma' cf' ca := by
  have le := oko_le hA
  rcases h with ⟨h1, h2, h3⟩ | ⟨h1, h2⟩
  · rcases hA with ⟨x1, -⟩ | ⟨e, x1, x2⟩
    · rw [x1, h2, h3]
      exact (OkZ.nop (W := HtO na ca0 M0 lo hi z0) (lo := lo) (hi := hi) S (by omega) (by omega) (fun _ => Or.inl ⟨h1, rfl⟩)).mp (fun z _ => sm_n) (fun _ _ q => q) (Nat.le_refl _) (Nat.le_refl _)
    · exfalso; obtain ⟨j, j1, -⟩ := x2.2.2; omega
  · rcases hA with ⟨x1, x2, -⟩ | ⟨e, x1, x2⟩
    · exact absurd x2 h1
    · rw [x1]
      exact (al_t (tp := false) H S x2 hh (by omega) (by omega) h2).mp (fun z _ => sm_r1.trans sm_2) (fun h0 _ q => Or.inr ⟨by omega, q⟩) (Nat.le_refl _) (Nat.le_refl _)
/-- for, its four parts one behind another -/
theorem fd_t (H : TxH tf ta na ca0 k vl ql c n38 M0 F) (HS : HSz tf ta na ca0 k vl ql c n38 M0 F rt RL) (hh : hi ≤ 100000) (hlh : lo < hi) (hp : p0.toInt = (lo : Int)) (S : CkS k vl c na ca0 n38 M0 L sc cf ca ma) (hL : L.length ≤ lo) (hw : 0 ≤ (cf 42).toInt ∧ (cf 42).toInt ≤ 5000 * (lo : Int)) (hC : CtS na M0 rt lp bk lo cf) {m1 m2 m3 : Nat} {a b e b1 : Ast} {x1 x2 x3 x4 : Int32} {maA maB maC caA : Nat → Nat → Int32} {cfA cfB cfC cfD : Nat → Int32} {pw pq : Int32} (hs : s = sNd 7 (.add a (.add b (.add e .null))) (sRow1 b1)) (h14 : (na 14 lo).toInt = 27) (hA : OkF k c na ma a (na 17 lo).toInt (lo + 1) m1) (hB : OkO k c na ma 8 b (ma 18 lo).toInt m1 m2) (hD : OkO k c na ma 2 e (ma 19 lo).toInt m2 m3) (h20 : (ma 20 lo).toInt = (m3 : Int)) (hR : RepS k c na ma d b1 m3 hi) (ex1 : x1 = na 17 lo) (A : (x1.toInt < 0 ∧ maA = ma ∧ cfA = upd cf 37 (cf 33) ∧ caA = ca) ∨ (¬ x1.toInt < 0 ∧ RL tf ta na x1 ma (upd cf 37 (cf 33)) ca maA cfA caA)) (ex2 : x2 = maA 18 lo) (B : (x2.toInt < 0 ∧ maB = maA ∧ cfB = cfA) ∨ (¬ x2.toInt < 0 ∧ ∃ w : Int32, RX_mp_check tf ta na caA x2 (1 : Int32) maA cfA maB cfB w)) (ex3 : x3 = maB 19 lo) (C : (x3.toInt < 0 ∧ maC = maB ∧ cfC = cfB) ∨ (¬ x3.toInt < 0 ∧ R_mp_checkAlone tf ta na caA x3 maB cfB maC cfC)) (ex4 : x4 = maC 20 lo) (E : R_mp_checkBody RL tf ta na x4 maC cfC caA ma' cfD ca') (hlv : R_mp_leave pw pq cfD cf') (hpw : pw = cf 33) (hpq : pq = cf 37) : OkZ k vl c na ca0 n38 M0 L sc lo hi (Ms na ca0 M0 lo hi p0) false (fun z => sem k vl ql F rt s sc lp bk z) ma cf ma' cf' ca' := by
  have l1 := okf_le hA
  have l2 := oko_le hB
  have l3 := oko_le hD
  have l4 := rps_lt hR
  have S1 : CkS k vl c na ca0 n38 M0 L L.length (upd cf 37 (cf 33)) ca ma := ⟨S.1.sm (pk_un (by decide)), (pk_un (by decide)).trans S.2.1, S.2.2.1, S.2.2.2.1, by rw [pk_us]; exact S.1.1, Nat.le_refl _, S.2.2.2.2.2.2⟩
  have hC1 : CtS na M0 rt lp bk (lo + 1) (upd cf 37 (cf 33)) := hC.eq (pk_un (by decide)) (pk_un (by decide)) (pk_un (by decide)) (Nat.le_succ _)
  have tA := fa_t (lp := lp) (bk := bk) HS (by rw [ex1]; exact hA) (by omega) S1 (by omega) (by rw [pk_un (by decide)]; omega) hC1 A
  have fA : FrM ma maA (lo + 1) m1 := by obtain ⟨_, -, -, q, -⟩ := tA; exact q
  have dA : DfS (upd cf 37 (cf 33)) cfA := by obtain ⟨_, -, -, -, q, -⟩ := tA; exact q
  rw [fA 18 lo (by omega)] at ex2
  have tB := OkZ.seq (W := fun h ma => ∃ g1 g2 : Int, h = max g1 g2 ∧ WfA na ca0 M0 (lo + 1) m1 x1 g1 ma ∧ HtO na ca0 M0 m1 m2 x2 g2 ma) tA (fun X1 s1 s2 s3 => fb_t (lp := lp) (bk := bk) (rt := rt) H (by rw [ex2]; exact oko_kp hB (FrM.ag (r := -1) fA (Or.inr (Nat.le_refl _))) (by omega)) (by omega) s1 s2 s3 B) ⟨l1, l2⟩ (fun g1 g2 _ _ f2 w1 w2 => ⟨g1, g2, rfl, w1.fr f2 (Or.inl (Nat.le_refl _)), w2⟩)
  have fB : FrM ma maB (lo + 1) m2 := by obtain ⟨_, -, -, q, -⟩ := tB; exact q
  have dB : DfS (upd cf 37 (cf 33)) cfB := by obtain ⟨_, -, -, -, q, -⟩ := tB; exact q
  rw [fB 19 lo (by omega)] at ex3
  have tC := OkZ.seq (W := fun h ma => ∃ g1 g2 g3 : Int, h = max (max g1 g2) g3 ∧ WfA na ca0 M0 (lo + 1) m1 x1 g1 ma ∧ HtO na ca0 M0 m1 m2 x2 g2 ma ∧ HtO na ca0 M0 m2 m3 x3 g3 ma) tB (fun X1 s1 s2 s3 => fc_t (lp := lp) (bk := bk) (rt := rt) H (by rw [ex3]; exact oko_kp hD (FrM.ag (r := -1) fB (Or.inr (Nat.le_refl _))) (by omega)) (by omega) s1 s2 s3 C) ⟨by omega, l3⟩ (fun g g3 _ _ f2 w1 w2 => by
    obtain ⟨g1, g2, q1, q2, q3⟩ := w1
    exact ⟨g1, g2, g3, by rw [q1], q2.fr f2 (Or.inl (by omega)), q3.fr f2 (Or.inl (Nat.le_refl _)), w2⟩)
  have fC : FrM ma maC (lo + 1) m3 := by obtain ⟨_, -, -, q, -⟩ := tC; exact q
  have dC : DfS (upd cf 37 (cf 33)) cfC := by obtain ⟨_, -, -, -, q, -⟩ := tC; exact q
  rw [fC 20 lo (by omega)] at ex4
  have p4 : x4.toInt = (m3 : Int) := by rw [ex4]; exact h20
  have tD := OkZ.seq (W := Ms na ca0 M0 lo hi p0) tC (fun X1 s1 s2 s3 => bo_t HS (rps_kp d b1 m3 hi (-1) hR (fC.ags (Nat.le_refl _)) (by omega)) hh p4 s1 s2 s3 (CtS.df (lo := lo) (hC.eq (pk_un (by decide)) (pk_un (by decide)) (pk_un (by decide)) (Nat.le_refl _)) dC (Nat.le_refl _)) (by omega) E) ⟨by omega, by omega⟩ (fun g g4 _ _ f2 w1 w2 => by
    obtain ⟨g1, g2, g3, q1, q2, q3, q4⟩ := w1
    have y := ms_27 hp hlh h14 (show (na 17 lo).toInt = x1.toInt by rw [ex1]) (q2.fr f2 (Or.inl (by omega))) ⟨by omega, by omega⟩ (show ma' 18 lo = x2 by rw [f2 18 lo (by omega), fC 18 lo (by omega), ex2]) (q3.fr f2 (Or.inl (by omega))) ⟨by omega, by omega⟩ (show ma' 19 lo = x3 by rw [f2 19 lo (by omega), fC 19 lo (by omega), ex3]) (q4.fr f2 (Or.inl (Nat.le_refl _))) ⟨by omega, by omega⟩ (show (ma' 20 lo).toInt = x4.toInt by rw [f2 20 lo (by omega), fC 20 lo (by omega), ex4]) w2 ⟨by omega, Nat.le_refl _⟩
    rw [show max g1 (max g2 (max g3 g4)) = max g g4 by omega] at y
    exact y)
  rw [hs]
  refine (lv_t S (by omega) tD (fun j q => pk_un q) hlv hpw hpq).mp (fun z hz => ?_) (fun _ _ q => q) (by omega) (Nat.le_refl _)
  try dsimp only
  rw [sm_7, sm_r3, hz]
  rcases opt_c (((sem k vl ql F rt a L.length lp bk z).bind fun z => sem k vl ql F rt b L.length lp bk z).bind fun z => sem k vl ql F rt e L.length lp bk z) with h | ⟨y, h⟩
  · rw [h]; rfl
  · rw [h]
    show ((sem k vl ql F rt (sRow1 b1) L.length true true y).bind _) = ((sem k vl ql F rt b1 L.length true true y).bind _)
    rw [sm_r1]

theorem k27_t (H : TxH tf ta na ca0 k vl ql c n38 M0 F) (HS : HSz tf ta na ca0 k vl ql c n38 M0 F rt RL) (hh : hi ≤ 100000) (hlh : lo < hi) (hp : p0.toInt = (lo : Int)) (S : CkS k vl c na ca0 n38 M0 L sc cf ca ma) (hL : L.length ≤ lo) (hw : 0 ≤ (cf 42).toInt ∧ (cf 42).toInt ≤ 5000 * (lo : Int)) (hC : CtS na M0 rt lp bk lo cf) {m1 m2 m3 : Nat} {a b e b1 : Ast} (hs : s = sNd 7 (.add a (.add b (.add e .null))) (sRow1 b1)) (k14 : (na 14 lo).toInt = 27) (hA : OkF k c na ma a (na 17 lo).toInt (lo + 1) m1) (hB : OkO k c na ma 8 b (ma 18 lo).toInt m1 m2) (hD : OkO k c na ma 2 e (ma 19 lo).toInt m2 m3) (k20 : (ma 20 lo).toInt = (m3 : Int)) (hR : RepS k c na ma d b1 m3 hi) (h : R_mp_checkFor RL tf ta na p0 ma cf ca ma' cf' ca') : OkZ k vl c na ca0 n38 M0 L sc lo hi (Ms na ca0 M0 lo hi p0) false (fun z => sem k vl ql F rt s sc lp bk z) ma cf ma' cf' ca' := by
  rcases h with ⟨z1, h1, (⟨h2, z4, h3, (⟨h4, z7, h5, (⟨h6, z10, h7, ma14, cf15, ca16, h8, cf49, h9, e0, e1, e2⟩ | ⟨h6, z71, h7, ma74, cf75, h8, z90, h9, ma94, cf95, ca96, h10, cf129, h11, e0, e1, e2⟩)⟩ | ⟨h4, z151, h5, ma154, cf155, v157, h6, z174, h7, (⟨h8, z177, h9, ma181, cf182, ca183, h10, cf216, h11, e0, e1, e2⟩ | ⟨h8, z238, h9, ma241, cf242, h10, z257, h11, ma261, cf262, ca263, h12, cf296, h13, e0, e1, e2⟩)⟩)⟩ | ⟨h2, z318, h3, ma322, cf323, ca324, h4, z356, h5, (⟨h6, z359, h7, (⟨h8, z362, h9, ma366, cf367, ca368, h10, cf401, h11, e0, e1, e2⟩ | ⟨h8, z423, h9, ma426, cf427, h10, z442, h11, ma446, cf447, ca448, h12, cf481, h13, e0, e1, e2⟩)⟩ | ⟨h6, z503, h7, ma506, cf507, v509, h8, z526, h9, (⟨h10, z529, h11, ma533, cf534, ca535, h12, cf568, h13, e0, e1, e2⟩ | ⟨h10, z590, h11, ma593, cf594, h12, z609, h13, ma613, cf614, ca615, h14, cf648, h15, e0, e1, e2⟩)⟩)⟩)⟩ | h
  case inr => exact h.elim
  · rw [cn_of hp] at h1 h3 h5 h7
    rw [e0, e1, e2]
    exact fd_t H HS hh hlh hp S hL hw hC hs k14 hA hB hD k20 hR h1 (Or.inl ⟨h2, rfl, rfl, rfl⟩) h3 (Or.inl ⟨h4, rfl, rfl⟩) h5 (Or.inl ⟨h6, rfl, rfl⟩) h7 h8 h9 rfl rfl
  · rw [cn_of hp] at h1 h3 h5 h7 h9
    rw [e0, e1, e2]
    exact fd_t H HS hh hlh hp S hL hw hC hs k14 hA hB hD k20 hR h1 (Or.inl ⟨h2, rfl, rfl, rfl⟩) h3 (Or.inl ⟨h4, rfl, rfl⟩) h7 (Or.inr ⟨(by rw [h7, ← h5]; exact h6), h8⟩) h9 h10 h11 rfl rfl
  · rw [cn_of hp] at h1 h3 h5 h7 h9
    rw [e0, e1, e2]
    exact fd_t H HS hh hlh hp S hL hw hC hs k14 hA hB hD k20 hR h1 (Or.inl ⟨h2, rfl, rfl, rfl⟩) h5 (Or.inr ⟨(by rw [h5, ← h3]; exact h4), _, h6⟩) h7 (Or.inl ⟨h8, rfl, rfl⟩) h9 h10 h11 rfl rfl
  · rw [cn_of hp] at h1 h3 h5 h7 h9 h11
    rw [e0, e1, e2]
    exact fd_t H HS hh hlh hp S hL hw hC hs k14 hA hB hD k20 hR h1 (Or.inl ⟨h2, rfl, rfl, rfl⟩) h5 (Or.inr ⟨(by rw [h5, ← h3]; exact h4), _, h6⟩) h9 (Or.inr ⟨(by rw [h9, ← h7]; exact h8), h10⟩) h11 h12 h13 rfl rfl
  · rw [cn_of hp] at h1 h3 h5 h7 h9
    rw [e0, e1, e2]
    exact fd_t H HS hh hlh hp S hL hw hC hs k14 hA hB hD k20 hR h3 (Or.inr ⟨(by rw [h3, ← h1]; exact h2), h4⟩) h5 (Or.inl ⟨h6, rfl, rfl⟩) h7 (Or.inl ⟨h8, rfl, rfl⟩) h9 h10 h11 rfl rfl
  · rw [cn_of hp] at h1 h3 h5 h7 h9 h11
    rw [e0, e1, e2]
    exact fd_t H HS hh hlh hp S hL hw hC hs k14 hA hB hD k20 hR h3 (Or.inr ⟨(by rw [h3, ← h1]; exact h2), h4⟩) h5 (Or.inl ⟨h6, rfl, rfl⟩) h9 (Or.inr ⟨(by rw [h9, ← h7]; exact h8), h10⟩) h11 h12 h13 rfl rfl
  · rw [cn_of hp] at h1 h3 h5 h7 h9 h11
    rw [e0, e1, e2]
    exact fd_t H HS hh hlh hp S hL hw hC hs k14 hA hB hD k20 hR h3 (Or.inr ⟨(by rw [h3, ← h1]; exact h2), h4⟩) h7 (Or.inr ⟨(by rw [h7, ← h5]; exact h6), _, h8⟩) h9 (Or.inl ⟨h10, rfl, rfl⟩) h11 h12 h13 rfl rfl
  · rw [cn_of hp] at h1 h3 h5 h7 h9 h11 h13
    rw [e0, e1, e2]
    exact fd_t H HS hh hlh hp S hL hw hC hs k14 hA hB hD k20 hR h3 (Or.inr ⟨(by rw [h3, ← h1]; exact h2), h4⟩) h7 (Or.inr ⟨(by rw [h7, ← h5]; exact h6), _, h8⟩) h11 (Or.inr ⟨(by rw [h11, ← h9]; exact h10), h12⟩) h13 h14 h15 rfl rfl
theorem k31_t (S : CkS k vl c na ca0 n38 M0 L sc cf ca ma) (hlh : lo < hi) (hp : p0.toInt = (lo : Int)) (hL : L.length ≤ lo) (hw : 0 ≤ (cf 42).toInt ∧ (cf 42).toInt ≤ 5000 * (lo : Int)) (h14 : (na 14 lo).toInt = 21 ∨ (29 ≤ (na 14 lo).toInt ∧ (na 14 lo).toInt ≤ 32)) (hs : ∀ z : Sg, z.1 = L → sem k vl ql F rt s sc lp bk z = some z) : OkZ k vl c na ca0 n38 M0 L sc lo hi (Ms na ca0 M0 lo hi p0) false (fun z => sem k vl ql F rt s sc lp bk z) ma cf ma cf ca :=
  (OkZ.nop (W := Ms na ca0 M0 lo hi p0) (lo := lo) (hi := hi) S (by omega) (by omega) (fun _ => ms_n hp h14)).mp hs (fun _ _ q => q) (Nat.le_refl _) (Nat.le_refl _)
end SI
