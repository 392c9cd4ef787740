/-! THE REFERENCE's checker: switch (laid by gens9.py) -/
/-- nodes one behind another, from a to b -/
def ChPr (na : Nat → Nat → Int32) : List Nat → Int → Int → Prop
  | [], a, b => a = b
  | i :: l, a, b => a = (i : Int) ∧ ChPr na l (na 21 i).toInt b
theorem ChPr.snoc {na : Nat → Nat → Int32} {j : Nat} : ∀ {l : List Nat} {a : Int}, ChPr na l a (j : Int) → ChPr na (l ++ [j]) a (na 21 j).toInt
  | [], _, h => ⟨h, rfl⟩
  | _ :: _, _, h => ⟨h.1, ChPr.snoc h.2⟩
/-- the cases so far -/
def CsI (na ma : Nat → Nat → Int32) (pre : List Nat) (cs : List Int32) : Prop := (∀ j : Nat, j ∈ pre → (na 14 j).toInt = 29 → (ma 22 j).toInt = 1) ∧ ∀ x : Int32, x ∈ cs ↔ ∃ j : Nat, j ∈ pre ∧ (na 14 j).toInt = 29 ∧ ma 18 j = x
theorem CsI.fr {na ma ma' : Nat → Nat → Int32} {pre : List Nat} {cs : List Int32} {lo hi : Nat} (h : CsI na ma pre cs) (f : FrM ma ma' lo hi) (q : ∀ j : Nat, j ∈ pre → j < lo) : CsI na ma' pre cs := by
  refine ⟨fun j hj h29 => by rw [f 22 j (Or.inl (q j hj))]; exact h.1 j hj h29, fun x => ⟨fun hx => ?_, fun hx => ?_⟩⟩
  · obtain ⟨j, j1, j2, j3⟩ := (h.2 x).mp hx
    exact ⟨j, j1, j2, by rw [f 18 j (Or.inl (q j j1))]; exact j3⟩
  · obtain ⟨j, j1, j2, j3⟩ := hx
    rw [f 18 j (Or.inl (q j j1))] at j3
    exact (h.2 x).mpr ⟨j, j1, j2, j3⟩
theorem CsI.no {na ma : Nat → Nat → Int32} {pre : List Nat} {cs : List Int32} {j : Nat} (h : CsI na ma pre cs) (h29 : ¬ (na 14 j).toInt = 29) : CsI na ma (pre ++ [j]) cs := by
  refine ⟨fun i hi q => ?_, fun x => ⟨fun hx => ?_, fun hx => ?_⟩⟩
  · rcases List.mem_append.mp hi with w | w
    · exact h.1 i w q
    · rw [List.mem_singleton] at w
      rw [w] at q
      exact absurd q h29
  · obtain ⟨i, i1, i2⟩ := (h.2 x).mp hx
    exact ⟨i, List.mem_append.mpr (Or.inl i1), i2⟩
  · obtain ⟨i, i1, i2, i3⟩ := hx
    rcases List.mem_append.mp i1 with w | w
    · exact (h.2 x).mpr ⟨i, w, i2, i3⟩
    · rw [List.mem_singleton] at w
      rw [w] at i2
      exact absurd i2 h29
theorem CsI.yes {na ma : Nat → Nat → Int32} {pre : List Nat} {cs : List Int32} {j : Nat} (h : CsI na ma pre cs) (h29 : (na 14 j).toInt = 29) (h22 : (ma 22 j).toInt = 1) : CsI na ma (pre ++ [j]) (cs ++ [ma 18 j]) := by
  refine ⟨fun i hi q => ?_, fun x => ⟨fun hx => ?_, fun hx => ?_⟩⟩
  · rcases List.mem_append.mp hi with w | w
    · exact h.1 i w q
    · rw [List.mem_singleton] at w
      rw [w]; exact h22
  · rcases List.mem_append.mp hx with w | w
    · obtain ⟨i, i1, i2⟩ := (h.2 x).mp w
      exact ⟨i, List.mem_append.mpr (Or.inl i1), i2⟩
    · rw [List.mem_singleton] at w
      exact ⟨j, List.mem_append.mpr (Or.inr (List.mem_singleton.mpr rfl)), h29, w.symm⟩
  · obtain ⟨i, i1, i2, i3⟩ := hx
    rcases List.mem_append.mp i1 with w | w
    · exact List.mem_append.mpr (Or.inl ((h.2 x).mpr ⟨i, w, i2, i3⟩))
    · rw [List.mem_singleton] at w
      rw [w] at i3
      exact List.mem_append.mpr (Or.inr (List.mem_singleton.mpr i3.symm))
/-- what stands in a switch, from one of its parts on -/
def OkU (k : Nat → Int) (vl : Nat → Int32) (c : Nat) (na ca0 : Nat → Nat → Int32) (n38 : Int32) (M0 : Nat → Int32) (L0 X0 : Nms) (lo hi : Nat) (n : Int) (cs : List Int32) (df : Bool) (x : Sg → Option Sg) (x2 x3 : Int32) (ma : Nat → Nat → Int32) (cf : Nat → Int32) (ma' : Nat → Nat → Int32) (cf' : Nat → Int32) (ca' : Nat → Nat → Int32) : Prop := ∃ (X : Nms) (cf6 : Nat → Int32) (z : Int32), z = cf6 45 - (1 : Int32) ∧ R_mp_leave x2 x3 (upd cf6 45 z) cf' ∧ CkS k vl c na ca0 n38 M0 (L0 ++ X) L0.length cf6 ca' ma' ∧ (L0 ++ X).length ≤ hi ∧ FrM ma ma' lo hi ∧ DfS cf cf6 ∧ (0 ≤ (cf6 42).toInt ∧ (cf6 42).toInt ≤ 5000 * (hi : Int)) ∧ ∀ s : Sg, s.1 = L0 ++ X0 → s.2.2.2 = (cs, df) → AC cf cf6 (x s) (fun s' => s'.1 = L0 ++ X ∧ s'.2.1 = s.2.1 + ((cf6 42).toInt - (cf 42).toInt) ∧ (0 ≤ s.2.2.1 → ∃ h : Int, s'.2.2.1 = max s.2.2.1 h ∧ 0 ≤ h ∧ MsR na ca0 M0 lo hi n h ma'))
section SJ
variable {tf : Nat → Int32} {ta na ca ca0 ca1 ca' ma ma' ma1 : Nat → Nat → Int32} {vl M0 : Nat → Int32} {k : Nat → Int} {ql : Nat → Int} {c sc lo hi mid d : Nat} {n38 : Int32} {F : Int32 → Option Fnc} {cf cf' cf1 cf0 cf6 cf7 : Nat → Int32} {L : Nms} {p0 p1 v : Int32} {e a b s : Ast} {tp lp bk : Bool} {x f : Sg → Option Sg} {W W1 W2 : Int → (Nat → Nat → Int32) → Prop} {rt : Int} {RL : T_mp_checkStatement}
theorem rps_kd (h : RepS k c na ma d s lo hi) : ¬ (na 14 lo).toInt = 29 ∧ ¬ (na 14 lo).toInt = 30 := by
  cases d with
  | zero => exact h.elim
  | succ d =>
    obtain ⟨-, h⟩ := h
    rcases h with ⟨e, -, q, -⟩ | ⟨n, vs, -, q, -⟩ | ⟨a, -, q, -⟩ | ⟨-, q⟩ | ⟨e, s1, m, -, q, -⟩ | ⟨e, s1, s2, m, m2, -, q, -⟩ | ⟨e, s1, m, -, q, -⟩ | ⟨e, s1, m, -, q, -⟩ | ⟨a, b, e, s1, m1, m2, m3, -, q, -⟩ | ⟨e, b, m, -, q, -⟩ | ⟨-, q⟩ | ⟨-, q⟩ | ⟨-, q, -⟩ | ⟨e, -, q, -⟩
    all_goals omega
theorem OkU.st {L0 X0 X1 : Nms} {cs cs1 : List Int32} {df df1 : Bool} {x2 x3 p : Int32} {y : Sg → Option Sg} (fr : FrM ma ma1 lo mid) (dd : DfS cf cf1) (hp : p.toInt = (lo : Int)) (hl : lo ≤ mid ∧ mid ≤ hi) (a : ∀ s : Sg, s.1 = L0 ++ X0 → s.2.2.2 = (cs, df) → AC cf cf1 (y s) (fun s1 => s1.1 = L0 ++ X1 ∧ s1.2.2.2 = (cs1, df1) ∧ s1.2.1 = s.2.1 + ((cf1 42).toInt - (cf 42).toInt) ∧ (0 ≤ s.2.2.1 → ∃ h : Int, s1.2.2.1 = max s.2.2.1 h ∧ 0 ≤ h ∧ Ms na ca0 M0 lo mid p h ma1))) (b : OkU k vl c na ca0 n38 M0 L0 X1 mid hi (na 21 lo).toInt cs1 df1 f x2 x3 ma1 cf1 ma' cf' ca') : OkU k vl c na ca0 n38 M0 L0 X0 lo hi p.toInt cs df (fun s => (y s).bind f) x2 x3 ma cf ma' cf' ca' := by
  obtain ⟨X, cf6, z, b1, b2, b3, b4, b5, b6, b7, b8⟩ := b
  refine ⟨X, cf6, z, b1, b2, b3, b4, (fr.le (Nat.le_refl _) hl.2).tr (b5.le hl.1 (Nat.le_refl _)), dd.tr b6, b7, fun s hs hd => ?_⟩
  refine AC.bind (a s hs hd) (fun s1 q => ?_) (b8 (L0 ++ X1, 0, 0, cs1, df1) rfl rfl).1
  obtain ⟨q1, q2, q3, q4⟩ := q
  refine (b8 s1 q1 q2).imp (fun s2 r => ⟨r.1, by rw [r.2.1, q3]; omega, fun h0 => ?_⟩)
  obtain ⟨h1, g1, g2, g3⟩ := q4 h0
  obtain ⟨h2, g4, g5, g6⟩ := r.2.2 (by omega)
  exact ⟨max h1 h2, by rw [g4, g1]; omega, by omega, MsR.cons hp hp (g3.fr b5 (Or.inl (Nat.le_refl _))) g6 hl⟩
theorem OkU.mp {L0 X0 : Nms} {cs : List Int32} {df : Bool} {x2 x3 : Int32} {n : Int} {x' : Sg → Option Sg} (a : OkU k vl c na ca0 n38 M0 L0 X0 lo hi n cs df x x2 x3 ma cf ma' cf' ca') (hx : ∀ s : Sg, x' s = x s) : OkU k vl c na ca0 n38 M0 L0 X0 lo hi n cs df x' x2 x3 ma cf ma' cf' ca' := by
  have e : x' = x := funext hx
  rw [e]
  exact a
/-- whether one of the nodes before is a case of the same number -/
theorem sw_113 {x2 x3 x4 x5 : Int32} {kk : Nat} (k5 : x5.toInt = (kk : Int)) : ∀ (rest : List Nat) (m : Nat) (x6 : Int32) (cf : Nat → Int32), E_mp_checkSwitch RL tf ta na p0 ma' cf' ca' m 113 [x2, x3, x4, x5, x6] [] [] [] [] ma cf ca → ChPr na rest x6.toInt (kk : Int) → (∀ j : Nat, j ∈ rest → j < kk) → ∃ (m' : Nat) (cf1 : Nat → Int32), E_mp_checkSwitch RL tf ta na p0 ma' cf' ca' m' 51 [x2, x3, x4, na 21 kk] [] [] [] [] ma cf1 ca ∧ SmK cf cf1 ∧ (Bc cf → Bc cf1) ∧ (Uc cf → (Uc cf1 ∧ ∀ j : Nat, j ∈ rest → ¬ ((na 14 j).toInt = 29 ∧ (ma 22 j).toInt = 1 ∧ (ma 22 kk).toInt = 1 ∧ ma 18 j = ma 18 kk)) ∨ (Bc cf1 ∧ ∃ j : Nat, j ∈ rest ∧ (na 14 j).toInt = 29 ∧ (ma 22 j).toInt = 1 ∧ (ma 22 kk).toInt = 1 ∧ ma 18 j = ma 18 kk)) := by
  have xk : x5.toNatClampNeg = kk := cn_of k5
  intro rest
  induction rest with
  | nil =>
    intro m x6 cf h hc hl
    have hc' : x6.toInt = (kk : Int) := hc
    rcases iv_mp_checkSwitch_113 h with ⟨m', (⟨h1, z3, h2, hQ⟩ | ⟨h1, z4, h2, (⟨h3, z7, h4, hQ⟩ | ⟨h3, z8, h4, (⟨h5, z11, h6, hQ⟩ | ⟨h5, z12, h6, (⟨h7, z15, h8, hQ⟩ | ⟨h7, z16, h8, z17, h9, (⟨h10, z20, h11, hQ⟩ | ⟨h10, z21, h11, cf23, h12, z46, h13, hQ⟩)⟩)⟩)⟩)⟩)⟩
    · rw [xk] at h2
      rw [h2] at hQ
      exact ⟨m', cf, hQ, SmK.rf, id, fun u => Or.inl ⟨u, fun j hj => absurd hj (by simp)⟩⟩
    all_goals (exfalso; omega)
  | cons i rest ih =>
    intro m x6 cf h hc hl
    obtain ⟨hc1, hc2⟩ := hc
    have hi := hl i List.mem_cons_self
    have hl' : ∀ j : Nat, j ∈ rest → j < kk := fun j hj => hl j (List.mem_cons_of_mem _ hj)
    have xi : x6.toNatClampNeg = i := cn_of hc1
    have skip : ∀ {m' : Nat} {z : Int32}, z = na 21 i → E_mp_checkSwitch RL tf ta na p0 ma' cf' ca' m' 113 [x2, x3, x4, x5, z] [] [] [] [] ma cf ca → ¬ ((na 14 i).toInt = 29 ∧ (ma 22 i).toInt = 1 ∧ (ma 22 kk).toInt = 1 ∧ ma 18 i = ma 18 kk) → ∃ (m' : Nat) (cf1 : Nat → Int32), E_mp_checkSwitch RL tf ta na p0 ma' cf' ca' m' 51 [x2, x3, x4, na 21 kk] [] [] [] [] ma cf1 ca ∧ SmK cf cf1 ∧ (Bc cf → Bc cf1) ∧ (Uc cf → (Uc cf1 ∧ ∀ j : Nat, j ∈ i :: rest → ¬ ((na 14 j).toInt = 29 ∧ (ma 22 j).toInt = 1 ∧ (ma 22 kk).toInt = 1 ∧ ma 18 j = ma 18 kk)) ∨ (Bc cf1 ∧ ∃ j : Nat, j ∈ i :: rest ∧ (na 14 j).toInt = 29 ∧ (ma 22 j).toInt = 1 ∧ (ma 22 kk).toInt = 1 ∧ ma 18 j = ma 18 kk)) := by
      intro m' z hz hQ hn
      obtain ⟨m2, cf1, g1, g2, g3, g4⟩ := ih m' z cf hQ (by rw [hz]; exact hc2) hl'
      refine ⟨m2, cf1, g1, g2, g3, fun u => ?_⟩
      rcases g4 u with ⟨y1, y2⟩ | ⟨y1, j, y2, y3⟩
      · refine Or.inl ⟨y1, fun j hj => ?_⟩
        rcases List.mem_cons.mp hj with w | w
        · rw [w]; exact hn
        · exact y2 j w
      · exact Or.inr ⟨y1, j, List.mem_cons_of_mem _ y2, y3⟩
    rcases iv_mp_checkSwitch_113 h with ⟨m', (⟨h1, z3, h2, hQ⟩ | ⟨h1, z4, h2, (⟨h3, z7, h4, hQ⟩ | ⟨h3, z8, h4, (⟨h5, z11, h6, hQ⟩ | ⟨h5, z12, h6, (⟨h7, z15, h8, hQ⟩ | ⟨h7, z16, h8, z17, h9, (⟨h10, z20, h11, hQ⟩ | ⟨h10, z21, h11, cf23, h12, z46, h13, hQ⟩)⟩)⟩)⟩)⟩)⟩
    · exfalso; omega
    · rw [xi] at h2 h4
      rw [h2] at h3
      exact skip h4 hQ (fun w => h3 w.1)
    · rw [xi] at h4 h6
      rw [h4] at h5
      exact skip h6 hQ (fun w => h5 w.2.1)
    · rw [xk] at h6
      rw [xi] at h8
      rw [h6] at h7
      exact skip h8 hQ (fun w => h7 w.2.2.1)
    · rw [xi] at h8 h11
      rw [xk] at h9
      rw [h8, h9] at h10
      exact skip h11 hQ (fun w => h10 (by rw [w.2.2.2]))
    · rw [xi] at h2 h4 h8 h13
      rw [xk] at h6 h9
      rw [h2] at h3
      rw [h4] at h5
      rw [h6] at h7
      rw [h8, h9] at h10
      have bb := bad_r h12 (by decide)
      obtain ⟨m2, cf1, g1, g2, g3, g4⟩ := ih m' z46 cf23 hQ (by rw [h13]; exact hc2) hl'
      exact ⟨m2, cf1, g1, bb.2.tr g2, fun _ => g3 bb.1, fun _ => Or.inr ⟨g3 bb.1, i, List.mem_cons_self, h3, h5, h7, Int32.toInt_inj.mp h10⟩⟩
/-- the parts of a switch -/
theorem sw_51 {L0 : Nms} {x2 x3 : Int32} {P : Nat} (H : TxH tf ta na ca0 k vl ql c n38 M0 F) (HS : HSz tf ta na ca0 k vl ql c n38 M0 F rt RL) (hp : p0.toInt = (P : Int)) {hd : Int} : ∀ (b : Ast) (m : Nat) (x4 x5 : Int32) (lo hi : Nat) (ma : Nat → Nat → Int32) (cf : Nat → Int32) (ca : Nat → Nat → Int32) (X0 : Nms) (pre : List Nat) (cs : List Int32), E_mp_checkSwitch RL tf ta na p0 ma' cf' ca' m 51 [x2, x3, x4, x5] [] [] [] [] ma cf ca → RowS na (fun s l h => l < h ∧ (RepL k c na ma s l h ∨ RepS k c na ma d s l h)) b x5.toInt lo hi → hi ≤ 100000 → P < lo → (ma 18 P).toInt = hd → CkS k vl c na ca0 n38 M0 (L0 ++ X0) L0.length cf ca ma → (L0 ++ X0).length ≤ lo → (0 ≤ (cf 42).toInt ∧ (cf 42).toInt ≤ 5000 * (lo : Int)) → CtS na M0 rt lp true lo cf → ChPr na pre hd x5.toInt → (∀ j : Nat, j ∈ pre → j < lo) → (Uc cf → CsI na ma pre cs) → OkU k vl c na ca0 n38 M0 L0 X0 lo hi x5.toInt cs (decide (¬ x4.toInt = 0)) (fun z => sem k vl ql F rt b L0.length lp true z) x2 x3 ma cf ma' cf' ca' := by
  intro b
  induction b with
  | null =>
    intro m x4 x5 lo hi ma cf ca X0 pre cs h hR hh hP hhd S hL hw hC hch hpre hcs
    have hR' : x5.toInt < 0 ∧ lo ≤ hi := hR
    rcases iv_mp_checkSwitch_51 h with ⟨m', (⟨h1, z50, h2, cf52, h3, e0, e1, e2⟩ | ⟨h1, z76, h2, (⟨h3, z79, h4, (⟨h5, ma85, cf86, ca87, h6, z119, h7, hQ⟩ | ⟨h5, (⟨h6, z122, h7, hQ⟩ | ⟨h6, z123, h7, cf125, h8, z148, h9, hQ⟩)⟩)⟩ | ⟨h3, z149, h4, ma152, cf153, v155, h5, (⟨h6, ma170, h7, ma171, h8, z172, h9, hQ⟩ | ⟨h6, ma173, h7, ma174, h8, z175, h9, hQ⟩)⟩)⟩)⟩
    · rw [e0, e2]
      refine ⟨X0, cf, z50, h2, by rw [e1]; exact h3, S, by omega, FrM.rf, DfS.rf, by omega, fun s hs hd' => ?_⟩
      show AC cf cf (sem k vl ql F rt .null L0.length lp true s) _
      rw [sm_n]
      exact AC.ret ⟨hs, by omega, fun h0 => ⟨0, by omega, Int.le_refl _, MsR.nil hR'.1⟩⟩
    all_goals (exfalso; omega)
  | add s r ihs ihr =>
    intro m x4 x5 lo hi ma cf ca X0 pre cs h hR hh hP hhd S hL hw hC hch hpre hcs
    obtain ⟨mid, r1, r2, ⟨r3, r3'⟩, r4⟩ := hR
    have xi : x5.toNatClampNeg = lo := cn_of r1
    have hch' : ChPr na (pre ++ [lo]) hd (na 21 lo).toInt := by rw [r1] at hch; exact hch.snoc
    have hpre' : ∀ j : Nat, j ∈ pre ++ [lo] → j < mid := fun j hj => by
      rcases List.mem_append.mp hj with w | w
      · have := hpre j w; omega
      · rw [List.mem_singleton] at w; omega
    have nxt : ∀ {ma1 : Nat → Nat → Int32} {cf1 : Nat → Int32} {ca1 : Nat → Nat → Int32} {y4 z : Int32} {m' : Nat} {X1 : Nms} {cs1 : List Int32}, FrM ma ma1 lo mid → DfS cf cf1 → CkS k vl c na ca0 n38 M0 (L0 ++ X1) L0.length cf1 ca1 ma1 → (L0 ++ X1).length ≤ mid → (0 ≤ (cf1 42).toInt ∧ (cf1 42).toInt ≤ 5000 * (mid : Int)) → (Uc cf1 → CsI na ma1 (pre ++ [lo]) cs1) → (∀ s' : Sg, s'.1 = L0 ++ X0 → s'.2.2.2 = (cs, decide (¬ x4.toInt = 0)) → AC cf cf1 (sem k vl ql F rt s L0.length lp true s') (fun s1 => s1.1 = L0 ++ X1 ∧ s1.2.2.2 = (cs1, decide (¬ y4.toInt = 0)) ∧ s1.2.1 = s'.2.1 + ((cf1 42).toInt - (cf 42).toInt) ∧ (0 ≤ s'.2.2.1 → ∃ h : Int, s1.2.2.1 = max s'.2.2.1 h ∧ 0 ≤ h ∧ Ms na ca0 M0 lo mid x5 h ma1))) → z = na 21 lo → E_mp_checkSwitch RL tf ta na p0 ma' cf' ca' m' 51 [x2, x3, y4, z] [] [] [] [] ma1 cf1 ca1 → OkU k vl c na ca0 n38 M0 L0 X0 lo hi x5.toInt cs (decide (¬ x4.toInt = 0)) (fun z => sem k vl ql F rt (.add s r) L0.length lp true z) x2 x3 ma cf ma' cf' ca' := by
      intro ma1 cf1 ca1 y4 z m' X1 cs1 fr dd S1 l1 w1 hcs1 a hz hE
      have rest := ihr m' y4 z mid hi ma1 cf1 ca1 X1 (pre ++ [lo]) cs1 hE (by rw [hz]; exact row_kp _ _ _ _ r4 (fun _ _ _ => rfl) (fun s l h q1 q2 q3 => ⟨q3.1, q3.2.elim (fun q => Or.inl (rpl_kp q3.1 q (FrM.ag (r := -1) fr (Or.inr q1)) (by omega))) (fun q => Or.inr (rps_kp d s l h (-1) q (fr.ags q1) (by omega)))⟩)) hh (by omega) (by rw [fr 18 P (by omega)]; exact hhd) S1 l1 w1 (hC.df dd (by omega)) (by rw [hz]; exact hch') hpre' hcs1
      rw [hz] at rest
      exact (OkU.st fr dd r1 ⟨by omega, r2.2⟩ a rest).mp (fun z => sm_a)
    have cse : ∀ {ma1 ma2 : Nat → Nat → Int32} {cf1 : Nat → Int32} {w f z zz : Int32} {m' : Nat}, (na 14 lo).toInt = 29 → z = na 17 lo → R_mp_checkConstant tf ta na ca z ma cf ma1 cf1 w → ma2 = vu (vu ma1 22 lo f) 18 lo (cf1 57) → ((w.toInt = 0 ∧ f.toInt = 0) ∨ (¬ w.toInt = 0 ∧ f.toInt = 1)) → zz = ma2 18 P → E_mp_checkSwitch RL tf ta na p0 ma' cf' ca' m' 113 [x2, x3, x4, x5, zz] [] [] [] [] ma2 cf1 ca → OkU k vl c na ca0 n38 M0 L0 X0 lo hi x5.toInt cs (decide (¬ x4.toInt = 0)) (fun z => sem k vl ql F rt (.add s r) L0.length lp true z) x2 x3 ma cf ma' cf' ca' := by
      intro ma1 ma2 cf1 w f z zz m' h29 hz hk hm2 hf hzz hE
      rcases r3' with q | q
      · rcases q with ⟨e, t, q1, q2, q3⟩ | ⟨t, q1, q2⟩
        · obtain ⟨o1, o2, o3, o4, o5⟩ := kn_s (hi := mid) H S (by omega) (by rw [hz]; exact q3) hk
          have f1 : FrM ma ma2 lo mid := fun g i y => by rw [hm2, vu_at (by omega), vu_at (by omega)]; exact o2 g i (by omega)
          have z18 : ma2 18 P = ma 18 P := f1 18 P (by omega)
          obtain ⟨m2, cf2, g1, g2, g3, g4⟩ := sw_113 (ca' := ca') (cf' := cf') (ma' := ma') r1 pre m' zz cf1 hE (by rw [hzz, z18, hhd, ← r1]; exact hch) hpre
          have m22 : ma2 22 lo = f := by rw [hm2, vu_p (by omega), vu_s]
          have m18 : ma2 18 lo = cf1 57 := by rw [hm2, vu_s]
          have hM : MgO na M0 (ma2 22) := fun i y => by
            have ne : ¬ i = lo := fun e => by rw [e] at y; exact y h29
            rw [hm2, vu_at ne, vu_at ne]
            exact o4.2.2.2.1 i y
          have e42 : cf2 42 = cf 42 := (g2 42 (by decide) (by decide)).trans (o1 42 (by decide) (by decide) (by decide))
          refine nxt (y4 := x4) (X1 := X0) (cs1 := cs ++ [cf1 57]) f1 (o1.df.tr g2.df) (o4.sm (g2 33 (by decide) (by decide)) (g2 37 (by decide) (by decide)) (g2 38 (by decide) (by decide)) hM) (by omega) (by rw [e42]; omega) (fun u => ?_) (fun s' hs' hd' => ?_) rfl g1
          · have u1 : Uc cf1 := by
              by_cases y : Uc cf1
              · exact y
              · exact absurd u (g3 y)
            have u0 : Uc cf := by
              by_cases y : Uc cf
              · exact y
              · exact absurd u1 (o5.1 y)
            have w1 : w.toInt = 1 := by
              rcases opt_c ((att k vl (lkp (L0 ++ X0)) F e [] 0).bind aKon) with hy | ⟨a, hy⟩
              · exact absurd u1 (o5.n u0 hy)
              · exact (o5.y u0 hy).2.1
            have y := ((hcs u0).fr f1 hpre).yes h29 (by rw [m22]; omega)
            rw [m18] at y
            exact y
          · rw [q1, sm_10, hs', hd']
            refine AC.of (fun b => g3 (o5.1 b)) (fun u => ?_)
            rcases opt_c ((att k vl (lkp (L0 ++ X0)) F e [] 0).bind aKon) with hy | ⟨a, hy⟩
            · exact Or.inl ⟨by rw [hy]; rfl, g3 (o5.n u hy)⟩
            · obtain ⟨u1, w1, w2⟩ := o5.y u hy
              have CI := (hcs u).fr f1 hpre
              rcases g4 u1 with ⟨y1, y2⟩ | ⟨y1, j, j1, j2, j3, j4, j5⟩
              · have nin : ¬ a.2.2.1 ∈ cs := fun hin => by
                  obtain ⟨j, j1, j2, j3⟩ := (CI.2 _).mp hin
                  exact y2 j j1 ⟨j2, CI.1 j j1 j2, by rw [m22]; omega, by rw [j3, m18, w2]⟩
                refine Or.inr ⟨(L0 ++ X0, s'.2.1, s'.2.2.1, cs ++ [a.2.2.1], decide (¬ x4.toInt = 0)), ?_, y1, rfl, by rw [w2], ?_, fun h0 => ⟨0, ?_, Int.le_refl _, ms_n r1 (Or.inr (by omega))⟩⟩
                · rw [hy]
                  show (if a.2.2.1 ∈ cs then none else some (L0 ++ X0, s'.2.1, s'.2.2.1, cs ++ [a.2.2.1], decide (¬ x4.toInt = 0))) = _
                  exact if_neg nin
                · show s'.2.1 = _
                  rw [e42]; omega
                · show s'.2.2.1 = _
                  omega
              · have yin : a.2.2.1 ∈ cs := (CI.2 _).mpr ⟨j, j1, j2, by rw [j5, m18, w2]⟩
                refine Or.inl ⟨?_, y1⟩
                rw [hy]
                show (if a.2.2.1 ∈ cs then none else some (L0 ++ X0, s'.2.1, s'.2.2.1, cs ++ [a.2.2.1], decide (¬ x4.toInt = 0))) = none
                exact if_pos yin
        · exfalso; omega
      · exact absurd h29 (rps_kd q).1
    rcases iv_mp_checkSwitch_51 h with ⟨m', (⟨h1, z50, h2, cf52, h3, e0, e1, e2⟩ | ⟨h1, z76, h2, (⟨h3, z79, h4, (⟨h5, ma85, cf86, ca87, h6, z119, h7, hQ⟩ | ⟨h5, (⟨h6, z122, h7, hQ⟩ | ⟨h6, z123, h7, cf125, h8, z148, h9, hQ⟩)⟩)⟩ | ⟨h3, z149, h4, ma152, cf153, v155, h5, (⟨h6, ma170, h7, ma171, h8, z172, h9, hQ⟩ | ⟨h6, ma173, h7, ma174, h8, z175, h9, hQ⟩)⟩)⟩)⟩
    · exfalso; omega
    · rw [xi] at h2 h4 h7
      rw [h2] at h3
      rw [h4] at h5
      rcases r3' with q | q
      · rcases q with ⟨e, t, -, q2, -⟩ | ⟨t, -, q2⟩
        · exact absurd q2 h3
        · exact absurd q2 h5
      · have one := HS d s x5 lo mid L0.length (L0 ++ X0) lp true ma cf ca ma85 cf86 ca87 q (by omega) r1 S hL hw hC h6
        obtain ⟨X, a1, a2, a3, a4, a5, a6⟩ := one
        rw [List.append_assoc] at a1 a2
        refine nxt (y4 := x4) (X1 := X0 ++ X) (cs1 := cs) a3 a4 a1 a2 a5 (fun u => ?_) (fun s' hs' hd' => ?_) h7 hQ
        · have u0 : Uc cf := by
            by_cases w : Uc cf
            · exact w
            · exact absurd u ((a6 (L0 ++ X0, 0, 0, [], false) rfl).1 w)
          exact ((hcs u0).fr a3 hpre).no h3
        · refine (a6 s' hs').imp (fun s1 y => ⟨by rw [y.1, List.append_assoc], y.2.2.1.trans hd', y.2.1, fun h0 => y.2.2.2 rfl h0⟩)
    · rw [xi] at h2 h4 h7
      rw [h2] at h3
      rw [h4] at h5
      rcases r3' with q | q
      · rcases q with ⟨e, t, -, q2, -⟩ | ⟨t, q1, q2⟩
        · exact absurd q2 h3
        · refine nxt (y4 := 1) (X1 := X0) (cs1 := cs) FrM.rf DfS.rf S (by omega) (by omega) (fun u => (hcs u).no h3) (fun s' hs' hd' => ?_) h7 hQ
          rw [q1, sm_11, if_neg (by rw [hd']; simp [h6])]
          exact AC.ret ⟨hs', by rw [hd']; rfl, by show s'.2.1 = _; omega, fun h0 => ⟨0, by show s'.2.2.1 = _; omega, Int.le_refl _, ms_n r1 (Or.inr (by omega))⟩⟩
      · exfalso
        exact (rps_kd q).2 h5
    · rw [xi] at h2 h4 h7 h9
      rw [h2] at h3
      rw [h4] at h5
      have bb := bad_r h8 (by decide)
      rcases r3' with q | q
      · rcases q with ⟨e, t, -, q2, -⟩ | ⟨t, q1, q2⟩
        · exact absurd q2 h3
        · refine nxt (y4 := 1) (X1 := X0) (cs1 := cs) FrM.rf bb.2.df (S.sm (bb.2 33 (by decide) (by decide)) (bb.2 37 (by decide) (by decide)) (bb.2 38 (by decide) (by decide)) S.2.2.2.1) (by omega) (by rw [bb.2 42 (by decide) (by decide)]; omega) (fun u => absurd u bb.1) (fun s' hs' hd' => ?_) h9 hQ
          rw [q1, sm_11, if_pos (by rw [hd']; simp [h6])]
          exact AC.bad h8 (by decide)
      · exfalso
        exact (rps_kd q).2 h5
    · rw [xi] at h2 h4 h7 h8
      rw [h2] at h3
      rw [h7] at h8
      rw [cn_of hp] at h9
      exact cse h3 h4 h5 h8 (Or.inl ⟨h6, rfl⟩) h9 hQ
    · rw [xi] at h2 h4 h7 h8
      rw [h2] at h3
      rw [h7] at h8
      rw [cn_of hp] at h9
      exact cse h3 h4 h5 h8 (Or.inr ⟨h6, rfl⟩) h9 hQ
  | _ => intro m x4 x5 lo hi ma cf ca X0 pre cs h hR; exact hR.elim
/-- a switch's parts, and what is left behind them -/
theorem sw_t {x2 x3 z5 z9 : Int32} {P l0 m : Nat} {b1 : Ast} (H : TxH tf ta na ca0 k vl ql c n38 M0 F) (HS : HSz tf ta na ca0 k vl ql c n38 M0 F rt RL) (hh : hi ≤ 100000) (hp : p0.toInt = (P : Int)) (hP : P < lo) (h18 : (ma 18 P).toInt = z5.toInt) (S : CkS k vl c na ca0 n38 M0 L sc cf ca ma) (hL : L.length ≤ lo) (hw : 0 ≤ (cf 42).toInt ∧ (cf 42).toInt ≤ 5000 * (lo : Int)) (hC : CtS na M0 rt lp bk l0 cf) (hl0 : l0 < lo) (hR : RowS na (fun s l h => l < h ∧ (RepL k c na ma s l h ∨ RepS k c na ma d s l h)) b1 z5.toInt lo hi) (hz9 : z9 = cf 45 + (1 : Int32)) (hx2 : x2 = cf 33) (hx3 : x3 = cf 37) (hQ : E_mp_checkSwitch RL tf ta na p0 ma' cf' ca' m 51 [x2, x3, (0 : Int32), z5] [] [] [] [] ma (upd (upd cf 37 (cf 33)) 45 z9) ca) : OkZ k vl c na ca0 n38 M0 L sc lo hi (MsR na ca0 M0 lo hi z5.toInt) false (fun z => (sem k vl ql F rt b1 z.1.length lp true (z.1, z.2.1, z.2.2.1, [], false)).bind fun z2 => some (z2.1.take z.1.length, z2.2.1, z2.2.2.1, z.2.2.2)) ma cf ma' cf' ca' := by
  have lh := row_le hR
  obtain ⟨c1, ⟨c2, c3, c4⟩, c5, c6, c7⟩ := hC
  have y9 := ti_add hz9 rfl (show (1 : Int32).toInt = 1 from rfl) (by omega) (by omega)
  have q0 : ∀ j : Nat, ¬ j = 37 → ¬ j = 45 → (upd (upd cf 37 (cf 33)) 45 z9) j = cf j := fun j q1 q2 => by rw [pk_un q2, pk_un q1]
  have S0 : CkS k vl c na ca0 n38 M0 (L ++ []) L.length (upd (upd cf 37 (cf 33)) 45 z9) ca ma := by
    rw [List.append_nil]
    exact ⟨S.1.sm (q0 33 (by decide) (by decide)), (q0 38 (by decide) (by decide)).trans S.2.1, S.2.2.1, S.2.2.2.1, by rw [pk_un (by decide), pk_us]; exact S.1.1, Nat.le_refl _, S.2.2.2.2.2.2⟩
  have hC0 : CtS na M0 rt lp true lo (upd (upd cf 37 (cf 33)) 45 z9) := by
    unfold CtS
    rw [q0 43 (by decide) (by decide), q0 44 (by decide) (by decide), pk_us]
    exact ⟨c1, ⟨c2, by omega, c4⟩, by omega, by omega, ⟨fun _ => Or.inr (by omega), fun _ => rfl⟩⟩
  obtain ⟨X, cf6, z, u1, u2, u3, u4, u5, u6, u7, u8⟩ := sw_51 (lp := lp) (L0 := L) (hd := z5.toInt) H HS hp b1 m (0 : Int32) z5 lo hi ma _ ca [] [] [] hQ hR hh hP h18 S0 (by rw [List.append_nil]; exact hL) (by rw [q0 42 (by decide) (by decide)]; exact hw) hC0 rfl (fun j hj => absurd hj (by simp)) (fun _ => ⟨fun j hj => absurd hj (by simp), fun x => ⟨fun hx => absurd hx (by simp), fun ⟨j, hj, _⟩ => absurd hj (by simp)⟩⟩)
  rcases u2 with e0 | u2
  · have e6 : cf6 45 = z9 := (u6 45 (by decide) (by decide) (by decide) (by decide) (by decide) (by decide) (by decide) (by decide)).trans pk_us
    rw [e6] at u1
    have yz := ti_sub u1 y9 (show (1 : Int32).toInt = 1 from rfl) (by omega) (by omega)
    have fr : ∀ j : Nat, ¬ j = 33 → ¬ j = 37 → ¬ j = 45 → cf' j = cf6 j := fun j q1 q2 q3 => by rw [e0, pk_un q2, pk_un q1, pk_un q3]
    have e33 : cf' 33 = cf 33 := by rw [e0, pk_un (by decide), pk_us, hx2]
    have e37 : cf' 37 = cf 37 := by rw [e0, pk_us, hx3]
    have e45 : cf' 45 = cf 45 := by rw [e0, pk_un (by decide), pk_un (by decide), pk_us]; exact Int32.toInt_inj.mp (by omega)
    have e42 : cf' 42 = cf6 42 := fr 42 (by decide) (by decide) (by decide)
    have e42' := q0 42 (by decide) (by decide)
    have E := u3.1.tk (n := L.length) (cf' := cf') (by rw [List.length_append]; omega) (by rw [e33]; exact S.1.1)
    rw [List.take_left] at E
    refine ⟨[], ?_, by rw [List.append_nil]; omega, u5, fun j h1 h2 h3 h4 h5 h6 h7 h8 => ?_, by rw [e42]; exact u7, fun s hs => ?_⟩
    · rw [List.append_nil]
      exact ⟨E, (fr 38 (by decide) (by decide) (by decide)).trans u3.2.1, u3.2.2.1, u3.2.2.2.1, by rw [e37]; exact S.2.2.2.2.1, S.2.2.2.2.2.1, u3.2.2.2.2.2.2⟩
    · by_cases q : j = 37
      · rw [q]; exact e37
      · by_cases q' : j = 45
        · rw [q']; exact e45
        · exact (fr j h3 q q').trans ((u6 j h1 h2 h3 h4 h5 h6 h7 h8).trans (q0 j q q'))
    · have base := (u8 (s.1, s.2.1, s.2.2.1, [], false) (by rw [List.append_nil]; exact hs) rfl).e30 (a' := cf) (b' := cf') (q0 30 (by decide) (by decide)).symm (fr 30 (by decide) (by decide) (by decide))
      show AC cf cf' ((sem k vl ql F rt b1 s.1.length lp true (s.1, s.2.1, s.2.2.1, [], false)).bind fun z2 => some (z2.1.take s.1.length, z2.2.1, z2.2.2.1, s.2.2.2)) _
      have el : s.1.length = L.length := by rw [hs]
      rw [el]
      refine AC.bind base (fun s1 q => AC.ret ⟨?_, ?_, rfl, fun _ h0 => q.2.2 h0⟩) id
      · show s1.1.take L.length = L ++ []
        rw [q.1, List.take_left, List.append_nil]
      · show s1.2.1 = _
        rw [q.2.1, e42, e42']
  · exact u2.elim
theorem k28_t (H : TxH tf ta na ca0 k vl ql c n38 M0 F) (HS : HSz tf ta na ca0 k vl ql c n38 M0 F rt RL) (hh : hi ≤ 100000) (hlh : lo < hi) (hp : p0.toInt = (lo : Int)) (S : CkS k vl c na ca0 n38 M0 L sc cf ca ma) (hL : L.length ≤ lo) (hw : 0 ≤ (cf 42).toInt ∧ (cf 42).toInt ≤ 5000 * (lo : Int)) (hC : CtS na M0 rt lp bk lo cf) {m : Nat} {b1 : Ast} (hs : s = sNd 9 e b1) (k14 : (na 14 lo).toInt = 28) (hE : OkE k c na ma e (na 17 lo).toInt (lo + 1) m) (hR : RowS na (fun s l h => l < h ∧ (RepL k c na ma s l h ∨ RepS k c na ma d s l h)) b1 (ma 18 lo).toInt m hi) (h : R_mp_checkSwitch RL tf ta na p0 ma cf ca ma' cf' ca') : OkZ k vl c na ca0 n38 M0 L sc lo hi (Ms na ca0 M0 lo hi p0) false (fun z => sem k vl ql F rt s sc lp bk z) ma cf ma' cf' ca' := by
  obtain ⟨m0, h⟩ := h
  obtain ⟨m', z176, h1, ma179, cf180, v182, h2, z200, h3, z201, h4, hQ⟩ := iv_mp_checkSwitch_0 h
  rw [cn_of hp] at h1 h4
  have l1 := oke_le hE
  have l2 := row_le hR
  obtain ⟨j, j1, j2⟩ := hE.2.2
  rw [← h1] at hE j1
  have one := nu_t (tp := false) H S hE (by omega) (by omega) (by omega) h2
  have fr : FrM ma ma179 (lo + 1) m := by obtain ⟨_, -, -, q, -⟩ := one; exact q
  have df : DfS cf cf180 := by obtain ⟨_, -, -, -, q, -⟩ := one; exact q
  rw [fr 18 lo (by omega)] at h4
  rw [hs]
  refine (OkZ.seq (W := Ms na ca0 M0 lo hi p0) one (fun X1 s1 s2 s3 => sw_t (d := d) (lp := lp) (bk := bk) (b1 := b1) H HS hh hp (by omega) (by rw [fr 18 lo (by omega), h4]) s1 s2 s3 (hC.df df (Nat.le_refl _)) (by omega) (by rw [h4]; exact row_kp _ _ _ _ hR (fun _ _ _ => rfl) (fun s l h q1 q2 q3 => ⟨q3.1, q3.2.elim (fun q => Or.inl (rpl_kp q3.1 q (FrM.ag (r := -1) fr (Or.inr q1)) (by omega))) (fun q => Or.inr (rps_kp d s l h (-1) q (fr.ags q1) (by omega)))⟩)) h3 rfl rfl hQ) ⟨by omega, l2⟩ (fun g1 g2 _ _ f2 w1 w2 => ?_)).mp (fun z _ => ?_) (fun _ _ q => q) (by omega) (Nat.le_refl _)
  · exact ms_28 hp hlh k14 h1 (by omega) (w1.fr f2 (Or.inl (Nat.le_refl _))) ⟨by omega, by omega⟩ (by rw [f2 18 lo (by omega), fr 18 lo (by omega), h4]) w2 ⟨by omega, Nat.le_refl _⟩
  · try dsimp only
    rw [sm_9]
    unfold semE
    rcases opt_c ((att k vl (lkp z.1) F e [] 0).bind aNum) with h | ⟨y, h⟩
    · rw [h]; rfl
    · rw [h]; rfl
end SJ

