/-! THE REFERENCE's checker: a text -/
/-- frames that are not too large -/
def frOk (l : List Int) : Bool := l.all (fun r => decide (r ≤ 8192))
/-- what an item means; the frame of a function is told, not judged -/
def semTi (k : Nat → Int) (vl : Nat → Int32) (ql : Nat → Int) (LX : List FnE) : Ast → Tg → Option (List Int × Tg)
  | .elem (.arg g) (.elem a b), s =>
    if g = 20 then (semEns k vl (fun v => flk v (LX.map fnT)) 0 a s.1 0).bind fun L => some ([], (L, s.2))
    else if g = 21 then (semVars k vl ql (fun v => flk v (LX.map fnT)) true (isChr a) 0 b (s.1, s.2.1, 0, [], false)).bind fun s' => some ([], (s'.1, s'.2.1, s.2.2))
    else if g = 22 then (match a, b with
      | .elem (.arg ty) (.arg t), .elem ps bd => (fnA k vl ql (fun v => flk v (LX.map fnT)) (dupF (vl t) (LX.take s.2.2)) ty ps bd s.1).bind fun r => some ([r], (s.1, s.2.1, s.2.2 + 1))
      | _, _ => none)
    else none
  | _, _ => none
def semTx (k : Nat → Int) (vl : Nat → Int32) (ql : Nat → Int) (LX : List FnE) : Ast → Tg → Option (List Int × Tg)
  | .null, s => some ([], s)
  | .add it r, s => (semTi k vl ql LX it s).bind fun p => (semTx k vl ql LX r p.2).bind fun q => some (p.1 ++ q.1, q.2)
  | _, _ => none
section SN
variable {tf pf sb : Nat → Int32} {ta na ca ca0 ca1 ca' ma ma' ma0 : Nat → Nat → Int32} {vl M0 : Nat → Int32} {k : Nat → Int} {ql : Nat → Int} {c lo hi D sc : Nat} {n38 : Int32} {F : Int32 → Option Fnc} {cf cf' cf1 : Nat → Int32} {L : Nms} {LX : List FnE} {p0 v : Int32} {a b s : Ast} {tp ch : Bool}
theorem si_20 {z : Tg} : semItem k vl ql LX (sNd 20 a b) z = (semEns k vl (fun v => flk v (LX.map fnT)) 0 a z.1 0).bind fun L => some (L, z.2) := by first | rfl | simp [semItem, sNd]
theorem si_21 {z : Tg} : semItem k vl ql LX (sNd 21 a b) z = (semVars k vl ql (fun v => flk v (LX.map fnT)) true (isChr a) 0 b (z.1, z.2.1, 0, [], false)).bind fun s' => some (s'.1, s'.2.1, z.2.2) := by first | rfl | simp [semItem, sNd]
theorem si_22 {z : Tg} {ty t : Nat} {ps bd : Ast} : semItem k vl ql LX (sNd 22 (.elem (.arg ty) (.arg t)) (.elem ps bd)) z = semFn k vl ql LX ty t ps bd z := by first | rfl | simp [semItem, sNd]
theorem st_20 {z : Tg} : semTi k vl ql LX (sNd 20 a b) z = (semEns k vl (fun v => flk v (LX.map fnT)) 0 a z.1 0).bind fun L => some ([], (L, z.2)) := by first | rfl | simp [semTi, sNd]
theorem st_21 {z : Tg} : semTi k vl ql LX (sNd 21 a b) z = (semVars k vl ql (fun v => flk v (LX.map fnT)) true (isChr a) 0 b (z.1, z.2.1, 0, [], false)).bind fun s' => some ([], (s'.1, s'.2.1, z.2.2)) := by first | rfl | simp [semTi, sNd]
theorem st_22 {z : Tg} {ty t : Nat} {ps bd : Ast} : semTi k vl ql LX (sNd 22 (.elem (.arg ty) (.arg t)) (.elem ps bd)) z = (fnA k vl ql (fun v => flk v (LX.map fnT)) (dupF (vl t) (LX.take z.2.2)) ty ps bd z.1).bind fun r => some ([r], (z.1, z.2.1, z.2.2 + 1)) := by first | rfl | simp [semTi, sNd]
theorem tx_n {z : Tg} : semTx k vl ql LX .null z = some ([], z) := by first | rfl | simp [semTx]
theorem tx_a {z : Tg} : semTx k vl ql LX (.add a b) z = (semTi k vl ql LX a z).bind fun p => (semTx k vl ql LX b p.2).bind fun q => some (p.1 ++ q.1, q.2) := by first | rfl | simp [semTx]
theorem is_n {z : Tg} : semItems k vl ql LX .null z = some z := by first | rfl | simp [semItems]
theorem is_a {z : Tg} : semItems k vl ql LX (.add a b) z = (semItem k vl ql LX a z).bind fun z' => semItems k vl ql LX b z' := by first | rfl | simp [semItems]
/-- an item with its frame judged -/
theorem ti_it {z : Tg} (hl : lo < hi) (h : RepI k c na ma s lo hi) : semItem k vl ql LX s z = (semTi k vl ql LX s z).bind fun p => if frOk p.1 = true then some p.2 else none := by
  rcases h with ⟨vs, h, -⟩ | ⟨n, vs, h, -⟩ | ⟨d, n, t, m, ps, b, h, -⟩
  · rw [h, si_20, st_20]
    rcases opt_c (semEns k vl (fun v => flk v (LX.map fnT)) 0 vs z.1 0) with y | ⟨L, y⟩
    · rw [y]; rfl
    · rw [y]; rfl
  · rw [h, si_21, st_21]
    rcases opt_c (semVars k vl ql (fun v => flk v (LX.map fnT)) true (isChr (.arg n)) 0 vs (z.1, z.2.1, 0, [], false)) with y | ⟨L, y⟩
    · rw [y]; rfl
    · rw [y]; rfl
  · rw [h, si_22, st_22]
    unfold semFn fnA
    rcases opt_c (if dupF (vl t) (LX.take z.2.2) = true then none else semPars vl (fun v => flk v (LX.map fnT)) z.1.length ps z.1 0) with y | ⟨p, y⟩
    · rw [y]; rfl
    · rw [y]
      show ((sem k vl ql (fun v => flk v (LX.map fnT)) (n : Int) b z.1.length false false (p.1, p.2, 0, [], false)).bind _) = (((sem k vl ql (fun v => flk v (LX.map fnT)) (n : Int) b z.1.length false false (p.1, p.2, 0, [], false)).bind _).bind _).bind _
      rcases opt_c (sem k vl ql (fun v => flk v (LX.map fnT)) (n : Int) b z.1.length false false (p.1, p.2, 0, [], false)) with w | ⟨q, w⟩
      · rw [w]; rfl
      · rw [w]
        show (if 4 + q.2.1 + q.2.2.1 ≤ 8192 then some (z.1, z.2.1, z.2.2 + 1) else none) = (if frOk [4 + q.2.1 + q.2.2.1] = true then some (z.1, z.2.1, z.2.2 + 1) else none)
        have e : frOk [4 + q.2.1 + q.2.2.1] = decide (4 + q.2.1 + q.2.2.1 ≤ 8192) := by simp [frOk]
        rw [e]
        by_cases g : 4 + q.2.1 + q.2.2.1 ≤ 8192
        · rw [if_pos g, if_pos (decide_eq_true g)]
        · rw [if_neg g, if_neg (by simp [g])]
theorem fr_app {x y : List Int} : frOk (x ++ y) = (frOk x && frOk y) := by unfold frOk; rw [List.all_append]
theorem tx_its : ∀ (tree : Ast) (z : Tg) (n : Int) (lo hi : Nat), RowS na (RepI k c na ma) tree n lo hi → semItems k vl ql LX tree z = (semTx k vl ql LX tree z).bind fun p => if frOk p.1 = true then some p.2 else none := by
  intro tree
  induction tree with
  | null => intro z n lo hi _; rw [is_n, tx_n]; rfl
  | add it r ihi ihr =>
    intro z n lo hi h
    obtain ⟨mid, -, h2, h3, h4⟩ := h
    rw [is_a, tx_a, ti_it h2.1 h3]
    rcases opt_c (semTi k vl ql LX it z) with y | ⟨p, y⟩
    · rw [y]; rfl
    · rw [y]
      show ((if frOk p.1 = true then some p.2 else none).bind fun z' => semItems k vl ql LX r z') = ((semTx k vl ql LX r p.2).bind fun q => some (p.1 ++ q.1, q.2)).bind _
      cases hf : frOk p.1 with
      | true =>
        rw [if_pos rfl]
        show semItems k vl ql LX r p.2 = _
        rw [ihr p.2 _ mid hi h4]
        rcases opt_c (semTx k vl ql LX r p.2) with w | ⟨q, w⟩
        · rw [w]; rfl
        · rw [w]
          show (if frOk q.1 = true then some q.2 else none) = (if frOk (p.1 ++ q.1) = true then some q.2 else none)
          rw [fr_app, hf, Bool.true_and]
      | false =>
        rw [if_neg (by decide)]
        rcases opt_c (semTx k vl ql LX r p.2) with w | ⟨q, w⟩
        · rw [w]; rfl
        · rw [w]
          show none = (if frOk (p.1 ++ q.1) = true then some q.2 else none)
          rw [fr_app, hf, Bool.false_and, if_neg (by decide)]
  | _ => intro z n lo hi h; exact h.elim
/-- words of variables -/
theorem vw_1 {z z' : Sg} {w : Ast} (h : RepV k c na ma w lo hi) (e : semVar k vl ql F tp ch sc w z = some z') : z.2.1 ≤ z'.2.1 ∧ z'.2.1 ≤ z.2.1 + 4096 := by
  have ar : ∀ {t : Nat} {n : Int} {x : Option Nms}, (x.bind fun L => some (L, z.2.1 + wds ch n, z.2.2)) = some z' → (1 ≤ n ∧ n ≤ 4096) → z.2.1 ≤ z'.2.1 ∧ z'.2.1 ≤ z.2.1 + 4096 := by
    intro t n x q hn
    rcases opt_c x with y | ⟨L, y⟩
    · rw [y] at q; exact absurd q (by simp)
    · rw [y] at q
      have q' : some (L, z.2.1 + wds ch n, z.2.2) = some z' := q
      injection q' with q'
      rw [← q']
      show z.2.1 ≤ z.2.1 + wds ch n ∧ z.2.1 + wds ch n ≤ z.2.1 + 4096
      cases ch with
      | false => rw [wds_f]; omega
      | true => rw [wds_t]; omega
  have sz : ∀ {e : Ast} {n : Int}, semSz k vl (lkp z.1) F e = some n → 1 ≤ n ∧ n ≤ 4096 := by
    intro e n q
    unfold semSz at q
    rcases opt_c ((att k vl (lkp z.1) F e [] 0).bind aKon) with y | ⟨a, y⟩
    · rw [y] at q; exact absurd q (by simp)
    · rw [y] at q
      have q' : (if 1 ≤ a.2.2.1.toInt ∧ a.2.2.1.toInt ≤ 4096 then some a.2.2.1.toInt else none) = some n := q
      by_cases g : 1 ≤ a.2.2.1.toInt ∧ a.2.2.1.toInt ≤ 4096
      · rw [if_pos g] at q'
        injection q' with q'
        omega
      · rw [if_neg g] at q'
        exact absurd q' (by simp)
  have one : ∀ {x : Option Nms} {g : Int}, (x.bind fun L => some (L, z.2.1 + 1, g, z.2.2.2)) = some z' → z.2.1 ≤ z'.2.1 ∧ z'.2.1 ≤ z.2.1 + 4096 := by
    intro x g q
    rcases opt_c x with y | ⟨L, y⟩
    · rw [y] at q; exact absurd q (by simp)
    · rw [y] at q
      have q' : some (L, z.2.1 + 1, g, z.2.2.2) = some z' := q
      injection q' with q'
      rw [← q']
      show z.2.1 ≤ z.2.1 + 1 ∧ z.2.1 + 1 ≤ z.2.1 + 4096
      omega
  obtain ⟨-, -, t, -, h⟩ := h
  have arr : ∀ {x : Option Nms} {y : Option Int}, (∀ n : Int, y = some n → 1 ≤ n ∧ n ≤ 4096) → (x.bind fun L => y.bind fun n => some (L, z.2.1 + wds ch n, z.2.2)) = some z' → z.2.1 ≤ z'.2.1 ∧ z'.2.1 ≤ z.2.1 + 4096 := by
    intro x y hy q
    rcases opt_c y with g | ⟨n, g⟩
    · rw [g] at q
      rcases opt_c x with w | ⟨L, w⟩
      · rw [w] at q; exact absurd q (by simp)
      · rw [w] at q; exact absurd q (by simp)
    · rw [g] at q
      exact ar (t := 0) (n := n) (x := x) q (hy n g)
  rcases h with ⟨a1, -⟩ | ⟨e', a1, -⟩ | ⟨e', a1, -⟩ | ⟨e', l, m, a1, -⟩ | ⟨e', u, a1, -⟩
  · rw [a1, sv_s] at e
    exact one (g := z.2.2.1) e
  · rw [a1, sv_i] at e
    rcases opt_c ((att k vl (lkp z.1) F e' [] 0).bind (if tp = true then aKon else aNum)) with y | ⟨a, y⟩
    · rw [y] at e; exact absurd e (by simp)
    · rw [y] at e
      exact one e
  · rw [a1, sv_r] at e
    exact arr (fun n q => sz (e := e') q) e
  · rw [a1, sv_l] at e
    refine arr (fun n q => ?_) e
    have q' : ((semSz k vl (lkp z.1) F e').bind fun n => (semKs k vl (lkp z.1) F l).bind fun m => if m ≤ n then some n else none) = some n := q
    rcases opt_c (semSz k vl (lkp z.1) F e') with y | ⟨x, y⟩
    · rw [y] at q'; exact absurd q' (by simp)
    · rw [y] at q'
      have q2 : ((semKs k vl (lkp z.1) F l).bind fun m => if m ≤ x then some x else none) = some n := q'
      rcases opt_c (semKs k vl (lkp z.1) F l) with w | ⟨j, w⟩
      · rw [w] at q2; exact absurd q2 (by simp)
      · rw [w] at q2
        have q3 : (if j ≤ x then some x else none) = some n := q2
        split at q3
        · injection q3 with q3
          rw [← q3]; exact sz y
        · exact absurd q3 (by simp)
  · rw [a1, sv_t] at e
    refine arr (fun n q => ?_) e
    have q' : ((semSz k vl (lkp z.1) F e').bind fun n => if ch = true ∧ ql u < n then some n else none) = some n := q
    rcases opt_c (semSz k vl (lkp z.1) F e') with y | ⟨x, y⟩
    · rw [y] at q'; exact absurd q' (by simp)
    · rw [y] at q'
      have q3 : (if ch = true ∧ ql u < x then some x else none) = some n := q'
      split at q3
      · injection q3 with q3
        rw [← q3]; exact sz y
      · exact absurd q3 (by simp)
theorem vw_b : ∀ (vs : Ast) (n : Int) (lo hi : Nat) (z z' : Sg), RowS na (RepV k c na ma) vs n lo hi → semVars k vl ql F tp ch sc vs z = some z' → z.2.1 ≤ z'.2.1 ∧ z'.2.1 ≤ z.2.1 + 4096 * ((hi : Int) - (lo : Int)) := by
  intro vs
  induction vs with
  | null =>
    intro n lo hi z z' h e
    have h' : n < 0 ∧ lo ≤ hi := h
    have e' : some z = some z' := e
    injection e' with e'
    rw [e']
    omega
  | add w r ihw ihr =>
    intro n lo hi z z' h e
    obtain ⟨mid, -, h2, h3, h4⟩ := h
    have e' : (semVar k vl ql F tp ch sc w z).bind (semVars k vl ql F tp ch sc r) = some z' := e
    rcases opt_c (semVar k vl ql F tp ch sc w z) with y | ⟨z1, y⟩
    · rw [y] at e'; exact absurd e' (by simp)
    · rw [y] at e'
      have q1 := vw_1 h3 y
      have q2 := ihr _ mid hi z1 z' h4 e'
      omega
  | _ => intro n lo hi z z' h; exact h.elim
theorem TxH.st (H : TxH tf ta na ca0 k vl ql c n38 M0 F) (hc : ca 39 = ca0 39) : TxH tf ta na ca k vl ql c n38 M0 F := ⟨H.1, H.2.1, H.2.2.1, H.2.2.2.1.st hc MgO.rf, H.2.2.2.2.1.st hc, H.2.2.2.2.2⟩
theorem row_kp2 {na' : Nat → Nat → Int32} {R R' : Ast → Nat → Nat → Prop} (e : Ast) (n : Int) (lo hi : Nat) : RowS na R e n lo hi → (∀ i : Nat, lo ≤ i → i < hi → na' 21 i = na 21 i) → (∀ (s : Ast) (l h : Nat), lo ≤ l → l < h → h ≤ hi → R s l h → R' s l h) → RowS na' R' e n lo hi := by
  fun_induction RowS na R e n lo hi
  all_goals intro h h1 h2
  case case1 => exact h
  case case2 =>
    rename_i s r n lo hi ih
    obtain ⟨mid, a1, a2, a3, a4⟩ := h
    refine ⟨mid, a1, a2, h2 s lo mid (Nat.le_refl _) a2.1 a2.2 a3, ?_⟩
    rw [h1 lo (Nat.le_refl _) (by omega)]
    exact ih mid a4 (fun i q1 q2 => h1 i (by omega) q2) (fun s l h q1 q0 q2 q3 => h2 s l h (by omega) q0 q2 q3)
  case case3 => exact h.elim
/-- the functions of a row of items, from number f on -/
def FnO (na ca : Nat → Nat → Int32) : Ast → Int → Nat → Prop
  | .add _ r, n, f => ∃ i : Nat, n = (i : Int) ∧ (((na 14 i).toInt = 41 ∧ (ca 39 f).toInt = (i : Int) ∧ FnO na ca r (na 21 i).toInt (f + 1)) ∨ (¬ (na 14 i).toInt = 41 ∧ FnO na ca r (na 21 i).toInt f))
  | _, _, _ => True
theorem fns_a : fnsO vl (.add a b) = fnO vl a ++ fnsO vl b := by first | rfl | simp [fnsO]
theorem fno_k (h : RepI k c na ma s lo hi) : ((na 14 lo).toInt = 41 ∧ (fnO vl s).length = 1) ∨ (¬ (na 14 lo).toInt = 41 ∧ fnO vl s = []) := by
  rcases h with ⟨vs, h, q, -⟩ | ⟨n, vs, h, q, -⟩ | ⟨d, n, t, m, ps, b, h, q, -⟩
  · exact Or.inr ⟨by omega, by rw [h]; rfl⟩
  · exact Or.inr ⟨by omega, by rw [h]; rfl⟩
  · exact Or.inl ⟨q, by rw [h]; rfl⟩
theorem fns_le : ∀ (tree : Ast) (n : Int) (lo hi : Nat), RowS na (RepI k c na ma) tree n lo hi → lo + (fnsO vl tree).length ≤ hi := by
  intro tree
  induction tree with
  | null => intro n lo hi h; exact h.2
  | add it r ihi ihr =>
    intro n lo hi h
    obtain ⟨mid, -, h2, h3, h4⟩ := h
    have := ihr _ mid hi h4
    rw [fns_a, List.length_append]
    rcases fno_k (vl := vl) h3 with ⟨-, q⟩ | ⟨-, q⟩
    · omega
    · rw [q]
      show lo + (0 + (fnsO vl r).length) ≤ hi
      omega
  | _ => intro n lo hi h; exact h.elim
/-- the functions are counted -/
theorem ct_10 : ∀ (tree : Ast) (m : Nat) (x : Int32) (lo hi f : Nat) (cf : Nat → Int32) (ca : Nat → Nat → Int32) (ma : Nat → Nat → Int32), E_mp_checkText sb D tf ta pf na ma' cf' ca' ma0 m 10 [x] [] [] [] [] ma cf ca → RowS na (RepI k c na ma0) tree x.toInt lo hi → hi ≤ 100000 → (cf 38).toInt = (f : Int) → f ≤ lo → ∃ (m' : Nat) (cfT : Nat → Int32) (caT : Nat → Nat → Int32), E_mp_checkText sb D tf ta pf na ma' cf' ca' ma0 m' 102 [(0 : Int32), pf 24] [] [] [] [] ma0 (upd (upd (upd (upd (upd (upd (upd (upd cfT 33 0) 37 0) 41 0) 43 (-1)) 44 0) 45 0) 48 0) 55 0) caT ∧ FnO na caT tree x.toInt f ∧ (∀ j : Nat, j < f → caT 39 j = ca 39 j) ∧ (cfT 38).toInt = ((f + (fnsO vl tree).length : Nat) : Int) ∧ (∀ j : Nat, ¬ j = 38 → cfT j = cf j) ∧ (∀ i : Nat, ¬ i = 39 → caT i = ca i) := by
  intro tree
  induction tree with
  | null =>
    intro m x lo hi f cf ca ma h hR hh h38 hf
    have hR' : x.toInt < 0 ∧ lo ≤ hi := hR
    rcases iv_mp_checkText_10 h with ⟨m', (⟨h1, hQ⟩ | ⟨h1, z244, h2, (⟨h3, z247, h4, hQ⟩ | ⟨h3, ca248, h4, z250, h5, z251, h6, hQ⟩)⟩)⟩
    · exact ⟨m', cf, ca, hQ, trivial, fun _ _ => rfl, by rw [h38]; rfl, fun _ _ => rfl, fun _ _ => rfl⟩
    all_goals (exfalso; omega)
  | add it r ihi ihr =>
    intro m x lo hi f cf ca ma h hR hh h38 hf
    obtain ⟨mid, r1, r2, r3, r4⟩ := hR
    have xi : x.toNatClampNeg = lo := cn_of r1
    rcases iv_mp_checkText_10 h with ⟨m', (⟨h1, hQ⟩ | ⟨h1, z244, h2, (⟨h3, z247, h4, hQ⟩ | ⟨h3, ca248, h4, z250, h5, z251, h6, hQ⟩)⟩)⟩
    · exfalso; omega
    · rw [xi] at h2 h4
      rw [h2] at h3
      rcases fno_k (vl := vl) r3 with ⟨q, -⟩ | ⟨q, q2⟩
      · exact absurd q h3
      · obtain ⟨m2, cfT, caT, g1, g2, g3, g4, g5, g6⟩ := ihr m' z247 mid hi f cf ca ma0 hQ (by rw [h4]; exact r4) hh h38 (by omega)
        rw [h4] at g2
        exact ⟨m2, cfT, caT, g1, ⟨lo, r1, Or.inr ⟨q, g2⟩⟩, g3, by rw [fns_a, q2]; exact g4, g5, g6⟩
    · rw [xi] at h2 h6
      rw [h2] at h3
      rcases fno_k (vl := vl) r3 with ⟨q, q2⟩ | ⟨q, -⟩
      · have z1 := ti_add h5 h38 (show (1 : Int32).toInt = 1 from rfl) (by omega) (by omega)
        rw [cn_of h38] at h4
        have h4' : ca248 = vu ca 39 f x := h4
        obtain ⟨m2, cfT, caT, g1, g2, g3, g4, g5, g6⟩ := ihr m' z251 mid hi (f + 1) (upd cf 38 z250) ca248 ma0 hQ (by rw [h6]; exact r4) hh (by rw [pk_us]; omega) (by omega)
        rw [h6] at g2
        refine ⟨m2, cfT, caT, g1, ⟨lo, r1, Or.inl ⟨q, ?_, g2⟩⟩, fun j hj => ?_, ?_, fun j hj => (g5 j hj).trans (pk_un hj), fun i hi => ?_⟩
        · rw [g3 f (Nat.lt_succ_self f), h4', vu_s]; exact r1
        · rw [g3 j (by omega), h4', vu_at (by omega)]
        · rw [g4, fns_a, List.length_append, q2]
          congr 1
          omega
        · rw [g6 i hi, h4']
          exact va_up_n hi
      · exact absurd h3 q
  | _ => intro m x lo hi f cf ca ma h hR; exact hR.elim
end SN
