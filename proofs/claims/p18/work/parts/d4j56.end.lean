/-! THE REFERENCE's checker: a text whole -/
theorem fr_ok {l : List Int} : frOk l = true ↔ ∀ (j : Nat) (r : Int), l[j]? = some r → r ≤ 8192 := by
  unfold frOk
  rw [List.all_eq_true]
  constructor
  · intro h j r hj
    exact of_decide_eq_true (h r (List.mem_of_getElem? hj))
  · intro h r hr
    obtain ⟨j, hj⟩ := List.getElem?_of_mem hr
    exact decide_eq_true (h j r hj)
section SP
variable {tf pf sb : Nat → Int32} {ta na ca ca0 ca' ma ma' ma0 : Nat → Nat → Int32} {vl : Nat → Int32} {k : Nat → Int} {ql : Nat → Int} {c D N : Nat} {cf cf' : Nat → Int32} {LX : List FnE} {tree : Ast}
theorem tx_nd : ∀ (tree : Ast) (z : Tg) (p : List Int × Tg) (n : Int) (lo hi f : Nat), RowS na (RepI k c na ma) tree n lo hi → semTx k vl ql LX tree z = some p → z.2.2 = 10 + f → ∀ (j : Nat) (e : FnE), (fnsO vl tree)[j]? = some e → dupF e.1 (LX.take (10 + (f + j))) = false := by
  intro tree
  induction tree with
  | null => intro z p n lo hi f _ _ _ j e he; exact absurd he (by simp [fnsO])
  | add it r ihi ihr =>
    intro z p n lo hi f h hs hz j e he
    obtain ⟨mid, -, h2, h3, h4⟩ := h
    rw [tx_a] at hs
    rcases opt_c (semTi k vl ql LX it z) with y | ⟨q, y⟩
    · rw [y] at hs; exact absurd hs (by simp)
    · rw [y] at hs
      have hs' : ((semTx k vl ql LX r q.2).bind fun w => some (q.1 ++ w.1, w.2)) = some p := hs
      rcases opt_c (semTx k vl ql LX r q.2) with w | ⟨w, hw⟩
      · rw [w] at hs'; exact absurd hs' (by simp)
      · rw [fns_a] at he
        rcases h3 with ⟨vs, a1, -⟩ | ⟨n', vs, a1, -⟩ | ⟨d, n', t, m, ps, b, a1, -⟩
        · have eo : fnO vl it = [] := by rw [a1]; rfl
          rw [eo, List.nil_append] at he
          have e2 : q.2.2.2 = z.2.2 := by
            rw [a1, st_20] at y
            rcases opt_c (semEns k vl (fun v => flk v (LX.map fnT)) 0 vs z.1 0) with g | ⟨L, g⟩
            · rw [g] at y; exact absurd y (by simp)
            · rw [g] at y
              have y' : some (([] : List Int), (L, z.2)) = some q := y
              injection y' with y'
              rw [← y']
          exact ihr q.2 w _ mid hi f h4 hw (by rw [e2]; exact hz) j e he
        · have eo : fnO vl it = [] := by rw [a1]; rfl
          rw [eo, List.nil_append] at he
          have e2 : q.2.2.2 = z.2.2 := by
            rw [a1, st_21] at y
            rcases opt_c (semVars k vl ql (fun v => flk v (LX.map fnT)) true (isChr (.arg n')) 0 vs (z.1, z.2.1, 0, [], false)) with g | ⟨s', g⟩
            · rw [g] at y; exact absurd y (by simp)
            · rw [g] at y
              have y' : some (([] : List Int), (s'.1, s'.2.1, z.2.2)) = some q := y
              injection y' with y'
              rw [← y']
          exact ihr q.2 w _ mid hi f h4 hw (by rw [e2]; exact hz) j e he
        · have eo : fnO vl it = [(vl t, (n' : Int), wnX ps)] := by rw [a1]; rfl
          rw [eo] at he
          rw [a1, st_22] at y
          rcases opt_c (fnA k vl ql (fun v => flk v (LX.map fnT)) (dupF (vl t) (LX.take z.2.2)) n' ps b z.1) with g | ⟨x, g⟩
          · rw [g] at y; exact absurd y (by simp)
          · rw [g] at y
            have y' : some ([x], (z.1, z.2.1, z.2.2 + 1)) = some q := y
            injection y' with y'
            cases j with
            | zero =>
              have he' : some (vl t, (n' : Int), wnX ps) = some e := he
              injection he' with he'
              rw [← he', Nat.add_zero, ← hz]
              show dupF (vl t) (LX.take z.2.2) = false
              cases hd : dupF (vl t) (LX.take z.2.2) with
              | false => rfl
              | true =>
                unfold fnA at g
                rw [hd, if_pos rfl] at g
                exact absurd g (by simp)
            | succ j =>
              have he' : (fnsO vl r)[j]? = some e := by
                have h0 := he
                rw [List.singleton_append, List.getElem?_cons_succ] at h0
                exact h0
              have r2 := ihr q.2 w _ mid hi (f + 1) h4 hw (by rw [← y']; show z.2.2 + 1 = _; omega) j e he'
              rw [show f + (j + 1) = f + 1 + j by omega]
              exact r2
  | _ => intro z p n lo hi f h; exact h.elim
theorem ct_218 : ∀ (d i m : Nat) (x : Int32) (cf : Nat → Int32), E_mp_checkText sb D tf ta pf na ma' cf' ca' ma0 m 218 [x] [] [] [] [] ma cf ca → x.toInt = (i : Int) → (cf 38).toInt = ((i + d : Nat) : Int) → i + d ≤ 100000 → (Bc cf → Bc cf') ∧ (Uc cf → (Uc cf' ↔ ((∀ j : Nat, i ≤ j → j < i + d → (ca 40 j).toInt ≤ 8192) ∧ ((i + d : Nat) : Int) ≤ 200 ∧ (cf 41).toInt ≤ 8192))) := by
  intro d
  induction d with
  | zero =>
    intro i m x cf h hx h38 hn
    rcases iv_mp_checkText_218 h with ⟨m', (⟨h1, (⟨h2, z6, h3, cf8, h4, e0, e1, e2⟩ | ⟨h2, (⟨h3, e0, e1, e2⟩ | ⟨h3, z34, h4, cf36, h5, e0, e1, e2⟩)⟩)⟩ | ⟨h1, z59, h2, (⟨h3, z62, h4, hQ⟩ | ⟨h3, z64, h4, cf66, h5, z89, h6, hQ⟩)⟩)⟩
    · have bb := bad_r h4 (by decide)
      rw [e1]
      exact ⟨fun _ => bb.1, fun u => ⟨fun q => absurd q bb.1, fun q => by exfalso; have := q.2.1; omega⟩⟩
    · rw [e1]
      exact ⟨id, fun u => ⟨fun _ => ⟨fun j q1 q2 => by exfalso; omega, by omega, h3⟩, fun _ => u⟩⟩
    · have bb := bad_r h5 (by decide)
      rw [e1]
      exact ⟨fun _ => bb.1, fun u => ⟨fun q => absurd q bb.1, fun q => absurd q.2.2 h3⟩⟩
    · exfalso; omega
    · exfalso; omega
  | succ d ih =>
    intro i m x cf h hx h38 hn
    have xi : x.toNatClampNeg = i := cn_of hx
    rcases iv_mp_checkText_218 h with ⟨m', (⟨h1, (⟨h2, z6, h3, cf8, h4, e0, e1, e2⟩ | ⟨h2, (⟨h3, e0, e1, e2⟩ | ⟨h3, z34, h4, cf36, h5, e0, e1, e2⟩)⟩)⟩ | ⟨h1, z59, h2, (⟨h3, z62, h4, hQ⟩ | ⟨h3, z64, h4, cf66, h5, z89, h6, hQ⟩)⟩)⟩
    · exfalso; omega
    · exfalso; omega
    · exfalso; omega
    · rw [xi] at h2
      rw [h2] at h3
      have z1 := ti_add h4 hx (show (1 : Int32).toInt = 1 from rfl) (by omega) (by omega)
      obtain ⟨g1, g2⟩ := ih (i + 1) m' z62 cf hQ (by omega) (by rw [h38]; congr 1; omega) (by omega)
      refine ⟨g1, fun u => ?_⟩
      rw [g2 u]
      constructor
      · intro q
        refine ⟨fun j j1 j2 => ?_, by have := q.2.1; omega, q.2.2⟩
        by_cases w : j = i
        · rw [w]; exact h3
        · exact q.1 j (by omega) (by omega)
      · intro q
        exact ⟨fun j j1 j2 => q.1 j (by omega) (by omega), by have := q.2.1; omega, q.2.2⟩
    · rw [xi] at h2
      rw [h2] at h3
      have bb := bad_r h5 (by decide)
      have z1 := ti_add h6 hx (show (1 : Int32).toInt = 1 from rfl) (by omega) (by omega)
      obtain ⟨g1, -⟩ := ih (i + 1) m' z89 cf66 hQ (by omega) (by rw [bb.2 38 (by decide) (by decide), h38]; congr 1; omega) (by omega)
      exact ⟨fun _ => g1 bb.1, fun u => ⟨fun q => absurd q (g1 bb.1), fun q => absurd (q.1 i (Nat.le_refl _) (by omega)) h3⟩⟩
/-- the reference's checker finds nothing wrong just where the text has a meaning -/
theorem ckt_r (H : ∀ (ca0 : Nat → Nat → Int32) (n38 : Int32), FnO na ca0 tree (pf 24).toInt 0 → n38.toInt = ((fnsO vl tree).length : Int) → TxH tf ta na ca0 k vl ql c n38 (ma 22) (fun v => flk v (LX.map fnT)) ∧ DpR tf ta na ca0 vl c k n38 LX (fnsO vl tree).length ∧ ∀ (ma1 ca1 : Nat → Nat → Int32) (cf1 : Nat → Int32) (v : Int32), ca1 39 = ca0 39 → MgO na (ma 22) (ma1 22) → cf1 38 = n38 → R_mp_hasMain sb tf ta na ma1 cf1 ca1 v → (∀ (j : Nat) (e : FnE), (fnsO vl tree)[j]? = some e → dupF e.1 (LX.take (10 + j)) = false) → (¬ v.toInt = 0 ↔ mainOk LX = true)) (hR : RowS na (RepI k c na ma) tree (pf 24).toInt 0 N) (hN : N ≤ 100000) (hU : Uc cf) (h : R_mp_checkText sb D tf ta pf na ma cf ca ma' cf' ca') : Uc cf' ↔ ∃ z : Tg, semItems k vl ql LX tree ([], 0, 10) = some z ∧ jdg LX (z.2.2 - 10) z.2.1 = some () := by
  obtain ⟨m, h⟩ := h
  obtain ⟨m1, h⟩ := iv_mp_checkText_0 h
  obtain ⟨m2, cfT, caT, g1, g2, g3, g4, g5, g6⟩ := ct_10 (vl := vl) tree m1 (pf 24) 0 N 0 (upd cf 38 0) ca ma h hR hN (by rw [pk_us]; rfl) (Nat.le_refl _)
  rw [Nat.zero_add] at g4
  obtain ⟨H1, H2, H3⟩ := H caT (cfT 38) g2 g4
  have q0 : ∀ j : Nat, ¬ j = 33 → ¬ j = 37 → ¬ j = 41 → ¬ j = 43 → ¬ j = 44 → ¬ j = 45 → ¬ j = 48 → ¬ j = 55 → (upd (upd (upd (upd (upd (upd (upd (upd cfT 33 0) 37 0) 41 0) 43 (-1)) 44 0) 45 0) 48 0) 55 0) j = cfT j := fun j a1 a2 a3 a4 a5 a6 a7 a8 => by rw [pk_un a8, pk_un a7, pk_un a6, pk_un a5, pk_un a4, pk_un a3, pk_un a2, pk_un a1]
  have T : TSt k vl c na caT (cfT 38) (ma 22) [] (upd (upd (upd (upd (upd (upd (upd (upd cfT 33 0) 37 0) 41 0) 43 (-1)) 44 0) 45 0) 48 0) 55 0) caT ma := by
    refine ⟨⟨?_, Nat.zero_le _, fun i e q => absurd q (by simp)⟩, q0 38 (by decide) (by decide) (by decide) (by decide) (by decide) (by decide) (by decide) (by decide), rfl, MgO.rf, ?_, ?_, ?_, ?_⟩
    · rw [pk_un (by decide), pk_un (by decide), pk_un (by decide), pk_un (by decide), pk_un (by decide), pk_un (by decide), pk_un (by decide), pk_us]; rfl
    · rw [pk_un (by decide), pk_un (by decide), pk_un (by decide), pk_un (by decide), pk_un (by decide), pk_un (by decide), pk_us]; rfl
    · rw [pk_un (by decide), pk_un (by decide), pk_un (by decide), pk_un (by decide), pk_us]
    · rw [pk_un (by decide), pk_un (by decide), pk_un (by decide), pk_us]; rfl
    · rw [pk_un (by decide), pk_un (by decide), pk_us]; rfl
  have e41 : ((upd (upd (upd (upd (upd (upd (upd (upd cfT 33 0) 37 0) 41 0) 43 (-1)) 44 0) 45 0) 48 0) 55 0) 41).toInt = 0 := by
    rw [pk_un (by decide), pk_un (by decide), pk_un (by decide), pk_un (by decide), pk_un (by decide), pk_us]; rfl
  have u0 : Uc (upd (upd (upd (upd (upd (upd (upd (upd cfT 33 0) 37 0) 41 0) 43 (-1)) 44 0) 45 0) 48 0) 55 0) := by
    unfold Uc
    rw [q0 30 (by decide) (by decide) (by decide) (by decide) (by decide) (by decide) (by decide) (by decide), g5 30 (by decide), pk_un (by decide)]
    exact hU
  obtain ⟨m3, y1, y2, ma2, cf2, ca2, L', b1, b2, b3, b4, b5, b6⟩ := tx_102 (nF := (fnsO vl tree).length) H1 H2 tree m2 (0 : Int32) (pf 24) 0 N 0 ma _ caT [] g1 hR hN T (Nat.le_refl _) rfl (Nat.le_refl _) g2 (by omega)
  have A := b6 ([], 0, 10) rfl e41.symm rfl (Int.le_refl _) (Int.le_refl _)
  have len : (fnsO vl tree).length ≤ 100000 := by
    have := fns_le tree (pf 24).toInt 0 N hR (vl := vl)
    omega
  have n2 : (cf2 38).toInt = ((0 + (fnsO vl tree).length : Nat) : Int) := by rw [b3.2.1, g4, Nat.zero_add]
  have its := tx_its (vl := vl) (ql := ql) (LX := LX) tree ([], 0, 10) _ _ _ hR
  rcases iv_mp_checkText_102 b2 with ⟨m', (⟨h1, v93, h2, (⟨h3, hQ⟩ | ⟨h3, z100, h4, cf102, h5, hQ⟩)⟩ | ⟨h1, z127, h2, (⟨h3, z130, h4, (⟨h5, ma136, cf137, ca138, h6, z173, h7, z174, h8, hQ⟩ | ⟨h5, ma178, cf179, ca180, h6, z206, h7, hQ⟩)⟩ | ⟨h3, ma210, cf211, ca212, h4, z238, h5, z239, h6, hQ⟩)⟩)⟩
  · obtain ⟨c1, c2⟩ := ct_218 (fnsO vl tree).length 0 m' (0 : Int32) cf2 hQ rfl n2 (by omega)
    rcases opt_c (semTx k vl ql LX tree ([], 0, 10)) with y | ⟨p, y⟩
    · rw [y] at its
      refine ⟨fun q => absurd q (c1 (A.n u0 y)), fun ⟨z, z1, _⟩ => ?_⟩
      rw [its] at z1
      exact absurd z1 (by simp)
    · obtain ⟨u2, p1, p2, p3, p4⟩ := A.y u0 y
      have nd : ∀ (j : Nat) (e : FnE), (fnsO vl tree)[j]? = some e → dupF e.1 (LX.take (10 + j)) = false := (fun (j : Nat) (e : FnE) he => by have w := tx_nd tree ([], 0, 10) p _ _ _ 0 hR y rfl j e he; rw [Nat.zero_add] at w; exact w)
      have mn := (H3 ma2 ca2 cf2 v93 b3.2.2.1 b3.2.2.2.1 b3.2.1 h2 nd).mp h3
      rw [y] at its
      have its' : semItems k vl ql LX tree ([], 0, 10) = if frOk p.1 = true then some p.2 else none := its
      rw [c2 u2, its']
      have fe : frOk p.1 = true ↔ ∀ j : Nat, 0 ≤ j → j < 0 + (fnsO vl tree).length → (ca2 40 j).toInt ≤ 8192 := by
        rw [fr_ok]
        constructor
        · intro q j _ hj
          have hj' : j < p.1.length := by omega
          have e := p2 j p.1[j] (List.getElem?_eq_getElem hj')
          rw [Nat.zero_add] at e
          rw [e]
          exact q j _ (List.getElem?_eq_getElem hj')
        · intro q j r hj
          have hj' := (List.getElem?_eq_some_iff.mp hj).1
          have e := p2 j r hj
          rw [Nat.zero_add] at e
          rw [← e]
          exact q j (Nat.zero_le _) (by omega)
      have e10 : p.2.2.2 - 10 = (fnsO vl tree).length := by omega
      constructor
      · intro q
        refine ⟨p.2, by rw [if_pos (fe.mpr q.1)], ?_⟩
        unfold jdg
        rw [e10, p1]
        exact if_pos ⟨mn, by have := q.2.1; omega, q.2.2⟩
      · rintro ⟨z, z1, z2⟩
        by_cases w : frOk p.1 = true
        · rw [if_pos w] at z1
          injection z1 with z1
          rw [← z1] at z2
          unfold jdg at z2
          rw [e10, p1] at z2
          by_cases w2 : mainOk LX = true ∧ (fnsO vl tree).length ≤ 200 ∧ (cf2 41).toInt ≤ 8192
          · exact ⟨fe.mp w, by have := w2.2.1; omega, w2.2.2⟩
          · rw [if_neg w2] at z2
            exact absurd z2 (by simp)
        · rw [if_neg w] at z1
          exact absurd z1 (by simp)
  · have bb := bad_r h5 (by decide)
    obtain ⟨c1, -⟩ := ct_218 (fnsO vl tree).length 0 m' (0 : Int32) cf102 hQ rfl (by rw [bb.2 38 (by decide) (by decide)]; exact n2) (by omega)
    refine ⟨fun q => absurd q (c1 bb.1), fun ⟨z, z1, z2⟩ => ?_⟩
    rcases opt_c (semTx k vl ql LX tree ([], 0, 10)) with y | ⟨p, y⟩
    · rw [y] at its
      rw [its] at z1
      exact absurd z1 (by simp)
    · have nd : ∀ (j : Nat) (e : FnE), (fnsO vl tree)[j]? = some e → dupF e.1 (LX.take (10 + j)) = false := (fun (j : Nat) (e : FnE) he => by have w := tx_nd tree ([], 0, 10) p _ _ _ 0 hR y rfl j e he; rw [Nat.zero_add] at w; exact w)
      have mn : ¬ mainOk LX = true := fun q => (H3 ma2 ca2 cf2 v93 b3.2.2.1 b3.2.2.2.1 b3.2.1 h2 nd).mpr q h3
      unfold jdg at z2
      rw [if_neg (fun q => mn q.1)] at z2
      exact absurd z2 (by simp)
  all_goals exact absurd b1 h1
end SP
