/-! THE REFERENCE's checker: a text's items, its frames, whole -/
/-- between items -/
def TSt (k : Nat → Int) (vl : Nat → Int32) (c : Nat) (na ca0 : Nat → Nat → Int32) (n38 : Int32) (M0 : Nat → Int32) (L : Nms) (cf : Nat → Int32) (ca ma : Nat → Nat → Int32) : Prop := EnvR k vl c cf ca L ∧ cf 38 = n38 ∧ ca 39 = ca0 39 ∧ MgO na M0 (ma 22) ∧ (cf 37).toInt = ((0 : Nat) : Int) ∧ cf 43 = -1 ∧ (cf 44).toInt = 0 ∧ (cf 45).toInt = 0
section SO
variable {tf pf sb : Nat → Int32} {ta na ca ca0 ca1 ca' ma ma' ma0 ma1 : Nat → Nat → Int32} {vl M0 : Nat → Int32} {k : Nat → Int} {ql : Nat → Int} {c lo hi D nF : Nat} {n38 : Int32} {cf cf' cf1 : Nat → Int32} {L : Nms} {LX : List FnE} {p0 v : Int32} {a b s : Ast}
theorem TSt.st (h : TSt k vl c na ca0 n38 M0 L cf ca ma) : CkS k vl c na ca n38 M0 L 0 cf ca ma := ⟨h.1, h.2.1, rfl, h.2.2.2.1, h.2.2.2.2.1, Nat.zero_le _, rfl⟩
/-- what is known of functions of one name -/
def DpR (tf : Nat → Int32) (ta na ca0 : Nat → Nat → Int32) (vl : Nat → Int32) (c : Nat) (k : Nat → Int) (n38 : Int32) (LX : List FnE) (nF : Nat) : Prop := ∀ (f i t : Nat) (ca : Nat → Nat → Int32) (z own : Int32), ca 39 = ca0 39 → (ca0 39 f).toInt = (i : Int) → (na 14 i).toInt = 41 → (na 15 i).toInt = (t : Int) → t < c → k t = 16 → f < nF → z.toInt = (t : Int) → R_mp_findOwn tf ta z own → (0 ≤ own.toInt ∧ dupF (vl t) (LX.take (10 + f)) = true) ∨ (¬ 0 ≤ own.toInt ∧ ∀ (g : Nat → Int32) (fn : Int32), g 38 = n38 → R_mp_findFunction2 ta na g ca z fn → (fn.toInt = (f : Int) ↔ dupF (vl t) (LX.take (10 + f)) = false))
theorem tx_102 (H : TxH tf ta na ca0 k vl ql c n38 M0 (fun v => flk v (LX.map fnT))) (hDp : DpR tf ta na ca0 vl c k n38 LX nF) : ∀ (tree : Ast) (m : Nat) (x1 x2 : Int32) (lo hi f : Nat) (ma : Nat → Nat → Int32) (cf : Nat → Int32) (ca : Nat → Nat → Int32) (L : Nms), E_mp_checkText sb D tf ta pf na ma' cf' ca' ma0 m 102 [x1, x2] [] [] [] [] ma cf ca → RowS na (RepI k c na ma) tree x2.toInt lo hi → hi ≤ 100000 → TSt k vl c na ca0 n38 M0 L cf ca ma → L.length ≤ lo → x1.toInt = (f : Int) → f ≤ lo → FnO na ca0 tree x2.toInt f → f + (fnsO vl tree).length ≤ nF →
    ∃ (m' : Nat) (y1 y2 : Int32) (ma2 : Nat → Nat → Int32) (cf2 : Nat → Int32) (ca2 : Nat → Nat → Int32) (L' : Nms), y2.toInt < 0 ∧ E_mp_checkText sb D tf ta pf na ma' cf' ca' ma0 m' 102 [y1, y2] [] [] [] [] ma2 cf2 ca2 ∧ TSt k vl c na ca0 n38 M0 L' cf2 ca2 ma2 ∧ (∀ j : Nat, j < f → ca2 40 j = ca 40 j) ∧ (Bc cf → Bc cf2) ∧ ∀ z : Tg, z.1 = L → z.2.1 = (cf 41).toInt → z.2.2 = 10 + f → 0 ≤ z.2.1 → z.2.1 ≤ 4096 * (lo : Int) → AC cf cf2 (semTx k vl ql LX tree z) (fun p => p.2.2.1 = (cf2 41).toInt ∧ (∀ (j : Nat) (r : Int), p.1[j]? = some r → (ca2 40 (f + j)).toInt = r) ∧ p.1.length = (fnsO vl tree).length ∧ p.2.2.2 = 10 + f + (fnsO vl tree).length) := by
  intro tree
  induction tree with
  | null =>
    intro m x1 x2 lo hi f ma cf ca L h hR hh S hL hx1 hf hF hn
    have hR' : x2.toInt < 0 ∧ lo ≤ hi := hR
    refine ⟨m, x1, x2, ma, cf, ca, L, hR'.1, h, S, fun _ _ => rfl, id, fun z z1 z2 z3 z4 z5 => ?_⟩
    rw [tx_n]
    exact AC.ret ⟨z2, fun j r q => absurd q (by simp), rfl, z3⟩
  | add it r ihi ihr =>
    intro m x1 x2 lo hi f ma cf ca L h hR hh S hL hx1 hf hF hn
    obtain ⟨mid, r1, r2, r3, r4⟩ := hR
    have xi : x2.toNatClampNeg = lo := cn_of r1
    obtain ⟨i, i1, i2⟩ := hF
    have ei : i = lo := by omega
    subst ei
    rw [fns_a, List.length_append] at hn
    have nxt : ∀ {ma1 : Nat → Nat → Int32} {cf1 : Nat → Int32} {ca1 : Nat → Nat → Int32} {y1 zz : Int32} {m' f1 : Nat} {L1 : Nms}, FrM ma ma1 i mid → TSt k vl c na ca0 n38 M0 L1 cf1 ca1 ma1 → L1.length ≤ mid → y1.toInt = (f1 : Int) → f1 = f + (fnO vl it).length → f1 ≤ mid → FnO na ca0 r (na 21 i).toInt f1 → (∀ j : Nat, j < f → ca1 40 j = ca 40 j) → (Bc cf → Bc cf1) → (∀ z : Tg, z.1 = L → z.2.1 = (cf 41).toInt → z.2.2 = 10 + f → 0 ≤ z.2.1 → z.2.1 ≤ 4096 * (i : Int) → AC cf cf1 (semTi k vl ql LX it z) (fun p => p.2.1 = L1 ∧ p.2.2.1 = (cf1 41).toInt ∧ (0 ≤ p.2.2.1 ∧ p.2.2.1 ≤ 4096 * (mid : Int)) ∧ p.2.2.2 = 10 + f1 ∧ p.1.length = (fnO vl it).length ∧ ∀ (j : Nat) (r : Int), p.1[j]? = some r → (ca1 40 (f + j)).toInt = r)) → zz = na 21 i → E_mp_checkText sb D tf ta pf na ma' cf' ca' ma0 m' 102 [y1, zz] [] [] [] [] ma1 cf1 ca1 → ∃ (m' : Nat) (y1 y2 : Int32) (ma2 : Nat → Nat → Int32) (cf2 : Nat → Int32) (ca2 : Nat → Nat → Int32) (L' : Nms), y2.toInt < 0 ∧ E_mp_checkText sb D tf ta pf na ma' cf' ca' ma0 m' 102 [y1, y2] [] [] [] [] ma2 cf2 ca2 ∧ TSt k vl c na ca0 n38 M0 L' cf2 ca2 ma2 ∧ (∀ j : Nat, j < f → ca2 40 j = ca 40 j) ∧ (Bc cf → Bc cf2) ∧ ∀ z : Tg, z.1 = L → z.2.1 = (cf 41).toInt → z.2.2 = 10 + f → 0 ≤ z.2.1 → z.2.1 ≤ 4096 * (i : Int) → AC cf cf2 (semTx k vl ql LX (.add it r) z) (fun p => p.2.2.1 = (cf2 41).toInt ∧ (∀ (j : Nat) (r : Int), p.1[j]? = some r → (ca2 40 (f + j)).toInt = r) ∧ p.1.length = (fnsO vl (.add it r)).length ∧ p.2.2.2 = 10 + f + (fnsO vl (.add it r)).length) := by
      intro ma1 cf1 ca1 y1 zz m' f1 L1 fr T1 l1 hy1 ef1 hf1 hF1 h40 mo A hzz hE
      obtain ⟨m2, w1, w2, ma2, cf2, ca2, L', g1, g2, g3, g4, g5, g6⟩ := ihr m' y1 zz mid hi f1 ma1 cf1 ca1 L1 hE (by rw [hzz]; exact row_kp2 _ _ _ _ r4 (fun _ _ _ => rfl) (fun s l h q1 q0 q2 q3 => rpi_kp q0 q3 (FrM.ag (r := -1) fr (Or.inr q1)) (by omega))) hh T1 l1 hy1 hf1 (by rw [hzz]; exact hF1) (by omega)
      refine ⟨m2, w1, w2, ma2, cf2, ca2, L', g1, g2, g3, fun j hj => (g4 j (by omega)).trans (h40 j hj), fun q => g5 (mo q), fun z z1 z2 z3 z4 z5 => ?_⟩
      rw [tx_a, fns_a, List.length_append]
      refine AC.bind (A z z1 z2 z3 z4 z5) (fun p q => ?_) g5
      obtain ⟨q1, q2, q3, q4, q5, q6⟩ := q
      refine AC.bind (g6 p.2 q1 q2 q4 q3.1 q3.2) (fun y w => AC.ret ?_) id
      obtain ⟨w1, w2, w3, w4⟩ := w
      refine ⟨w1, fun j x hj => ?_, ?_, ?_⟩
      · have hj' : (p.1 ++ y.1)[j]? = some x := hj
        by_cases c1 : j < p.1.length
        · rw [List.getElem?_append_left c1] at hj'
          rw [g4 (f + j) (by omega)]
          exact q6 j x hj'
        · rw [List.getElem?_append_right (by omega)] at hj'
          have y2 := w2 (j - p.1.length) x hj'
          rw [show f1 + (j - p.1.length) = f + j by omega] at y2
          exact y2
      · show (p.1 ++ y.1).length = _
        rw [List.length_append, q5, w3]
      · show y.2.2.2 = _
        rw [w4, ef1]
        omega
    rcases iv_mp_checkText_102 h with ⟨m', (⟨h1, v93, h2, (⟨h3, hQ⟩ | ⟨h3, z100, h4, cf102, h5, hQ⟩)⟩ | ⟨h1, z127, h2, (⟨h3, z130, h4, (⟨h5, ma136, cf137, ca138, h6, z173, h7, z174, h8, hQ⟩ | ⟨h5, ma178, cf179, ca180, h6, z206, h7, hQ⟩)⟩ | ⟨h3, ma210, cf211, ca212, h4, z238, h5, z239, h6, hQ⟩)⟩)⟩
    · exfalso; omega
    · exfalso; omega
    · -- variables
      rw [xi] at h2 h4 h8
      rw [h2] at h3
      rw [h4] at h5
      have t43 : (cf 43).toInt < 0 := by rw [S.2.2.2.2.2.1]; decide
      rcases r3 with ⟨vs, a1, a2, -⟩ | ⟨n, vs, a1, a2, a3, a4, a5⟩ | ⟨d, n, t, m1, ps, b, a1, a2, -⟩
      · exact absurd a2 h5
      · have hch : (ma 22 i).toInt = (if isChr (.arg n) = true then 1 else 0) := by
          rw [a4]
          rcases a3 with w | w
          · rw [w]; rfl
          · rw [w]; rfl
        have q0 : ∀ j : Nat, ¬ j = 42 → ¬ j = 54 → (upd (upd cf 42 0) 54 (cf 55)) j = cf j := fun j q1 q2 => by rw [pk_un q2, pk_un q1]
        have q42 : ((upd (upd cf 42 0) 54 (cf 55)) 42).toInt = 0 := by rw [pk_un (by decide), pk_us]; rfl
        have S0 : CkS k vl c na ca n38 M0 L 0 (upd (upd cf 42 0) 54 (cf 55)) ca ma := S.st.sm (q0 33 (by decide) (by decide)) (q0 37 (by decide) (by decide)) (q0 38 (by decide) (by decide)) S.2.2.2.1
        obtain ⟨X, b1, b2, b3, b4, b5, b6⟩ := dc_r (tp := true) (ch := isChr (.arg n)) (lo := i + 1) (P := i) (H.st S.2.2.1) r1 ⟨fun _ => by decide, fun _ => rfl⟩ a5 (by omega) (by omega) hch S0 (by omega) (by rw [q42]; omega) ⟨fun _ => by rw [q0 43 (by decide) (by decide)]; exact t43, fun _ => rfl⟩ h6
        have all : ∀ j : Nat, ¬ j = 30 → ¬ j = 31 → ¬ j = 33 → ¬ j = 42 → ¬ j = 48 → ¬ j = 54 → ¬ j = 57 → ¬ j = 58 → cf137 j = cf j := fun j j1 j2 j3 j4 j5 j6 j7 j8 => (b4 j j1 j2 j3 j4 j5 j6 j7 j8).trans (q0 j j4 j6)
        have p0 : ∀ j : Nat, ¬ j = 41 → ¬ j = 55 → (upd (upd cf137 41 z173) 55 (cf137 54)) j = cf137 j := fun j q1 q2 => by rw [pk_un q2, pk_un q1]
        have e41 : cf137 41 = cf 41 := all 41 (by decide) (by decide) (by decide) (by decide) (by decide) (by decide) (by decide) (by decide)
        have eo : fnO vl it = [] := by rw [a1]; rfl
        refine nxt (f1 := f) (L1 := L ++ X) (b3.le (by omega) (Nat.le_refl _)) ⟨b1.1.sm (p0 33 (by decide) (by decide)), (p0 38 (by decide) (by decide)).trans b1.2.1, b1.2.2.1.trans S.2.2.1, b1.2.2.2.1, by rw [p0 37 (by decide) (by decide)]; exact b1.2.2.2.2.1, ?_, ?_, ?_⟩ b2 hx1 (by rw [eo]; rfl) (by omega) ?_ (fun j _ => by rw [b1.2.2.2.2.2.2]) (fun q => ?_) (fun z z1 z2 z3 z4 z5 => ?_) h8 hQ
        · rw [p0 43 (by decide) (by decide), all 43 (by decide) (by decide) (by decide) (by decide) (by decide) (by decide) (by decide) (by decide)]; exact S.2.2.2.2.2.1
        · rw [p0 44 (by decide) (by decide), all 44 (by decide) (by decide) (by decide) (by decide) (by decide) (by decide) (by decide) (by decide)]; exact S.2.2.2.2.2.2.1
        · rw [p0 45 (by decide) (by decide), all 45 (by decide) (by decide) (by decide) (by decide) (by decide) (by decide) (by decide) (by decide)]; exact S.2.2.2.2.2.2.2
        · rcases i2 with ⟨w, -⟩ | ⟨-, w⟩
          · exact absurd w h3
          · exact w
        · have w := (b6 (L, 0, 0, [], false) rfl).1
          unfold Bc
          rw [p0 30 (by decide) (by decide)]
          exact w (by unfold Bc; rw [q0 30 (by decide) (by decide)]; exact q)
        · rw [a1, st_21]
          have B := (b6 (z.1, z.2.1, 0, [], false) z1).e30 (a' := cf) (b' := upd (upd cf137 41 z173) 55 (cf137 54)) (q0 30 (by decide) (by decide)).symm (p0 30 (by decide) (by decide))
          refine AC.of B.1 (fun u => ?_)
          rcases opt_c (semVars k vl ql (fun v => flk v (LX.map fnT)) true (isChr (.arg n)) 0 vs (z.1, z.2.1, 0, [], false)) with y | ⟨s', y⟩
          · exact Or.inl ⟨by rw [y]; rfl, B.n u y⟩
          · obtain ⟨u1, w1, w2, w3, -⟩ := B.y u y
            have vb := vw_b vs _ _ _ _ _ a5 y
            have w2' : s'.2.1 = z.2.1 + ((cf137 42).toInt - ((upd (upd cf 42 0) 54 (cf 55)) 42).toInt) := w2
            have vb' : z.2.1 ≤ s'.2.1 ∧ s'.2.1 ≤ z.2.1 + 4096 * ((mid : Int) - ((i + 1 : Nat) : Int)) := vb
            rw [q42] at w2'
            rw [e41] at h7
            have z7 := ti_add h7 rfl rfl (by omega) (by omega)
            refine Or.inr ⟨([], (s'.1, s'.2.1, z.2.2)), by rw [y]; rfl, u1, w1, ?_, ?_, z3, by first | rfl | (rw [a1] at eo; rw [eo]; rfl), fun j r q => absurd q (by simp)⟩
            · show s'.2.1 = _
              rw [pk_un (by decide), pk_us, z7]
              omega
            · show 0 ≤ s'.2.1 ∧ s'.2.1 ≤ 4096 * (mid : Int)
              omega
      · exact absurd a2 h3
    · -- an enumeration
      rw [xi] at h2 h4 h7
      rw [h2] at h3
      rw [h4] at h5
      have t43 : (cf 43).toInt < 0 := by rw [S.2.2.2.2.2.1]; decide
      rcases r3 with ⟨vs, a1, a2, a3⟩ | ⟨n, vs, a1, a2, -⟩ | ⟨d, n, t, m1, ps, b, a1, a2, -⟩
      · obtain ⟨X, b1, b2, b3, b4, b5, b6⟩ := en_r (H.st S.2.2.1) r1 a3 (by omega) S.st hL t43 h6
        have e41 : cf179 41 = cf 41 := b4 41 (by decide) (by decide) (by decide) (by decide) (by decide) (by decide) (by decide) (by decide)
        have eo : fnO vl it = [] := by rw [a1]; rfl
        refine nxt (f1 := f) (L1 := L ++ X) b3 ⟨b1.1, b1.2.1, b1.2.2.1.trans S.2.2.1, b1.2.2.2.1, b1.2.2.2.2.1, ?_, ?_, ?_⟩ b2 hx1 (by rw [eo]; rfl) (by omega) ?_ (fun j _ => by rw [b1.2.2.2.2.2.2]) b6.1 (fun z z1 z2 z3 z4 z5 => ?_) h7 hQ
        · rw [b4 43 (by decide) (by decide) (by decide) (by decide) (by decide) (by decide) (by decide) (by decide)]; exact S.2.2.2.2.2.1
        · rw [b4 44 (by decide) (by decide) (by decide) (by decide) (by decide) (by decide) (by decide) (by decide)]; exact S.2.2.2.2.2.2.1
        · rw [b4 45 (by decide) (by decide) (by decide) (by decide) (by decide) (by decide) (by decide) (by decide)]; exact S.2.2.2.2.2.2.2
        · rcases i2 with ⟨w, -⟩ | ⟨-, w⟩
          · exact absurd w h3
          · exact w
        · rw [a1, st_20, z1]
          refine AC.bind b6 (fun L' q => AC.ret ⟨q, by rw [e41]; exact z2, ?_, z3, by first | rfl | (rw [a1] at eo; rw [eo]; rfl), fun j r q => absurd q (by simp)⟩) id
          show 0 ≤ z.2.1 ∧ z.2.1 ≤ 4096 * (mid : Int)
          omega
      · exfalso; omega
      · exact absurd a2 h3
    · -- a function
      rw [xi] at h2 h6
      rw [h2] at h3
      rcases r3 with ⟨vs, a1, a2, -⟩ | ⟨n, vs, a1, a2, -⟩ | ⟨d, n, t, m1, ps, b, a1, a2, a3, a4, a5, a6, a7, a8, a9, a10⟩
      · exfalso; omega
      · exfalso; omega
      · rcases i2 with ⟨-, w39, wF⟩ | ⟨w, -⟩
        · have eo : fnO vl it = [(vl t, (n : Int), wnX ps)] := by rw [a1]; rfl
          have el : (fnO vl it).length = 1 := by rw [eo]; rfl
          obtain ⟨b1, b2, b3, b4, b5, b6, b7, b8, b9, b10, b11⟩ := fn_r (sc := 0) (f := f) (dup := dupF (vl t) (LX.take (10 + f))) (H.st S.2.2.1) (by omega) hx1 (by rw [S.2.2.1]; exact w39) a2 a3 a4 a5 a6 a7 a8 a10 S.st hL S.2.2.2.2.2.2.1 S.2.2.2.2.2.2.2 S.2.2.2.2.2.1 (fun z own hz ho => hDp f i t ca z own S.2.2.1 w39 a2 a5.1 a5.2.1 a5.2.2 (by omega) hz ho) h4
          have di := fun (j : Nat) (h30 : ¬ j = 30) (h31 : ¬ j = 31) (h33 : ¬ j = 33) (h41 : ¬ j = 41) (h42 : ¬ j = 42) (h48 : ¬ j = 48) (h54 : ¬ j = 54) (h55 : ¬ j = 55) (h57 : ¬ j = 57) (h58 : ¬ j = 58) (h59 : ¬ j = 59) => b7 j h30 h31 h33 h41 h42 h48 h54 h55 h57 h58 h59
          have z5' := ti_add h5 hx1 (show (1 : Int32).toInt = 1 from rfl) (by omega) (by omega)
          refine nxt (f1 := f + 1) (L1 := L) b6 ⟨b1, b2, b3.trans S.2.2.1, b4, b5, ?_, ?_, ?_⟩ (by omega) (by omega) (by rw [el]) (by omega) wF (fun j hj => b10 j (by omega)) b11.1 (fun z z1 z2 z3 z4 z5 => ?_) h6 hQ
          · rw [di 43 (by decide) (by decide) (by decide) (by decide) (by decide) (by decide) (by decide) (by decide) (by decide) (by decide) (by decide)]; exact S.2.2.2.2.2.1
          · rw [di 44 (by decide) (by decide) (by decide) (by decide) (by decide) (by decide) (by decide) (by decide) (by decide) (by decide) (by decide)]; exact S.2.2.2.2.2.2.1
          · rw [di 45 (by decide) (by decide) (by decide) (by decide) (by decide) (by decide) (by decide) (by decide) (by decide) (by decide) (by decide)]; exact S.2.2.2.2.2.2.2
          · rw [a1, st_22, z3, z1]
            refine AC.bind b11 (fun y q => AC.ret ⟨rfl, by rw [b8]; exact z2, ?_, ?_, by first | rfl | (rw [a1] at el; rw [el]; rfl), fun j x hj => ?_⟩) id
            · show 0 ≤ z.2.1 ∧ z.2.1 ≤ 4096 * (mid : Int)
              omega
            · show 10 + f + 1 = 10 + (f + 1)
              omega
            · cases j with
              | zero =>
                have hj' : some y = some x := hj
                injection hj' with hj'
                rw [← hj']; exact q
              | succ j => exact absurd hj (by simp)
        · exact absurd a2 w
  | _ => intro m x1 x2 lo hi f ma cf ca L h hR; exact hR.elim
end SO
