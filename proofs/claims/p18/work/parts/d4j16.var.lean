/-! THE REFERENCE: constants, conditions in brackets, variables -/
section RK
variable {k : Nat → Int} {ta : Nat → Nat → Int32} {c t N : Nat} {o : Int} {pf : Nat → Int32} {na ma wa : Nat → Nat → Int32} {pf' : Nat → Int32} {na' ma' wa' : Nat → Nat → Int32} {v xt : Int32}
theorem rx_e (hT : RTk ta c) (hk : ∀ i : Nat, i < c → rkd ta i = k i) (hPl : RPl ta c) : HPr RX_mp_expression ta k c (pBoth k 62).1 := fun h1 h2 h3 h4 h => by
  obtain ⟨n, h⟩ := h
  exact exp_ok h2 (xe_all hT hk hPl n).1 (xe_all hT hk hPl n).2 hT hk hPl h1 h3 h4 h
theorem rx_c (hT : RTk ta c) (hk : ∀ i : Nat, i < c → rkd ta i = k i) (hPl : RPl ta c) : HPc RX_mp_conditional ta k c := fun h1 h2 h3 h4 h => by
  obtain ⟨n, h⟩ := h
  exact ⟨_, cnd_ok h2 (xe_all hT hk hPl n).1 (xe_all hT hk hPl n).2 hT hk hPl h1 h3 h4 h⟩
theorem cst_ok (hT : RTk ta c) (hk : ∀ i : Nat, i < c → rkd ta i = k i) (hPl : RPl ta c) (hc : RCur pf c t o) (hW : RW pf o) (hN : (pf 13).toInt = (N : Int)) (hb : N ≤ t + 10000) (h : R_mp_constant ta pf na ma wa pf' na' ma' wa' v xt) : OkR k c t o (pE k 0 t o) N pf na ma wa pf' na' ma' wa' v xt := by
  show OkR k c t o ((pBoth k 62).1 0 t o) N pf na ma wa pf' na' ma' wa' v xt
  obtain (⟨pq1, pq2, pq3, pq4, h1, e0, e1, e2, e3, ev, ex⟩ | ⟨pf5, na6, ma7, wa8, v10, h1, h⟩) | h := h
  · obtain ⟨al, u, q1, -⟩ := rx_c hT hk hPl hc hW hN (by omega) h1
    rw [q1.no]; exact ex
  · obtain ⟨al, u, q1, q2⟩ := rx_c hT hk hPl hc hW hN (by omega) h1
    obtain ⟨g, hg⟩ := q1.sm
    obtain ⟨x, t2⟩ := g
    rw [hg] at q1 ⊢
    have u0 := q1.i0
    rcases h with ⟨h2, e0, e1, e2, e3, ev, ex⟩ | ⟨h2, z27, h3, e0, e1, e2, e3, ev, ex⟩
    · rw [e0, e1, e2, e3, ev, ex]
      exact q1.vv (by rcases q2 rfl with ⟨-, y⟩ | ⟨-, y⟩ <;> omega)
    · have y : v10.toInt = -1 - u.toInt := by rcases q2 rfl with ⟨-, y⟩ | ⟨-, y⟩ <;> omega
      have i2 := Int32.toInt_lt u
      have z := ti_sub h3 (show (-1 : Int32).toInt = -1 from rfl) y (by omega) (by omega)
      rw [e0, e1, e2, e3, ev, ex]
      exact q1.vv (by omega)
  · exact h.elim
/-- what is read of an expression, opened -/
theorem OkR.e {e : Ast} {t1 : Nat} (q : OkR k c t o (some (e, t1)) N pf na ma wa pf' na' ma' wa' v 0) : ∃ N' j : Nat, v.toInt = (j : Int) ∧ (pf' 13).toInt = (N' : Int) ∧ OkE k c na' ma' e v.toInt N N' ∧ (N ≤ j ∧ j < N' ∧ N' + t ≤ N + t1 ∧ t < t1) ∧ RCur pf' c t1 o ∧ (na' 21 j).toInt = -1 ∧ AgF na ma na' ma' 0 N (-1) ∧ WKp pf wa pf' wa' := by
  obtain ⟨-, N', i, q1, q2, q3, q4, q5, q6, q7, q8, q9, q10, q11⟩ := q
  simp only [] at q2 q4 q5 q6 q8 q9
  exact ⟨N', i, q1, q3, ⟨q5, by rw [q1]; exact q6, i, q1, q2.1, q2.2.1⟩, q2, q4, q7.1, q10, q11⟩
theorem OkR.wrap {e : Ast} {t' t1 t2 : Nat} {o' : Int} {pf0 pf1 pf2 : Nat → Int32} {na1 ma1 wa1 : Nat → Nat → Int32} (q : OkR k c t' o' (some (e, t1)) N pf0 na ma wa pf1 na1 ma1 wa1 v 0) (s1 : RSm pf pf0) (s2 : RSm pf1 pf2) (hc : RCur pf2 c t2 o) (h1 : t ≤ t') (h2 : t1 ≤ t2) : OkR k c t o (some (e, t2)) N pf na ma wa pf2 na1 ma1 wa1 v 0 := by
  obtain ⟨-, N', i, q1, q2, q3, q4, q5, q6, q7, q8, q9, q10, q11⟩ := q
  simp only [] at q2 q4 q5 q6 q8 q9
  exact ⟨rfl, N', i, q1, by simp only []; omega, by rw [s2 13 (by decide) (by decide)]; exact q3, hc, q5, q6, q7, q8, by simp only []; omega, q10, s1.wk.tr (q11.tr s2.wk)⟩
theorem inp_ok (hT : RTk ta c) (hk : ∀ i : Nat, i < c → rkd ta i = k i) (hPl : RPl ta c) (hc : RCur pf c t o) (hW : RW pf o) (hN : (pf 13).toInt = (N : Int)) (hb : N ≤ t + 10000) (h : R_mp_inParentheses ta pf na ma wa pf' na' ma' wa' v xt) : OkR k c t o (pCo k t o) N pf na ma wa pf' na' ma' wa' v xt := by
  unfold pCo
  have om := fun {p : Nat → Int32} {z : Int32} (y : R_mp_opensMark 1 (lby "(") ta pf p z) => opensMark_r hT hc (by decide) mq_40 (by decide) y
  rw [hk t hc.2.2.1] at om
  obtain (⟨pq1, h1, e0, e1, e2, e3, ev, ex⟩ | ⟨pf5, h1, h⟩) | h := h
  · rcases (om h1).2 with ⟨y1, y2, y3⟩ | ⟨y1, y2⟩
    · exact absurd y2 (by decide)
    · rw [if_neg y1]; exact ex
  · obtain ⟨s1, s2⟩ := om h1
    rcases s2 with ⟨y1, y2, y3⟩ | ⟨y1, y2⟩
    · rw [if_pos y1]
      show OkR k c t o (match (pBoth k 62).1 (-1) (t + 1) (o + 1) with
        | none => none
        | some (e, t1) => if k t1 = 41 then some (e, t1 + 1) else none) N pf na ma wa pf' na' ma' wa' v xt
      have hN5 : (pf5 13).toInt = (N : Int) := by rw [s1 13 (by decide) (by decide)]; exact hN
      have ex' := fun {p : Nat → Int32} {n1 n2 n3 : Nat → Nat → Int32} {z z' : Int32} (y : RX_mp_expression ta pf5 na ma wa p n1 n2 n3 z z') => rx_e hT hk hPl y3 (hW.sm s1 (by omega)) hN5 (by omega) y
      rcases h with ⟨pq1, pq2, pq3, pq4, h2, e0, e1, e2, e3, ev, ex⟩ | ⟨pf23, na24, ma25, wa26, v28, h2, h⟩
      · rw [(ex' h2).no]; exact ex
      · have q := ex' h2
        obtain ⟨g, hg⟩ := q.sm
        obtain ⟨e, t1⟩ := g
        rw [hg] at q ⊢
        dsimp only
        obtain ⟨N', j, z0, z1, z2, z3, z4, -⟩ := q.e
        have h0 := hc.2.2.2.2.1
        have cl := fun {p : Nat → Int32} {z : Int32} (y : R_mp_closes 1 (lby ")") ta pf23 p z) => closes_r hT z4 (by omega) (by decide) mq_41 (by decide) y
        rw [hk t1 z4.2.2.1] at cl
        rcases h with ⟨pq1, h3, e0, e1, e2, e3, ev, ex⟩ | ⟨pf47, h3, e0, e1, e2, e3, ev, ex⟩
        · rcases (cl h3).2 with ⟨w1, w2, w3⟩ | ⟨w1, w2⟩
          · exact absurd w2 (by decide)
          · rw [if_neg w1]; exact ex
        · obtain ⟨r1, r2⟩ := cl h3
          rcases r2 with ⟨w1, w2, w3⟩ | ⟨w1, w2⟩
          · have eo : o + 1 - 1 = o := by omega
            rw [eo] at w3
            rw [if_pos w1, e0, e1, e2, e3, ev, ex]
            exact q.wrap s1 r1 w3 (by omega) (by omega)
          · exact absurd w2 (by decide)
    · exact absurd y2 (by decide)
  · exact h.elim
theorem hang_r {p0 p1 p2 : Int32} (h : R_mp_hang p0 p1 p2 na na' v) : ((p1.toInt < 0 ∧ na' = na) ∨ (¬ p1.toInt < 0 ∧ na' = vu na 21 p1.toNatClampNeg p2)) ∧ ((p0.toInt < 0 ∧ v = p2) ∨ (¬ p0.toInt < 0 ∧ v = p0)) := by
  rcases h with (⟨h1, (⟨h2, e0, ev⟩ | ⟨h2, e0, ev⟩)⟩ | ⟨h1, (⟨h2, e0, ev⟩ | ⟨h2, e0, ev⟩)⟩) | h
  · exact ⟨Or.inl ⟨h1, e0⟩, Or.inl ⟨h2, ev⟩⟩
  · exact ⟨Or.inl ⟨h1, e0⟩, Or.inr ⟨h2, ev⟩⟩
  · exact ⟨Or.inr ⟨h1, e0⟩, Or.inl ⟨h2, ev⟩⟩
  · exact ⟨Or.inr ⟨h1, e0⟩, Or.inr ⟨h2, ev⟩⟩
  · exact h.elim
/-- the rest of a row of constants behind e -/
def gKr (k : Nat → Int) (o : Int) (n : Nat) (e : Ast) (t1 : Nat) : Option (Ast × Nat) := if k t1 = 44 then gMap (fun r => .add e r) (pKs k o n (t1 + 1)) else some (.add e .null, t1)
theorem pKs_s {n : Nat} : pKs k o (n + 1) t = gThen (pE k 0 t o) (gKr k o n) := by
  have un : pKs k o (n + 1) t = (match pE k 0 t o with
    | none => none
    | some (e, t1) => if k t1 = 44 then (match pKs k o n (t1 + 1) with
        | none => none
        | some (r, t2) => some (.add e r, t2)) else some (.add e .null, t1)) := by first | rfl | simp [pKs]
  rw [un]
  cases pE k 0 t o with
  | none => rfl
  | some r =>
    obtain ⟨e, t1⟩ := r
    show _ = gKr k o n e t1
    unfold gKr
    dsimp only
    by_cases q : k t1 = 44
    · rw [if_pos q, if_pos q]
      cases pKs k o n (t1 + 1) with
      | none => rfl
      | some s => rfl
    · rw [if_neg q, if_neg q]
theorem gKr_rw {n : Nat} {e r : Ast} {t1 t2 : Nat} (h : gKr k o n e t1 = some (r, t2)) : isRw r = true := by
  unfold gKr at h
  by_cases q : k t1 = 44
  · rw [if_pos q] at h
    cases hg : pKs k o n (t1 + 1) with
    | none => rw [hg] at h; exact absurd h (by simp [gMap])
    | some s =>
      rw [hg] at h
      have h' : some (Term.add e s.1, s.2) = some (r, t2) := h
      injection h' with h'
      injection h' with h1 h2
      rw [← h1]; rfl
  · rw [if_neg q] at h
    injection h with h'
    injection h' with h1 h2
    rw [← h1]; rfl
/-- up to a closing mark q -/
def gEnd (k : Nat → Int) (q : Int) (g : Option (Ast × Nat)) : Option (Ast × Nat) := gThen g (fun e t => if k t = q then some (e, t + 1) else none)
/-- a row of constants from node j on -/
def OkK (k : Nat → Int) (c t : Nat) (o : Int) (g : Option (Ast × Nat)) (j : Int) (lo hi : Nat) (pf : Nat → Int32) (na ma wa : Nat → Nat → Int32) (pf' : Nat → Int32) (na' ma' wa' : Nat → Nat → Int32) (xt : Int32) : Prop := match g with
  | none => xt = 1
  | some r => xt = 0 ∧ ∃ N' : Nat, (hi ≤ N' ∧ N' + t ≤ hi + r.2 ∧ t < r.2) ∧ (pf' 13).toInt = (N' : Int) ∧ RCur pf' c r.2 o ∧ Rep k c na' ma' r.1 false j 0 lo N' ∧ AgF na ma na' ma' 0 lo (-1) ∧ WKp pf wa pf' wa'
theorem arv_66 (hT : RTk ta c) (hk : ∀ i : Nat, i < c → rkd ta i = k i) (hPl : RPl ta c) {p0 : Int32} (ho : 1 ≤ o) : ∀ (n t lo hi j m : Nat) (e : Ast) (x2 : Int32) (pf : Nat → Int32) (na ma wa : Nat → Nat → Int32), E_mp_arrayValue ta p0 pf' na' ma' wa' xt m 66 [x2] [] [] [] [] pf na ma wa → x2.toInt = (j : Int) → (lo ≤ j ∧ j < hi) → RCur pf c t o → RW pf o → (pf 13).toInt = (hi : Int) → hi ≤ t + 10000 → OkE k c na ma e (j : Int) lo hi → (na 21 j).toInt = -1 → c ≤ 2 * n + t + 1 → OkK k c t (o - 1) (gEnd k 125 (gKr k o n e t)) (j : Int) lo hi pf na ma wa pf' na' ma' wa' xt := by
  have fin : ∀ {n t lo hi j : Nat} {e : Ast} {pf pf7 : Nat → Int32} {na ma wa : Nat → Nat → Int32}, RSm pf pf7 → RCur pf7 c t o → ¬ k t = 44 → (lo ≤ j ∧ j < hi) → (pf 13).toInt = (hi : Int) → OkE k c na ma e (j : Int) lo hi → (na 21 j).toInt = -1 → ((∃ (pq1 : Nat → Int32), (R_mp_closes 1 (lby "}") ta pf7 pq1 1) ∧ pf' = pq1 ∧ na' = na ∧ ma' = ma ∧ wa' = wa ∧ xt = 1) ∨ (∃ (pf26 : Nat → Int32), (R_mp_closes 1 (lby "}") ta pf7 pf26 0) ∧ pf' = pf26 ∧ na' = na ∧ ma' = ma ∧ wa' = wa ∧ xt = 0)) → OkK k c t (o - 1) (gEnd k 125 (gKr k o n e t)) (j : Int) lo hi pf na ma wa pf' na' ma' wa' xt := by
    intro n t lo hi j e pf pf7 na ma wa s1 hc n44 hj hN hE hm h
    have kt := hk t hc.2.2.1
    have gr : gKr k o n e t = some (.add e .null, t) := by unfold gKr; rw [if_neg n44]
    rw [gr]
    show OkK k c t (o - 1) (if k t = 125 then some (Term.add e .null, t + 1) else none) (j : Int) lo hi pf na ma wa pf' na' ma' wa' xt
    have cl := fun {p : Nat → Int32} {z : Int32} (y : R_mp_closes 1 (lby "}") ta pf7 p z) => closes_r hT hc ho (by decide) mq_125 (by decide) y
    rw [kt] at cl
    rcases h with ⟨pq1, h3, e0, e1, e2, e3, ex⟩ | ⟨pf26, h3, e0, e1, e2, e3, ex⟩
    · rcases (cl h3).2 with ⟨w1, w2, w3⟩ | ⟨w1, w2⟩
      · exact absurd w2 (by decide)
      · rw [if_neg w1]; exact ex
    · obtain ⟨r1, r2⟩ := cl h3
      rcases r2 with ⟨w1, w2, w3⟩ | ⟨w1, w2⟩
      · rw [if_pos w1, e0, e1, e2, e3, ex]
        refine ⟨rfl, hi, by simp only []; omega, ?_, w3, ⟨j, hi, rfl, by omega, ⟨hE.1, rfl⟩, hE.2.1, ?_⟩, AgF.rf, (s1.tr r1).wk⟩
        · rw [(s1.tr r1) 13 (by decide) (by decide)]; exact hN
        · show (na 21 j).toInt < 0
          omega
      · exact absurd w2 (by decide)
  intro n
  induction n with
  | zero =>
    intro t lo hi j m e x2 pf na ma wa h hx2 hj hc hW hN hb hE hm hf
    obtain ⟨m, b2, h0, pf7, v9, h1, h⟩ := iv_mp_arrayValue_66 h
    obtain ⟨s1, s2⟩ := takes_r hT hc (by decide) mq_44 (by decide) h1
    rw [hk t hc.2.2.1] at s2
    rcases s2 with ⟨y1, y2, y3⟩ | ⟨y1, y2, y3⟩
    · have := y3.2.2.1
      exfalso; omega
    · rcases h with ⟨h2, h⟩ | ⟨h2, h⟩
      · exact fin s1 y3 y1 hj hN hE hm h
      · exact absurd y2 h2
  | succ n ih =>
    intro t lo hi j m e x2 pf na ma wa h hx2 hj hc hW hN hb hE hm hf
    obtain ⟨m, b2, h0, pf7, v9, h1, h⟩ := iv_mp_arrayValue_66 h
    obtain ⟨s1, s2⟩ := takes_r hT hc (by decide) mq_44 (by decide) h1
    rw [hk t hc.2.2.1] at s2
    rcases s2 with ⟨y1, y2, y3⟩ | ⟨y1, y2, y3⟩
    · rcases h with ⟨h2, h⟩ | ⟨h2, h⟩
      · exfalso; omega
      · have hN7 : (pf7 13).toInt = (hi : Int) := by rw [s1 13 (by decide) (by decide)]; exact hN
        have gr : gKr k o (n + 1) e t = gMap (fun r => .add e r) (pKs k o (n + 1) (t + 1)) := by unfold gKr; rw [if_pos y1]
        rw [gr, pKs_s]
        have co := fun {p : Nat → Int32} {n1 n2 n3 : Nat → Nat → Int32} {z z' : Int32} (y : R_mp_constant ta pf7 na ma wa p n1 n2 n3 z z') => cst_ok hT hk hPl y3 (hW.sm s1 (Int.le_refl _)) hN7 (by omega) y
        rcases h with ⟨pq1, pq2, pq3, pq4, h3, e0, e1, e2, e3, ex⟩ | ⟨pf42, na43, ma44, wa45, v47, h3, na62, h4, hE'⟩
        · rw [(co h3).no]; exact ex
        · have q := co h3
          obtain ⟨g, hg⟩ := q.sm
          obtain ⟨a, t1⟩ := g
          rw [hg] at q ⊢
          show OkK k c t (o - 1) (gEnd k 125 (gMap (fun r => .add e r) (gKr k o n a t1))) (j : Int) lo hi pf na ma wa pf' na' ma' wa' xt
          obtain ⟨N', i, z0, z1, z2, z3, z4, z5, z6, z7⟩ := q.e
          rw [z0] at z2
          rw [cn_of hx2] at h4
          have h4' : na62 = vu na43 21 j v47 := h4
          have at' : ∀ f y : Nat, ¬ y = j → na62 f y = na43 f y ∧ ma44 f y = ma44 f y := fun f y hy => ⟨by rw [h4', vu_p (fun q => hy q.2)], rfl⟩
          have b3 := ih t1 hi N' i m a v47 pf42 na62 ma44 wa45 hE' z0 (by omega) z4 ((hW.sm s1 (Int.le_refl _)).wk z7) z1 (by omega) (z2.kp (ag_at (r := -1) at' (Or.inr (by omega))) (Or.inl (by omega))) (by rw [(at' 21 i (by omega)).1]; exact z5) (by omega)
          cases hw : gKr k o n a t1 with
          | none =>
            rw [hw] at b3
            exact b3
          | some s =>
            obtain ⟨r, t2⟩ := s
            have rw' := gKr_rw hw
            rw [hw] at b3
            have b3' : OkK k c t1 (o - 1) (if k t2 = 125 then some (r, t2 + 1) else none) (i : Int) hi N' pf42 na62 ma44 wa45 pf' na' ma' wa' xt := b3
            show OkK k c t (o - 1) (if k t2 = 125 then some (Term.add e r, t2 + 1) else none) (j : Int) lo hi pf na ma wa pf' na' ma' wa' xt
            by_cases w : k t2 = 125
            · rw [if_pos w] at b3' ⊢
              obtain ⟨d0, M, d1, d2, d3, d4, d5, d6⟩ := b3'
              simp only [] at d1 d3 d4
              have gj := (d5 j (Nat.zero_le _) (by omega)).2.2.2.2.2.2.2 (by omega)
              refine ⟨d0, M, by simp only []; omega, d2, d3, ⟨j, hi, rfl, by omega, ⟨hE.1, rw'⟩, ?_, ?_⟩, ?_, s1.wk.tr (z7.tr d6)⟩
              · have a2 : AgF na43 ma44 na62 ma44 lo hi (j : Int) := fun y b1 b2 => by
                  have u := fun f => at' f y
                  refine ⟨?_, ?_, ?_, rfl, rfl, rfl, ?_, fun w => ⟨(at' 21 y (by omega)).1, rfl⟩⟩
                  · rw [h4', vu_p (by omega)]
                  · rw [h4', vu_p (by omega)]
                  · rw [h4', vu_p (by omega)]
                  · rw [h4', vu_p (by omega)]
                exact rep_kp _ _ _ _ _ _ hE.2.1 (fun _ => by rw [rtE_x hE.1]; exact ((z6.le (Nat.zero_le _) (Nat.le_refl _)).ot (Or.inl (by omega))).tr (a2.tr ((d5.le (Nat.zero_le _) (Nat.le_refl _)).ot (Or.inl (by omega))))) (fun z => absurd z (by decide))
              · rw [gj.1, h4', vu_s, z0]; exact d4
              · exact (z6.le (Nat.le_refl _) (by omega)).tr ((ag_at at' (Or.inl (by omega))).tr (d5.le (Nat.le_refl _) (by omega)))
            · rw [if_neg w] at b3' ⊢
              exact b3'
    · rcases h with ⟨h2, h⟩ | ⟨h2, h⟩
      · exact fin s1 y3 y1 hj hN hE hm h
      · exact absurd y2 h2
/-- what stands behind = of a row: a string, or constants between braces -/
def gArv (k : Nat → Int) (F : Ast → Ast) (G : Nat → Ast) (t : Nat) (o : Int) : Option (Ast × Nat) := if k t = 18 then some (G t, t + 1) else if k t = 123 ∧ o < 60 then gMap F (gEnd k 125 (pKs k (o + 1) 2048 (t + 1))) else none
/-- fields of a node that stay -/
def NdS (na na' : Nat → Nat → Int32) (V : Nat) : Prop := na' 14 V = na 14 V ∧ na' 15 V = na 15 V ∧ na' 17 V = na 17 V ∧ na' 21 V = na 21 V
theorem arv_ok (hT : RTk ta c) (hk : ∀ i : Nat, i < c → rkd ta i = k i) (hPl : RPl ta c) {V : Nat} {p0 : Int32} (hp : p0.toInt = (V : Int)) (hV : V < N) (hc : RCur pf c t o) (hW : RW pf o) (hN : (pf 13).toInt = (N : Int)) (hb : N ≤ t + 10000) (h : R_mp_arrayValue ta p0 pf na ma wa pf' na' ma' wa' xt) : (k t = 18 ∧ xt = 0 ∧ RCur pf' c (t + 1) o ∧ RSm pf pf' ∧ wa' = wa ∧ na' = na ∧ (ma' 22 V).toInt = 3 ∧ (ma' 19 V).toInt = (t : Int) ∧ ∀ f i : Nat, ¬ i = V → ma' f i = ma f i) ∨ (¬ k t = 18 ∧ ((k t = 123 ∧ o < 60 ∧ ∃ (l : Ast) (t2 N' : Nat), gEnd k 125 (pKs k (o + 1) 2048 (t + 1)) = some (l, t2) ∧ xt = 0 ∧ isRw l = true ∧ RCur pf' c t2 o ∧ (pf' 13).toInt = (N' : Int) ∧ (N ≤ N' ∧ N' + t ≤ N + t2 ∧ t < t2) ∧ (ma' 22 V).toInt = 2 ∧ Rep k c na' ma' l false (ma' 18 V).toInt 0 N N' ∧ AgF na ma na' ma' 0 V (-1) ∧ AgF na ma na' ma' (V + 1) N (-1) ∧ NdS na na' V ∧ WKp pf wa pf' wa') ∨ ((¬ (k t = 123 ∧ o < 60) ∨ (o < 60 ∧ gEnd k 125 (pKs k (o + 1) 2048 (t + 1)) = none)) ∧ xt = 1))) := by
  have c1 := hc.2.2.1
  have c2 := hc.2.2.2.1
  have c5 := hc.2.2.2.2.1
  have k4 := (rkd_b hT c1).2.2.2.2.1
  rw [hk t c1] at k4
  obtain ⟨m, h⟩ := h
  obtain ⟨m, ma63, h1, z64, h2, h⟩ := iv_mp_arrayValue_0 h
  rw [cn_of hp] at h1
  rw [cn_of hc.1] at h2
  have h1' : ma63 = vu ma 19 V (pf 11) := h1
  rcases h with ⟨h3, ma67, h4, h⟩ | ⟨h3, ma111, h4, z113, h5, e0, e1, e2, e3, ex⟩
  · rw [h2] at h3
    have n18 : ¬ k t = 18 := fun y => h3 (k4.mpr y)
    rw [cn_of hp] at h4
    have h4' : ma67 = vu ma63 22 V 2 := h4
    refine Or.inr ⟨n18, ?_⟩
    have om := fun {p : Nat → Int32} {z : Int32} (y : R_mp_opensMark 1 (lby "{") ta pf p z) => opensMark_r hT hc (by decide) mq_123 (by decide) y
    rw [hk t c1] at om
    rcases h with ⟨pq1, h5, e0, e1, e2, e3, ex⟩ | ⟨pf72, h5, h⟩
    · rcases (om h5).2 with ⟨w1, w2, w3⟩ | ⟨w1, w2⟩
      · exact absurd w2 (by decide)
      · exact Or.inr ⟨Or.inl w1, ex⟩
    · obtain ⟨s1, s2⟩ := om h5
      rcases s2 with ⟨w1, w2, w3⟩ | ⟨w1, w2⟩
      · have hN7 : (pf72 13).toInt = (N : Int) := by rw [s1 13 (by decide) (by decide)]; exact hN
        have co := fun {p : Nat → Int32} {n1 n2 n3 : Nat → Nat → Int32} {z z' : Int32} (y : R_mp_constant ta pf72 na ma67 wa p n1 n2 n3 z z') => cst_ok hT hk hPl w3 (hW.sm s1 (by omega)) hN7 (by omega) y
        rw [show (2048 : Nat) = 2047 + 1 from rfl, pKs_s]
        rcases h with ⟨pq1, pq2, pq3, pq4, h6, e0, e1, e2, e3, ex⟩ | ⟨pf90, na91, ma92, wa93, v95, h6, ma110, h7, hE'⟩
        · rw [(co h6).no]
          exact Or.inr ⟨Or.inr ⟨w1.2, rfl⟩, ex⟩
        · have q := co h6
          obtain ⟨g, hg⟩ := q.sm
          obtain ⟨a, t1⟩ := g
          rw [hg] at q ⊢
          obtain ⟨N', i, z0, z1, z2, z3, z4, z5, z6, z7⟩ := q.e
          rw [z0] at z2
          rw [cn_of hp] at h7
          have h7' : ma110 = vu ma92 18 V v95 := h7
          have at' : ∀ f y : Nat, ¬ y = V → na91 f y = na91 f y ∧ ma110 f y = ma92 f y := fun f y hy => ⟨rfl, by rw [h7', vu_p (fun q => hy q.2)]⟩
          have at0 : ∀ f y : Nat, ¬ y = V → na f y = na f y ∧ ma67 f y = ma f y := fun f y hy => ⟨rfl, by rw [h4', vu_p (fun q => hy q.2), h1', vu_p (fun q => hy q.2)]⟩
          have b3 := arv_66 hT hk hPl (p0 := p0) (o := o + 1) (by omega) 2047 t1 N N' i m a v95 pf90 na91 ma110 wa93 hE' z0 (by omega) z4 ((hW.sm s1 (by omega)).wk z7) z1 (by omega) (z2.kp (ag_at (r := -1) at' (Or.inr (by omega))) (Or.inl (by omega))) z5 (by omega)
          have eo : o + 1 - 1 = o := by omega
          rw [eo] at b3
          have eg : gThen (some (a, t1)) (gKr k (o + 1) 2047) = gKr k (o + 1) 2047 a t1 := rfl
          rw [eg]
          cases hw : gEnd k 125 (gKr k (o + 1) 2047 a t1) with
          | none =>
            rw [hw] at b3
            exact Or.inr ⟨Or.inr ⟨w1.2, rfl⟩, b3⟩
          | some s =>
            obtain ⟨l, t2⟩ := s
            rw [hw] at b3
            obtain ⟨d0, M, d1, d2, d3, d4, d5, d6⟩ := b3
            simp only [] at d1 d3 d4
            have lrw : isRw l = true := by
              cases hv : gKr k (o + 1) 2047 a t1 with
              | none => rw [hv] at hw; exact absurd hw (by simp [gEnd, gThen])
              | some s2 =>
                obtain ⟨l2, t3⟩ := s2
                have r2 := gKr_rw hv
                rw [hv] at hw
                have hw' : (if k t3 = 125 then some (l2, t3 + 1) else none) = some (l, t2) := hw
                by_cases y : k t3 = 125
                · rw [if_pos y] at hw'
                  injection hw' with hw'
                  injection hw' with e1 e2
                  rw [← e1]; exact r2
                · rw [if_neg y] at hw'; exact absurd hw' (by simp)
            have gV := d5 V (Nat.zero_le _) hV
            have gV2 := gV.2.2.2.2.2.2.2 (by omega)
            have fV := z6 V (Nat.zero_le _) hV
            have fV2 := fV.2.2.2.2.2.2.2 (by omega)
            refine Or.inl ⟨w1.1, w1.2, l, t2, M, rfl, d0, lrw, d3, d2, by omega, ?_, ?_, ?_, ?_, ⟨?_, ?_, ?_, ?_⟩, s1.wk.tr (z7.tr d6)⟩
            · rw [gV.2.2.2.2.2.1, h7', vu_p (by omega), fV.2.2.2.2.2.1, h4', vu_s]; rfl
            · rw [gV.2.2.2.1, h7', vu_s, z0]; exact d4
            · exact (ag_at at0 (Or.inl (Nat.le_refl _))).tr ((z6.le (Nat.le_refl _) (by omega)).tr ((ag_at at' (Or.inl (Nat.le_refl _))).tr (d5.le (Nat.le_refl _) (by omega))))
            · exact (ag_at at0 (Or.inr (by omega))).tr ((z6.le (Nat.zero_le _) (Nat.le_refl _)).tr ((ag_at at' (Or.inr (by omega))).tr (d5.le (Nat.zero_le _) (Nat.le_refl _))))
            · exact gV.1.trans fV.1
            · exact gV.2.1.trans fV.2.1
            · exact gV.2.2.1.trans fV.2.2.1
            · exact gV2.1.trans fV2.1
      · exact absurd w2 (by decide)
  · rw [h2] at h3
    have y18 : k t = 18 := k4.mp h3
    rw [cn_of hp] at h4
    have h4' : ma111 = vu ma63 22 V 3 := h4
    rw [e0, e1, e2, e3, ex]
    refine Or.inl ⟨y18, rfl, hc.st h5 (rlt hT hc (by rw [hk t c1]; omega)), fun i i1 _ => pk_un i1, rfl, rfl, ?_, ?_, fun f i hi => ?_⟩
    · rw [h4', vu_s]; rfl
    · rw [h4', vu_p (by omega), h1', vu_s]; exact hc.1
    · rw [h4', vu_p (fun q => hi q.2), h1', vu_p (fun q => hi q.2)]
/-- what a parser of statements gives: node N is the first of its own -/
def OkSr (R : (Nat → Nat → Int32) → (Nat → Nat → Int32) → Ast → Nat → Nat → Prop) (c t : Nat) (o : Int) (g : Option (Ast × Nat)) (N : Nat) (pf : Nat → Int32) (na ma wa : Nat → Nat → Int32) (pf' : Nat → Int32) (na' ma' wa' : Nat → Nat → Int32) (v xt : Int32) : Prop := match g with
  | none => xt = 1
  | some r => xt = 0 ∧ ∃ N' : Nat, v.toInt = (N : Int) ∧ (N < N' ∧ N' + t ≤ N + r.2 ∧ t < r.2) ∧ (pf' 13).toInt = (N' : Int) ∧ RCur pf' c r.2 o ∧ R na' ma' r.1 N N' ∧ (na' 21 N).toInt = -1 ∧ AgF na ma na' ma' 0 N (-1) ∧ WKp pf wa pf' wa'
theorem OkSr.no {R : (Nat → Nat → Int32) → (Nat → Nat → Int32) → Ast → Nat → Nat → Prop} {g : Option (Ast × Nat)} (q : OkSr R c t o g N pf na ma wa pf' na' ma' wa' v 1) : g = none := by
  cases g with
  | none => rfl
  | some r => exact absurd q.1 (by decide)
theorem OkSr.sm {R : (Nat → Nat → Int32) → (Nat → Nat → Int32) → Ast → Nat → Nat → Prop} {g : Option (Ast × Nat)} (q : OkSr R c t o g N pf na ma wa pf' na' ma' wa' v 0) : ∃ r, g = some r := by
  cases g with
  | none => exact absurd (show (0 : Int32) = 1 from q) (by decide)
  | some r => exact ⟨r, rfl⟩
theorem vu_at {n : Nat → Nat → Int32} {f V : Nat} {x : Int32} {g i : Nat} (h : ¬ i = V) : vu n f V x g i = n g i := vu_p (fun q => h q.2)
theorem pV_no (h : ¬ k t = 16) : pVar k o t = none := by unfold pVar; rw [if_neg h]
theorem pV_in (h : k t = 16) (h1 : ¬ k (t + 1) = 91) (h2 : k (t + 1) = 256) : pVar k o t = gThen (pE k (-1) (t + 2) o) (fun e t1 => some (vInit t e, t1)) := by
  unfold pVar
  rw [if_pos h, if_neg h1, if_pos h2]
  cases pE k (-1) (t + 2) o with
  | none => rfl
  | some r => rfl
theorem pV_si (h : k t = 16) (h1 : ¬ k (t + 1) = 91) (h2 : ¬ k (t + 1) = 256) : pVar k o t = some (vSing t, t + 1) := by
  unfold pVar
  rw [if_pos h, if_neg h1, if_neg h2]
theorem pV_op (h : k t = 16) (h1 : k (t + 1) = 91) (h2 : ¬ o < 60) : pVar k o t = none := by
  unfold pVar
  rw [if_pos h, if_pos h1, if_neg h2]
theorem pV_ro (h : k t = 16) (h1 : k (t + 1) = 91) (h2 : o < 60) : pVar k o t = gThen (pE k 0 (t + 2) (o + 1)) (fun e t1 => if k t1 = 93 then (if k (t1 + 1) = 256 then gArv k (fun l => vList t e l) (fun u => vStr t e u) (t1 + 2) o else some (vRow t e, t1 + 1)) else none) := by
  unfold pVar
  rw [if_pos h, if_pos h1, if_pos h2]
  cases pE k 0 (t + 2) (o + 1) with
  | none => rfl
  | some r =>
    obtain ⟨e, t1⟩ := r
    show (if k t1 = 93 then _ else none) = (if k t1 = 93 then (if k (t1 + 1) = 256 then gArv k (fun l => vList t e l) (fun u => vStr t e u) (t1 + 2) o else some (vRow t e, t1 + 1)) else none)
    by_cases q1 : k t1 = 93
    · rw [if_pos q1, if_pos q1]
      by_cases q2 : k (t1 + 1) = 256
      · rw [if_pos q2, if_pos q2]
        unfold gArv
        by_cases q3 : k (t1 + 2) = 18
        · rw [if_pos q3, if_pos q3]
        · rw [if_neg q3, if_neg q3]
          by_cases q4 : k (t1 + 2) = 123 ∧ o < 60
          · rw [if_pos q4, if_pos q4]
            cases pKs k (o + 1) 2048 (t1 + 3) with
            | none => rfl
            | some s =>
              obtain ⟨l, t2⟩ := s
              show (if k t2 = 125 then some (vList t e l, t2 + 1) else none) = gMap (fun l => vList t e l) (if k t2 = 125 then some (l, t2 + 1) else none)
              by_cases q5 : k t2 = 125
              · rw [if_pos q5, if_pos q5]; rfl
              · rw [if_neg q5, if_neg q5]; rfl
          · rw [if_neg q4, if_neg q4]
      · rw [if_neg q2, if_neg q2]
    · rw [if_neg q1, if_neg q1]
theorem var_ok (hT : RTk ta c) (hk : ∀ i : Nat, i < c → rkd ta i = k i) (hPl : RPl ta c) (hc : RCur pf c t o) (hW : RW pf o) (hN : (pf 13).toInt = (N : Int)) (hb : N ≤ t + 10000) (h : R_mp_variable ta pf na ma wa pf' na' ma' wa' v xt) : OkSr (RepV k c) c t o (pVar k o t) N pf na ma wa pf' na' ma' wa' v xt := by
  have c1 := hc.2.2.1
  have c2 := hc.2.2.2.1
  have h0 := hc.2.2.2.2.1
  obtain (⟨pq1, h1, e0, e1, e2, e3, ev, ex⟩ | ⟨pf2, v4, h1, pf19, na20, ma21, v23, h2, ma34, h3, v39, h4, h⟩) | h := h
  · rcases (name_r hT hc h1).2 with ⟨y1, y2, -⟩ | ⟨y1, y2⟩
    · exact absurd y2 (by decide)
    · rw [hk t c1] at y1
      rw [pV_no y1]; exact ex
  · obtain ⟨s1, s2⟩ := name_r hT hc h1
    rw [hk t c1] at s2
    rcases s2 with ⟨y1, y2, y3, y4⟩ | ⟨y1, y2⟩
    · have hN2 : (pf2 13).toInt = (N : Int) := by rw [s1 13 (by decide) (by decide)]; exact hN
      obtain ⟨m1, m2, m3, m4⟩ := make_r hN2 (by omega) (show (vp_nar .byte (40 : Int32).toInt8.toInt32).toInt = 40 from rfl) y3 h2
      have hc1 := y4.mk m3
      have d1 := hc1.2.2.1
      have hW1 : RW pf19 o := (hW.sm s1 (Int.le_refl _)).mk m3
      have hN3 : (pf19 13).toInt = ((N + 1 : Nat) : Int) := by rw [m2]; rfl
      rw [cn_of m1] at h3
      have h3' : ma34 = vu ma21 22 N 0 := h3
      have wk0 : WKp pf wa pf19 wa := s1.wk.tr (mk_wk m3)
      have kd : ((na20 15 N).toInt = (t : Int) ∧ t < c ∧ k t = 16) := ⟨m4.1.1.2, c1, y1⟩
      have a0 : AgF na ma na20 ma34 0 N (-1) := (m4.ag (Or.inl (Nat.le_refl _))).tr (ag_at (fun f i hi => ⟨rfl, by rw [h3', vu_at hi]⟩) (Or.inl (Nat.le_refl _)))
      have w1 := is_r hT hc1 (by decide) mq_91 (by decide) h4
      rw [hk (t + 1) d1] at w1
      rcases h with ⟨h5, pf49, v51, h6, h⟩ | ⟨h5, h⟩
      · have n91 : ¬ k (t + 1) = 91 := fun y => by have := w1.2.mpr y; omega
        obtain ⟨r1, r2⟩ := takes_r hT hc1 (by decide) mq_256 (by decide) h6
        rw [hk (t + 1) d1] at r2
        rcases h with ⟨h7, e0, e1, e2, e3, ev, ex⟩ | ⟨h7, ma64, h8, h⟩
        · rcases r2 with ⟨u1, u2, u3⟩ | ⟨u1, u2, u3⟩
          · exfalso; omega
          · rw [pV_si y1 n91 u1, e0, e1, e2, e3, ev, ex]
            refine ⟨rfl, N + 1, m1, by simp only []; omega, by rw [r1 13 (by decide) (by decide)]; exact hN3, u3, ⟨by omega, m4.1.1.1, t, kd, Or.inl ⟨rfl, ?_, ?_⟩⟩, m4.1.2.2.1, a0, wk0.tr r1.wk⟩
            · rw [h3', vu_s]; rfl
            · rw [m4.1.2.1]; decide
        · rcases r2 with ⟨u1, u2, u3⟩ | ⟨u1, u2, u3⟩
          · rw [pV_in y1 n91 u1]
            show OkSr (RepV k c) c t o (gThen ((pBoth k 62).1 (-1) (t + 2) o) (fun e t1 => some (vInit t e, t1))) N pf na ma wa pf' na' ma' wa' v xt
            rw [cn_of m1] at h8
            have h8' : ma64 = vu ma34 22 N 1 := h8
            have u3' : RCur pf49 c (t + 2) o := u3
            have exq := fun {p : Nat → Int32} {n1 n2 n3 : Nat → Nat → Int32} {z z' : Int32} (y : RX_mp_expression ta pf49 na20 ma64 wa p n1 n2 n3 z z') => rx_e hT hk hPl u3' (hW1.sm r1 (Int.le_refl _)) (show (pf49 13).toInt = ((N + 1 : Nat) : Int) by rw [r1 13 (by decide) (by decide)]; exact hN3) (by omega) y
            rcases h with ⟨pq1, pq2, pq3, pq4, h9, e0, e1, e2, e3, ev, ex⟩ | ⟨pf69, na70, ma71, wa72, v74, h9, ma89, h10, e0, e1, e2, e3, ev, ex⟩
            · rw [(exq h9).no]; exact ex
            · have q := exq h9
              obtain ⟨g, hg⟩ := q.sm
              obtain ⟨e, t1⟩ := g
              rw [hg] at q ⊢
              show OkSr (RepV k c) c t o (some (vInit t e, t1)) N pf na ma wa pf' na' ma' wa' v xt
              obtain ⟨N', j, z0, z1, z2, z3, z4, z5, z6, z7⟩ := q.e
              rw [cn_of m1] at h10
              have h10' : ma89 = vu ma71 18 N v74 := h10
              have gN := z6 N (Nat.zero_le _) (by omega)
              have gN2 := gN.2.2.2.2.2.2.2 (by omega)
              have at' : ∀ f i : Nat, ¬ i = N → na70 f i = na70 f i ∧ ma89 f i = ma71 f i := fun f i hi => ⟨rfl, by rw [h10', vu_at hi]⟩
              rw [e0, e1, e2, e3, ev, ex]
              refine ⟨rfl, N', m1, by simp only []; omega, z1, z4, ⟨by omega, by rw [gN.1]; exact m4.1.1.1, t, by rw [gN.2.1]; exact kd, Or.inr (Or.inl ⟨e, rfl, ?_, ?_, ?_⟩)⟩, by rw [gN2.1]; exact m4.1.2.2.1, ?_, wk0.tr (r1.wk.tr z7)⟩
              · rw [h10', vu_p (by omega), gN.2.2.2.2.2.1, h8', vu_s]; rfl
              · rw [gN.2.2.1, m4.1.2.1]; decide
              · rw [show ma89 18 N = v74 by rw [h10', vu_s]]; exact z2.kp (ag_at (r := -1) at' (Or.inr (by omega))) (Or.inl (by omega))
              · exact a0.tr ((ag_at (fun f i hi => ⟨rfl, by rw [h8', vu_at hi]⟩) (Or.inl (Nat.le_refl _))).tr ((z6.le (Nat.le_refl _) (by omega)).tr (ag_at at' (Or.inl (Nat.le_refl _)))))
          · exfalso; omega
      · have y91 : k (t + 1) = 91 := w1.2.mp (by omega)
        have hl := rlt hT hc1 (by rw [hk (t + 1) d1]; omega)
        rcases h with ⟨pq1, h6, e0, e1, e2, e3, ev, ex⟩ | ⟨pf91, h6, h⟩
        · rcases (opens_r hc1 hl h6).2 with ⟨u1, u2, u3⟩ | ⟨u1, u2⟩
          · exact absurd u2 (by decide)
          · rw [pV_op y1 y91 u1]; exact ex
        · obtain ⟨r1, r2⟩ := opens_r hc1 hl h6
          rcases r2 with ⟨u1, u2, u3⟩ | ⟨u1, u2⟩
          · rw [pV_ro y1 y91 u1]
            have u3' : RCur pf91 c (t + 2) (o + 1) := u3
            have co := fun {p : Nat → Int32} {n1 n2 n3 : Nat → Nat → Int32} {z z' : Int32} (y : R_mp_constant ta pf91 na20 ma34 wa p n1 n2 n3 z z') => cst_ok hT hk hPl u3' (hW1.sm r1 (by omega)) (show (pf91 13).toInt = ((N + 1 : Nat) : Int) by rw [r1 13 (by decide) (by decide)]; exact hN3) (by omega) y
            rcases h with ⟨pq1, pq2, pq3, pq4, h7, e0, e1, e2, e3, ev, ex⟩ | ⟨pf109, na110, ma111, wa112, v114, h7, na129, h8, h⟩
            · rw [(co h7).no]; exact ex
            · have q := co h7
              obtain ⟨g, hg⟩ := q.sm
              obtain ⟨e, t1⟩ := g
              rw [hg] at q ⊢
              show OkSr (RepV k c) c t o (if k t1 = 93 then (if k (t1 + 1) = 256 then gArv k (fun l => vList t e l) (fun u => vStr t e u) (t1 + 2) o else some (vRow t e, t1 + 1)) else none) N pf na ma wa pf' na' ma' wa' v xt
              obtain ⟨N', j, z0, z1, z2, z3, z4, z5, z6, z7⟩ := q.e
              rw [cn_of m1] at h8
              have h8' : na129 = vu na110 17 N v114 := h8
              have gN := z6 N (Nat.zero_le _) (by omega)
              have gN2 := gN.2.2.2.2.2.2.2 (by omega)
              have at' : ∀ f i : Nat, ¬ i = N → na129 f i = na110 f i ∧ ma111 f i = ma111 f i := fun f i hi => ⟨by rw [h8', vu_at hi], rfl⟩
              have z2' : OkE k c na129 ma111 e v114.toInt (N + 1) N' := z2.kp (ag_at (r := -1) at' (Or.inr (by omega))) (Or.inl (by omega))
              have q14 : (na129 14 N).toInt = 40 := by rw [h8', vu_p (by omega), gN.1]; exact m4.1.1.1
              have q15 : ((na129 15 N).toInt = (t : Int) ∧ t < c ∧ k t = 16) := by rw [h8', vu_p (by omega), gN.2.1]; exact kd
              have q17 : na129 17 N = v114 := by rw [h8', vu_s]
              have q21 : (na129 21 N).toInt = -1 := by rw [h8', vu_p (by omega), gN2.1]; exact m4.1.2.2.1
              have q22 : (ma111 22 N).toInt = 0 := by rw [gN.2.2.2.2.2.1, h3', vu_s]; rfl
              have a1 : AgF na ma na129 ma111 0 N (-1) := a0.tr ((z6.le (Nat.le_refl _) (by omega)).tr (ag_at at' (Or.inl (Nat.le_refl _))))
              have cl := fun {p : Nat → Int32} {z : Int32} (y : R_mp_closes 1 (lby "]") ta pf109 p z) => closes_r hT z4 (by omega) (by decide) mq_93 (by decide) y
              rw [hk t1 z4.2.2.1] at cl
              rcases h with ⟨pq1, h9, e0, e1, e2, e3, ev, ex⟩ | ⟨pf134, h9, pf150, v152, h10, h⟩
              · rcases (cl h9).2 with ⟨w1, w2, w3⟩ | ⟨w1, w2⟩
                · exact absurd w2 (by decide)
                · rw [if_neg w1]; exact ex
              · obtain ⟨f1, f2⟩ := cl h9
                rcases f2 with ⟨w1, w2, w3⟩ | ⟨w1, w2⟩
                · have eo : o + 1 - 1 = o := by omega
                  rw [eo] at w3
                  rw [if_pos w1]
                  obtain ⟨p1, p2⟩ := takes_r hT w3 (by decide) mq_256 (by decide) h10
                  rw [hk (t1 + 1) w3.2.2.1] at p2
                  have wk1 : WKp pf wa pf150 wa112 := wk0.tr (r1.wk.tr (z7.tr (f1.wk.tr p1.wk)))
                  have hN5 : (pf150 13).toInt = (N' : Int) := by rw [p1 13 (by decide) (by decide), f1 13 (by decide) (by decide)]; exact z1
                  rcases h with ⟨h11, e0, e1, e2, e3, ev, ex⟩ | ⟨h11, h⟩
                  · rcases p2 with ⟨u1, u2, u3⟩ | ⟨u1, u2, u3⟩
                    · exfalso; omega
                    · rw [if_neg u1, e0, e1, e2, e3, ev, ex]
                      exact ⟨rfl, N', m1, by simp only []; omega, hN5, u3, ⟨by omega, q14, t, q15, Or.inr (Or.inr (Or.inl ⟨e, rfl, q22, by rw [q17]; exact z2'⟩))⟩, q21, a1, wk1⟩
                  · rcases p2 with ⟨u1, u2, u3⟩ | ⟨u1, u2, u3⟩
                    · rw [if_pos u1]
                      have hW5 : RW pf150 o := hW.wk wk1
                      have u3' : RCur pf150 c (t1 + 2) o := u3
                      have av := fun {p : Nat → Int32} {n1 n2 n3 : Nat → Nat → Int32} {z : Int32} (y : R_mp_arrayValue ta v23 pf150 na129 ma111 wa112 p n1 n2 n3 z) => arv_ok hT hk hPl m1 (show N < N' by omega) u3' hW5 hN5 (by omega) y
                      unfold gArv
                      rcases h with ⟨pq1, pq2, pq3, pq4, h12, e0, e1, e2, e3, ev, ex⟩ | ⟨pf169, na170, ma171, wa172, h12, e0, e1, e2, e3, ev, ex⟩
                      · rcases av h12 with ⟨i1, i2, -⟩ | ⟨i1, ⟨i2, i3, l, t2, M, i4, i5, -⟩ | ⟨i2, -⟩⟩
                        · exact absurd i2 (by decide)
                        · exact absurd i5 (by decide)
                        · rw [if_neg i1]
                          rcases i2 with i2 | ⟨i2, i3⟩
                          · rw [if_neg i2]; exact ex
                          · by_cases i4 : k (t1 + 2) = 123 ∧ o < 60
                            · rw [if_pos i4, i3]; exact ex
                            · rw [if_neg i4]; exact ex
                      · rcases av h12 with ⟨i1, i2, i3, i4, i5, i6, i7, i8, i9⟩ | ⟨i1, ⟨i2, i3, l, t2, M, i4, i5, i6, i7, i8, i9, i10, i11, i12, i13, i14, i15⟩ | ⟨-, i2⟩⟩
                        · rw [if_pos i1, e0, e1, e2, e3, ev, ex, i5, i6]
                          refine ⟨rfl, N', m1, by simp only []; omega, by rw [i4 13 (by decide) (by decide)]; exact hN5, i3, ⟨by omega, q14, t, q15, Or.inr (Or.inr (Or.inr (Or.inr ⟨e, t1 + 2, rfl, i7, ?_, i8, u3'.2.2.1, i1⟩)))⟩, q21, a1.tr (ag_at (fun f i hi => ⟨rfl, i9 f i hi⟩) (Or.inl (Nat.le_refl _))), wk1.tr i4.wk⟩
                          rw [q17]
                          exact z2'.kp (ag_at (r := -1) (fun f i hi => ⟨rfl, i9 f i hi⟩) (Or.inr (by omega))) (Or.inl (by omega))
                        · rw [if_neg i1, if_pos ⟨i2, i3⟩, i4, e0, e1, e2, e3, ev, ex]
                          obtain ⟨j1, j2, j3, j4⟩ := i14
                          exact ⟨rfl, M, m1, by simp only []; omega, i8, i7, ⟨by omega, by rw [j1]; exact q14, t, by rw [j2]; exact q15, Or.inr (Or.inr (Or.inr (Or.inl ⟨e, l, N', rfl, i10, by rw [j3, q17]; exact z2'.kp i13 (Or.inl (by omega)), ⟨i6, by omega, by omega⟩, i11⟩)))⟩, by rw [j4]; exact q21, a1.tr i12, wk1.tr i15⟩
                        · exact absurd i2 (by decide)
                    · exfalso; omega
                · exact absurd w2 (by decide)
          · exact absurd u2 (by decide)
    · exact absurd y2 (by decide)
  · exact h.elim
/-- the rest of a row of variables behind v -/
def gVr (k : Nat → Int) (o : Int) (n : Nat) (v : Ast) (t1 : Nat) : Option (Ast × Nat) := if k t1 = 44 then gMap (fun r => .add v r) (pVars k o n (t1 + 1)) else some (.add v .null, t1)
theorem pVars_s {n : Nat} : pVars k o (n + 1) t = gThen (pVar k o t) (gVr k o n) := by
  have un : pVars k o (n + 1) t = (match pVar k o t with
    | none => none
    | some (v, t1) => if k t1 = 44 then (match pVars k o n (t1 + 1) with
        | none => none
        | some (r, t2) => some (.add v r, t2)) else some (.add v .null, t1)) := by first | rfl | simp [pVars]
  rw [un]
  cases pVar k o t with
  | none => rfl
  | some r =>
    obtain ⟨e, t1⟩ := r
    show _ = gVr k o n e t1
    unfold gVr
    dsimp only
    by_cases q : k t1 = 44
    · rw [if_pos q, if_pos q]
      cases pVars k o n (t1 + 1) with
      | none => rfl
      | some s => rfl
    · rw [if_neg q, if_neg q]
/-- a row of nodes from lo on -/
def OkWr (R : (Nat → Nat → Int32) → (Nat → Nat → Int32) → Ast → Nat → Nat → Prop) (c t : Nat) (o : Int) (g : Option (Ast × Nat)) (lo hi : Nat) (v0 : Int32) (pf : Nat → Int32) (na ma wa : Nat → Nat → Int32) (pf' : Nat → Int32) (na' ma' wa' : Nat → Nat → Int32) (v xt : Int32) : Prop := match g with
  | none => xt = 1
  | some r => xt = 0 ∧ v = v0 ∧ ∃ N' : Nat, (hi ≤ N' ∧ N' + t ≤ hi + r.2 ∧ t ≤ r.2) ∧ (pf' 13).toInt = (N' : Int) ∧ RCur pf' c r.2 o ∧ RowS na' (R na' ma') r.1 (lo : Int) lo N' ∧ AgF na ma na' ma' 0 lo (-1) ∧ WKp pf wa pf' wa'
theorem ag_21 {n n' m : Nat → Nat → Int32} {V lo hi : Nat} {x : Int32} (h : n' = vu n 21 V x) : AgF n m n' m lo hi (V : Int) := fun i _ _ => by
  refine ⟨?_, ?_, ?_, rfl, rfl, rfl, ?_, fun q => ⟨?_, rfl⟩⟩
  · rw [h, vu_p (by omega)]
  · rw [h, vu_p (by omega)]
  · rw [h, vu_p (by omega)]
  · rw [h, vu_p (by omega)]
  · rw [h, vu_p (by omega)]
theorem vrs_7 (hT : RTk ta c) (hk : ∀ i : Nat, i < c → rkd ta i = k i) (hPl : RPl ta c) : ∀ (n t lo hi m : Nat) (e : Ast) (x1 x2 : Int32) (pf : Nat → Int32) (na ma wa : Nat → Nat → Int32), E_mp_variables ta pf' na' ma' wa' v xt m 7 [x1, x2] [] [] [] [] pf na ma wa → x2.toInt = (lo : Int) → RCur pf c t o → RW pf o → (pf 13).toInt = (hi : Int) → hi ≤ t + 10000 → RepV k c na ma e lo hi → (na 21 lo).toInt = -1 → c ≤ 2 * n + t + 1 → OkWr (RepV k c) c t o (gVr k o n e t) lo hi x1 pf na ma wa pf' na' ma' wa' v xt := by
  intro n
  induction n with
  | zero =>
    intro t lo hi m e x1 x2 pf na ma wa h hx2 hc hW hN hb hE hm hf
    obtain ⟨m, pf5, v7, h1, h⟩ := iv_mp_variables_7 h
    obtain ⟨s1, s2⟩ := takes_r hT hc (by decide) mq_44 (by decide) h1
    rw [hk t hc.2.2.1] at s2
    rcases s2 with ⟨y1, y2, y3⟩ | ⟨y1, y2, y3⟩
    · have := y3.2.2.1
      exfalso; omega
    · rcases h with ⟨h2, e0, e1, e2, e3, ev, ex⟩ | ⟨h2, h⟩
      · have gr : gVr k o 0 e t = some (.add e .null, t) := by unfold gVr; rw [if_neg y1]
        rw [gr, e0, e1, e2, e3, ev, ex]
        exact ⟨rfl, rfl, hi, by simp only []; omega, by rw [s1 13 (by decide) (by decide)]; exact hN, y3, ⟨hi, rfl, ⟨hE.1, Nat.le_refl _⟩, hE, by omega, Nat.le_refl _⟩, AgF.rf, s1.wk⟩
      · exact absurd y2 h2
  | succ n ih =>
    intro t lo hi m e x1 x2 pf na ma wa h hx2 hc hW hN hb hE hm hf
    obtain ⟨m, pf5, v7, h1, h⟩ := iv_mp_variables_7 h
    obtain ⟨s1, s2⟩ := takes_r hT hc (by decide) mq_44 (by decide) h1
    rw [hk t hc.2.2.1] at s2
    rcases s2 with ⟨y1, y2, y3⟩ | ⟨y1, y2, y3⟩
    · rcases h with ⟨h2, h⟩ | ⟨h2, h⟩
      · exfalso; omega
      · have hN5 : (pf5 13).toInt = (hi : Int) := by rw [s1 13 (by decide) (by decide)]; exact hN
        have gr : gVr k o (n + 1) e t = gMap (fun r => .add e r) (pVars k o (n + 1) (t + 1)) := by unfold gVr; rw [if_pos y1]
        rw [gr, pVars_s]
        have co := fun {p : Nat → Int32} {n1 n2 n3 : Nat → Nat → Int32} {z z' : Int32} (y : R_mp_variable ta pf5 na ma wa p n1 n2 n3 z z') => var_ok hT hk hPl y3 (hW.sm s1 (Int.le_refl _)) hN5 (by omega) y
        rcases h with ⟨pq1, pq2, pq3, pq4, h3, e0, e1, e2, e3, ev, ex⟩ | ⟨pf24, na25, ma26, wa27, v29, h3, na44, h4, hE'⟩
        · rw [(co h3).no]; exact ex
        · have q := co h3
          obtain ⟨g, hg⟩ := q.sm
          obtain ⟨a, t1⟩ := g
          rw [hg] at q ⊢
          show OkWr (RepV k c) c t o (gMap (fun r => .add e r) (gVr k o n a t1)) lo hi x1 pf na ma wa pf' na' ma' wa' v xt
          obtain ⟨-, N', z0, z1, z2, z3, z4, z5, z6, z7⟩ := q
          simp only [] at z1 z3 z4
          rw [cn_of hx2] at h4
          have h4' : na44 = vu na25 21 lo v29 := h4
          have hl := hE.1
          have b3 := ih t1 hi N' m a x1 v29 pf24 na44 ma26 wa27 hE' z0 z3 ((hW.sm s1 (Int.le_refl _)).wk z7) z2 (by omega) (rpv_kp z4 ((ag_21 h4').ot (r' := -1) (Or.inl (by omega))) (by omega)) (by rw [h4', vu_p (by omega)]; exact z5) (by omega)
          cases hw : gVr k o n a t1 with
          | none =>
            rw [hw] at b3
            exact b3
          | some s =>
            obtain ⟨r, t2⟩ := s
            rw [hw] at b3
            show OkWr (RepV k c) c t o (some (Term.add e r, t2)) lo hi x1 pf na ma wa pf' na' ma' wa' v xt
            obtain ⟨d0, dv, M, d1, d2, d3, d4, d5, d6⟩ := b3
            simp only [] at d1 d3 d4
            have gj := (d5 lo (Nat.zero_le _) (by omega)).2.2.2.2.2.2.2 (by omega)
            have ax : AgF na ma na' ma' lo hi (lo : Int) := ((z6.le (Nat.zero_le _) (Nat.le_refl _)).ot (Or.inl (by omega))).tr ((ag_21 h4').tr ((d5.le (Nat.zero_le _) (Nat.le_refl _)).ot (Or.inl (by omega))))
            refine ⟨d0, dv, M, by simp only []; omega, d2, d3, ⟨hi, rfl, ⟨hl, by omega⟩, rpv_kp hE ax (Int.le_refl _), ?_⟩, ?_, s1.wk.tr (z7.tr d6)⟩
            · rw [gj.1, h4', vu_s, z0]; exact d4
            · exact (z6.le (Nat.le_refl _) (by omega)).tr (((ag_21 h4').ot (Or.inr (Int.le_refl _))).tr (d5.le (Nat.le_refl _) (by omega)))
    · rcases h with ⟨h2, e0, e1, e2, e3, ev, ex⟩ | ⟨h2, h⟩
      · have gr : gVr k o (n + 1) e t = some (.add e .null, t) := by unfold gVr; rw [if_neg y1]
        rw [gr, e0, e1, e2, e3, ev, ex]
        exact ⟨rfl, rfl, hi, by simp only []; omega, by rw [s1 13 (by decide) (by decide)]; exact hN, y3, ⟨hi, rfl, ⟨hE.1, Nat.le_refl _⟩, hE, by omega, Nat.le_refl _⟩, AgF.rf, s1.wk⟩
      · exact absurd y2 h2
theorem vrs_ok (hT : RTk ta c) (hk : ∀ i : Nat, i < c → rkd ta i = k i) (hPl : RPl ta c) (hc : RCur pf c t o) (hW : RW pf o) (hN : (pf 13).toInt = (N : Int)) (hb : N ≤ t + 10000) (h : R_mp_variables ta pf na ma wa pf' na' ma' wa' v xt) : (pVars k o 2048 t = none ∧ xt = 1) ∨ ∃ (l : Ast) (t2 N' : Nat), pVars k o 2048 t = some (l, t2) ∧ xt = 0 ∧ v.toInt = (N : Int) ∧ (N < N' ∧ N' + t ≤ N + t2 ∧ t < t2) ∧ (pf' 13).toInt = (N' : Int) ∧ RCur pf' c t2 o ∧ RowS na' (RepV k c na' ma') l (N : Int) N N' ∧ AgF na ma na' ma' 0 N (-1) ∧ WKp pf wa pf' wa' := by
  obtain ⟨m, h⟩ := h
  obtain ⟨m, h⟩ := iv_mp_variables_0 h
  rw [show (2048 : Nat) = 2047 + 1 from rfl, pVars_s]
  rcases h with ⟨pq1, pq2, pq3, pq4, h3, e0, e1, e2, e3, ev, ex⟩ | ⟨pf49, na50, ma51, wa52, v54, h3, hE'⟩
  · rw [(var_ok hT hk hPl hc hW hN hb h3).no]
    exact Or.inl ⟨rfl, ex⟩
  · have q := var_ok hT hk hPl hc hW hN hb h3
    obtain ⟨g, hg⟩ := q.sm
    obtain ⟨a, t1⟩ := g
    rw [hg] at q ⊢
    have eg : gThen (some (a, t1)) (gVr k o 2047) = gVr k o 2047 a t1 := rfl
    rw [eg]
    obtain ⟨-, N', z0, z1, z2, z3, z4, z5, z6, z7⟩ := q
    simp only [] at z1 z3 z4
    have c2 := hc.2.2.2.1
    have b3 := vrs_7 hT hk hPl 2047 t1 N N' m a v54 v54 pf49 na50 ma51 wa52 hE' z0 z3 (hW.wk z7) z2 (by omega) z4 z5 (by omega)
    cases hw : gVr k o 2047 a t1 with
    | none =>
      rw [hw] at b3
      exact Or.inl ⟨rfl, b3⟩
    | some s =>
      obtain ⟨l, t2⟩ := s
      rw [hw] at b3
      obtain ⟨d0, dv, M, d1, d2, d3, d4, d5, d6⟩ := b3
      simp only [] at d1 d3 d4
      exact Or.inr ⟨l, t2, M, rfl, d0, by rw [dv]; exact z0, by omega, d2, d3, d4, z6.tr d5, z7.tr d6⟩
/-- variables behind a type, and their ; -/
def gDec (k : Nat → Int) (t : Nat) (o : Int) : Option (Ast × Nat) := gEnd k 59 (gMap (fun vs => sNd 3 (.arg (k t).toNat) vs) (pVars k o 2048 (t + 1)))
theorem dec_okr (hT : RTk ta c) (hk : ∀ i : Nat, i < c → rkd ta i = k i) (hPl : RPl ta c) (ht : k t = 1 ∨ k t = 2) (hc : RCur pf c t o) (hW : RW pf o) (hN : (pf 13).toInt = (N : Int)) (hb : N ≤ t + 10000) (h : R_mp_declaration ta pf na ma wa pf' na' ma' wa' v xt) : OkSr (RepD k c) c t o (gDec k t o) N pf na ma wa pf' na' ma' wa' v xt := by
  have c1 := hc.2.2.1
  have c2 := hc.2.2.2.1
  obtain ⟨-, -, -, -, -, k6, k7, -⟩ := rkd_b hT c1
  rw [hk t c1] at k6 k7
  have w7 := k7 (k6.mpr (by omega))
  obtain ⟨pf4, na5, ma6, v8, h1, z19, h2, ma20, h3, z22, h4, h⟩ | h := h
  · obtain ⟨m1, m2, m3, m4⟩ := make_r hN (by omega) (show (vp_nar .byte (23 : Int32).toInt8.toInt32).toInt = 23 from rfl) hc.1 h1
    have hc1 := hc.mk m3
    have hc2 := hc1.st h4 (rlt hT hc1 (by rw [hk t c1]; omega))
    have d1 := hc2.2.2.1
    rw [cn_of hc1.1] at h2
    rw [cn_of m1] at h3
    have h3' : ma20 = vu ma6 22 N z19 := h3
    have hW2 : RW (upd pf4 11 z22) o := by
      have := hW.mk m3
      unfold RW at this ⊢
      rw [pk_un (by decide)]
      exact this
    have hN2 : ((upd pf4 11 z22) 13).toInt = ((N + 1 : Nat) : Int) := by rw [pk_un (by decide), m2]; rfl
    have wk0 : WKp pf wa (upd pf4 11 z22) wa := (mk_wk m3).tr ⟨fun i a _ _ _ => pk_un a, by rw [pk_un (by decide)], fun _ _ _ => rfl⟩
    have a0 : AgF na ma na5 ma20 0 N (-1) := (m4.ag (Or.inl (Nat.le_refl _))).tr (ag_at (fun f i hi => ⟨rfl, by rw [h3', vu_at hi]⟩) (Or.inl (Nat.le_refl _)))
    unfold gDec
    have vs := fun {p : Nat → Int32} {n1 n2 n3 : Nat → Nat → Int32} {z z' : Int32} (y : R_mp_variables ta (upd pf4 11 z22) na5 ma20 wa p n1 n2 n3 z z') => vrs_ok hT hk hPl hc2 hW2 hN2 (by omega) y
    rcases h with ⟨pq1, pq2, pq3, pq4, h5, e0, e1, e2, e3, ev, ex⟩ | ⟨pf27, na28, ma29, wa30, v32, h5, na47, h6, h⟩
    · rcases vs h5 with ⟨q1, -⟩ | ⟨l, t2, N', q1, q2, -⟩
      · rw [q1]; exact ex
      · exact absurd q2 (by decide)
    · rcases vs h5 with ⟨-, q2⟩ | ⟨l, t2, N', q1, -, q3, q4, q5, q6, q7, q8, q9⟩
      · exact absurd q2 (by decide)
      · rw [q1]
        show OkSr (RepD k c) c t o (if k t2 = 59 then some (sNd 3 (.arg (k t).toNat) l, t2 + 1) else none) N pf na ma wa pf' na' ma' wa' v xt
        rw [cn_of m1] at h6
        have h6' : na47 = vu na28 17 N v32 := h6
        have tk := fun {p : Nat → Int32} {z : Int32} (y : R_mp_take 1 (lby ";") ta pf27 p z) => take_r hT q6 (by decide) mq_59 (by decide) y
        rw [hk t2 q6.2.2.1] at tk
        have gN := q8 N (Nat.zero_le _) (by omega)
        have gN2 := gN.2.2.2.2.2.2.2 (by omega)
        have at' : ∀ f i : Nat, ¬ i = N → na47 f i = na28 f i ∧ ma29 f i = ma29 f i := fun f i hi => ⟨by rw [h6', vu_at hi], rfl⟩
        rcases h with ⟨pq1, h7, e0, e1, e2, e3, ev, ex⟩ | ⟨pf52, h7, e0, e1, e2, e3, ev, ex⟩
        · rcases (tk h7).2 with ⟨w1, w2, w3⟩ | ⟨w1, w2⟩
          · exact absurd w2 (by decide)
          · rw [if_neg w1]; exact ex
        · obtain ⟨r1, r2⟩ := tk h7
          rcases r2 with ⟨w1, w2, w3⟩ | ⟨w1, w2⟩
          · rw [if_pos w1, e0, e1, e2, e3, ev, ex]
            refine ⟨rfl, N', m1, by simp only []; omega, by rw [r1 13 (by decide) (by decide)]; exact q5, w3, ⟨(k t).toNat, l, rfl, ?_, by omega, ?_, ?_⟩, ?_, ?_, wk0.tr (q9.tr r1.wk)⟩
            · rw [h6', vu_p (by omega), gN.1]; exact m4.1.1.1
            · rw [gN.2.2.2.2.2.1, h3', vu_s, h2]; omega
            · rw [show (na47 17 N).toInt = ((N + 1 : Nat) : Int) by rw [h6', vu_s]; exact q3]
              exact row_kp _ _ _ _ q7 (fun i i1 i2 => (at' 21 i (by omega)).1) (fun s l h i1 i2 i3 => rpv_kp i3 (ag_at (r := -1) at' (Or.inr (by omega))) (by omega))
            · rw [h6', vu_p (by omega), gN2.1]; exact m4.1.2.2.1
            · exact a0.tr ((q8.le (Nat.le_refl _) (by omega)).tr (ag_at at' (Or.inl (Nat.le_refl _))))
          · exact absurd w2 (by decide)
  · exact h.elim
end RK
