/-! THE REFERENCE: if, while, do -/
section RM
variable {RLt : T_mp_statement} {S : POT} {k : Nat → Int} {ta : Nat → Nat → Int32} {c t N d : Nat} {o : Int} {pf : Nat → Int32} {na ma wa : Nat → Nat → Int32} {pf' : Nat → Int32} {na' ma' wa' : Nat → Nat → Int32} {v xt : Int32}
theorem agN {M : Nat} (h : AgF na ma na' ma' 0 M (-1)) (hN : N < M) : na' 14 N = na 14 N ∧ na' 15 N = na 15 N ∧ na' 17 N = na 17 N ∧ na' 21 N = na 21 N ∧ ma' 18 N = ma 18 N ∧ ma' 19 N = ma 19 N ∧ ma' 20 N = ma 20 N ∧ ma' 22 N = ma 22 N := by
  obtain ⟨g1, g2, g3, g4, g5, g6, g7, g8⟩ := h N (Nat.zero_le _) hN
  have g9 := g8 (by omega)
  exact ⟨g1, g2, g3, g9.1, g4, g5, g9.2, g6⟩
theorem rs_if1 {e s1 : Ast} {lo hi m : Nat} (hl : lo < hi) (a2 : (na 14 lo).toInt = 24) (a3 : OkE k c na ma e (na 17 lo).toInt (lo + 1) m) (a4 : (ma 18 lo).toInt = (m : Int)) (a5 : RepS k c na ma d s1 m hi) (a6 : (ma 19 lo).toInt < 0) : RepS k c na ma (d + 1) (sNd 4 e (sRow1 s1)) lo hi := ⟨hl, Or.inr (Or.inr (Or.inr (Or.inr (Or.inl ⟨e, s1, m, rfl, a2, a3, a4, a5, a6⟩))))⟩
theorem rs_if2 {e s1 s2 : Ast} {lo hi m m2 : Nat} (hl : lo < hi) (a2 : (na 14 lo).toInt = 24) (a3 : OkE k c na ma e (na 17 lo).toInt (lo + 1) m) (a4 : (ma 18 lo).toInt = (m : Int)) (a5 : RepS k c na ma d s1 m m2) (a6 : (ma 19 lo).toInt = (m2 : Int)) (a7 : RepS k c na ma d s2 m2 hi) : RepS k c na ma (d + 1) (sNd 4 e (sRow2 s1 s2)) lo hi := ⟨hl, Or.inr (Or.inr (Or.inr (Or.inr (Or.inr (Or.inl ⟨e, s1, s2, m, m2, rfl, a2, a3, a4, a5, a6, a7⟩)))))⟩
theorem rs_wh {e s1 : Ast} {lo hi m : Nat} (hl : lo < hi) (a2 : (na 14 lo).toInt = 25) (a3 : OkE k c na ma e (na 17 lo).toInt (lo + 1) m) (a4 : (ma 18 lo).toInt = (m : Int)) (a5 : RepS k c na ma d s1 m hi) (a6 : (ma 19 lo).toInt < 0) : RepS k c na ma (d + 1) (sNd 5 e (sRow1 s1)) lo hi := ⟨hl, Or.inr (Or.inr (Or.inr (Or.inr (Or.inr (Or.inr (Or.inl ⟨e, s1, m, rfl, a2, a3, a4, a5, a6⟩))))))⟩
theorem rs_do {e s1 : Ast} {lo hi m : Nat} (hl : lo < hi) (a2 : (na 14 lo).toInt = 26) (a3 : (ma 18 lo).toInt = ((lo + 1 : Nat) : Int)) (a4 : RepS k c na ma d s1 (lo + 1) m) (a5 : OkE k c na ma e (na 17 lo).toInt m hi) (a6 : (ma 19 lo).toInt < 0) : RepS k c na ma (d + 1) (sNd 6 (sRow1 s1) e) lo hi := ⟨hl, Or.inr (Or.inr (Or.inr (Or.inr (Or.inr (Or.inr (Or.inr (Or.inl ⟨e, s1, m, rfl, a2, a3, a4, a5, a6⟩)))))))⟩
/-- the grammar of if, while, do -/
def gIf (S : POT) (k : Nat → Int) (t : Nat) (o : Int) : Option (Ast × Nat) := if o < 60 then gThen (pCo k (t + 1) (o + 1)) (fun e t1 => gThen (S t1 (o + 1)) (fun s t2 => if k t2 = 6 then gThen (S (t2 + 1) (o + 1)) (fun s' t3 => some (sNd 4 e (sRow2 s s'), t3)) else some (sNd 4 e (sRow1 s), t2))) else none
def gWh (S : POT) (k : Nat → Int) (t : Nat) (o : Int) : Option (Ast × Nat) := if o < 60 then gThen (pCo k (t + 1) (o + 1)) (fun e t1 => gThen (S t1 (o + 1)) (fun s t2 => some (sNd 5 e (sRow1 s), t2))) else none
def gDo (S : POT) (k : Nat → Int) (t : Nat) (o : Int) : Option (Ast × Nat) := if o < 60 then gThen (S (t + 1) (o + 1)) (fun s t1 => if k t1 = 7 then gThen (pCo k (t1 + 1) (o + 1)) (fun e t2 => if k t2 = 59 then some (sNd 6 (sRow1 s) e, t2 + 1) else none) else none) else none
theorem pS_if (h : k t = 5) : pStm S k t o = gIf S k t o := by
  unfold pStm gIf
  rw [if_neg (by omega), if_neg (by omega), if_neg (by omega), if_pos h]
  by_cases ho : o < 60
  · rw [if_pos ho, if_pos ho]
    cases pCo k (t + 1) (o + 1) with
    | none => rfl
    | some r =>
      obtain ⟨e, t1⟩ := r
      show (match S t1 (o + 1) with
        | none => none
        | some (s, t2) => if k t2 = 6 then (match S (t2 + 1) (o + 1) with
            | none => none
            | some (s', t3) => some (sNd 4 e (sRow2 s s'), t3)) else some (sNd 4 e (sRow1 s), t2)) = gThen (S t1 (o + 1)) (fun s t2 => if k t2 = 6 then gThen (S (t2 + 1) (o + 1)) (fun s' t3 => some (sNd 4 e (sRow2 s s'), t3)) else some (sNd 4 e (sRow1 s), t2))
      cases S t1 (o + 1) with
      | none => rfl
      | some r2 =>
        obtain ⟨s, t2⟩ := r2
        show (if k t2 = 6 then (match S (t2 + 1) (o + 1) with
            | none => none
            | some (s', t3) => some (sNd 4 e (sRow2 s s'), t3)) else some (sNd 4 e (sRow1 s), t2)) = (if k t2 = 6 then gThen (S (t2 + 1) (o + 1)) (fun s' t3 => some (sNd 4 e (sRow2 s s'), t3)) else some (sNd 4 e (sRow1 s), t2))
        by_cases q : k t2 = 6
        · rw [if_pos q, if_pos q]
          cases S (t2 + 1) (o + 1) with
          | none => rfl
          | some r3 => rfl
        · rw [if_neg q, if_neg q]
  · rw [if_neg ho, if_neg ho]
theorem pS_wh (h : k t = 7) : pStm S k t o = gWh S k t o := by
  unfold pStm gWh
  rw [if_neg (by omega), if_neg (by omega), if_neg (by omega), if_neg (by omega), if_pos h]
  by_cases ho : o < 60
  · rw [if_pos ho, if_pos ho]
    cases pCo k (t + 1) (o + 1) with
    | none => rfl
    | some r =>
      obtain ⟨e, t1⟩ := r
      show (match S t1 (o + 1) with
        | none => none
        | some (s, t2) => some (sNd 5 e (sRow1 s), t2)) = gThen (S t1 (o + 1)) (fun s t2 => some (sNd 5 e (sRow1 s), t2))
      cases S t1 (o + 1) with
      | none => rfl
      | some r2 => rfl
  · rw [if_neg ho, if_neg ho]
theorem pS_do (h : k t = 8) : pStm S k t o = gDo S k t o := by
  unfold pStm gDo
  rw [if_neg (by omega), if_neg (by omega), if_neg (by omega), if_neg (by omega), if_neg (by omega), if_pos h]
  by_cases ho : o < 60
  · rw [if_pos ho, if_pos ho]
    cases S (t + 1) (o + 1) with
    | none => rfl
    | some r =>
      obtain ⟨s, t1⟩ := r
      show (if k t1 = 7 then (match pCo k (t1 + 1) (o + 1) with
          | none => none
          | some (e, t2) => if k t2 = 59 then some (sNd 6 (sRow1 s) e, t2 + 1) else none) else none) = (if k t1 = 7 then gThen (pCo k (t1 + 1) (o + 1)) (fun e t2 => if k t2 = 59 then some (sNd 6 (sRow1 s) e, t2 + 1) else none) else none)
      by_cases q : k t1 = 7
      · rw [if_pos q, if_pos q]
        cases pCo k (t1 + 1) (o + 1) with
        | none => rfl
        | some r2 => rfl
      · rw [if_neg q, if_neg q]
  · rw [if_neg ho, if_neg ho]
/-- open is one less -/
theorem shut_r {z : Int32} {t1 : Nat} (hc : RCur pf c t1 (o + 1)) (h0 : 0 ≤ o) (hz : z = pf 12 - (1 : Int32)) : RCur (upd pf 12 z) c t1 o ∧ ((upd pf 12 z) 13).toInt = (pf 13).toInt := by
  obtain ⟨k1, k2⟩ := cl_cur hc h0 hz
  exact ⟨k1, by rw [k2 13 (by decide)]⟩
theorem cnd2_ok (hS : HSt RLt d ta k c S) (hT : RTk ta c) (hk : ∀ i : Nat, i < c → rkd ta i = k i) (hPl : RPl ta c) {p0 : Int32} (hp : (p0.toInt = 4 ∧ k t = 5) ∨ (p0.toInt = 6 ∧ k t = 7)) (hc : RCur pf c t o) (hW : RW pf o) (hN : (pf 13).toInt = (N : Int)) (hb : N ≤ t + 10000) (h : R_mp_conditioned RLt ta p0 pf na ma wa pf' na' ma' wa' v xt) : OkSr (fun n m => RepS k c n m (d + 1)) c t o (pStm S k t o) N pf na ma wa pf' na' ma' wa' v xt := by
  have c1 := hc.2.2.1
  have c2 := hc.2.2.2.1
  have h0 := hc.2.2.2.2.1
  obtain (⟨h1, pf6, na7, ma8, v10, h2, h⟩ | ⟨h1, pf93, na94, ma95, v97, h2, h⟩) | h := h
  · rw [pS_wh (by omega)]
    unfold gWh
    obtain ⟨m1, m2, m3, m4⟩ := make_r hN (by omega) (show (vp_nar .byte (25 : Int32).toInt8.toInt32).toInt = 25 from rfl) hc.1 h2
    have hc1 := hc.mk m3
    have hl := rlt hT hc1 (by rw [hk t c1]; omega)
    rcases h with ⟨pq1, h3, e0, e1, e2, e3, ev, ex⟩ | ⟨pf22, h3, h⟩
    · rcases (opens_r hc1 hl h3).2 with ⟨u1, u2, u3⟩ | ⟨u1, u2⟩
      · exact absurd u2 (by decide)
      · rw [if_neg u1]; exact ex
    · obtain ⟨s1, s2⟩ := opens_r hc1 hl h3
      rcases s2 with ⟨u1, u2, u3⟩ | ⟨u1, u2⟩
      · rw [if_pos u1]
        have hW1 : RW pf22 (o + 1) := (hW.mk m3).sm s1 (by omega)
        have hN1 : (pf22 13).toInt = ((N + 1 : Nat) : Int) := by rw [s1 13 (by decide) (by decide), m2]; rfl
        have wk0 : WKp pf wa pf22 wa := (mk_wk m3).tr s1.wk
        rcases h with ⟨pq1, pq2, pq3, pq4, h4, e0, e1, e2, e3, ev, ex⟩ | ⟨pf40, na41, ma42, wa43, v45, h4, na60, h5, h⟩
        · rw [(inp_ok hT hk hPl u3 hW1 hN1 (by omega) h4).no]; exact ex
        · have q := inp_ok hT hk hPl u3 hW1 hN1 (by omega) h4
          obtain ⟨g, hg⟩ := q.sm
          obtain ⟨e, t1⟩ := g
          rw [hg] at q ⊢
          show OkSr (fun n m => RepS k c n m (d + 1)) c t o (gThen (S t1 (o + 1)) (fun s t2 => some (sNd 5 e (sRow1 s), t2))) N pf na ma wa pf' na' ma' wa' v xt
          obtain ⟨M1, j, z0, z1, z2, z3, z4, z5, z6, z7⟩ := q.e
          rw [cn_of m1] at h5
          have h5' : na60 = vu na41 17 N v45 := h5
          have at' : ∀ f i : Nat, ¬ i = N → na60 f i = na41 f i ∧ ma42 f i = ma42 f i := fun f i hi => ⟨by rw [h5', vu_at hi], rfl⟩
          have hW2 := hW1.wk z7
          rcases h with ⟨pq1, pq2, pq3, pq4, h6, e0, e1, e2, e3, ev, ex⟩ | ⟨pf65, na66, ma67, wa68, v70, h6, ma85, h7, h8, z89, h9, e0, e1, e2, e3, ev, ex⟩
          · rw [(hS z4 hW2 z1 (by omega) h6).no]; exact ex
          · have p := hS z4 hW2 z1 (by omega) h6
            obtain ⟨g, hg2⟩ := p.sm
            obtain ⟨s, t2⟩ := g
            rw [hg2] at p ⊢
            show OkSr (fun n m => RepS k c n m (d + 1)) c t o (some (sNd 5 e (sRow1 s), t2)) N pf na ma wa pf' na' ma' wa' v xt
            obtain ⟨-, M2, p0', p1, p2, p3, p4, p5, p6, p7⟩ := p
            simp only [] at p1 p3 p4
            rw [cn_of m1] at h7
            have h7' : ma85 = vu ma67 18 N v70 := h7
            have at2 : ∀ f i : Nat, ¬ i = N → na66 f i = na66 f i ∧ ma85 f i = ma67 f i := fun f i hi => ⟨rfl, by rw [h7', vu_at hi]⟩
            obtain ⟨k1, k2⟩ := shut_r p3 h0 h9
            have g1 := agN z6 (show N < N + 1 by omega)
            have g2 := agN p6 (show N < M1 by omega)
            rw [e0, e1, e2, e3, ev, ex]
            refine ⟨rfl, M2, m1, by simp only []; omega, by rw [k2]; exact p2, k1, rs_wh (m := M1) (by omega) ?_ ?_ ?_ ?_ ?_, ?_, ?_, wk0.tr (z7.tr (p7.tr cl_wk))⟩
            · rw [g2.1, h5', vu_p (by omega), g1.1]; exact m4.1.1.1
            · rw [show na66 17 N = v45 by rw [g2.2.2.1, h5', vu_s]]
              exact (z2.kp ((ag_at (r := -1) at' (Or.inr (by omega))).tr ((p6.le (Nat.zero_le _) (Nat.le_refl _)).tr (ag_at at2 (Or.inr (by omega))))) (Or.inl (by omega)))
            · rw [h7', vu_s]; exact p0'
            · exact rps_kp _ _ _ _ (-1) p4 ((ag_at (r := -1) at2 (Or.inr (by omega))).s (Or.inl (by omega))) (by omega)
            · rw [h7', vu_p (by omega), g2.2.2.2.2.2.1, g1.2.2.2.2.2.1]
              rw [m4.1.2.2.2.2.2.1]; decide
            · rw [g2.2.2.2.1, h5', vu_p (by omega), g1.2.2.2.1]; exact m4.1.2.2.1
            · exact (m4.ag (Or.inl (Nat.le_refl _))).tr ((z6.le (Nat.le_refl _) (by omega)).tr ((ag_at at' (Or.inl (Nat.le_refl _))).tr ((p6.le (Nat.le_refl _) (by omega)).tr (ag_at at2 (Or.inl (Nat.le_refl _))))))
      · exact absurd u2 (by decide)
  · rw [pS_if (by omega)]
    unfold gIf
    obtain ⟨m1, m2, m3, m4⟩ := make_r hN (by omega) (show (vp_nar .byte (24 : Int32).toInt8.toInt32).toInt = 24 from rfl) hc.1 h2
    have hc1 := hc.mk m3
    have hl := rlt hT hc1 (by rw [hk t c1]; omega)
    rcases h with ⟨pq1, h3, e0, e1, e2, e3, ev, ex⟩ | ⟨pf109, h3, h⟩
    · rcases (opens_r hc1 hl h3).2 with ⟨u1, u2, u3⟩ | ⟨u1, u2⟩
      · exact absurd u2 (by decide)
      · rw [if_neg u1]; exact ex
    · obtain ⟨s1, s2⟩ := opens_r hc1 hl h3
      rcases s2 with ⟨u1, u2, u3⟩ | ⟨u1, u2⟩
      · rw [if_pos u1]
        have hW1 : RW pf109 (o + 1) := (hW.mk m3).sm s1 (by omega)
        have hN1 : (pf109 13).toInt = ((N + 1 : Nat) : Int) := by rw [s1 13 (by decide) (by decide), m2]; rfl
        have wk0 : WKp pf wa pf109 wa := (mk_wk m3).tr s1.wk
        rcases h with ⟨pq1, pq2, pq3, pq4, h4, e0, e1, e2, e3, ev, ex⟩ | ⟨pf127, na128, ma129, wa130, v132, h4, na147, h5, h⟩
        · rw [(inp_ok hT hk hPl u3 hW1 hN1 (by omega) h4).no]; exact ex
        · have q := inp_ok hT hk hPl u3 hW1 hN1 (by omega) h4
          obtain ⟨g, hg⟩ := q.sm
          obtain ⟨e, t1⟩ := g
          rw [hg] at q ⊢
          show OkSr (fun n m => RepS k c n m (d + 1)) c t o (gThen (S t1 (o + 1)) (fun s t2 => if k t2 = 6 then gThen (S (t2 + 1) (o + 1)) (fun s' t3 => some (sNd 4 e (sRow2 s s'), t3)) else some (sNd 4 e (sRow1 s), t2))) N pf na ma wa pf' na' ma' wa' v xt
          obtain ⟨M1, j, z0, z1, z2, z3, z4, z5, z6, z7⟩ := q.e
          rw [cn_of m1] at h5
          have h5' : na147 = vu na128 17 N v132 := h5
          have at' : ∀ f i : Nat, ¬ i = N → na147 f i = na128 f i ∧ ma129 f i = ma129 f i := fun f i hi => ⟨by rw [h5', vu_at hi], rfl⟩
          have hW2 := hW1.wk z7
          rcases h with ⟨pq1, pq2, pq3, pq4, h6, e0, e1, e2, e3, ev, ex⟩ | ⟨pf152, na153, ma154, wa155, v157, h6, ma172, h7, h8, pf176, v178, h9, h⟩
          · rw [(hS z4 hW2 z1 (by omega) h6).no]; exact ex
          · have p := hS z4 hW2 z1 (by omega) h6
            obtain ⟨g, hg2⟩ := p.sm
            obtain ⟨s, t2⟩ := g
            rw [hg2] at p ⊢
            show OkSr (fun n m => RepS k c n m (d + 1)) c t o (if k t2 = 6 then gThen (S (t2 + 1) (o + 1)) (fun s' t3 => some (sNd 4 e (sRow2 s s'), t3)) else some (sNd 4 e (sRow1 s), t2)) N pf na ma wa pf' na' ma' wa' v xt
            obtain ⟨-, M2, p0', p1, p2, p3, p4, p5, p6, p7⟩ := p
            simp only [] at p1 p3 p4
            rw [cn_of m1] at h7
            have h7' : ma172 = vu ma154 18 N v157 := h7
            have at2 : ∀ f i : Nat, ¬ i = N → na153 f i = na153 f i ∧ ma172 f i = ma154 f i := fun f i hi => ⟨rfl, by rw [h7', vu_at hi]⟩
            have g1 := agN z6 (show N < N + 1 by omega)
            have g2 := agN p6 (show N < M1 by omega)
            have n14 : (na153 14 N).toInt = 24 := by rw [g2.1, h5', vu_p (by omega), g1.1]; exact m4.1.1.1
            have n17 : na153 17 N = v132 := by rw [g2.2.2.1, h5', vu_s]
            have n21 : (na153 21 N).toInt = -1 := by rw [g2.2.2.2.1, h5', vu_p (by omega), g1.2.2.2.1]; exact m4.1.2.2.1
            have q18 : (ma172 18 N).toInt = (M1 : Int) := by rw [h7', vu_s]; exact p0'
            have q19 : (ma172 19 N).toInt = -1 := by rw [h7', vu_p (by omega), g2.2.2.2.2.2.1, g1.2.2.2.2.2.1]; exact m4.1.2.2.2.2.2.1
            have eE : OkE k c na153 ma172 e v132.toInt (N + 1) M1 := z2.kp ((ag_at (r := -1) at' (Or.inr (by omega))).tr ((p6.le (Nat.zero_le _) (Nat.le_refl _)).tr (ag_at at2 (Or.inr (by omega))))) (Or.inl (by omega))
            have eS : RepS k c na153 ma172 d s M1 M2 := rps_kp _ _ _ _ (-1) p4 ((ag_at (r := -1) at2 (Or.inr (by omega))).s (Or.inl (by omega))) (by omega)
            have aF : AgF na ma na153 ma172 0 N (-1) := (m4.ag (Or.inl (Nat.le_refl _))).tr ((z6.le (Nat.le_refl _) (by omega)).tr ((ag_at at' (Or.inl (Nat.le_refl _))).tr ((p6.le (Nat.le_refl _) (by omega)).tr (ag_at at2 (Or.inl (Nat.le_refl _))))))
            obtain ⟨f1, f2⟩ := takesKey_r hT p3 (by decide) h9
            rw [hk t2 p3.2.2.1, show ((5 : Int32).toInt + 1 : Int) = 6 from rfl] at f2
            rcases h with ⟨h10, z192, h11, e0, e1, e2, e3, ev, ex⟩ | ⟨h10, h⟩
            · rcases f2 with ⟨w1, w2, w3⟩ | ⟨w1, w2, w3⟩
              · exfalso; omega
              · obtain ⟨k1, k2⟩ := shut_r w3 h0 h11
                rw [if_neg w1, e0, e1, e2, e3, ev, ex]
                exact ⟨rfl, M2, m1, by simp only []; omega, by rw [k2, f1 13 (by decide) (by decide)]; exact p2, k1, rs_if1 (m := M1) (by omega) n14 (by rw [n17]; exact eE) q18 eS (by omega), n21, aF, wk0.tr (z7.tr (p7.tr (f1.wk.tr cl_wk)))⟩
            · rcases f2 with ⟨w1, w2, w3⟩ | ⟨w1, w2, w3⟩
              · rw [if_pos w1]
                have hW3 : RW pf176 (o + 1) := (hW2.wk p7).sm f1 (Int.le_refl _)
                have hN3 : (pf176 13).toInt = (M2 : Int) := by rw [f1 13 (by decide) (by decide)]; exact p2
                rcases h with ⟨pq1, pq2, pq3, pq4, h11, e0, e1, e2, e3, ev, ex⟩ | ⟨pf197, na198, ma199, wa200, v202, h11, ma217, h12, z219, h13, e0, e1, e2, e3, ev, ex⟩
                · rw [(hS w3 hW3 hN3 (by omega) h11).no]; exact ex
                · have r := hS w3 hW3 hN3 (by omega) h11
                  obtain ⟨g, hg3⟩ := r.sm
                  obtain ⟨s', t3⟩ := g
                  rw [hg3] at r ⊢
                  show OkSr (fun n m => RepS k c n m (d + 1)) c t o (some (sNd 4 e (sRow2 s s'), t3)) N pf na ma wa pf' na' ma' wa' v xt
                  obtain ⟨-, M3, r0, r1, r2, r3, r4, r5, r6, r7⟩ := r
                  simp only [] at r1 r3 r4
                  rw [cn_of m1] at h12
                  have h12' : ma217 = vu ma199 19 N v202 := h12
                  have at3 : ∀ f i : Nat, ¬ i = N → na198 f i = na198 f i ∧ ma217 f i = ma199 f i := fun f i hi => ⟨rfl, by rw [h12', vu_at hi]⟩
                  have g3 := agN r6 (show N < M2 by omega)
                  obtain ⟨k1, k2⟩ := shut_r r3 h0 h13
                  rw [e0, e1, e2, e3, ev, ex]
                  refine ⟨rfl, M3, m1, by simp only []; omega, by rw [k2]; exact r2, k1, rs_if2 (m := M1) (m2 := M2) (by omega) (by rw [g3.1]; exact n14) ?_ ?_ ?_ ?_ ?_, by rw [g3.2.2.2.1]; exact n21, aF.tr ((r6.le (Nat.le_refl _) (by omega)).tr (ag_at at3 (Or.inl (Nat.le_refl _)))), wk0.tr (z7.tr (p7.tr (f1.wk.tr (r7.tr cl_wk))))⟩
                  · rw [g3.2.2.1, n17]
                    exact eE.kp ((r6.le (Nat.zero_le _) (by omega)).tr (ag_at at3 (Or.inr (by omega)))) (Or.inl (by omega))
                  · rw [h12', vu_p (by omega), g3.2.2.2.2.1]; exact q18
                  · exact rps_kp _ _ _ _ (-1) eS (((r6.le (Nat.zero_le _) (Nat.le_refl _)).tr (ag_at at3 (Or.inr (by omega)))).s (Or.inl (by omega))) (by omega)
                  · rw [h12', vu_s]; exact r0
                  · exact rps_kp _ _ _ _ (-1) r4 ((ag_at (r := -1) at3 (Or.inr (by omega))).s (Or.inl (by omega))) (by omega)
              · exfalso; omega
      · exact absurd u2 (by decide)
  · exact h.elim
theorem doi_ok (hS : HSt RLt d ta k c S) (hT : RTk ta c) (hk : ∀ i : Nat, i < c → rkd ta i = k i) (hPl : RPl ta c) (ht : k t = 8) (hc : RCur pf c t o) (hW : RW pf o) (hN : (pf 13).toInt = (N : Int)) (hb : N ≤ t + 10000) (h : R_mp_doing RLt ta pf na ma wa pf' na' ma' wa' v xt) : OkSr (fun n m => RepS k c n m (d + 1)) c t o (pStm S k t o) N pf na ma wa pf' na' ma' wa' v xt := by
  have c1 := hc.2.2.1
  have c2 := hc.2.2.2.1
  have h0 := hc.2.2.2.2.1
  rw [pS_do ht]
  unfold gDo
  obtain ⟨pf4, na5, ma6, v8, h1, h⟩ | h := h
  · obtain ⟨m1, m2, m3, m4⟩ := make_r hN (by omega) (show (vp_nar .byte (26 : Int32).toInt8.toInt32).toInt = 26 from rfl) hc.1 h1
    have hc1 := hc.mk m3
    have hl := rlt hT hc1 (by rw [hk t c1]; omega)
    rcases h with ⟨pq1, h3, e0, e1, e2, e3, ev, ex⟩ | ⟨pf20, h3, h⟩
    · rcases (opens_r hc1 hl h3).2 with ⟨u1, u2, u3⟩ | ⟨u1, u2⟩
      · exact absurd u2 (by decide)
      · rw [if_neg u1]; exact ex
    · obtain ⟨s1, s2⟩ := opens_r hc1 hl h3
      rcases s2 with ⟨u1, u2, u3⟩ | ⟨u1, u2⟩
      · rw [if_pos u1]
        have hW1 : RW pf20 (o + 1) := (hW.mk m3).sm s1 (by omega)
        have hN1 : (pf20 13).toInt = ((N + 1 : Nat) : Int) := by rw [s1 13 (by decide) (by decide), m2]; rfl
        have wk0 : WKp pf wa pf20 wa := (mk_wk m3).tr s1.wk
        rcases h with ⟨pq1, pq2, pq3, pq4, h4, e0, e1, e2, e3, ev, ex⟩ | ⟨pf38, na39, ma40, wa41, v43, h4, ma58, h5, pf60, v62, h6, h⟩
        · rw [(hS u3 hW1 hN1 (by omega) h4).no]; exact ex
        · have p := hS u3 hW1 hN1 (by omega) h4
          obtain ⟨g, hg⟩ := p.sm
          obtain ⟨s, t1⟩ := g
          rw [hg] at p ⊢
          show OkSr (fun n m => RepS k c n m (d + 1)) c t o (if k t1 = 7 then gThen (pCo k (t1 + 1) (o + 1)) (fun e t2 => if k t2 = 59 then some (sNd 6 (sRow1 s) e, t2 + 1) else none) else none) N pf na ma wa pf' na' ma' wa' v xt
          obtain ⟨-, M1, p0', p1, p2, p3, p4, p5, p6, p7⟩ := p
          simp only [] at p1 p3 p4
          rw [cn_of m1] at h5
          have h5' : ma58 = vu ma40 18 N v43 := h5
          have at' : ∀ f i : Nat, ¬ i = N → na39 f i = na39 f i ∧ ma58 f i = ma40 f i := fun f i hi => ⟨rfl, by rw [h5', vu_at hi]⟩
          obtain ⟨f1, f2⟩ := takesKey_r hT p3 (by decide) h6
          rw [hk t1 p3.2.2.1, show ((6 : Int32).toInt + 1 : Int) = 7 from rfl] at f2
          have g1 := agN p6 (show N < N + 1 by omega)
          rcases h with ⟨h7, e0, e1, e2, e3, ev, ex⟩ | ⟨h7, h⟩
          · rcases f2 with ⟨w1, w2, w3⟩ | ⟨w1, w2, w3⟩
            · exfalso; omega
            · rw [if_neg w1]; exact ex
          · rcases f2 with ⟨w1, w2, w3⟩ | ⟨w1, w2, w3⟩
            · rw [if_pos w1]
              have hW2 : RW pf60 (o + 1) := (hW1.wk p7).sm f1 (Int.le_refl _)
              have hN2 : (pf60 13).toInt = (M1 : Int) := by rw [f1 13 (by decide) (by decide)]; exact p2
              rcases h with ⟨pq1, pq2, pq3, pq4, h8, e0, e1, e2, e3, ev, ex⟩ | ⟨pf79, na80, ma81, wa82, v84, h8, na99, h9, h⟩
              · rw [(inp_ok hT hk hPl w3 hW2 hN2 (by omega) h8).no]; exact ex
              · have q := inp_ok hT hk hPl w3 hW2 hN2 (by omega) h8
                obtain ⟨g, hg2⟩ := q.sm
                obtain ⟨e, t2⟩ := g
                rw [hg2] at q ⊢
                show OkSr (fun n m => RepS k c n m (d + 1)) c t o (if k t2 = 59 then some (sNd 6 (sRow1 s) e, t2 + 1) else none) N pf na ma wa pf' na' ma' wa' v xt
                obtain ⟨M2, j, z0, z1, z2, z3, z4, z5, z6, z7⟩ := q.e
                rw [cn_of m1] at h9
                have h9' : na99 = vu na80 17 N v84 := h9
                have at2 : ∀ f i : Nat, ¬ i = N → na99 f i = na80 f i ∧ ma81 f i = ma81 f i := fun f i hi => ⟨by rw [h9', vu_at hi], rfl⟩
                have g2 := agN z6 (show N < M1 by omega)
                have tk := fun {p : Nat → Int32} {z : Int32} (y : R_mp_take 1 (lby ";") ta pf79 p z) => take_r hT z4 (by decide) mq_59 (by decide) y
                rw [hk t2 z4.2.2.1] at tk
                rcases h with ⟨pq1, h10, e0, e1, e2, e3, ev, ex⟩ | ⟨pf104, h10, z117, h11, e0, e1, e2, e3, ev, ex⟩
                · rcases (tk h10).2 with ⟨y1, y2, y3⟩ | ⟨y1, y2⟩
                  · exact absurd y2 (by decide)
                  · rw [if_neg y1]; exact ex
                · obtain ⟨r1, r2⟩ := tk h10
                  rcases r2 with ⟨y1, y2, y3⟩ | ⟨y1, y2⟩
                  · obtain ⟨k1, k2⟩ := shut_r y3 h0 h11
                    rw [if_pos y1, e0, e1, e2, e3, ev, ex]
                    refine ⟨rfl, M2, m1, by simp only []; omega, by rw [k2, r1 13 (by decide) (by decide)]; exact z1, k1, rs_do (m := M1) (by omega) ?_ ?_ ?_ ?_ ?_, ?_, ?_, wk0.tr (p7.tr (f1.wk.tr (z7.tr (r1.wk.tr cl_wk))))⟩
                    · rw [h9', vu_p (by omega), g2.1, g1.1]; exact m4.1.1.1
                    · rw [g2.2.2.2.2.1, h5', vu_s]; exact p0'
                    · exact rps_kp _ _ _ _ (-1) p4 (((ag_at (r := -1) at' (Or.inr (by omega))).tr ((z6.le (Nat.zero_le _) (Nat.le_refl _)).tr (ag_at at2 (Or.inr (by omega))))).s (Or.inl (by omega))) (by omega)
                    · rw [show na99 17 N = v84 by rw [h9', vu_s]]
                      exact z2.kp (ag_at (r := -1) at2 (Or.inr (by omega))) (Or.inl (by omega))
                    · rw [g2.2.2.2.2.2.1, h5', vu_p (by omega), g1.2.2.2.2.2.1, m4.1.2.2.2.2.2.1]; decide
                    · rw [h9', vu_p (by omega), g2.2.2.2.1, g1.2.2.2.1]; exact m4.1.2.2.1
                    · exact (m4.ag (Or.inl (Nat.le_refl _))).tr ((p6.le (Nat.le_refl _) (by omega)).tr ((ag_at at' (Or.inl (Nat.le_refl _))).tr ((z6.le (Nat.le_refl _) (by omega)).tr (ag_at at2 (Or.inl (Nat.le_refl _))))))
                  · exact absurd y2 (by decide)
            · exfalso; omega
      · exact absurd u2 (by decide)
  · exact h.elim
end RM
