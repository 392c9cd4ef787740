/-! THE REFERENCE: for -/
section RN
variable {RLt : T_mp_statement} {S : POT} {k : Nat → Int} {ta : Nat → Nat → Int32} {c t N d : Nat} {o : Int} {pf : Nat → Int32} {na ma wa : Nat → Nat → Int32} {pf' : Nat → Int32} {na' ma' wa' : Nat → Nat → Int32} {v xt : Int32}
theorem rs_fo {a b e s1 : Ast} {lo hi m1 m2 m3 : Nat} (hl : lo < hi) (a2 : (na 14 lo).toInt = 27) (a3 : OkF k c na ma a (na 17 lo).toInt (lo + 1) m1) (a4 : OkO k c na ma 8 b (ma 18 lo).toInt m1 m2) (a5 : OkO k c na ma 2 e (ma 19 lo).toInt m2 m3) (a6 : (ma 20 lo).toInt = (m3 : Int)) (a7 : RepS k c na ma d s1 m3 hi) : RepS k c na ma (d + 1) (sNd 7 (.add a (.add b (.add e .null))) (sRow1 s1)) lo hi := ⟨hl, Or.inr (Or.inr (Or.inr (Or.inr (Or.inr (Or.inr (Or.inr (Or.inr (Or.inl ⟨a, b, e, s1, m1, m2, m3, rfl, a2, a3, a4, a5, a6, a7⟩))))))))⟩
theorem gThen_if {p : Prop} [Decidable p] {x : Ast} {t : Nat} {F : Ast → Nat → Option (Ast × Nat)} : gThen (if p then some (x, t) else none) F = if p then F x t else none := by
  by_cases h : p
  · rw [if_pos h, if_pos h]; rfl
  · rw [if_neg h, if_neg h]; rfl
theorem pOp_n {g : Nat} {w : Int} (h : k t = w) : pOp k g w t o = some (.null, t) := by unfold pOp; rw [if_pos h]
theorem pOp_e {g : Nat} {w : Int} (h : ¬ k t = w) : pOp k g w t o = gThen (pE k (-1) t o) (fun e t1 => if k t1 = w then some (sRow1 (sNd g e .null), t1) else none) := by
  unfold pOp
  rw [if_neg h]
  cases pE k (-1) t o with
  | none => rfl
  | some r => rfl
def gFo4 (S : POT) (o : Int) (a b e : Ast) (t3 : Nat) : Option (Ast × Nat) := gThen (S (t3 + 1) (o + 1)) (fun s t4 => some (sNd 7 (.add a (.add b (.add e .null))) (sRow1 s), t4))
def gFo3 (S : POT) (k : Nat → Int) (o : Int) (a b : Ast) (t2 : Nat) : Option (Ast × Nat) := gThen (pOp k 2 41 (t2 + 1) (o + 2)) (fun e t3 => gFo4 S o a b e t3)
def gFo2 (S : POT) (k : Nat → Int) (o : Int) (a : Ast) (t1 : Nat) : Option (Ast × Nat) := gThen (pOp k 8 59 t1 (o + 2)) (fun b t2 => gFo3 S k o a b t2)
def gFor (S : POT) (k : Nat → Int) (t : Nat) (o : Int) : Option (Ast × Nat) := if k (t + 1) = 40 ∧ o < 59 then gThen (pF1 k (t + 2) (o + 2)) (fun a t1 => gFo2 S k o a t1) else none
theorem pS_for (h : k t = 9) : pStm S k t o = gFor S k t o := by
  unfold pStm gFor
  rw [if_neg (by omega), if_neg (by omega), if_neg (by omega), if_neg (by omega), if_neg (by omega), if_neg (by omega), if_pos h]
  by_cases ho : k (t + 1) = 40 ∧ o < 59
  · rw [if_pos ho, if_pos ho]
    cases pF1 k (t + 2) (o + 2) with
    | none => rfl
    | some r =>
      obtain ⟨a, t1⟩ := r
      show _ = gThen (pOp k 8 59 t1 (o + 2)) (fun b t2 => gFo3 S k o a b t2)
      dsimp only
      cases pOp k 8 59 t1 (o + 2) with
      | none => rfl
      | some r2 =>
        obtain ⟨b, t2⟩ := r2
        show _ = gThen (pOp k 2 41 (t2 + 1) (o + 2)) (fun e t3 => gFo4 S o a b e t3)
        dsimp only
        cases pOp k 2 41 (t2 + 1) (o + 2) with
        | none => rfl
        | some r3 =>
          obtain ⟨e, t3⟩ := r3
          show _ = gThen (S (t3 + 1) (o + 1)) (fun s t4 => some (sNd 7 (.add a (.add b (.add e .null))) (sRow1 s), t4))
          dsimp only
          cases S (t3 + 1) (o + 1) with
          | none => rfl
          | some r4 => rfl
  · rw [if_neg ho, if_neg ho]
/-- within for's brackets: node N is for, M nodes are made, the cursor is at t1 -/
def FoB (c t N M t1 : Nat) (o : Int) (pS : Nat → Int32) (nS mS wS : Nat → Nat → Int32) (pf : Nat → Int32) (na ma wa : Nat → Nat → Int32) : Prop := (na 14 N).toInt = 27 ∧ (na 21 N).toInt = -1 ∧ AgF nS mS na ma 0 N (-1) ∧ WKp pS wS pf wa ∧ RCur pf c t1 (o + 2) ∧ RW pf o ∧ (pf 13).toInt = (M : Int) ∧ M + t ≤ N + t1 ∧ N < M ∧ t < t1
variable {pS : Nat → Int32} {nS mS wS : Nat → Nat → Int32}
theorem for_128 (hS : HSt RLt d ta k c S) (hT : RTk ta c) (hk : ∀ i : Nat, i < c → rkd ta i = k i) (h0 : 0 ≤ o) (hb : N ≤ t + 10000) {a b e : Ast} {M t3 m1 m2 n : Nat} {x1 : Int32} (B : FoB c t N M t3 o pS nS mS wS pf na ma wa) (a1 : OkF k c na ma a (na 17 N).toInt (N + 1) m1) (a2 : OkO k c na ma 8 b (ma 18 N).toInt m1 m2) (a3 : OkO k c na ma 2 e (ma 19 N).toInt m2 M) (hx : x1.toInt = (N : Int)) (h : E_mp_forLoop RLt ta pf' na' ma' wa' v xt n 128 [x1] [] [] [] [] pf na ma wa) : OkSr (fun n m => RepS k c n m (d + 1)) c t o (if k t3 = 41 then gFo4 S o a b e t3 else none) N pS nS mS wS pf' na' ma' wa' v xt := by
  obtain ⟨B1, B2, B3, B4, B5, B6, B7, B8, B9, B10⟩ := B
  obtain ⟨n, h⟩ := iv_mp_forLoop_128 h
  have c1 := B5.2.2.1
  have c2 := B5.2.2.2.1
  have eo : o + 2 - 1 = o + 1 := by omega
  have cl := fun {p : Nat → Int32} {z : Int32} (y : R_mp_closes 1 (lby ")") ta pf p z) => closes_r hT B5 (by omega) (by decide) mq_41 (by decide) y
  rw [hk t3 c1, eo] at cl
  rcases h with ⟨pq1, h1, e0, e1, e2, e3, ev, ex⟩ | ⟨pf5, h1, h⟩
  · rcases (cl h1).2 with ⟨w1, w2, w3⟩ | ⟨w1, w2⟩
    · exact absurd w2 (by decide)
    · rw [if_neg w1]; exact ex
  · obtain ⟨r1, r2⟩ := cl h1
    rcases r2 with ⟨w1, w2, w3⟩ | ⟨w1, w2⟩
    · rw [if_pos w1]
      unfold gFo4
      have hW1 : RW pf5 (o + 1) := B6.sm r1 (by omega)
      have hN1 : (pf5 13).toInt = (M : Int) := by rw [r1 13 (by decide) (by decide)]; exact B7
      rcases h with ⟨pq1, pq2, pq3, pq4, h2, e0, e1, e2, e3, ev, ex⟩ | ⟨pf21, na22, ma23, wa24, v26, h2, ma41, h3, z43, h4, e0, e1, e2, e3, ev, ex⟩
      · rw [(hS w3 hW1 hN1 (by omega) h2).no]; exact ex
      · have p := hS w3 hW1 hN1 (by omega) h2
        obtain ⟨g, hg⟩ := p.sm
        obtain ⟨s, t4⟩ := g
        rw [hg] at p ⊢
        show OkSr (fun n m => RepS k c n m (d + 1)) c t o (some (sNd 7 (.add a (.add b (.add e .null))) (sRow1 s), t4)) N pS nS mS wS pf' na' ma' wa' v xt
        obtain ⟨-, M2, p0', p1, p2, p3, p4, p5, p6, p7⟩ := p
        simp only [] at p1 p3 p4
        rw [cn_of hx] at h3
        have h3' : ma41 = vu ma23 20 N v26 := h3
        have at' : ∀ f i : Nat, ¬ i = N → na22 f i = na22 f i ∧ ma41 f i = ma23 f i := fun f i hi => ⟨rfl, by rw [h3', vu_at hi]⟩
        obtain ⟨k1, k2⟩ := shut_r p3 h0 h4
        have g2 := agN p6 B9
        have l1 := okf_le a1
        have l2 := oko_le a2
        have l3 := oko_le a3
        have ag : ∀ {m m' : Nat}, N < m → m' ≤ M → AgF na ma na22 ma41 m m' (-1) := fun i1 i2 => (p6.le (Nat.zero_le _) i2).tr (ag_at at' (Or.inr i1))
        rw [e0, e1, e2, e3, ev, ex]
        refine ⟨rfl, M2, hx, by simp only []; omega, by rw [k2]; exact p2, k1, rs_fo (m1 := m1) (m2 := m2) (m3 := M) (by omega) (by rw [g2.1]; exact B1) ?_ ?_ ?_ ?_ ?_, by rw [g2.2.2.2.1]; exact B2, B3.tr ((p6.le (Nat.le_refl _) (by omega)).tr (ag_at at' (Or.inl (Nat.le_refl _)))), B4.tr (r1.wk.tr (p7.tr cl_wk))⟩
        · rw [g2.2.2.1]; exact okf_kp a1 (ag (by omega) (by omega)) (by omega)
        · rw [show ma41 18 N = ma 18 N by rw [h3', vu_p (by omega), g2.2.2.2.2.1]]; exact oko_kp a2 (ag (by omega) (by omega)) (by omega)
        · rw [show ma41 19 N = ma 19 N by rw [h3', vu_p (by omega), g2.2.2.2.2.2.1]]; exact oko_kp a3 (ag (by omega) (by omega)) (by omega)
        · rw [h3', vu_s]; exact p0'
        · exact rps_kp _ _ _ _ (-1) p4 ((ag_at (r := -1) at' (Or.inr (by omega))).s (Or.inl (by omega))) (by omega)
    · exact absurd w2 (by decide)
theorem for_103 (hS : HSt RLt d ta k c S) (hT : RTk ta c) (hk : ∀ i : Nat, i < c → rkd ta i = k i) (hPl : RPl ta c) (h0 : 0 ≤ o) (hb : N ≤ t + 10000) {a b : Ast} {M t2 m1 n : Nat} {x1 : Int32} (B : FoB c t N M t2 o pS nS mS wS pf na ma wa) (a1 : OkF k c na ma a (na 17 N).toInt (N + 1) m1) (a2 : OkO k c na ma 8 b (ma 18 N).toInt m1 M) (a3 : (ma 19 N).toInt = -1) (hx : x1.toInt = (N : Int)) (h : E_mp_forLoop RLt ta pf' na' ma' wa' v xt n 103 [x1] [] [] [] [] pf na ma wa) : OkSr (fun n m => RepS k c n m (d + 1)) c t o (if k t2 = 59 then gFo3 S k o a b t2 else none) N pS nS mS wS pf' na' ma' wa' v xt := by
  obtain ⟨B1, B2, B3, B4, B5, B6, B7, B8, B9, B10⟩ := B
  obtain ⟨n, h⟩ := iv_mp_forLoop_103 h
  have c1 := B5.2.2.1
  have c2 := B5.2.2.2.1
  have tk := fun {p : Nat → Int32} {z : Int32} (y : R_mp_take 1 (lby ";") ta pf p z) => take_r hT B5 (by decide) mq_59 (by decide) y
  rw [hk t2 c1] at tk
  rcases h with ⟨pq1, h1, e0, e1, e2, e3, ev, ex⟩ | ⟨pf48, h1, v64, h2, h⟩
  · rcases (tk h1).2 with ⟨w1, w2, w3⟩ | ⟨w1, w2⟩
    · exact absurd w2 (by decide)
    · rw [if_neg w1]; exact ex
  · obtain ⟨r1, r2⟩ := tk h1
    rcases r2 with ⟨w1, w2, w3⟩ | ⟨w1, w2⟩
    · rw [if_pos w1]
      unfold gFo3
      have d1 := w3.2.2.1
      have hW1 : RW pf48 (o + 2) := B6.sm r1 (by omega)
      have hW0 : RW pf48 o := B6.sm r1 (Int.le_refl _)
      have hN1 : (pf48 13).toInt = (M : Int) := by rw [r1 13 (by decide) (by decide)]; exact B7
      have u := is_r hT w3 (by decide) mq_41 (by decide) h2
      rw [hk (t2 + 1) d1] at u
      rcases h with ⟨h3, hE⟩ | ⟨h3, h⟩
      · have y : k (t2 + 1) = 41 := u.2.mp (by omega)
        rw [pOp_n y]
        have q := for_128 hS hT hk h0 hb (t3 := t2 + 1) ⟨B1, B2, B3, B4.tr r1.wk, w3, hW0, hN1, by omega, B9, by omega⟩ a1 a2 (e := .null) (M := M) (m2 := M) (Or.inl ⟨rfl, by omega, Nat.le_refl _⟩) hx hE
        rw [if_pos y] at q
        exact q
      · have y : ¬ k (t2 + 1) = 41 := fun y => by have := u.2.mpr y; omega
        rw [pOp_e y]
        show OkSr (fun n m => RepS k c n m (d + 1)) c t o (gThen (gThen ((pBoth k 62).1 (-1) (t2 + 1) (o + 2)) (fun e t1 => if k t1 = 41 then some (sRow1 (sNd 2 e .null), t1) else none)) (fun e t3 => gFo4 S o a b e t3)) N pS nS mS wS pf' na' ma' wa' v xt
        rcases h with ⟨pq1, pq2, pq3, pq4, h4, e0, e1, e2, e3, ev, ex⟩ | ⟨pf74, na75, ma76, wa77, v79, h4, ma94, h5, hE⟩
        · rw [(rx_e hT hk hPl w3 hW1 hN1 (by omega) h4).no]; exact ex
        · have q := rx_e hT hk hPl w3 hW1 hN1 (by omega) h4
          obtain ⟨g, hg⟩ := q.sm
          obtain ⟨e, t3⟩ := g
          rw [hg] at q ⊢
          show OkSr (fun n m => RepS k c n m (d + 1)) c t o (gThen (if k t3 = 41 then some (sRow1 (sNd 2 e .null), t3) else none) (fun e t3 => gFo4 S o a b e t3)) N pS nS mS wS pf' na' ma' wa' v xt
          rw [gThen_if]
          obtain ⟨M2, j, z0, z1, z2, z3, z4, z5, z6, z7⟩ := q.e
          rw [cn_of hx] at h5
          have h5' : ma94 = vu ma76 19 N v79 := h5
          have at' : ∀ f i : Nat, ¬ i = N → na75 f i = na75 f i ∧ ma94 f i = ma76 f i := fun f i hi => ⟨rfl, by rw [h5', vu_at hi]⟩
          have g2 := agN z6 B9
          have l1 := okf_le a1
          have l2 := oko_le a2
          have ag : ∀ {m m' : Nat}, N < m → m' ≤ M → AgF na ma na75 ma94 m m' (-1) := fun i1 i2 => (z6.le (Nat.zero_le _) i2).tr (ag_at at' (Or.inr i1))
          refine for_128 hS hT hk h0 hb (M := M2) (m1 := m1) (m2 := M) ⟨by rw [g2.1]; exact B1, by rw [g2.2.2.2.1]; exact B2, B3.tr ((z6.le (Nat.le_refl _) (by omega)).tr (ag_at at' (Or.inl (Nat.le_refl _)))), B4.tr (r1.wk.tr z7), z4, hW0.wk z7, z1, by omega, by omega, by omega⟩ ?_ ?_ ?_ hx hE
          · rw [g2.2.2.1]; exact okf_kp a1 (ag (by omega) (by omega)) (by omega)
          · rw [show ma94 18 N = ma 18 N by rw [h5', vu_p (by omega), g2.2.2.2.2.1]]; exact oko_kp a2 (ag (by omega) (by omega)) (by omega)
          · rw [show ma94 19 N = v79 by rw [h5', vu_s]]
            exact Or.inr ⟨e, rfl, z2.kp (ag_at (r := -1) at' (Or.inr (by omega))) (Or.inl (by omega))⟩
    · exact absurd w2 (by decide)
theorem for_84 (hS : HSt RLt d ta k c S) (hT : RTk ta c) (hk : ∀ i : Nat, i < c → rkd ta i = k i) (hPl : RPl ta c) (h0 : 0 ≤ o) (hb : N ≤ t + 10000) {a : Ast} {M t1 n : Nat} {x1 : Int32} (B : FoB c t N M t1 o pS nS mS wS pf na ma wa) (a1 : OkF k c na ma a (na 17 N).toInt (N + 1) M) (a2 : (ma 18 N).toInt = -1) (a3 : (ma 19 N).toInt = -1) (hx : x1.toInt = (N : Int)) (h : E_mp_forLoop RLt ta pf' na' ma' wa' v xt n 84 [x1] [] [] [] [] pf na ma wa) : OkSr (fun n m => RepS k c n m (d + 1)) c t o (gFo2 S k o a t1) N pS nS mS wS pf' na' ma' wa' v xt := by
  obtain ⟨B1, B2, B3, B4, B5, B6, B7, B8, B9, B10⟩ := B
  obtain ⟨n, v99, h2, h⟩ := iv_mp_forLoop_84 h
  have c1 := B5.2.2.1
  have c2 := B5.2.2.2.1
  have u := is_r hT B5 (by decide) mq_59 (by decide) h2
  rw [hk t1 c1] at u
  unfold gFo2
  rcases h with ⟨h3, hE⟩ | ⟨h3, h⟩
  · have y : k t1 = 59 := u.2.mp (by omega)
    rw [pOp_n y]
    have q := for_103 hS hT hk hPl h0 hb ⟨B1, B2, B3, B4, B5, B6, B7, B8, B9, B10⟩ a1 (b := .null) (Or.inl ⟨rfl, by omega, Nat.le_refl _⟩) a3 hx hE
    rw [if_pos y] at q
    exact q
  · have y : ¬ k t1 = 59 := fun y => by have := u.2.mpr y; omega
    rw [pOp_e y]
    show OkSr (fun n m => RepS k c n m (d + 1)) c t o (gThen (gThen ((pBoth k 62).1 (-1) t1 (o + 2)) (fun e t1 => if k t1 = 59 then some (sRow1 (sNd 8 e .null), t1) else none)) (fun b t2 => gFo3 S k o a b t2)) N pS nS mS wS pf' na' ma' wa' v xt
    rcases h with ⟨pq1, pq2, pq3, pq4, h4, e0, e1, e2, e3, ev, ex⟩ | ⟨pf109, na110, ma111, wa112, v114, h4, ma129, h5, hE⟩
    · rw [(rx_e hT hk hPl B5 (B6.sm RSm.rf (by omega)) B7 (by omega) h4).no]; exact ex
    · have q := rx_e hT hk hPl B5 (B6.sm RSm.rf (by omega)) B7 (by omega) h4
      obtain ⟨g, hg⟩ := q.sm
      obtain ⟨e, t2⟩ := g
      rw [hg] at q ⊢
      show OkSr (fun n m => RepS k c n m (d + 1)) c t o (gThen (if k t2 = 59 then some (sRow1 (sNd 8 e .null), t2) else none) (fun b t2 => gFo3 S k o a b t2)) N pS nS mS wS pf' na' ma' wa' v xt
      rw [gThen_if]
      obtain ⟨M2, j, z0, z1, z2, z3, z4, z5, z6, z7⟩ := q.e
      rw [cn_of hx] at h5
      have h5' : ma129 = vu ma111 18 N v114 := h5
      have at' : ∀ f i : Nat, ¬ i = N → na110 f i = na110 f i ∧ ma129 f i = ma111 f i := fun f i hi => ⟨rfl, by rw [h5', vu_at hi]⟩
      have g2 := agN z6 B9
      have l1 := okf_le a1
      refine for_103 hS hT hk hPl h0 hb (M := M2) (m1 := M) ⟨by rw [g2.1]; exact B1, by rw [g2.2.2.2.1]; exact B2, B3.tr ((z6.le (Nat.le_refl _) (by omega)).tr (ag_at at' (Or.inl (Nat.le_refl _)))), B4.tr z7, z4, B6.wk z7, z1, by omega, by omega, by omega⟩ ?_ ?_ ?_ hx hE
      · rw [g2.2.2.1]; exact okf_kp a1 ((z6.le (Nat.zero_le _) (Nat.le_refl _)).tr (ag_at at' (Or.inr (by omega)))) (by omega)
      · rw [show ma129 18 N = v114 by rw [h5', vu_s]]
        exact Or.inr ⟨e, rfl, z2.kp (ag_at (r := -1) at' (Or.inr (by omega))) (Or.inl (by omega))⟩
      · rw [h5', vu_p (by omega), g2.2.2.2.2.2.1]; exact a3
theorem pF1_d (h : k t = 1 ∨ k t = 2) : pF1 k t o = gMap sRow1 (gDec k t o) := by
  unfold pF1 gDec
  rw [if_pos h]
  cases pVars k o 2048 (t + 1) with
  | none => rfl
  | some r =>
    obtain ⟨vs, t1⟩ := r
    show (if k t1 = 59 then some (sRow1 (sNd 3 (.arg (k t).toNat) vs), t1 + 1) else none) = gMap sRow1 (if k t1 = 59 then some (sNd 3 (.arg (k t).toNat) vs, t1 + 1) else none)
    by_cases q : k t1 = 59
    · rw [if_pos q, if_pos q]; rfl
    · rw [if_neg q, if_neg q]; rfl
theorem pF1_n (h : ¬ (k t = 1 ∨ k t = 2)) (h1 : k t = 59) : pF1 k t o = some (.null, t + 1) := by
  unfold pF1
  rw [if_neg h, if_pos h1]
theorem pF1_e (h : ¬ (k t = 1 ∨ k t = 2)) (h1 : ¬ k t = 59) : pF1 k t o = gThen (pE k (-1) t o) (fun e t1 => if k t1 = 59 then some (sRow1 (sNd 2 e .null), t1 + 1) else none) := by
  unfold pF1
  rw [if_neg h, if_neg h1]
  cases pE k (-1) t o with
  | none => rfl
  | some r => rfl
theorem for_okr (hS : HSt RLt d ta k c S) (hT : RTk ta c) (hk : ∀ i : Nat, i < c → rkd ta i = k i) (hPl : RPl ta c) (ht : k t = 9) (hc : RCur pf c t o) (hW : RW pf o) (hN : (pf 13).toInt = (N : Int)) (hb : N ≤ t + 10000) (h : R_mp_forLoop RLt ta pf na ma wa pf' na' ma' wa' v xt) : OkSr (fun n m => RepS k c n m (d + 1)) c t o (pStm S k t o) N pf na ma wa pf' na' ma' wa' v xt := by
  have c1 := hc.2.2.1
  have c2 := hc.2.2.2.1
  have h0 := hc.2.2.2.2.1
  rw [pS_for ht]
  unfold gFor
  obtain ⟨n, h⟩ := h
  obtain ⟨n, pf133, na134, ma135, v137, h1, h⟩ := iv_mp_forLoop_0 h
  obtain ⟨m1, m2, m3, m4⟩ := make_r hN (by omega) (show (vp_nar .byte (27 : Int32).toInt8.toInt32).toInt = 27 from rfl) hc.1 h1
  have hc1 := hc.mk m3
  have hl := rlt hT hc1 (by rw [hk t c1]; omega)
  rcases h with ⟨pq1, h3, e0, e1, e2, e3, ev, ex⟩ | ⟨pf149, h3, h⟩
  · rcases (opens_r hc1 hl h3).2 with ⟨u1, u2, u3⟩ | ⟨u1, u2⟩
    · exact absurd u2 (by decide)
    · rw [if_neg (fun q => u1 (by have := q.2; omega))]; exact ex
  · obtain ⟨s1, s2⟩ := opens_r hc1 hl h3
    rcases s2 with ⟨u1, u2, u3⟩ | ⟨u1, u2⟩
    · have om := fun {p : Nat → Int32} {z : Int32} (y : R_mp_opensMark 1 (lby "(") ta pf149 p z) => opensMark_r hT u3 (by decide) mq_40 (by decide) y
      rw [hk (t + 1) u3.2.2.1] at om
      rcases h with ⟨pq1, h4, e0, e1, e2, e3, ev, ex⟩ | ⟨pf167, h4, v182, h5, h⟩
      · rcases (om h4).2 with ⟨y1, y2, y3⟩ | ⟨y1, y2⟩
        · exact absurd y2 (by decide)
        · rw [if_neg (fun q => y1 ⟨q.1, by have := q.2; omega⟩)]; exact ex
      · obtain ⟨s3, s4⟩ := om h4
        rcases s4 with ⟨y1, y2, y3⟩ | ⟨y1, y2⟩
        · rw [if_pos ⟨y1.1, by have := y1.2; omega⟩]
          have eo : o + 1 + 1 = o + 2 := by omega
          have y3' : RCur pf167 c (t + 2) (o + 2) := by rw [eo] at y3; exact y3
          have d1 := y3'.2.2.1
          have hW0 : RW pf167 o := ((hW.mk m3).sm s1 (Int.le_refl _)).sm s3 (Int.le_refl _)
          have hW1 : RW pf167 (o + 2) := hW0.sm RSm.rf (by omega)
          have hN1 : (pf167 13).toInt = ((N + 1 : Nat) : Int) := by rw [s3 13 (by decide) (by decide), s1 13 (by decide) (by decide), m2]; rfl
          have wk0 : WKp pf wa pf167 wa := (mk_wk m3).tr (s1.wk.tr s3.wk)
          have a0 : AgF na ma na134 ma135 0 N (-1) := m4.ag (Or.inl (Nat.le_refl _))
          have ty := isType_r hT y3' h5
          rw [hk (t + 2) d1] at ty
          have q18 : (ma135 18 N).toInt = -1 := m4.1.2.2.2.2.1
          have q19 : (ma135 19 N).toInt = -1 := m4.1.2.2.2.2.2.1
          rcases h with ⟨h6, pf192, v194, h7, h⟩ | ⟨h6, h⟩
          · have nty : ¬ (k (t + 2) = 1 ∨ k (t + 2) = 2) := fun y => by have := ty.2.mpr y; omega
            obtain ⟨r1, r2⟩ := takes_r hT y3' (by decide) mq_59 (by decide) h7
            rw [hk (t + 2) d1] at r2
            rcases h with ⟨h8, hE⟩ | ⟨h8, pf210, na211, ma212, v214, h9, h⟩
            · rcases r2 with ⟨w1, w2, w3⟩ | ⟨w1, w2, w3⟩
              · rw [pF1_n nty w1]
                refine for_84 hS hT hk hPl h0 hb (M := N + 1) ⟨m4.1.1.1, m4.1.2.2.1, a0, wk0.tr r1.wk, w3, hW0.sm r1 (Int.le_refl _), by rw [r1 13 (by decide) (by decide)]; exact hN1, by omega, by omega, by omega⟩ (Or.inl ⟨rfl, ?_, Nat.le_refl _⟩) q18 q19 m1 hE
                rw [m4.1.2.1]; decide
              · exfalso; omega
            · rcases r2 with ⟨w1, w2, w3⟩ | ⟨w1, w2, w3⟩
              · exfalso; omega
              · rw [pF1_e nty w1]
                have hN2 : (pf192 13).toInt = ((N + 1 : Nat) : Int) := by rw [r1 13 (by decide) (by decide)]; exact hN1
                obtain ⟨x1, x2, x3, x4⟩ := make_r hN2 (by omega) (show (vp_nar .byte (22 : Int32).toInt8.toInt32).toInt = 22 from rfl) w3.1 h9
                have hc2 := w3.mk x3
                have hW2 : RW pf210 (o + 2) := (hW1.sm r1 (Int.le_refl _)).mk x3
                have hN3 : (pf210 13).toInt = ((N + 2 : Nat) : Int) := by rw [x2]; omega
                show OkSr (fun n m => RepS k c n m (d + 1)) c t o (gThen (gThen ((pBoth k 62).1 (-1) (t + 2) (o + 2)) (fun e t1 => if k t1 = 59 then some (sRow1 (sNd 2 e .null), t1 + 1) else none)) (fun a t1 => gFo2 S k o a t1)) N pf na ma wa pf' na' ma' wa' v xt
                rcases h with ⟨pq1, pq2, pq3, pq4, h10, e0, e1, e2, e3, ev, ex⟩ | ⟨pf229, na230, ma231, wa232, v234, h10, na249, h11, na250, h12, h⟩
                · rw [(rx_e hT hk hPl hc2 hW2 hN3 (by omega) h10).no]; exact ex
                · have q := rx_e hT hk hPl hc2 hW2 hN3 (by omega) h10
                  obtain ⟨g, hg⟩ := q.sm
                  obtain ⟨e, t1⟩ := g
                  rw [hg] at q ⊢
                  show OkSr (fun n m => RepS k c n m (d + 1)) c t o (gThen (if k t1 = 59 then some (sRow1 (sNd 2 e .null), t1 + 1) else none) (fun a t1 => gFo2 S k o a t1)) N pf na ma wa pf' na' ma' wa' v xt
                  rw [gThen_if]
                  obtain ⟨M2, j, z0, z1, z2, z3, z4, z5, z6, z7⟩ := q.e
                  rw [cn_of x1] at h11
                  rw [cn_of m1] at h12
                  have h11' : na249 = vu na230 17 (N + 1) v234 := h11
                  have h12' : na250 = vu na249 17 N v214 := h12
                  have g1 := agN z6 (show N < N + 2 by omega)
                  have g2 := agN z6 (show N + 1 < N + 2 by omega)
                  have x4N := fun f => x4.2 f N (by omega)
                  have at' : ∀ f i : Nat, ¬ (f = 17 ∧ (i = N ∨ i = N + 1)) → na250 f i = na230 f i := fun f i hi => by rw [h12', vu_p (by omega), h11', vu_p (by omega)]
                  have tk := fun {p : Nat → Int32} {z : Int32} (y : R_mp_take 1 (lby ";") ta pf229 p z) => take_r hT z4 (by decide) mq_59 (by decide) y
                  rw [hk t1 z4.2.2.1] at tk
                  have agl : ∀ {l h : Nat}, (h ≤ N ∨ N + 2 ≤ l) → AgF na230 ma231 na250 ma231 l h (-1) := fun hh i b1 b2 => ⟨at' 14 i (by omega), at' 15 i (by omega), at' 17 i (by omega), rfl, rfl, rfl, at' 23 i (by omega), fun _ => ⟨at' 21 i (by omega), rfl⟩⟩
                  rcases h with ⟨pq1, h13, e0, e1, e2, e3, ev, ex⟩ | ⟨pf255, h13, hE⟩
                  · rcases (tk h13).2 with ⟨y1, y2, y3⟩ | ⟨y1, y2⟩
                    · exact absurd y2 (by decide)
                    · rw [if_neg y1]; exact ex
                  · obtain ⟨p1, p2⟩ := tk h13
                    rcases p2 with ⟨y1, y2, y3⟩ | ⟨y1, y2⟩
                    · rw [if_pos y1]
                      refine for_84 hS hT hk hPl h0 hb (M := M2) ⟨?_, ?_, ?_, wk0.tr (r1.wk.tr ((mk_wk x3).tr (z7.tr p1.wk))), y3, ((((hW0.sm r1 (Int.le_refl _)).mk x3).wk z7).sm p1 (Int.le_refl _)), by rw [p1 13 (by decide) (by decide)]; exact z1, by omega, by omega, by omega⟩ (Or.inr ⟨_, rfl, ?_, by omega, Or.inl ⟨e, rfl, ?_, ?_⟩⟩) ?_ ?_ m1 hE
                      · rw [at' 14 N (by omega), g1.1, (x4N 14).1]; exact m4.1.1.1
                      · rw [at' 21 N (by omega), g1.2.2.2.1, (x4N 21).1]; exact m4.1.2.2.1
                      · exact a0.tr ((x4.ag (Or.inl (by omega))).tr ((z6.le (Nat.le_refl _) (by omega)).tr (agl (Or.inl (Nat.le_refl _)))))
                      · rw [h12', vu_s]; exact x1
                      · rw [at' 14 (N + 1) (by omega), g2.1]; exact x4.1.1.1
                      · rw [show na250 17 (N + 1) = v234 by rw [h12', vu_p (by omega), h11', vu_s]]
                        exact z2.kp (agl (Or.inr (Nat.le_refl _))) (Or.inl (by omega))
                      · rw [g1.2.2.2.2.1, (x4N 18).2]; exact q18
                      · rw [g1.2.2.2.2.2.1, (x4N 19).2]; exact q19
                    · exact absurd y2 (by decide)
          · have yty : k (t + 2) = 1 ∨ k (t + 2) = 2 := ty.2.mp (by omega)
            rw [pF1_d yty]
            rcases h with ⟨pq1, pq2, pq3, pq4, h7, e0, e1, e2, e3, ev, ex⟩ | ⟨pf271, na272, ma273, wa274, v276, h7, na292, h8, hE⟩
            · rw [(dec_okr hT hk hPl yty y3' hW1 hN1 (by omega) h7).no]; exact ex
            · have p := dec_okr hT hk hPl yty y3' hW1 hN1 (by omega) h7
              obtain ⟨g, hg⟩ := p.sm
              obtain ⟨s, t1⟩ := g
              rw [hg] at p ⊢
              show OkSr (fun n m => RepS k c n m (d + 1)) c t o (gFo2 S k o (sRow1 s) t1) N pf na ma wa pf' na' ma' wa' v xt
              obtain ⟨-, M2, p0', p1, p2, p3, p4, p5, p6, p7⟩ := p
              simp only [] at p1 p3 p4
              rw [cn_of m1] at h8
              have h8' : na292 = vu na272 17 N v276 := h8
              have at' : ∀ f i : Nat, ¬ i = N → na292 f i = na272 f i ∧ ma273 f i = ma273 f i := fun f i hi => ⟨by rw [h8', vu_at hi], rfl⟩
              have g1 := agN p6 (show N < N + 1 by omega)
              refine for_84 hS hT hk hPl h0 hb (M := M2) ⟨?_, ?_, ?_, wk0.tr p7, p3, hW0.wk p7, p2, by omega, by omega, by omega⟩ (Or.inr ⟨s, rfl, ?_, by omega, Or.inr (rpd_kp (by omega) p4 (ag_at (r := -1) at' (Or.inr (by omega))) (by omega))⟩) ?_ ?_ m1 hE
              · rw [h8', vu_p (by omega), g1.1]; exact m4.1.1.1
              · rw [h8', vu_p (by omega), g1.2.2.2.1]; exact m4.1.2.2.1
              · exact a0.tr ((p6.le (Nat.le_refl _) (by omega)).tr (ag_at at' (Or.inl (Nat.le_refl _))))
              · rw [h8', vu_s]; exact p0'
              · rw [g1.2.2.2.2.1]; exact q18
              · rw [g1.2.2.2.2.2.1]; exact q19
        · exact absurd y2 (by decide)
    · exact absurd u2 (by decide)
end RN
