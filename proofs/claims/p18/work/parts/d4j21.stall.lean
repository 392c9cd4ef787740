/-! THE REFERENCE: statements whole -/
section RP
variable {RLt : T_mp_statement} {S : POT} {k : Nat → Int} {ta : Nat → Nat → Int32} {c t N d : Nat} {o : Int} {pf : Nat → Int32} {na ma wa : Nat → Nat → Int32} {pf' : Nat → Int32} {na' ma' wa' : Nat → Nat → Int32} {v xt : Int32}
theorem pE_kw (h0 : 0 ≤ o) (h : 1 ≤ k t ∧ k t ≤ 15) : (pBoth k 62).1 (-1) t o = none := by
  rw [(pE_eq k h0).1 (-1) t]
  have np : ¬ isPre (k t) := fun y => by unfold isPre at y; omega
  rw [op_no h0 np]
  unfold gPost
  rw [pP_no (by omega) (by omega) (by omega)]
/-- an expression alone, with its ; -/
def gExp (k : Nat → Int) (t : Nat) (o : Int) : Option (Ast × Nat) := gThen (pE k (-1) t o) (fun e t1 => if k t1 = 59 then some (sNd 2 e .null, t1 + 1) else none)
theorem pS_ex (h : ¬ (k t = 123 ∨ k t = 59 ∨ k t = 1 ∨ k t = 2 ∨ k t = 5 ∨ k t = 7 ∨ k t = 8 ∨ k t = 9 ∨ k t = 10 ∨ k t = 13 ∨ k t = 14 ∨ k t = 15)) : pStm S k t o = gExp k t o := by
  unfold pStm gExp
  rw [if_neg (by omega), if_neg (by omega), if_neg (by omega), if_neg (by omega), if_neg (by omega), if_neg (by omega), if_neg (by omega), if_neg (by omega), if_neg (by omega), if_neg (by omega)]
  cases pE k (-1) t o with
  | none => rfl
  | some r => rfl
theorem pS_bl (h : k t = 123) : pStm S k t o = gBlk S k t o := by
  unfold pStm gBlk
  rw [if_pos h]
  by_cases ho : o < 60
  · rw [if_pos ho, if_pos ⟨h, ho⟩]
    cases pSts S k (o + 1) 2049 (t + 1) with
    | none => rfl
    | some r =>
      obtain ⟨l, t1⟩ := r
      show (if k t1 = 125 then some (sNd 0 l .null, t1 + 1) else none) = gMap (fun l => sNd 0 l .null) (if k t1 = 125 then some (l, t1 + 1) else none)
      by_cases q : k t1 = 125
      · rw [if_pos q, if_pos q]; rfl
      · rw [if_neg q, if_neg q]; rfl
  · rw [if_neg ho, if_neg (fun q => ho q.2)]
theorem pS_em (h : k t = 59) : pStm S k t o = some (sNd 1 .null .null, t + 1) := by
  unfold pStm
  rw [if_neg (by omega), if_pos h]
theorem pS_de (h : k t = 1 ∨ k t = 2) : pStm S k t o = gDec k t o := by
  unfold pStm gDec
  rw [if_neg (by omega), if_neg (by omega), if_pos h]
  cases pVars k o 2048 (t + 1) with
  | none => rfl
  | some r => rfl
theorem pS_bc (h : k t = 13 ∨ k t = 14) : pStm S k t o = if k (t + 1) = 59 then some (sNd ((k t).toNat - 1) .null .null, t + 2) else none := by
  unfold pStm
  rw [if_neg (by omega), if_neg (by omega), if_neg (by omega), if_neg (by omega), if_neg (by omega), if_neg (by omega), if_neg (by omega), if_neg (by omega), if_pos h]
theorem pS_r0 (h : k t = 15) (h1 : k (t + 1) = 59) : pStm S k t o = some (sNd 14 .null .null, t + 2) := by
  unfold pStm
  rw [if_neg (by omega), if_neg (by omega), if_neg (by omega), if_neg (by omega), if_neg (by omega), if_neg (by omega), if_neg (by omega), if_neg (by omega), if_neg (by omega), if_pos h, if_pos h1]
theorem pS_r1 (h : k t = 15) (h1 : ¬ k (t + 1) = 59) : pStm S k t o = gThen (pE k (-1) (t + 1) o) (fun e t1 => if k t1 = 59 then some (sNd 15 e .null, t1 + 1) else none) := by
  unfold pStm
  rw [if_neg (by omega), if_neg (by omega), if_neg (by omega), if_neg (by omega), if_neg (by omega), if_neg (by omega), if_neg (by omega), if_neg (by omega), if_neg (by omega), if_pos h, if_neg h1]
  cases pE k (-1) (t + 1) o with
  | none => rfl
  | some r => rfl
theorem rs_em {lo hi : Nat} (hl : lo < hi) (a2 : (na 14 lo).toInt = 21) : RepS k c na ma (d + 1) (sNd 1 .null .null) lo hi := ⟨hl, Or.inr (Or.inr (Or.inr (Or.inl ⟨rfl, a2⟩)))⟩
theorem rs_br {lo hi : Nat} (hl : lo < hi) (a2 : (na 14 lo).toInt = 31) : RepS k c na ma (d + 1) (sNd 12 .null .null) lo hi := ⟨hl, Or.inr (Or.inr (Or.inr (Or.inr (Or.inr (Or.inr (Or.inr (Or.inr (Or.inr (Or.inr (Or.inl ⟨rfl, a2⟩))))))))))⟩
theorem rs_co {lo hi : Nat} (hl : lo < hi) (a2 : (na 14 lo).toInt = 32) : RepS k c na ma (d + 1) (sNd 13 .null .null) lo hi := ⟨hl, Or.inr (Or.inr (Or.inr (Or.inr (Or.inr (Or.inr (Or.inr (Or.inr (Or.inr (Or.inr (Or.inr (Or.inl ⟨rfl, a2⟩)))))))))))⟩
theorem rs_r0 {lo hi : Nat} (hl : lo < hi) (a2 : (na 14 lo).toInt = 33) (a3 : (na 17 lo).toInt < 0) : RepS k c na ma (d + 1) (sNd 14 .null .null) lo hi := ⟨hl, Or.inr (Or.inr (Or.inr (Or.inr (Or.inr (Or.inr (Or.inr (Or.inr (Or.inr (Or.inr (Or.inr (Or.inr (Or.inl ⟨rfl, a2, a3⟩))))))))))))⟩
theorem rs_r1 {e : Ast} {lo hi : Nat} (hl : lo < hi) (a2 : (na 14 lo).toInt = 33) (a3 : OkE k c na ma e (na 17 lo).toInt (lo + 1) hi) : RepS k c na ma (d + 1) (sNd 15 e .null) lo hi := ⟨hl, Or.inr (Or.inr (Or.inr (Or.inr (Or.inr (Or.inr (Or.inr (Or.inr (Or.inr (Or.inr (Or.inr (Or.inr (Or.inr ⟨e, rfl, a2, a3⟩))))))))))))⟩
theorem upd11_wk {z : Int32} : WKp pf wa (upd pf 11 z) wa := ⟨fun i a _ _ _ => pk_un a, by rw [pk_un (by decide)], fun _ _ _ => rfl⟩
theorem upd11_rw {z : Int32} (h : RW pf o) : RW (upd pf 11 z) o := by
  unfold RW at h ⊢
  rw [pk_un (by decide)]
  exact h
theorem byk_ok (hS : HSt RLt d ta k c S) (hT : RTk ta c) (hk : ∀ i : Nat, i < c → rkd ta i = k i) (hPl : RPl ta c) {p0 : Int32} (hp : k t = p0.toInt + 1 ∧ 1 ≤ k t ∧ k t ≤ 15) (nty : ¬ (k t = 1 ∨ k t = 2)) (hc : RCur pf c t o) (hW : RW pf o) (hN : (pf 13).toInt = (N : Int)) (hb : N ≤ t + 10000) (h : R_mp_byKey RLt ta p0 pf na ma wa pf' na' ma' wa' v xt) : OkSr (fun n m => RepS k c n m (d + 1)) c t o (pStm S k t o) N pf na ma wa pf' na' ma' wa' v xt := by
  have c1 := hc.2.2.1
  have c2 := hc.2.2.2.1
  have h0 := hc.2.2.2.2.1
  have hlt : t + 1 < c := rlt hT hc (by rw [hk t c1]; omega)
  have no : ¬ (k t = 123 ∨ k t = 59 ∨ k t = 1 ∨ k t = 2 ∨ k t = 5 ∨ k t = 7 ∨ k t = 8 ∨ k t = 9 ∨ k t = 10 ∨ k t = 13 ∨ k t = 14 ∨ k t = 15) → pStm S k t o = none := fun q => by
    rw [pS_ex q]
    unfold gExp
    show gThen ((pBoth k 62).1 (-1) t o) _ = none
    rw [pE_kw h0 hp.2]
    rfl
  obtain (⟨h1, h⟩ | ⟨h1, h⟩ | ⟨h1, h⟩ | ⟨h1, h⟩ | ⟨h1, h⟩ | ⟨h1, h⟩ | ⟨h1, z104, h2, h⟩ | ⟨h1, pf166, na167, ma168, v170, h2, z182, h3, v187, h4, h⟩) | h := h
  · rw [no (by omega)]
    rcases h with ⟨h2, e0, e1, e2, e3, ev, ex⟩ | ⟨h2, h⟩
    · exact ex
    · exact absurd rfl h2
  · have hp' : (p0.toInt = 4 ∧ k t = 5) ∨ (p0.toInt = 6 ∧ k t = 7) := by omega
    rcases h with ⟨pq1, pq2, pq3, pq4, h2, e0, e1, e2, e3, ev, ex⟩ | ⟨pf9, na10, ma11, wa12, v14, h2, e0, e1, e2, e3, ev, ex⟩
    · rw [(cnd2_ok hS hT hk hPl hp' hc hW hN hb h2).no]; exact ex
    · rw [e0, e1, e2, e3, ev, ex]; exact cnd2_ok hS hT hk hPl hp' hc hW hN hb h2
  · rw [no (by omega)]
    rcases h with ⟨h2, e0, e1, e2, e3, ev, ex⟩ | ⟨h2, h⟩
    · exact ex
    · exact absurd rfl h2
  · rcases h with ⟨pq1, pq2, pq3, pq4, h2, e0, e1, e2, e3, ev, ex⟩ | ⟨pf9, na10, ma11, wa12, v14, h2, e0, e1, e2, e3, ev, ex⟩
    · rw [(doi_ok hS hT hk hPl (by omega) hc hW hN hb h2).no]; exact ex
    · rw [e0, e1, e2, e3, ev, ex]; exact doi_ok hS hT hk hPl (by omega) hc hW hN hb h2
  · rcases h with ⟨pq1, pq2, pq3, pq4, h2, e0, e1, e2, e3, ev, ex⟩ | ⟨pf9, na10, ma11, wa12, v14, h2, e0, e1, e2, e3, ev, ex⟩
    · rw [(for_okr hS hT hk hPl (by omega) hc hW hN hb h2).no]; exact ex
    · rw [e0, e1, e2, e3, ev, ex]; exact for_okr hS hT hk hPl (by omega) hc hW hN hb h2
  · rcases h with ⟨pq1, pq2, pq3, pq4, h2, e0, e1, e2, e3, ev, ex⟩ | ⟨pf9, na10, ma11, wa12, v14, h2, e0, e1, e2, e3, ev, ex⟩
    · rw [(swi_ok hS hT hk hPl (by omega) hc hW hN hb h2).no]; exact ex
    · rw [e0, e1, e2, e3, ev, ex]; exact swi_ok hS hT hk hPl (by omega) hc hW hN hb h2
  · have hc2 := hc.st h2 hlt
    have tk := fun {p : Nat → Int32} {z : Int32} (y : R_mp_take 1 (lby ";") ta (upd pf 11 z104) p z) => take_r hT hc2 (by decide) mq_59 (by decide) y
    rw [hk (t + 1) hc2.2.2.1] at tk
    rw [pS_bc (by omega)]
    rcases h with ⟨pq1, h3, e0, e1, e2, e3, ev, ex⟩ | ⟨pf109, h3, h⟩
    · rcases (tk h3).2 with ⟨w1, w2, w3⟩ | ⟨w1, w2⟩
      · exact absurd w2 (by decide)
      · rw [if_neg w1]; exact ex
    · obtain ⟨r1, r2⟩ := tk h3
      rcases r2 with ⟨w1, w2, w3⟩ | ⟨w1, w2⟩
      · rw [if_pos w1]
        have hN1 : (pf109 13).toInt = (N : Int) := by rw [r1 13 (by decide) (by decide), pk_un (by decide)]; exact hN
        have i2 : (2 : Int32).toInt = 2 := rfl
        have e11 : (pf109 11).toInt = ((t + 2 : Nat) : Int) := w3.1
        rcases h with ⟨h4, z124, h5, pf128, na129, ma130, v132, h6, e0, e1, e2, e3, ev, ex⟩ | ⟨h4, z144, h5, pf148, na149, ma150, v152, h6, e0, e1, e2, e3, ev, ex⟩
        · have z5 := ti_sub h5 e11 i2 (by omega) (by omega)
          obtain ⟨m1, m2, m3, m4⟩ := make_r hN1 (by omega) (show (vp_nar .byte (32 : Int32).toInt8.toInt32).toInt = 32 from rfl) z5 h6
          have ek : (k t).toNat - 1 = 13 := by omega
          rw [ek, e0, e1, e2, e3, ev, ex]
          exact ⟨rfl, N + 1, m1, by simp only []; omega, by rw [m2]; rfl, w3.mk m3, rs_co (by omega) m4.1.1.1, m4.1.2.2.1, m4.ag (Or.inl (Nat.le_refl _)), upd11_wk.tr (r1.wk.tr (mk_wk m3))⟩
        · have z5 := ti_sub h5 e11 i2 (by omega) (by omega)
          obtain ⟨m1, m2, m3, m4⟩ := make_r hN1 (by omega) (show (vp_nar .byte (31 : Int32).toInt8.toInt32).toInt = 31 from rfl) z5 h6
          have ek : (k t).toNat - 1 = 12 := by omega
          rw [ek, e0, e1, e2, e3, ev, ex]
          exact ⟨rfl, N + 1, m1, by simp only []; omega, by rw [m2]; rfl, w3.mk m3, rs_br (by omega) m4.1.1.1, m4.1.2.2.1, m4.ag (Or.inl (Nat.le_refl _)), upd11_wk.tr (r1.wk.tr (mk_wk m3))⟩
      · exact absurd w2 (by decide)
  · obtain ⟨m1, m2, m3, m4⟩ := make_r hN (by omega) (show (vp_nar .byte (33 : Int32).toInt8.toInt32).toInt = 33 from rfl) hc.1 h2
    have hc1 := hc.mk m3
    have hc2 := hc1.st h3 hlt
    have w := is_r hT hc2 (by decide) mq_59 (by decide) h4
    rw [hk (t + 1) hc2.2.2.1] at w
    have tk := fun {p : Nat → Int32} {z : Int32} (y : R_mp_take 1 (lby ";") ta (upd pf166 11 z182) p z) => take_r hT hc2 (by decide) mq_59 (by decide) y
    rw [hk (t + 1) hc2.2.2.1] at tk
    have wk0 : WKp pf wa (upd pf166 11 z182) wa := (mk_wk m3).tr upd11_wk
    have hN1 : ((upd pf166 11 z182) 13).toInt = ((N + 1 : Nat) : Int) := by rw [pk_un (by decide), m2]; rfl
    rcases h with ⟨h5, h⟩ | ⟨h5, h⟩
    · have y : k (t + 1) = 59 := w.2.mp (by omega)
      rw [pS_r0 (by omega) y]
      rcases h with ⟨pq1, h6, e0, e1, e2, e3, ev, ex⟩ | ⟨pf197, h6, e0, e1, e2, e3, ev, ex⟩
      · rcases (tk h6).2 with ⟨w1, w2, w3⟩ | ⟨w1, w2⟩
        · exact absurd w2 (by decide)
        · exact absurd y w1
      · obtain ⟨r1, r2⟩ := tk h6
        rcases r2 with ⟨w1, w2, w3⟩ | ⟨w1, w2⟩
        · rw [e0, e1, e2, e3, ev, ex]
          refine ⟨rfl, N + 1, m1, by simp only []; omega, by rw [r1 13 (by decide) (by decide)]; exact hN1, w3, rs_r0 (by omega) m4.1.1.1 ?_, m4.1.2.2.1, m4.ag (Or.inl (Nat.le_refl _)), wk0.tr r1.wk⟩
          rw [m4.1.2.1]; decide
        · exact absurd w2 (by decide)
    · have y : ¬ k (t + 1) = 59 := fun y => by have := w.2.mpr y; omega
      rw [pS_r1 (by omega) y]
      show OkSr (fun n m => RepS k c n m (d + 1)) c t o (gThen ((pBoth k 62).1 (-1) (t + 1) o) (fun e t1 => if k t1 = 59 then some (sNd 15 e .null, t1 + 1) else none)) N pf na ma wa pf' na' ma' wa' v xt
      have hW1 : RW (upd pf166 11 z182) o := upd11_rw (hW.mk m3)
      rcases h with ⟨pq1, pq2, pq3, pq4, h6, e0, e1, e2, e3, ev, ex⟩ | ⟨pf213, na214, ma215, wa216, v218, h6, na233, h7, h⟩
      · rw [(rx_e hT hk hPl hc2 hW1 hN1 (by omega) h6).no]; exact ex
      · have q := rx_e hT hk hPl hc2 hW1 hN1 (by omega) h6
        obtain ⟨g, hg⟩ := q.sm
        obtain ⟨e, t1⟩ := g
        rw [hg] at q ⊢
        show OkSr (fun n m => RepS k c n m (d + 1)) c t o (if k t1 = 59 then some (sNd 15 e .null, t1 + 1) else none) N pf na ma wa pf' na' ma' wa' v xt
        obtain ⟨M2, j, z0, z1, z2, z3, z4, z5, z6, z7⟩ := q.e
        rw [cn_of m1] at h7
        have h7' : na233 = vu na214 17 N v218 := h7
        have at' : ∀ f i : Nat, ¬ i = N → na233 f i = na214 f i ∧ ma215 f i = ma215 f i := fun f i hi => ⟨by rw [h7', vu_at hi], rfl⟩
        have g1 := agN z6 (show N < N + 1 by omega)
        have tk2 := fun {p : Nat → Int32} {z : Int32} (y : R_mp_take 1 (lby ";") ta pf213 p z) => take_r hT z4 (by decide) mq_59 (by decide) y
        rw [hk t1 z4.2.2.1] at tk2
        rcases h with ⟨pq1, h8, e0, e1, e2, e3, ev, ex⟩ | ⟨pf238, h8, e0, e1, e2, e3, ev, ex⟩
        · rcases (tk2 h8).2 with ⟨w1, w2, w3⟩ | ⟨w1, w2⟩
          · exact absurd w2 (by decide)
          · rw [if_neg w1]; exact ex
        · obtain ⟨r1, r2⟩ := tk2 h8
          rcases r2 with ⟨w1, w2, w3⟩ | ⟨w1, w2⟩
          · rw [if_pos w1, e0, e1, e2, e3, ev, ex]
            refine ⟨rfl, M2, m1, by simp only []; omega, by rw [r1 13 (by decide) (by decide)]; exact z1, w3, rs_r1 (by omega) ?_ ?_, ?_, ?_, wk0.tr (z7.tr r1.wk)⟩
            · rw [h7', vu_p (by omega), g1.1]; exact m4.1.1.1
            · rw [show na233 17 N = v218 by rw [h7', vu_s]]
              exact z2.kp (ag_at (r := -1) at' (Or.inr (by omega))) (Or.inl (by omega))
            · rw [h7', vu_p (by omega), g1.2.2.2.1]; exact m4.1.2.2.1
            · exact (m4.ag (Or.inl (Nat.le_refl _))).tr ((z6.le (Nat.le_refl _) (by omega)).tr (ag_at at' (Or.inl (Nat.le_refl _))))
          · exact absurd w2 (by decide)
  · exact h.elim
theorem sta_ok (hS : HSt RLt d ta k c S) (hT : RTk ta c) (hk : ∀ i : Nat, i < c → rkd ta i = k i) (hPl : RPl ta c) (hc : RCur pf c t o) (hW : RW pf o) (hN : (pf 13).toInt = (N : Int)) (hb : N ≤ t + 10000) (h : R_mp_statement RLt ta pf na ma wa pf' na' ma' wa' v xt) : OkSr (fun n m => RepS k c n m (d + 1)) c t o (pStm S k t o) N pf na ma wa pf' na' ma' wa' v xt := by
  have c1 := hc.2.2.1
  have c2 := hc.2.2.2.1
  have h0 := hc.2.2.2.2.1
  obtain ⟨kk1, -, kk3, kk4, kk5, kk6, kk7, kk8, kk9⟩ := rkd_b hT c1
  rw [hk t c1] at kk1 kk3 kk4 kk5 kk6 kk7 kk8 kk9
  obtain ⟨v5, h1, h⟩ | h := h
  · have w1 := is_r hT hc (by decide) mq_123 (by decide) h1
    rw [hk t c1] at w1
    rcases h with ⟨h2, v15, h3, h⟩ | ⟨h2, h⟩
    · have n123 : ¬ k t = 123 := fun y => by have := w1.2.mpr y; omega
      have w2 := is_r hT hc (by decide) mq_59 (by decide) h3
      rw [hk t c1] at w2
      rcases h with ⟨h4, v22, h5, h⟩ | ⟨h4, z141, h5, z142, h6, pf146, na147, ma148, v150, h7, e0, e1, e2, e3, ev, ex⟩
      · have n59 : ¬ k t = 59 := fun y => by have := w2.2.mpr y; omega
        have w3 := isType_r hT hc h5
        rw [hk t c1] at w3
        rcases h with ⟨h6, z28, h7, h⟩ | ⟨h6, h⟩
        · have nty : ¬ (k t = 1 ∨ k t = 2) := fun y => by have := w3.2.mpr y; omega
          rw [cn_of hc.1] at h7
          rcases h with ⟨h8, pf34, na35, ma36, v38, h9, h⟩ | ⟨h8, z90, h9, h⟩
          · rw [h7] at h8
            have nk : ¬ (1 ≤ k t ∧ k t ≤ 15) := fun y => h8 (kk6.mpr y)
            rw [pS_ex (by omega)]
            unfold gExp
            show OkSr (fun n m => RepS k c n m (d + 1)) c t o (gThen ((pBoth k 62).1 (-1) t o) (fun e t1 => if k t1 = 59 then some (sNd 2 e .null, t1 + 1) else none)) N pf na ma wa pf' na' ma' wa' v xt
            obtain ⟨m1, m2, m3, m4⟩ := make_r hN (by omega) (show (vp_nar .byte (22 : Int32).toInt8.toInt32).toInt = 22 from rfl) hc.1 h9
            have hc1 := hc.mk m3
            have hN1 : (pf34 13).toInt = ((N + 1 : Nat) : Int) := by rw [m2]; rfl
            rcases h with ⟨pq1, pq2, pq3, pq4, h10, e0, e1, e2, e3, ev, ex⟩ | ⟨pf53, na54, ma55, wa56, v58, h10, na73, h11, h⟩
            · rw [(rx_e hT hk hPl hc1 (hW.mk m3) hN1 (by omega) h10).no]; exact ex
            · have q := rx_e hT hk hPl hc1 (hW.mk m3) hN1 (by omega) h10
              obtain ⟨g, hg⟩ := q.sm
              obtain ⟨e, t1⟩ := g
              rw [hg] at q ⊢
              show OkSr (fun n m => RepS k c n m (d + 1)) c t o (if k t1 = 59 then some (sNd 2 e .null, t1 + 1) else none) N pf na ma wa pf' na' ma' wa' v xt
              obtain ⟨M2, j, z0, z1, z2, z3, z4, z5, z6, z7⟩ := q.e
              rw [cn_of m1] at h11
              have h11' : na73 = vu na54 17 N v58 := h11
              have at' : ∀ f i : Nat, ¬ i = N → na73 f i = na54 f i ∧ ma55 f i = ma55 f i := fun f i hi => ⟨by rw [h11', vu_at hi], rfl⟩
              have g1 := agN z6 (show N < N + 1 by omega)
              have tk := fun {p : Nat → Int32} {z : Int32} (y : R_mp_take 1 (lby ";") ta pf53 p z) => take_r hT z4 (by decide) mq_59 (by decide) y
              rw [hk t1 z4.2.2.1] at tk
              rcases h with ⟨pq1, h12, e0, e1, e2, e3, ev, ex⟩ | ⟨pf78, h12, e0, e1, e2, e3, ev, ex⟩
              · rcases (tk h12).2 with ⟨w1, w2, w3⟩ | ⟨w1, w2⟩
                · exact absurd w2 (by decide)
                · rw [if_neg w1]; exact ex
              · obtain ⟨r1, r2⟩ := tk h12
                rcases r2 with ⟨w1, w2, w3⟩ | ⟨w1, w2⟩
                · rw [if_pos w1, e0, e1, e2, e3, ev, ex]
                  refine ⟨rfl, M2, m1, by simp only []; omega, by rw [r1 13 (by decide) (by decide)]; exact z1, w3, ⟨by omega, Or.inl ⟨e, rfl, ?_, ?_⟩⟩, ?_, ?_, (mk_wk m3).tr (z7.tr r1.wk)⟩
                  · rw [h11', vu_p (by omega), g1.1]; exact m4.1.1.1
                  · rw [show na73 17 N = v58 by rw [h11', vu_s]]
                    exact z2.kp (ag_at (r := -1) at' (Or.inr (by omega))) (Or.inl (by omega))
                  · rw [h11', vu_p (by omega), g1.2.2.2.1]; exact m4.1.2.2.1
                  · exact (m4.ag (Or.inl (Nat.le_refl _))).tr ((z6.le (Nat.le_refl _) (by omega)).tr (ag_at at' (Or.inl (Nat.le_refl _))))
                · exact absurd w2 (by decide)
          · rw [h7] at h8
            rw [cn_of hc.1] at h9
            have y := kk6.mp h8
            have y2 := kk7 h8
            rw [← h9] at y2
            rcases h with ⟨pq1, pq2, pq3, pq4, h10, e0, e1, e2, e3, ev, ex⟩ | ⟨pf95, na96, ma97, wa98, v100, h10, e0, e1, e2, e3, ev, ex⟩
            · rw [(byk_ok hS hT hk hPl ⟨y2, y⟩ nty hc hW hN hb h10).no]; exact ex
            · rw [e0, e1, e2, e3, ev, ex]; exact byk_ok hS hT hk hPl ⟨y2, y⟩ nty hc hW hN hb h10
        · have yty : k t = 1 ∨ k t = 2 := w3.2.mp (by omega)
          rw [pS_de yty]
          rcases h with ⟨pq1, pq2, pq3, pq4, h7, e0, e1, e2, e3, ev, ex⟩ | ⟨pf119, na120, ma121, wa122, v124, h7, e0, e1, e2, e3, ev, ex⟩
          · rw [(dec_okr hT hk hPl yty hc hW hN hb h7).no]; exact ex
          · rw [e0, e1, e2, e3, ev, ex]
            exact (dec_okr hT hk hPl yty hc hW hN hb h7).imp (fun n m s l h q1 q2 => ⟨q1, Or.inr (Or.inl q2)⟩)
      · have y59 : k t = 59 := w2.2.mp (by omega)
        rw [pS_em y59]
        have z5 := ti_add h5 hc.1 (show (1 : Int32).toInt = 1 from rfl) (by omega) (by omega)
        have z6 := ti_sub h6 z5 (show (1 : Int32).toInt = 1 from rfl) (by omega) (by omega)
        have hc1 := hc.st h5 (rlt hT hc (by rw [hk t c1]; omega))
        have hN1 : ((upd pf 11 z141) 13).toInt = (N : Int) := by rw [pk_un (by decide)]; exact hN
        obtain ⟨m1, m2, m3, m4⟩ := make_r hN1 (by omega) (show (vp_nar .byte (21 : Int32).toInt8.toInt32).toInt = 21 from rfl) z6 h7
        rw [e0, e1, e2, e3, ev, ex]
        exact ⟨rfl, N + 1, m1, by simp only []; omega, by rw [m2]; rfl, hc1.mk m3, rs_em (by omega) m4.1.1.1, m4.1.2.2.1, m4.ag (Or.inl (Nat.le_refl _)), upd11_wk.tr (mk_wk m3)⟩
    · have y123 : k t = 123 := w1.2.mp (by omega)
      rw [pS_bl y123]
      rcases h with ⟨pq1, pq2, pq3, pq4, h3, e0, e1, e2, e3, ev, ex⟩ | ⟨pf165, na166, ma167, wa168, v170, h3, e0, e1, e2, e3, ev, ex⟩
      · rw [(blk_okr hS hT hk hc hW hN hb h3).no]; exact ex
      · rw [e0, e1, e2, e3, ev, ex]
        exact (blk_okr hS hT hk hc hW hN hb h3).imp (fun n m s l h q1 q2 => ⟨q1, Or.inr (Or.inr (Or.inl q2))⟩)
  · exact h.elim
end RP
section RQ
variable {P Q : POT} {k : Nat → Int} {o : Int}
theorem pSts_c {o' : Int} (h : ∀ t : Nat, P t o' = Q t o') : ∀ (n t : Nat), pSts P k o' n t = pSts Q k o' n t := by
  intro n
  induction n with
  | zero => intro t; rfl
  | succ n ih =>
    intro t
    by_cases q : k t = 125
    · rw [pSts_e q, pSts_e q]
    · rw [pSts_s q, pSts_s q, h t]
      cases Q t o' with
      | none => rfl
      | some r =>
        show gSr P k o' n r.1 r.2 = gSr Q k o' n r.1 r.2
        unfold gSr
        rw [ih]
theorem pSw_c {o' : Int} (h : ∀ t : Nat, P t o' = Q t o') : ∀ (n : Nat) (b : Bool) (t : Nat), pSw P k o' n b t = pSw Q k o' n b t := by
  intro n
  induction n with
  | zero => intro b t; rfl
  | succ n ih =>
    intro b t
    by_cases q : k t = 125
    · rw [pSw_e q, pSw_e q]
    · have e : gSwE P k o' b t = gSwE Q k o' b t := by unfold gSwE; rw [h t]
      rw [pSw_s q, pSw_s q, e]
      cases gSwE Q k o' b t with
      | none => rfl
      | some r =>
        show gMap (fun r' => .add r.1 r') (pSw P k o' n true r.2) = gMap (fun r' => .add r.1 r') (pSw Q k o' n true r.2)
        rw [ih]
/-- a statement holds others at o + 1 and o + 2 alone, and only below 60 -/
theorem pStm_c (h : o < 60 → ∀ (t : Nat) (o' : Int), o < o' → P t o' = Q t o') (t : Nat) : pStm P k t o = pStm Q k t o := by
  by_cases ho : o < 60
  · have e1 : ∀ t : Nat, P t (o + 1) = Q t (o + 1) := fun t => h ho t (o + 1) (by omega)
    have e2 : ∀ t : Nat, P t (o + 2) = Q t (o + 2) := fun t => h ho t (o + 2) (by omega)
    unfold pStm
    simp only [pSts_c e1, pSw_c e2, e1]
  · have ho' : ¬ o < 59 := by omega
    unfold pStm
    simp only [ho, ho', if_false, and_false]
theorem st_lv (k : Nat → Int) : ∀ (m t : Nat) (o : Int), 60 ≤ o + m → pSt k (m + 2) t o = pSt k (m + 1) t o := by
  intro m
  induction m with
  | zero =>
    intro t o ho
    show pStm (pSt k 1) k t o = pStm (pSt k 0) k t o
    exact pStm_c (fun q => by exfalso; omega) t
  | succ m ih =>
    intro t o ho
    show pStm (pSt k (m + 2)) k t o = pStm (pSt k (m + 1)) k t o
    exact pStm_c (fun _ t' o' q => ih t' o' (by omega)) t
theorem st_eq (h0 : 0 ≤ o) (t : Nat) : pSt k 61 t o = pStm (pSt k 61) k t o := by
  show pStm (pSt k 60) k t o = pStm (pSt k 61) k t o
  exact pStm_c (fun _ t' o' q => (st_lv k 59 t' o' (by omega)).symm) t
theorem xs_all {ta : Nat → Nat → Int32} {c : Nat} (hT : RTk ta c) (hk : ∀ i : Nat, i < c → rkd ta i = k i) (hPl : RPl ta c) : ∀ n : Nat, HSt (RL_mp_statement n) n ta k c (pSt k 61)
  | 0 => fun _ _ _ _ h => h.elim
  | n + 1 => fun h1 h2 h3 h4 h => by
    rw [st_eq h1.2.2.2.2.1]
    exact sta_ok (xs_all hT hk hPl n) hT hk hPl h1 h2 h3 h4 h
end RQ
