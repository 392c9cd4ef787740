/-! THE REFERENCE: functions, the text whole -/
section RS
variable {k : Nat → Int} {ta : Nat → Nat → Int32} {c t N : Nat} {o : Int} {pf : Nat → Int32} {na ma wa : Nat → Nat → Int32} {pf' : Nat → Int32} {na' ma' wa' : Nat → Nat → Int32} {v xt : Int32}
theorem pPar_no (h : ¬ ((k t = 1 ∨ k t = 2) ∧ k (t + 1) = 16)) : pPar k o t = none := by unfold pPar; rw [if_neg h]
theorem pPar_r (h : (k t = 1 ∨ k t = 2) ∧ k (t + 1) = 16) (h1 : k (t + 2) = 91) : pPar k o t = if o < 60 ∧ k (t + 3) = 93 then some (.sub (.arg (k t).toNat) (.arg (t + 1)), t + 4) else none := by unfold pPar; rw [if_pos h, if_pos h1]
theorem pPar_n (h : (k t = 1 ∨ k t = 2) ∧ k (t + 1) = 16) (h1 : ¬ k (t + 2) = 91) : pPar k o t = some (.mul (.arg (k t).toNat) (.arg (t + 1)), t + 2) := by unfold pPar; rw [if_pos h, if_neg h1]
theorem par_ok2 (hT : RTk ta c) (hk : ∀ i : Nat, i < c → rkd ta i = k i) (hc : RCur pf c t o) (hN : (pf 13).toInt = (N : Int)) (hb : N ≤ t + 10000) (h : R_mp_parameter ta pf na ma wa pf' na' ma' wa' v xt) : OkSr (RepP k c) c t o (pPar k o t) N pf na ma wa pf' na' ma' wa' v xt := by
  have c1 := hc.2.2.1
  have c2 := hc.2.2.2.1
  have h0 := hc.2.2.2.2.1
  obtain ⟨-, -, -, -, -, kk6, kk7, -⟩ := rkd_b hT c1
  rw [hk t c1] at kk6 kk7
  obtain ⟨v2, h1, h⟩ | h := h
  · have ty := isType_r hT hc h1
    rw [hk t c1] at ty
    rcases h with ⟨h2, e0, e1, e2, e3, ev, ex⟩ | ⟨h2, z8, h3, z10, h4, h⟩
    · rw [pPar_no (fun q => by have := ty.2.mpr q.1; omega)]; exact ex
    · have yty : k t = 1 ∨ k t = 2 := ty.2.mp (by omega)
      have w7 := kk7 (kk6.mpr (by omega))
      rw [cn_of hc.1] at h3
      have hc2 := hc.st h4 (rlt hT hc (by rw [hk t c1]; omega))
      have d1 := hc2.2.2.1
      rcases h with ⟨pq1, h5, e0, e1, e2, e3, ev, ex⟩ | ⟨pf12, v14, h5, pf29, na30, ma31, v33, h6, ma44, h7, v49, h8, h⟩
      · rcases (name_r hT hc2 h5).2 with ⟨y1, y2, -⟩ | ⟨y1, y2⟩
        · exact absurd y2 (by decide)
        · rw [hk (t + 1) d1] at y1
          rw [pPar_no (fun q => y1 q.2)]; exact ex
      · obtain ⟨s1, s2⟩ := name_r hT hc2 h5
        rw [hk (t + 1) d1] at s2
        rcases s2 with ⟨y1, y2, y3, y4⟩ | ⟨y1, y2⟩
        · have hN2 : (pf12 13).toInt = (N : Int) := by rw [s1 13 (by decide) (by decide), pk_un (by decide)]; exact hN
          obtain ⟨m1, m2, m3, m4⟩ := make_r hN2 (by omega) (show (vp_nar .byte (42 : Int32).toInt8.toInt32).toInt = 42 from rfl) y3 h6
          have hc3 : RCur pf29 c (t + 2) o := y4.mk m3
          have d2 := hc3.2.2.1
          rw [cn_of m1] at h7
          have h7' : ma44 = vu ma31 22 N z8 := h7
          have wk0 : WKp pf wa pf29 wa := upd11_wk.tr (s1.wk.tr (mk_wk m3))
          have a0 : AgF na ma na30 ma44 0 N (-1) := (m4.ag (Or.inl (Nat.le_refl _))).tr (ag_at (fun f i hi => ⟨rfl, by rw [h7', vu_at hi]⟩) (Or.inl (Nat.le_refl _)))
          have q22 : (ma44 22 N).toInt = (((k t).toNat : Nat) : Int) - 1 := by rw [h7', vu_s, h3]; omega
          have w := is_r hT hc3 (by decide) mq_91 (by decide) h8
          rw [hk (t + 2) d2] at w
          rcases h with ⟨h9, e0, e1, e2, e3, ev, ex⟩ | ⟨h9, h⟩
          · have n91 : ¬ k (t + 2) = 91 := fun y => by have := w.2.mpr y; omega
            rw [pPar_n ⟨yty, y1⟩ n91, e0, e1, e2, e3, ev, ex]
            refine ⟨rfl, N + 1, m1, by simp only []; omega, by rw [m2]; rfl, hc3, ⟨by omega, m4.1.1.1, (k t).toNat, t + 1, ⟨m4.1.1.2, d1, y1⟩, ⟨q22, by omega⟩, Or.inl ⟨rfl, ?_⟩⟩, m4.1.2.2.1, a0, wk0⟩
            rw [m4.1.2.1]; decide
          · have y91 : k (t + 2) = 91 := w.2.mp (by omega)
            have hl := rlt hT hc3 (by rw [hk (t + 2) d2]; omega)
            rw [pPar_r ⟨yty, y1⟩ y91]
            rcases h with ⟨pq1, h10, e0, e1, e2, e3, ev, ex⟩ | ⟨pf56, h10, h⟩
            · rcases (opens_r hc3 hl h10).2 with ⟨u1, u2, u3⟩ | ⟨u1, u2⟩
              · exact absurd u2 (by decide)
              · rw [if_neg (fun q => u1 q.1)]; exact ex
            · obtain ⟨r1, r2⟩ := opens_r hc3 hl h10
              rcases r2 with ⟨u1, u2, u3⟩ | ⟨u1, u2⟩
              · have u3' : RCur pf56 c (t + 3) (o + 1) := u3
                have eo : o + 1 - 1 = o := by omega
                have cl := fun {p : Nat → Int32} {z : Int32} (y : R_mp_closes 1 (lby "]") ta pf56 p z) => closes_r hT u3' (by omega) (by decide) mq_93 (by decide) y
                rw [hk (t + 3) u3'.2.2.1, eo] at cl
                rcases h with ⟨pq1, h11, e0, e1, e2, e3, ev, ex⟩ | ⟨pf74, h11, na86, h12, e0, e1, e2, e3, ev, ex⟩
                · rcases (cl h11).2 with ⟨w1, w2, w3⟩ | ⟨w1, w2⟩
                  · exact absurd w2 (by decide)
                  · rw [if_neg (fun q => w1 q.2)]; exact ex
                · obtain ⟨p1, p2⟩ := cl h11
                  rcases p2 with ⟨w1, w2, w3⟩ | ⟨w1, w2⟩
                  · rw [cn_of m1] at h12
                    have h12' : na86 = vu na30 17 N 1 := h12
                    rw [if_pos ⟨u1, w1⟩, e0, e1, e2, e3, ev, ex]
                    refine ⟨rfl, N + 1, m1, by simp only []; omega, by rw [p1 13 (by decide) (by decide), r1 13 (by decide) (by decide), m2]; rfl, w3, ⟨by omega, ?_, (k t).toNat, t + 1, ⟨?_, d1, y1⟩, ⟨q22, by omega⟩, Or.inr ⟨rfl, ?_⟩⟩, ?_, ?_, wk0.tr (r1.wk.tr p1.wk)⟩
                    · rw [h12', vu_p (by omega)]; exact m4.1.1.1
                    · rw [h12', vu_p (by omega)]; exact m4.1.1.2
                    · rw [h12', vu_s]; decide
                    · rw [h12', vu_p (by omega)]; exact m4.1.2.2.1
                    · exact a0.tr (ag_at (fun f i hi => ⟨by rw [h12', vu_at hi], rfl⟩) (Or.inl (Nat.le_refl _)))
                  · exact absurd w2 (by decide)
              · exact absurd u2 (by decide)
        · exact absurd y2 (by decide)
  · exact h.elim
/-- from the block of a function on -/
def gFb (k : Nat → Int) (o : Int) (ty tn : Nat) (ps : Ast) (t1 : Nat) : Option (Ast × Nat) := if k t1 = 123 ∧ o < 60 then gMap (fun b => sNd 22 (.elem (.arg ty) (.arg tn)) (.elem ps b)) (gEnd k 125 (pSts (pSt k 61) k (o + 1) 2049 (t1 + 1))) else none
/-- within a function's brackets, and at their end -/
def FnB (k : Nat → Int) (c t N M t1 ty tn : Nat) (o : Int) (pS : Nat → Int32) (nS mS wS : Nat → Nat → Int32) (pf : Nat → Int32) (na ma wa : Nat → Nat → Int32) : Prop := (na 14 N).toInt = 41 ∧ ((na 15 N).toInt = (tn : Int) ∧ tn < c ∧ k tn = 16) ∧ (na 21 N).toInt = -1 ∧ ((ma 22 N).toInt = (ty : Int) - 1 ∧ (ty = 1 ∨ ty = 2 ∨ ty = 3)) ∧ AgF nS mS na ma 0 N (-1) ∧ WKp pS wS pf wa ∧ RCur pf c t1 (o + 1) ∧ RW pf o ∧ (pf 13).toInt = (M : Int) ∧ M + t ≤ N + t1 ∧ N < M ∧ t < t1
theorem nd_inj {g : Nat} {a b a' b' : Ast} (h : sNd g a b = sNd g a' b') : a = a' ∧ b = b' := by
  unfold sNd at h
  injection h with h1 h2
  injection h2 with h3 h4
  exact ⟨h3, h4⟩
variable {pS : Nat → Int32} {nS mS wS : Nat → Nat → Int32} {p0 p1 : Int32} {ty tn : Nat}
theorem fun_96 (hT : RTk ta c) (hk : ∀ i : Nat, i < c → rkd ta i = k i) (hPl : RPl ta c) (h0 : 0 ≤ o) (hb : N ≤ t + 10000) {ps : Ast} {M t3 n : Nat} {x1 : Int32} (B : FnB k c t N M t3 ty tn o pS nS mS wS pf na ma wa) (a1 : RowS na (RepP k c na ma) ps (na 17 N).toInt (N + 1) M) (hx : x1.toInt = (N : Int)) (h : E_mp_functionText ta p0 p1 pf' na' ma' wa' xt n 96 [x1] [] [] [] [] pf na ma wa) : OkI (RepI k c) c t o (if k t3 = 41 then gFb k o ty tn ps (t3 + 1) else none) N pS nS mS wS pf' na' ma' wa' xt := by
  obtain ⟨B1, B2, B3, B4, B5, B6, B7, B8, B9, B10, B11, B12⟩ := B
  obtain ⟨n, b1, hb1, h⟩ := iv_mp_functionText_96 h
  have c1 := B7.2.2.1
  have c2 := B7.2.2.2.1
  have eo : o + 1 - 1 = o := by omega
  have cl := fun {p : Nat → Int32} {z : Int32} (y : R_mp_closes 1 (lby ")") ta pf p z) => closes_r hT B7 (by omega) (by decide) mq_41 (by decide) y
  rw [hk t3 c1, eo] at cl
  rcases h with ⟨pq1, h1, e0, e1, e2, e3, ex⟩ | ⟨pf7, h1, h⟩
  · rcases (cl h1).2 with ⟨w1, w2, w3⟩ | ⟨w1, w2⟩
    · exact absurd w2 (by decide)
    · rw [if_neg w1]; exact OkI.thr ex
  · obtain ⟨r1, r2⟩ := cl h1
    rcases r2 with ⟨w1, w2, w3⟩ | ⟨w1, w2⟩
    · rw [if_pos w1]
      have hW1 : RW pf7 o := B8.sm r1 (Int.le_refl _)
      have hN1 : (pf7 13).toInt = (M : Int) := by rw [r1 13 (by decide) (by decide)]; exact B9
      have gg : gBlk (pSt k 61) k (t3 + 1) o = none → gFb k o ty tn ps (t3 + 1) = none := by
        unfold gBlk gFb
        by_cases q : k (t3 + 1) = 123 ∧ o < 60
        · rw [if_pos q, if_pos q]
          cases gEnd k 125 (pSts (pSt k 61) k (o + 1) 2049 (t3 + 1 + 1)) with
          | none => intro _; rfl
          | some r => intro y; exact absurd y (by simp [gMap])
        · rw [if_neg q, if_neg q]; exact id
      have gs : ∀ (l : Ast) (t4 : Nat), gBlk (pSt k 61) k (t3 + 1) o = some (sNd 0 l .null, t4) → gFb k o ty tn ps (t3 + 1) = some (sNd 22 (.elem (.arg ty) (.arg tn)) (.elem ps l), t4) := by
        intro l t4
        unfold gBlk gFb
        by_cases q : k (t3 + 1) = 123 ∧ o < 60
        · rw [if_pos q, if_pos q]
          cases gEnd k 125 (pSts (pSt k 61) k (o + 1) 2049 (t3 + 1 + 1)) with
          | none => intro y; exact absurd y (by simp [gMap])
          | some r =>
            intro y
            have y' : some (sNd 0 r.1 .null, r.2) = some (sNd 0 l .null, t4) := y
            injection y' with y'
            injection y' with y1 y2
            show some (sNd 22 (.elem (.arg ty) (.arg tn)) (.elem ps r.1), r.2) = _
            rw [(nd_inj y1).1, y2]
        · rw [if_neg q]; intro y; exact absurd y (by simp)
      rcases h with ⟨pq1, pq2, pq3, pq4, h2, e0, e1, e2, e3, ex⟩ | ⟨pf23, na24, ma25, wa26, v28, h2, ma45, h3, pf48, na49, h4, e0, e1, e2, e3, ex⟩
      · obtain ⟨lv, h2⟩ := h2
        rw [gg (blk_okr (xs_all hT hk hPl lv) hT hk w3 hW1 hN1 (by omega) h2).no]; exact OkI.thr ex
      · obtain ⟨lv, h2⟩ := h2
        have p := blk_okr (xs_all hT hk hPl lv) hT hk w3 hW1 hN1 (by omega) h2
        obtain ⟨g, hg⟩ := p.sm
        obtain ⟨s, t4⟩ := g
        rw [hg] at p
        obtain ⟨-, M2, p0', p1', p2, p3, ⟨l, q1, q2, q3⟩, p5, p6, p7⟩ := p
        simp only [] at p1' p3 q1
        subst q1
        rw [gs l t4 hg]
        rw [cn_of hx] at h3
        have h3' : ma45 = vu ma25 18 N v28 := h3
        have at' : ∀ f i : Nat, ¬ i = N → na24 f i = na24 f i ∧ ma45 f i = ma25 f i := fun f i hi => ⟨rfl, by rw [h3', vu_at hi]⟩
        have g2 := agN p6 B11
        rw [e0, e1, e2, e3, ex]
        refine ⟨pf23, na24, x1, ⟨rfl, M2, hx, by simp only []; omega, p2, p3, Or.inr (Or.inr ⟨lv, ty, tn, M, ps, l, rfl, by rw [g2.1]; exact B1, B4.2, ?_, by rw [g2.2.1]; exact B2, ?_, ?_, by omega, q2, ?_⟩), by rw [g2.2.2.2.1]; exact B3, B5.tr ((p6.le (Nat.le_refl _) (by omega)).tr (ag_at at' (Or.inl (Nat.le_refl _)))), B6.tr (r1.wk.tr p7)⟩, fun _ => h4⟩
        · rw [h3', vu_p (by omega), g2.2.2.2.2.2.2.2]; exact B4.1
        · rw [g2.2.2.1]
          exact row_kp _ _ _ _ a1 (fun i i1 i2 => ((p6 i (Nat.zero_le _) i2).2.2.2.2.2.2.2 (by omega)).1) (fun s l h i1 i2 i3 => rpp_kp i3 ((p6.le (Nat.zero_le _) i2).tr (ag_at at' (Or.inr (by omega)))))
        · rw [h3', vu_s]; exact p0'
        · exact row_kp _ _ _ _ q3 (fun i i1 i2 => rfl) (fun s l h i1 i2 i3 => rps_kp _ _ _ _ (-1) i3 ((ag_at (r := -1) at' (Or.inr (by omega))).s (Or.inl (by omega))) (by omega))
    · exact absurd w2 (by decide)
/-- the rest of the parameters behind v, and their ) -/
def gPr (k : Nat → Int) (o : Int) (n : Nat) (v : Ast) (t1 : Nat) : Option (Ast × Nat) := if k t1 = 44 then gMap (fun r => .add v r) (pPars k o n (t1 + 1)) else if k t1 = 41 then some (.add v .null, t1 + 1) else none
theorem pPars_s {n : Nat} : pPars k o (n + 1) t = gThen (pPar k o t) (gPr k o n) := by
  have un : pPars k o (n + 1) t = (match pPar k o t with
    | none => none
    | some (v, t1) => if k t1 = 44 then (match pPars k o n (t1 + 1) with
        | none => none
        | some (r, t2) => some (.add v r, t2)) else if k t1 = 41 then some (.add v .null, t1 + 1) else none) := by first | rfl | simp [pPars]
  rw [un]
  cases pPar k o t with
  | none => rfl
  | some r =>
    obtain ⟨e, t1⟩ := r
    show _ = gPr k o n e t1
    unfold gPr
    dsimp only
    by_cases q : k t1 = 44
    · rw [if_pos q, if_pos q]
      cases pPars k o n (t1 + 1) with
      | none => rfl
      | some s => rfl
    · rw [if_neg q, if_neg q]
/-- rows put together -/
def apR (a : Ast) (r : Ast) : Ast := match a with
  | .add x .null => .add x r
  | _ => r
theorem fun_65 (hT : RTk ta c) (hk : ∀ i : Nat, i < c → rkd ta i = k i) (hPl : RPl ta c) (h0 : 0 ≤ o) (hb : N ≤ t + 10000) : ∀ (n t1 lo M m : Nat) (F : Ast → Ast) (s : Ast) (x3 x4 : Int32) (pf : Nat → Int32) (na ma wa : Nat → Nat → Int32), E_mp_functionText ta p0 p1 pf' na' ma' wa' xt m 65 [x3, x4] [] [] [] [] pf na ma wa → x3.toInt = (N : Int) → x4.toInt = (lo : Int) → N < lo → FnB k c t N M t1 ty tn o pS nS mS wS pf na ma wa → RepP k c na ma s lo M → (na 21 lo).toInt = -1 → (∀ (r : Ast) (M' : Nat) (na2 ma2 : Nat → Nat → Int32), AgF na ma na2 ma2 0 lo (-1) → RowS na2 (RepP k c na2 ma2) r (lo : Int) lo M' → RowS na2 (RepP k c na2 ma2) (F r) (na2 17 N).toInt (N + 1) M') → c ≤ n + t1 → OkI (RepI k c) c t o (gThen (gPr k (o + 1) n s t1) (fun ps t2 => gFb k o ty tn (F ps) t2)) N pS nS mS wS pf' na' ma' wa' xt := by
  intro n
  induction n with
  | zero =>
    intro t1 lo M m F s x3 x4 pf na ma wa h hx3 hx4 hl B hE hm hF hf
    have := B.2.2.2.2.2.2.1.2.2.1
    exfalso; omega
  | succ n ih =>
    intro t1 lo M m F s x3 x4 pf na ma wa h hx3 hx4 hl B hE hm hF hf
    have B' := B
    obtain ⟨B1, B2, B3, B4, B5, B6, B7, B8, B9, B10, B11, B12⟩ := B'
    have c1 := B7.2.2.1
    have c2 := B7.2.2.2.1
    have hlm := hE.1
    obtain ⟨m, b61, h0', pf66, v68, h1, h⟩ := iv_mp_functionText_65 h
    obtain ⟨s1, s2⟩ := takes_r hT B7 (by decide) mq_44 (by decide) h1
    rw [hk t1 c1] at s2
    have hN6 : (pf66 13).toInt = (M : Int) := by rw [s1 13 (by decide) (by decide)]; exact B9
    rcases s2 with ⟨y1, y2, y3⟩ | ⟨y1, y2, y3⟩
    · rcases h with ⟨h2, h⟩ | ⟨h2, h⟩
      · exfalso; omega
      · have ge : gPr k (o + 1) (n + 1) s t1 = gMap (fun r => .add s r) (pPars k (o + 1) (n + 1) (t1 + 1)) := by unfold gPr; rw [if_pos y1]
        rw [ge, pPars_s]
        rcases h with ⟨pq1, pq2, pq3, pq4, h3, e0, e1, e2, e3, ex⟩ | ⟨pf85, na86, ma87, wa88, v90, h3, na106, h4, hE'⟩
        · rw [(par_ok2 hT hk y3 hN6 (by omega) h3).no]; exact OkI.thr ex
        · have q := par_ok2 hT hk y3 hN6 (by omega) h3
          obtain ⟨g, hg⟩ := q.sm
          obtain ⟨a, t2⟩ := g
          rw [hg] at q ⊢
          obtain ⟨-, N', z0, z1, z2, z3, z4, z5, z6, z7⟩ := q
          simp only [] at z1 z3 z4
          rw [cn_of hx4] at h4
          have h4' : na106 = vu na86 21 lo v90 := h4
          have g2 := agN z6 (show N < M by omega)
          have eg : gThen (gMap (fun r => .add s r) (gThen (some (a, t2)) (gPr k (o + 1) n))) (fun ps t2 => gFb k o ty tn (F ps) t2) = gThen (gPr k (o + 1) n a t2) (fun ps t2 => gFb k o ty tn (F (.add s ps)) t2) := by
            show gThen (gMap (fun r => .add s r) (gPr k (o + 1) n a t2)) _ = _
            cases gPr k (o + 1) n a t2 with
            | none => rfl
            | some r => rfl
          rw [eg]
          refine ih t2 M N' m (fun r => F (.add s r)) a x3 v90 pf85 na106 ma87 wa88 hE' hx3 z0 (by omega) ⟨?_, ?_, ?_, ?_, ?_, B6.tr (s1.wk.tr z7), z3, (B8.sm s1 (Int.le_refl _)).wk z7, z2, by omega, by omega, by omega⟩ (rpp_kp z4 (ag_21 h4')) (by rw [h4', vu_p (by omega)]; exact z5) ?_ (by omega)
          · rw [h4', vu_p (by omega), g2.1]; exact B1
          · rw [h4', vu_p (by omega), g2.2.1]; exact B2
          · rw [h4', vu_p (by omega), g2.2.2.2.1]; exact B3
          · rw [g2.2.2.2.2.2.2.2]; exact B4
          · exact B5.tr ((z6.le (Nat.le_refl _) (by omega)).tr ((ag_21 h4').ot (Or.inr (by omega))))
          · intro r M' na2 ma2 q1 q2
            have e21 : na2 21 lo = v90 := by
              rw [((q1 lo (Nat.zero_le _) (by omega)).2.2.2.2.2.2.2 (by omega)).1, h4', vu_s]
            refine hF (.add s r) M' na2 ma2 ?_ ⟨M, rfl, ⟨hlm, row_le q2⟩, ?_, ?_⟩
            · exact (z6.le (Nat.le_refl _) (by omega)).tr (((ag_21 h4').ot (Or.inr (Int.le_refl _))).tr (q1.le (Nat.le_refl _) (by omega)))
            · exact rpp_kp hE (((z6.le (Nat.zero_le _) (Nat.le_refl _)).ot (Or.inl (by omega))).tr ((ag_21 h4').tr ((q1.le (Nat.zero_le _) (Nat.le_refl _)).ot (Or.inl (by omega)))))
            · rw [e21, z0]; exact q2
    · rcases h with ⟨h2, hE'⟩ | ⟨h2, h⟩
      · have ge : gPr k (o + 1) (n + 1) s t1 = if k t1 = 41 then some (.add s .null, t1 + 1) else none := by unfold gPr; rw [if_neg y1]
        rw [ge, gThen_if]
        exact fun_96 hT hk hPl h0 hb ⟨B1, B2, B3, B4, B5, B6.tr s1.wk, y3, B8.sm s1 (Int.le_refl _), hN6, B10, B11, B12⟩ (hF (.add s .null) M na ma AgF.rf ⟨M, rfl, ⟨hlm, Nat.le_refl _⟩, hE, by omega, Nat.le_refl _⟩) hx3 hE'
      · exact absurd y2 h2
theorem fun_ok (hT : RTk ta c) (hk : ∀ i : Nat, i < c → rkd ta i = k i) (hPl : RPl ta c) {t0 : Nat} (ht : t0 + 2 = t) (hp : p0.toInt = (ty : Int) - 1 ∧ (ty = 1 ∨ ty = 2 ∨ ty = 3)) (hq : p1.toInt = ((t0 + 1 : Nat) : Int) ∧ k (t0 + 1) = 16) (h40 : k t = 40) (hc : RCur pf c t o) (hW : RW pf o) (hN : (pf 13).toInt = (N : Int)) (hb : N ≤ t0 + 10000) (h : R_mp_functionText ta p0 p1 pf na ma wa pf' na' ma' wa' xt) : OkI (RepI k c) c t0 o (gThen (pHead k (t0 + 1) o) (fun ps t1 => gFb k o ty (t0 + 1) ps t1)) N pf na ma wa pf' na' ma' wa' xt := by
  subst ht
  have c1 := hc.2.2.1
  have c2 := hc.2.2.2.1
  have h0 := hc.2.2.2.2.1
  obtain ⟨n, h⟩ := h
  obtain ⟨n, pf110, na111, ma112, v114, h1, ma125, h2, h⟩ := iv_mp_functionText_0 h
  obtain ⟨m1, m2, m3, m4⟩ := make_r hN (by omega) (show (vp_nar .byte (41 : Int32).toInt8.toInt32).toInt = 41 from rfl) hq.1 h1
  have hc1 := hc.mk m3
  rw [cn_of m1] at h2
  have h2' : ma125 = vu ma112 22 N p0 := h2
  have om := fun {p : Nat → Int32} {z : Int32} (y : R_mp_opensMark 1 (lby "(") ta pf110 p z) => opensMark_r hT hc1 (by decide) mq_40 (by decide) y
  rw [hk (t0 + 2) c1] at om
  have a0 : AgF na ma na111 ma125 0 N (-1) := (m4.ag (Or.inl (Nat.le_refl _))).tr (ag_at (fun f i hi => ⟨rfl, by rw [h2', vu_at hi]⟩) (Or.inl (Nat.le_refl _)))
  have q22 : (ma125 22 N).toInt = (ty : Int) - 1 := by rw [h2', vu_s]; exact hp.1
  have q17 : (na111 17 N).toInt < 0 := by rw [m4.1.2.1]; decide
  unfold pHead
  rcases h with ⟨pq1, h3, e0, e1, e2, e3, ex⟩ | ⟨pf130, h3, v145, h4, h⟩
  · rcases (om h3).2 with ⟨y1, y2, y3⟩ | ⟨y1, y2⟩
    · exact absurd y2 (by decide)
    · rw [if_neg (fun q => y1 ⟨h40, q⟩)]; exact OkI.thr ex
  · obtain ⟨s1, s2⟩ := om h3
    rcases s2 with ⟨y1, y2, y3⟩ | ⟨y1, y2⟩
    · rw [if_pos y1.2]
      have y3' : RCur pf130 c (t0 + 3) (o + 1) := y3
      have d1 := y3'.2.2.1
      have hW0 : RW pf130 o := (hW.mk m3).sm s1 (Int.le_refl _)
      have hN1 : (pf130 13).toInt = ((N + 1 : Nat) : Int) := by rw [s1 13 (by decide) (by decide), m2]; rfl
      have wk0 : WKp pf wa pf130 wa := (mk_wk m3).tr s1.wk
      have w := isKey_r hT y3' (by decide) h4
      rw [hk (t0 + 3) d1, show ((2 : Int32).toInt + 1 : Int) = 3 from rfl] at w
      have base : FnB k c t0 N (N + 1) (t0 + 3) ty (t0 + 1) o pf na ma wa pf130 na111 ma125 wa := ⟨m4.1.1.1, ⟨m4.1.1.2, by omega, hq.2⟩, m4.1.2.2.1, ⟨q22, hp.2⟩, a0, wk0, y3', hW0, hN1, by omega, by omega, by omega⟩
      show OkI (RepI k c) c t0 o (gThen (if k (t0 + 3) = 41 then some (Term.null, t0 + 4) else if k (t0 + 3) = 3 then (if k (t0 + 4) = 41 then some (Term.null, t0 + 5) else none) else pPars k (o + 1) 2048 (t0 + 3)) (fun ps t1 => gFb k o ty (t0 + 1) ps t1)) N pf na ma wa pf' na' ma' wa' xt
      rcases h with ⟨h5, v155, h6, h⟩ | ⟨h5, z188, h6, hE⟩
      · have n3 : ¬ k (t0 + 3) = 3 := fun y => by have := w.2.mpr y; omega
        have u := is_r hT y3' (by decide) mq_41 (by decide) h6
        rw [hk (t0 + 3) d1] at u
        rcases h with ⟨h7, hE⟩ | ⟨h7, h⟩
        · have y41 : k (t0 + 3) = 41 := u.2.mp (by omega)
          rw [if_pos y41]
          have q := fun_96 hT hk hPl h0 hb base (ps := .null) ⟨q17, Nat.le_refl _⟩ m1 hE
          rw [if_pos y41] at q
          exact q
        · have n41 : ¬ k (t0 + 3) = 41 := fun y => by have := u.2.mpr y; omega
          rw [if_neg n41, if_neg n3, show (2048 : Nat) = 2047 + 1 from rfl, pPars_s]
          rcases h with ⟨pq1, pq2, pq3, pq4, h8, e0, e1, e2, e3, ex⟩ | ⟨pf165, na166, ma167, wa168, v170, h8, na186, h9, hE⟩
          · rw [(par_ok2 hT hk y3' hN1 (by omega) h8).no]; exact OkI.thr ex
          · have q := par_ok2 hT hk y3' hN1 (by omega) h8
            obtain ⟨g, hg⟩ := q.sm
            obtain ⟨a, t2⟩ := g
            rw [hg] at q ⊢
            obtain ⟨-, N', z0, z1, z2, z3, z4, z5, z6, z7⟩ := q
            simp only [] at z1 z3 z4
            rw [cn_of m1] at h9
            have h9' : na186 = vu na166 17 N v170 := h9
            have at' : ∀ f i : Nat, ¬ i = N → na186 f i = na166 f i ∧ ma167 f i = ma167 f i := fun f i hi => ⟨by rw [h9', vu_at hi], rfl⟩
            have g2 := agN z6 (show N < N + 1 by omega)
            show OkI (RepI k c) c t0 o (gThen (gPr k (o + 1) 2047 a t2) (fun ps t1 => gFb k o ty (t0 + 1) ps t1)) N pf na ma wa pf' na' ma' wa' xt
            refine fun_65 hT hk hPl h0 hb 2047 t2 (N + 1) N' n (fun r => r) a v114 v170 pf165 na186 ma167 wa168 hE m1 z0 (by omega) ⟨?_, ?_, ?_, ?_, ?_, wk0.tr z7, z3, hW0.wk z7, z2, by omega, by omega, by omega⟩ (rpp_kp z4 (ag_at (r := -1) at' (Or.inr (by omega)))) (by rw [(at' 21 (N + 1) (by omega)).1]; exact z5) ?_ (by omega)
            · rw [h9', vu_p (by omega), g2.1]; exact m4.1.1.1
            · rw [h9', vu_p (by omega), g2.2.1]; exact ⟨m4.1.1.2, by omega, hq.2⟩
            · rw [h9', vu_p (by omega), g2.2.2.2.1]; exact m4.1.2.2.1
            · rw [g2.2.2.2.2.2.2.2]; exact ⟨q22, hp.2⟩
            · exact a0.tr ((z6.le (Nat.le_refl _) (by omega)).tr (ag_at at' (Or.inl (Nat.le_refl _))))
            · intro r M' na2 ma2 q1 q2
              have e17 : (na2 17 N).toInt = ((N + 1 : Nat) : Int) := by rw [(agN q1 (show N < N + 1 by omega)).2.2.1, h9', vu_s]; exact z0
              show RowS na2 (RepP k c na2 ma2) r (na2 17 N).toInt (N + 1) M'
              rw [e17]; exact q2
      · have y3k : k (t0 + 3) = 3 := w.2.mp (by omega)
        rw [if_neg (by omega), if_pos y3k]
        have hc5 := y3'.st h6 (rlt hT y3' (by rw [hk (t0 + 3) d1]; omega))
        have q := fun_96 hT hk hPl h0 hb (t3 := t0 + 4) (M := N + 1) ⟨m4.1.1.1, ⟨m4.1.1.2, by omega, hq.2⟩, m4.1.2.2.1, ⟨q22, hp.2⟩, a0, wk0.tr upd11_wk, hc5, upd11_rw hW0, by rw [pk_un (by decide)]; exact hN1, by omega, by omega, by omega⟩ (ps := .null) ⟨q17, Nat.le_refl _⟩ m1 hE
        rw [gThen_if]
        exact q
    · exact absurd y2 (by decide)
end RS
