/-! THE REFERENCE: prefixes -/
def gMap (F : Ast → Ast) (g : Option (Ast × Nat)) : Option (Ast × Nat) := match g with
  | none => none
  | some r => some (F r.1, r.2)
/-- tokens t + m - 1 down to t are put before it -/
def preN (t : Nat) : Nat → Option (Ast × Nat) → Option (Ast × Nat)
  | 0, g => g
  | m + 1, g => preN t m (gMap (ePre (t + m)) g)
theorem preN_no {t : Nat} : ∀ m : Nat, preN t m none = none := by
  intro m
  induction m with
  | zero => rfl
  | succ m ih => exact ih
section RG
variable {RLe : T_mp_expression} {RLc : T_mp_conditional} {PP : PPT} {k : Nat → Int} {ta : Nat → Nat → Int32} {c t N : Nat} {o : Int} {pf : Nat → Int32} {na ma wa : Nat → Nat → Int32} {pf' : Nat → Int32} {na' ma' wa' : Nat → Nat → Int32} {v xt : Int32}
theorem dp_prer {j : Nat} {e : Ast} : dpT k (.mul (.arg j) e) = if k j = 43 then dpT k e else dpT k e + 1 := by first | rfl | simp [dpT]
theorem op_pre (h0 : 0 ≤ o) (hp : isPre (k t)) (ho : o < 60) : (pBoth k 62).2 t o = gMap (ePre t) ((pBoth k 62).2 (t + 1) (o + 1)) := by
  have hp' : k t = 45 ∨ k t = 43 ∨ k t = 33 ∨ k t = 126 ∨ k t = 138 ∨ k t = 139 := hp
  rw [(pE_eq k h0).2 t]
  unfold pOper
  rw [if_pos hp', if_pos ho]
  cases (pBoth k 62).2 (t + 1) (o + 1) with
  | none => rfl
  | some r => rfl
theorem op_full (h0 : 0 ≤ o) (hp : isPre (k t)) (ho : ¬ o < 60) : (pBoth k 62).2 t o = none := by
  have hp' : k t = 45 ∨ k t = 43 ∨ k t = 33 ∨ k t = 126 ∨ k t = 138 ∨ k t = 139 := hp
  rw [(pE_eq k h0).2 t]
  unfold pOper
  rw [if_pos hp', if_neg ho]
theorem op_no (h0 : 0 ≤ o) (hp : ¬ isPre (k t)) : (pBoth k 62).2 t o = gPost (pBoth k 62).1 k t o := by
  have hp' : ¬ (k t = 45 ∨ k t = 43 ∨ k t = 33 ∨ k t = 126 ∨ k t = 138 ∨ k t = 139) := hp
  rw [(pE_eq k h0).2 t]
  unfold pOper gPost
  rw [if_neg hp']
  cases pPrim (pBoth k 62).1 k t o with
  | none => rfl
  | some r => rfl
/-- field 23 of n set, then field 17 -/
def upq (na : Nat → Nat → Int32) (n : Nat) (a b : Int32) : Nat → Nat → Int32 := va_up (va_up na 23 (upd (na 23) n a)) 17 (upd ((va_up na 23 (upd (na 23) n a)) 17) n b)
theorem upq_o {n f i : Nat} {a b : Int32} (h : ¬ i = n) : upq na n a b f i = na f i := by unfold upq; rw [vau_o h, vau_o h]
theorem upq_f {n f i : Nat} {a b : Int32} (h1 : ¬ f = 17) (h2 : ¬ f = 23) : upq na n a b f i = na f i := by unfold upq; rw [vau_n h1, vau_n h2]
theorem upq_23 {n : Nat} {a b : Int32} : upq na n a b 23 n = a := by unfold upq; rw [vau_n (by decide), vau_s]
theorem upq_17 {n : Nat} {a b : Int32} : upq na n a b 17 n = b := by unfold upq; rw [vau_s]
theorem pre_mk {e : Ast} {t1 s : Nat} {pf5 : Nat → Int32} {na6 ma7 wa8 : Nat → Nat → Int32} {v10 : Int32} (hsp : isPre (k s)) (hb : N ≤ s + 10001) (q : OkR k c (s + 1) o (some (e, t1)) N pf na ma wa pf5 na6 ma7 wa8 v10 0) {x4 : Int32} (hx : x4.toInt = (s : Int)) {pf8 : Nat → Int32} {na9 ma10 : Nat → Nat → Int32} {v12 z : Int32} (h : R_mp_make (5 : Int32) x4 pf5 na6 ma7 pf8 na9 ma10 v12) (hz : z.toInt = dpT k (ePre s e)) : OkR k c s o (some (ePre s e, t1)) N pf na ma wa pf8 (upq na9 v12.toNatClampNeg z v10) ma10 wa8 v12 0 := by
  obtain ⟨-, N', i, q1, q2, q3, q4, q5, q6, q7, q8, q9, q10, q11⟩ := q
  simp only [] at q2 q4 q5 q6 q8 q9
  have c4 := q4.2.2.2.1
  have c5 := q4.2.2.1
  obtain ⟨m1, m2, m3, m4⟩ := make_r q3 (by omega) (show (vp_nar .byte (5 : Int32).toInt8.toInt32).toInt = 5 from rfl) hx h
  have hc1 := q4.mk m3
  rw [cn_of m1]
  have d0 := dpT_nn k e
  have dd : dpT k (ePre s e) = if k s = 43 then dpT k e else dpT k e + 1 := dp_prer
  have dl : dpT k e ≤ dpT k (ePre s e) ∧ dpT k (ePre s e) ≤ dpT k e + 1 := by
    rw [dd]
    split <;> omega
  have a1 : ∀ f j : Nat, ¬ j = N' → upq na9 N' z v10 f j = na6 f j ∧ ma10 f j = ma7 f j := fun f j hj => ⟨(upq_o hj).trans (m4.2 f j hj).1, (m4.2 f j hj).2⟩
  refine ⟨rfl, N' + 1, N', m1, by simp only []; omega, by rw [m2]; rfl, hc1, rfl, ⟨N', i, rfl, by omega, ⟨?_, ?_⟩, ?_, ⟨by omega, hsp, q5⟩, ⟨?_, by omega, by omega, ?_, ?_⟩, ?_⟩, ⟨?_, ?_⟩, ?_, by simp only []; omega, ?_, q11.tr (mk_wk m3)⟩
  · rw [upq_f (by decide) (by decide)]; exact m4.1.1.1
  · rw [upq_f (by decide) (by decide)]; exact m4.1.1.2
  · rw [upq_23]; exact hz
  · rw [upq_17]; exact q1
  · rw [(a1 21 i (by omega)).1]; exact q7.1
  · rw [(a1 20 i (by omega)).2]; exact q7.2
  · exact rep_kp _ _ _ _ _ _ q6 (fun _ => ag_at a1 (Or.inl (Nat.le_refl _))) (fun z => absurd z (by decide))
  · rw [upq_f (by decide) (by decide)]; exact m4.1.2.2.1
  · exact m4.1.2.2.2.2.2.2.1
  · rw [upq_23]; exact hz
  · exact q10.tr (ag_at a1 (Or.inl (by omega)))
theorem una_36 (hk : ∀ i : Nat, i < c → rkd ta i = k i) (hPl : RPl ta c) {M : Nat} {na0 ma0 wa0 : Nat → Nat → Int32} {pf0 : Nat → Int32} {nS mS wS : Nat → Nat → Int32} (h0 : 0 ≤ o) (hb : N ≤ t + 10001) : ∀ (m n : Nat) (e : Ast) (t1 : Nat) (x1 x2 x3 x4 : Int32) (pf : Nat → Int32) (na ma wa : Nat → Nat → Int32), E_mp_unary RLe RLc ta pf' na' ma' wa' v xt na0 ma0 wa0 n 36 [x1, x2, x3, x4] [] [] [] [] pf na ma wa → x1.toInt = (t : Int) → x2.toInt = (M : Int) → x4.toInt = (t : Int) + (m : Int) - 1 → (∀ j : Nat, j < m → isPre (k (t + j))) → OkR k c (t + m) (o + (M : Int)) (some (e, t1)) N pf0 nS mS wS pf na ma wa x3 0 → OkR k c t o (preN t m (some (e, t1))) N pf0 nS mS wS pf' na' ma' wa' v xt := by
  intro m
  induction m with
  | zero =>
    intro n e t1 x1 x2 x3 x4 pf na ma wa h hx1 hx2 hx4 hps q
    obtain ⟨n, h⟩ := iv_mp_unary_36 h
    show OkR k c t o (some (e, t1)) N pf0 nS mS wS pf' na' ma' wa' v xt
    rcases h with ⟨h1, z4, h2, e0, e1, e2, e3, ev, ex⟩ | ⟨h1, h⟩
    · obtain ⟨-, N', i, q1, q2, q3, q4, q5, q6, q7, q8, q9, q10, q11⟩ := q
      simp only [] at q2 q4 q5 q6 q8 q9
      have c6 := q4.2.2.2.2.2
      have z := ti_sub h2 q4.2.1 hx2 (by omega) (by omega)
      rw [e0, e1, e2, e3, ev, ex]
      refine ⟨rfl, N', i, q1, by simp only []; omega, ?_, ⟨?_, ?_, q4.2.2.1, q4.2.2.2.1, h0, by omega⟩, q5, q6, q7, q8, by simp only []; omega, q10, q11.tr ⟨fun i _ b _ _ => pk_un b, by rw [pk_un (by decide)], fun _ _ _ => rfl⟩⟩
      · rw [pk_un (by decide)]; exact q3
      · rw [pk_un (by decide)]; exact q4.1
      · rw [pk_us]; omega
    · exfalso; omega
  | succ m ih =>
    intro n e t1 x1 x2 x3 x4 pf na ma wa h hx1 hx2 hx4 hps q
    obtain ⟨n, h⟩ := iv_mp_unary_36 h
    show OkR k c t o (preN t m (some (ePre (t + m) e, t1))) N pf0 nS mS wS pf' na' ma' wa' v xt
    have q' := q
    obtain ⟨-, N', i, q1, q2, q3, q4, q5, q6, q7, q8, q9, q10, q11⟩ := q'
    simp only [] at q2 q4 q5 q6 q8 q9
    have c5 := q4.2.2.1
    have c4 := q4.2.2.2.1
    have htc : t + m < c := by omega
    have hx4' : x4.toInt = ((t + m : Nat) : Int) := by omega
    have sp := hps m (Nat.lt_succ_self m)
    have hps' : ∀ j : Nat, j < m → isPre (k (t + j)) := fun j hj => hps j (by omega)
    rcases h with ⟨h1, h⟩ | ⟨h1, pf8, na9, ma10, v12, h2, v24, h3, h⟩
    · exfalso; omega
    · obtain ⟨m1, m2, m3, m4⟩ := make_r q3 (by omega) (show (vp_nar .byte (5 : Int32).toInt8.toInt32).toInt = 5 from rfl) hx4' h2
      have g := isNothing_r hPl hx4' htc h3
      rw [hk (t + m) htc] at g
      have dd : dpT k (ePre (t + m) e) = if k (t + m) = 43 then dpT k e else dpT k e + 1 := dp_prer
      rcases h with ⟨h4, z30, h5, z31, h6, z32, h7, hE⟩ | ⟨h4, z33, h5, z34, h6, hE⟩
      · rw [cn_of q1, (m4.2 23 i (by omega)).1] at h5
        have n43 : ¬ k (t + m) = 43 := fun y => by have := g.2.mpr y; omega
        rw [if_neg n43] at dd
        have zz := ti_add h6 (show (1 : Int32).toInt = 1 from rfl) (show z30.toInt = dpT k e by rw [h5]; exact q8) (by omega) (by omega)
        have z7 := ti_add h7 hx4' (show (-1 : Int32).toInt = -1 from rfl) (by omega) (by omega)
        exact ih n (ePre (t + m) e) t1 x1 x2 v12 z32 pf8 (upq na9 v12.toNatClampNeg z31 x3) ma10 wa hE hx1 hx2 (by omega) hps' (pre_mk (s := t + m) sp (by omega) q hx4' h2 (by omega))
      · rw [cn_of q1, (m4.2 23 i (by omega)).1] at h5
        have y43 : k (t + m) = 43 := g.2.mp (by omega)
        rw [if_pos y43] at dd
        have zz : z33.toInt = dpT k e := by rw [h5]; exact q8
        have z7 := ti_add h6 hx4' (show (-1 : Int32).toInt = -1 from rfl) (by omega) (by omega)
        exact ih n (ePre (t + m) e) t1 x1 x2 v12 z34 pf8 (upq na9 v12.toNatClampNeg z33 x3) ma10 wa hE hx1 hx2 (by omega) hps' (pre_mk (s := t + m) sp (by omega) q hx4' h2 (by omega))
theorem una_7 (hP : HPr RLe ta k c (pBoth k 62).1) (hT : RTk ta c) (hk : ∀ i : Nat, i < c → rkd ta i = k i) (hPl : RPl ta c) (h0 : 0 ≤ o) (hb : N ≤ t + 10001) {pf0 : Nat → Int32} : ∀ (d m n : Nat) (x1 x2 : Int32) (pf : Nat → Int32), E_mp_unary RLe RLc ta pf' na' ma' wa' v xt na ma wa n 7 [x1, x2] [] [] [] [] pf na ma wa → x1.toInt = (t : Int) → x2.toInt = (m : Int) → (∀ j : Nat, j < m → isPre (k (t + j))) → RCur pf c (t + m) (o + (m : Int)) → RW pf (o + (m : Int)) → (pf 13).toInt = (N : Int) → RSm pf0 pf → c ≤ t + m + d → OkR k c t o (preN t m ((pBoth k 62).2 (t + m) (o + (m : Int)))) N pf0 na ma wa pf' na' ma' wa' v xt := by
  intro d
  induction d with
  | zero =>
    intro m n x1 x2 pf h hx1 hx2 hps hc hW hN hs hd
    have := hc.2.2.1
    exfalso; omega
  | succ d ih =>
    intro m n x1 x2 pf h hx1 hx2 hps hc hW hN hs hd
    obtain ⟨n, v36, h1, h⟩ := iv_mp_unary_7 h
    have c1 := hc.2.2.1
    have c4 := hc.2.2.2.1
    have c5 := hc.2.2.2.2.2
    have w := isPrefix_r hT hc h1
    rw [hk (t + m) c1] at w
    rcases h with ⟨h2, h⟩ | ⟨h2, h⟩
    · have np : ¬ isPre (k (t + m)) := fun y => by have := w.2.mpr y; omega
      rw [op_no (by omega) np]
      rcases h with ⟨pq1, pq2, pq3, pq4, h3, e0, e1, e2, e3, ev, ex⟩ | ⟨pf46, na47, ma48, wa49, v51, h3, z66, h4, z67, h5, hE⟩
      · rw [(pst_okr hW hP (cal_okr hP hT hk) hT hk hc hN (by omega) h3).no, preN_no]; exact ex
      · have q := (pst_okr hW hP (cal_okr hP hT hk) hT hk hc hN (by omega) h3).pre hs
        obtain ⟨r, hg⟩ := q.sm
        obtain ⟨e, t1⟩ := r
        rw [hg] at q ⊢
        have z6 := ti_add h4 hx1 hx2 (by omega) (by omega)
        have z7 := ti_sub h5 z6 (show (1 : Int32).toInt = 1 from rfl) (by omega) (by omega)
        exact una_36 hk hPl h0 hb m n e t1 x1 x2 v51 z67 pf46 na47 ma48 wa49 hE hx1 hx2 (by omega) hps q
    · have yp : isPre (k (t + m)) := w.2.mp (by omega)
      have hl := rlt hT hc (by rw [hk (t + m) c1]; have y := yp; unfold isPre at y; omega)
      rcases h with ⟨pq1, h3, e0, e1, e2, e3, ev, ex⟩ | ⟨pf69, h3, z83, h4, hE⟩
      · obtain ⟨u1, u2⟩ := opens_r hc hl h3
        rcases u2 with ⟨y1, y2, y3⟩ | ⟨y1, y2⟩
        · exact absurd y2 (by decide)
        · rw [op_full (by omega) yp y1, preN_no]; exact ex
      · obtain ⟨u1, u2⟩ := opens_r hc hl h3
        rcases u2 with ⟨y1, y2, y3⟩ | ⟨y1, y2⟩
        · have eo : o + (m : Int) + 1 = o + ((m + 1 : Nat) : Int) := by omega
          have z8 := ti_add h4 hx2 (show (1 : Int32).toInt = 1 from rfl) (by omega) (by omega)
          rw [op_pre (by omega) yp y1, eo]
          rw [eo] at y3
          exact ih (m + 1) n x1 z83 pf69 hE hx1 (by omega) (fun j hj => by
            rcases Nat.eq_or_lt_of_le (Nat.le_of_lt_succ hj) with q | q
            · rw [q]; exact yp
            · exact hps j q) y3 (hW.sm u1 (by omega)) (by rw [u1 13 (by decide) (by decide)]; exact hN) (hs.tr u1) (by omega)
        · exact absurd y2 (by decide)
theorem una_ok (hW : RW pf o) (hP : HPr RLe ta k c (pBoth k 62).1) (hT : RTk ta c) (hk : ∀ i : Nat, i < c → rkd ta i = k i) (hPl : RPl ta c) (hc : RCur pf c t o) (hN : (pf 13).toInt = (N : Int)) (hb : N ≤ t + 10001) (h : R_mp_unary RLe RLc ta pf na ma wa pf' na' ma' wa' v xt) : OkR k c t o ((pBoth k 62).2 t o) N pf na ma wa pf' na' ma' wa' v xt := by
  have h0 := hc.2.2.2.2.1
  obtain ⟨n, h⟩ := h
  obtain ⟨n, h⟩ := iv_mp_unary_0 h
  have e0 : o + ((0 : Nat) : Int) = o := by omega
  have q := una_7 hP hT hk hPl h0 hb (pf0 := pf) c 0 n (pf 11) 0 pf h hc.1 rfl (fun j hj => absurd hj (Nat.not_lt_zero _)) (by rw [e0]; exact hc) (by rw [e0]; exact hW) hN RSm.rf (by omega)
  rw [e0] at q
  exact q
end RG
