/-! THE REFERENCE: a call and its row of arguments -/
def gRest (PP : PPT) (k : Nat → Int) (o : Int) (n : Nat) (e : Ast) (t1 : Nat) : Option (Ast × Nat) := if k t1 = 44 then (match pArgs PP k o n (t1 + 1) with
        | none => none
        | some (r, t2) => some (eCons e r, t2)) else some (eCons e eNil, t1)
theorem pArgs_s {PP : PPT} {k : Nat → Int} {o : Int} {n t : Nat} : pArgs PP k o (n + 1) t = (match PP (-1) t o with
    | none => none
    | some (e, t1) => gRest PP k o n e t1) := by
  unfold gRest
  rfl
def gClose (k : Nat → Int) (g : Option (Ast × Nat)) : Option (Ast × Nat) := match g with
  | none => none
  | some r => if k r.2 = 41 then some (r.1, r.2 + 1) else none
/-- what lies below lo stays, but the depth of node N -/
def CgN (na ma na' ma' : Nat → Nat → Int32) (N lo : Nat) : Prop := AgF na ma na' ma' 0 N (-1) ∧ AgF na ma na' ma' (N + 1) lo (-1) ∧ na' 14 N = na 14 N ∧ na' 15 N = na 15 N ∧ na' 17 N = na 17 N ∧ na' 21 N = na 21 N ∧ ma' 20 N = ma 20 N
theorem CgN.tr {na ma na1 ma1 na2 ma2 : Nat → Nat → Int32} {N lo lo' : Nat} (h : CgN na ma na1 ma1 N lo) (g : CgN na1 ma1 na2 ma2 N lo') (hl : lo ≤ lo') : CgN na ma na2 ma2 N lo := ⟨h.1.tr g.1, h.2.1.tr (g.2.1.le (Nat.le_refl _) hl), g.2.2.1.trans h.2.2.1, g.2.2.2.1.trans h.2.2.2.1, g.2.2.2.2.1.trans h.2.2.2.2.1, g.2.2.2.2.2.1.trans h.2.2.2.2.2.1, g.2.2.2.2.2.2.trans h.2.2.2.2.2.2⟩
def OkA (k : Nat → Int) (c t0 : Nat) (o : Int) (g : Option (Ast × Nat)) (b N j lo hi : Nat) (pf : Nat → Int32) (na ma wa : Nat → Nat → Int32) (pf' : Nat → Int32) (na' ma' wa' : Nat → Nat → Int32) (v xt : Int32) : Prop :=
  match g with
  | none => xt = 1
  | some r => xt = 0 ∧ ∃ N' : Nat, v.toInt = (N : Int) ∧ (hi ≤ N' ∧ N' + t0 ≤ hi + r.2 ∧ t0 < r.2 ∧ dpT k r.1 + (b : Int) ≤ (r.2 : Int)) ∧ (pf' 13).toInt = (N' : Int) ∧ RCur pf' c r.2 o ∧ Rep k c na' ma' r.1 false (j : Int) 0 lo N' ∧ (na' 23 N).toInt = max (na 23 N).toInt (dpT k r.1) ∧ CgN na ma na' ma' N lo ∧ WKp pf wa pf' wa'
section RF
variable {RLe : T_mp_expression} {RLc : T_mp_conditional} {PP : PPT} {k : Nat → Int} {ta : Nat → Nat → Int32} {c t N : Nat} {o : Int} {pf : Nat → Int32} {na ma wa : Nat → Nat → Int32} {pf' : Nat → Int32} {na' ma' wa' : Nat → Nat → Int32} {v xt : Int32}
theorem dp_consr {e r : Ast} : dpT k (.add e r) = max (dpT k e + 1) (dpT k r) := by first | rfl | simp [dpT]
theorem dp_nilr : dpT k .null = 0 := by first | rfl | simp [dpT]
/-- field 21 of x set, then field 23 of N -/
def up2 (na : Nat → Nat → Int32) (x : Nat) (a : Int32) (n : Nat) (b : Int32) : Nat → Nat → Int32 := va_up (va_up na 21 (upd (na 21) x a)) 23 (upd ((va_up na 21 (upd (na 21) x a)) 23) n b)
theorem up2_f {x n f i : Nat} {a b : Int32} (h1 : ¬ f = 21) (h2 : ¬ f = 23) : up2 na x a n b f i = na f i := by unfold up2; rw [vau_n h2, vau_n h1]
theorem up2_o {x n f i : Nat} {a b : Int32} (h1 : ¬ i = x) (h2 : ¬ i = n) : up2 na x a n b f i = na f i := by unfold up2; rw [vau_o h2, vau_o h1]
theorem up2_21 {x n : Nat} {a b : Int32} : up2 na x a n b 21 x = a := by unfold up2; rw [vau_n (by decide), vau_s]
theorem up2_21o {x n i : Nat} {a b : Int32} (h : ¬ i = x) : up2 na x a n b 21 i = na 21 i := by unfold up2; rw [vau_n (by decide), vau_o h]
theorem up2_23 {x n : Nat} {a b : Int32} : up2 na x a n b 23 n = b := by unfold up2; rw [vau_s]
theorem up2_23o {x n i : Nat} {a b : Int32} (h : ¬ i = n) : up2 na x a n b 23 i = na 23 i := by unfold up2; rw [vau_o h, vau_n (by decide)]
theorem rest_dp {n : Nat} {e r : Ast} {t t2 : Nat} (h : gRest PP k o n e t = some (r, t2)) : dpT k e + 1 ≤ dpT k r := by
  unfold gRest at h
  by_cases q : k t = 44
  · rw [if_pos q] at h
    cases hg : pArgs PP k o n (t + 1) with
    | none => rw [hg] at h; exact absurd h (by simp)
    | some s =>
      obtain ⟨s1, s2⟩ := s
      rw [hg] at h
      have h' : some (eCons e s1, s2) = some (r, t2) := h
      injection h' with h'
      injection h' with h1 h2
      rw [← h1]
      have := dp_consr (k := k) (e := e) (r := s1)
      show dpT k e + 1 ≤ dpT k (.add e s1)
      omega
  · rw [if_neg q] at h
    injection h with h'
    injection h' with h1 h2
    rw [← h1]
    have := dp_consr (k := k) (e := e) (r := .null)
    show dpT k e + 1 ≤ dpT k (.add e .null)
    omega
theorem rest_rw {n : Nat} {e r : Ast} {t t2 : Nat} (h : gRest PP k o n e t = some (r, t2)) : isRw r = true := by
  unfold gRest at h
  by_cases q : k t = 44
  · rw [if_pos q] at h
    cases hg : pArgs PP k o n (t + 1) with
    | none => rw [hg] at h; exact absurd h (by simp)
    | some s =>
      obtain ⟨s1, s2⟩ := s
      rw [hg] at h
      have h' : some (eCons e s1, s2) = some (r, t2) := h
      injection h' with h'
      injection h' with h1 h2
      rw [← h1]; rfl
  · rw [if_neg q] at h
    injection h with h'
    injection h' with h1 h2
    rw [← h1]; rfl
theorem cal_endr (hT : RTk ta c) (hk : ∀ i : Nat, i < c → rkd ta i = k i) (ho : 1 ≤ o) {n b N lo hi j : Nat} {e : Ast} (he : isEx e = true) {x2 : Int32} {pf5 : Nat → Int32} (hs : RSm pf pf5) (hc5 : RCur pf5 c t o) (n44 : ¬ k t = 44) (hx2 : x2.toInt = (N : Int)) (hj : N < lo ∧ lo ≤ j ∧ j < hi) (hN : (pf 13).toInt = (hi : Int)) (hr : Rep k c na ma e false (j : Int) 0 lo hi) (hm : (na 21 j).toInt = -1) (hd : dpT k e + 1 ≤ (na 23 N).toInt) (hB : dpT k e + (b : Int) ≤ (t : Int)) (h : (∃ (pq1 : Nat → Int32), (R_mp_closes 1 (lby ")") ta pf5 pq1 1) ∧ pf' = pq1 ∧ na' = na ∧ ma' = ma ∧ wa' = wa ∧ v = 0 ∧ xt = 1) ∨ (∃ (pf24 : Nat → Int32), (R_mp_closes 1 (lby ")") ta pf5 pf24 0) ∧ pf' = pf24 ∧ na' = na ∧ ma' = ma ∧ wa' = wa ∧ v = x2 ∧ xt = 0)) : OkA k c t (o - 1) (gClose k (gRest PP k o n e t)) b N j lo hi pf na ma wa pf' na' ma' wa' v xt := by
  have kt := hk t hc5.2.2.1
  have gr : gRest PP k o n e t = some (eCons e eNil, t) := by unfold gRest; rw [if_neg n44]
  rw [gr]
  unfold gClose
  dsimp only
  rcases h with ⟨pq1, h3, e0, e1, e2, e3, ev, ex⟩ | ⟨pf24, h3, e0, e1, e2, e3, ev, ex⟩
  · obtain ⟨r1, r2⟩ := closes_r hT hc5 ho (by decide) mq_41 (by decide) h3
    rw [kt] at r2
    rcases r2 with ⟨y1, y2, y3⟩ | ⟨y1, y2⟩
    · exact absurd y2 (by decide)
    · rw [if_neg y1]; exact ex
  · obtain ⟨r1, r2⟩ := closes_r hT hc5 ho (by decide) mq_41 (by decide) h3
    rw [kt] at r2
    rcases r2 with ⟨y1, y2, y3⟩ | ⟨y1, y2⟩
    · rw [if_pos y1, e0, e1, e2, e3, ev, ex]
      have dd := dp_consr (k := k) (e := e) (r := .null)
      rw [dp_nilr] at dd
      have d0 := dpT_nn k e
      refine ⟨rfl, hi, hx2, ⟨Nat.le_refl _, by simp only []; omega, by simp only []; omega, (by omega : dpT k (.add e .null) + (b : Int) ≤ ((t + 1 : Nat) : Int))⟩, ?_, y3, ⟨j, hi, rfl, by omega, ⟨he, rfl⟩, hr, ?_⟩, ?_, ⟨AgF.rf, AgF.rf, rfl, rfl, rfl, rfl, rfl⟩, (hs.tr r1).wk⟩
      · rw [(hs.tr r1) 13 (by decide) (by decide)]; exact hN
      · show (na 21 j).toInt < 0
        omega
      · show (na 23 N).toInt = max (na 23 N).toInt (dpT k (.add e .null))
        omega
    · exact absurd y2 (by decide)
theorem cal_46 (hP : HPr RLe ta k c PP) (hT : RTk ta c) (hk : ∀ i : Nat, i < c → rkd ta i = k i) {p0 : Int32} (ho : 1 ≤ o) {b N : Nat} : ∀ (n t lo hi j m : Nat) (e : Ast) (x2 x3 : Int32) (pf : Nat → Int32) (na ma wa : Nat → Nat → Int32), E_mp_call RLe RLc ta p0 pf' na' ma' wa' v xt m 46 [x2, x3] [] [] [] [] pf na ma wa → x2.toInt = (N : Int) → x3.toInt = (j : Int) → (N < lo ∧ lo ≤ j ∧ j < hi) → RCur pf c t o → RW pf o → (pf 13).toInt = (hi : Int) → hi ≤ t + 10001 → isEx e = true → Rep k c na ma e false (j : Int) 0 lo hi → ((na 21 j).toInt = -1 ∧ (ma 20 j).toInt = -1) → ((na 23 N).toInt ≤ 3000 ∧ dpT k e + 1 ≤ (na 23 N).toInt) → c ≤ 2 * n + t + 1 → dpT k e + (b : Int) ≤ (t : Int) → OkA k c t (o - 1) (gClose k (gRest PP k o n e t)) b N j lo hi pf na ma wa pf' na' ma' wa' v xt := by
  intro n
  induction n with
  | zero =>
    intro t lo hi j m e x2 x3 pf na ma wa h hx2 hx3 hj hc hW hN hb he hr hm hd hf hB
    have hnn := dpT_nn k e
    obtain ⟨m, pf5, v7, h1, h⟩ := iv_mp_call_46 h
    obtain ⟨s1, s2⟩ := takes_r hT hc (by decide) mq_44 (by decide) h1
    rw [hk t hc.2.2.1] at s2
    have c1 := hc.2.2.1
    rcases s2 with ⟨y1, y2, y3⟩ | ⟨y1, y2, y3⟩
    · have := y3.2.2.1
      exfalso; omega
    · rcases h with ⟨h2, h⟩ | ⟨h2, h⟩
      · exact cal_endr hT hk ho he s1 y3 y1 hx2 hj hN hr hm.1 hd.2 hB h
      · exact absurd y2 h2
  | succ n ih =>
    intro t lo hi j m e x2 x3 pf na ma wa h hx2 hx3 hj hc hW hN hb he hr hm hd hf hB
    have hnn := dpT_nn k e
    obtain ⟨m, pf5, v7, h1, h⟩ := iv_mp_call_46 h
    obtain ⟨s1, s2⟩ := takes_r hT hc (by decide) mq_44 (by decide) h1
    rw [hk t hc.2.2.1] at s2
    rcases s2 with ⟨y1, y2, y3⟩ | ⟨y1, y2, y3⟩
    · rcases h with ⟨h2, h⟩ | ⟨h2, h⟩
      · exfalso; omega
      · have hN5 : (pf5 13).toInt = (hi : Int) := by rw [s1 13 (by decide) (by decide)]; exact hN
        have gr : gRest PP k o (n + 1) e t = (match pArgs PP k o (n + 1) (t + 1) with
          | none => none
          | some (r, t2) => some (eCons e r, t2)) := by unfold gRest; rw [if_pos y1]
        rw [gr, pArgs_s]
        rcases h with ⟨pq1, pq2, pq3, pq4, h3, e0, e1, e2, e3, ev, ex⟩ | ⟨pf40, na41, ma42, wa43, v45, h3, z60, h4, z61, h5, z62, h6, v64, h7, hE⟩
        · rw [(hP y3 (hW.sm s1 (Int.le_refl _)) hN5 (by omega) h3).no]; exact ex
        · have q := hP y3 (hW.sm s1 (Int.le_refl _)) hN5 (by omega) h3
          obtain ⟨r, hg⟩ := q.sm
          obtain ⟨a, t1⟩ := r
          rw [hg] at q ⊢
          obtain ⟨-, N', i, q1, q2, q3, q4, q5, q6, q7, q8, q9, q10, q11⟩ := q
          simp only [] at q2 q4 q5 q6 q8 q9
          have c4 := q4.2.2.2.1
          have c5 := q4.2.2.1
          rw [cn_of hx3, cn_of hx2] at hE h4
          rw [cn_of hx3, cn_of q1, vau_n (by decide)] at h5
          rw [vau_n (by decide)] at h4
          have gN := q10 N (Nat.zero_le _) (by omega)
          have gN2 := gN.2.2.2.2.2.2.2 (by omega)
          have z6 := ti_add h6 (show (1 : Int32).toInt = 1 from rfl) (show z61.toInt = dpT k a by rw [h5]; exact q8) (by omega) (by omega)
          have z6' := deeper_r h7
          have z60' : z60.toInt = (na 23 N).toInt := by rw [h4, gN.2.2.2.2.2.2.1]
          have hE' : E_mp_call RLe RLc ta p0 pf' na' ma' wa' v xt m 46 [x2, v45] [] [] [] [] pf40 (up2 na41 j v45 N v64) ma42 wa43 := hE
          have a2 : AgF na ma (up2 na41 j v45 N v64) ma42 (N + 1) hi (j : Int) := fun y b1 b2 => by
            obtain ⟨g1, g2, g3, g4, g5, g6, g7, g8⟩ := q10 y (Nat.zero_le _) b2
            refine ⟨by rw [up2_f (by decide) (by decide)]; exact g1, by rw [up2_f (by decide) (by decide)]; exact g2, by rw [up2_f (by decide) (by decide)]; exact g3, g4, g5, g6, by rw [up2_23o (by omega)]; exact g7, fun w => ⟨by rw [up2_21o (by omega)]; exact (g8 (by omega)).1, (g8 (by omega)).2⟩⟩
          have a0 : AgF na ma (up2 na41 j v45 N v64) ma42 0 N (-1) := q10.le (Nat.le_refl _) (by omega) |>.tr (fun y b1 b2 => by
            have u := fun f => up2_o (na := na41) (f := f) (a := v45) (b := v64) (show ¬ y = j by omega) (show ¬ y = N by omega)
            exact ⟨u 14, u 15, u 17, rfl, rfl, rfl, u 23, fun _ => ⟨u 21, rfl⟩⟩)
          have b3 := ih t1 hi N' i m a x2 v45 pf40 (up2 na41 j v45 N v64) ma42 wa43 hE' hx2 q1 (by omega) q4 ((hW.sm s1 (Int.le_refl _)).wk q11) q3 (by omega) q5 (rep_kp _ _ _ _ _ _ q6 (fun _ y b1 b2 => by
            have u := fun f => up2_o (na := na41) (f := f) (a := v45) (b := v64) (show ¬ y = j by omega) (show ¬ y = N by omega)
            exact ⟨u 14, u 15, u 17, rfl, rfl, rfl, u 23, fun _ => ⟨u 21, rfl⟩⟩) (fun z => absurd z (by decide))) ⟨by rw [up2_21o (by omega)]; exact q7.1, q7.2⟩ (by rw [up2_23]; omega) (by omega) (by omega)
          dsimp only
          cases hw : gRest PP k o n a t1 with
          | none =>
            rw [hw] at b3
            exact b3
          | some s =>
            obtain ⟨r, t2⟩ := s
            have dr := rest_dp hw
            rw [hw] at b3
            unfold gClose at b3 ⊢
            dsimp only at b3 ⊢
            by_cases w : k t2 = 41
            · rw [if_pos w] at b3 ⊢
              obtain ⟨d0, M, d1, d2, d3, d4, d5, d6, d7, d8⟩ := b3
              simp only [] at d2 d4 d5 d6
              have dd := dp_consr (k := k) (e := e) (r := r)
              have ff := d7.2.1.ot (r' := (j : Int)) (Or.inl (by omega))
              have fj := (d7.2.1 j (by omega) (by omega)).2.2.2.2.2.2.2 (by omega)
              refine ⟨d0, M, d1, ⟨by omega, by simp only []; omega, by simp only []; omega, (by omega : dpT k (.add e r) + (b : Int) ≤ ((t2 + 1 : Nat) : Int))⟩, d3, d4, ⟨j, hi, rfl, by omega, ⟨he, rest_rw hw⟩, ?_, ?_⟩, ?_, ⟨a0.tr d7.1, ?_, ?_, ?_, ?_, ?_, ?_⟩, s1.wk.tr (q11.tr d8)⟩
              · exact rep_kp _ _ _ _ _ _ hr (fun _ => by rw [rtE_x he]; exact (a2.tr ff).le (by omega) (Nat.le_refl _)) (fun z => absurd z (by decide))
              · rw [fj.1, up2_21, q1]; exact d5
              · rw [d6, up2_23]
                show max v64.toInt (dpT k r) = max (na 23 N).toInt (dpT k (.add e r))
                omega
              · exact ((a2.tr ff).le (Nat.le_refl _) (by omega)).ot (Or.inr (by omega))
              · rw [d7.2.2.1, up2_f (by decide) (by decide)]; exact gN.1
              · rw [d7.2.2.2.1, up2_f (by decide) (by decide)]; exact gN.2.1
              · rw [d7.2.2.2.2.1, up2_f (by decide) (by decide)]; exact gN.2.2.1
              · rw [d7.2.2.2.2.2.1, up2_21o (by omega)]; exact gN2.1
              · rw [d7.2.2.2.2.2.2]; exact gN2.2
            · rw [if_neg w] at b3 ⊢
              exact b3
    · rcases h with ⟨h2, h⟩ | ⟨h2, h⟩
      · exact cal_endr hT hk ho he s1 y3 y1 hx2 hj hN hr hm.1 hd.2 hB h
      · exact absurd y2 h2
theorem dp_callr {j : Nat} {as : Ast} : dpT k (.elem (.arg j) as) = max 1 (dpT k as) := by first | rfl | simp [dpT]
/-- field 17 of N set, then field 23 of N -/
def up17 (na : Nat → Nat → Int32) (n : Nat) (a b : Int32) : Nat → Nat → Int32 := va_up (va_up na 17 (upd (na 17) n a)) 23 (upd ((va_up na 17 (upd (na 17) n a)) 23) n b)
theorem up17_o {n f i : Nat} {a b : Int32} (h : ¬ i = n) : up17 na n a b f i = na f i := by unfold up17; rw [vau_o h, vau_o h]
theorem up17_f {n f i : Nat} {a b : Int32} (h1 : ¬ f = 17) (h2 : ¬ f = 23) : up17 na n a b f i = na f i := by unfold up17; rw [vau_n h2, vau_n h1]
theorem up17_23 {n : Nat} {a b : Int32} : up17 na n a b 23 n = b := by unfold up17; rw [vau_s]
theorem up17_17 {n : Nat} {a b : Int32} : up17 na n a b 17 n = a := by unfold up17; rw [vau_n (by decide), vau_s]
theorem gCall_a (ho : o < 60) (h : ¬ k (t + 2) = 41) : gCall PP k t o = (match gClose k (pArgs PP k (o + 1) 2048 (t + 2)) with
    | none => none
    | some r => some (eCall t r.1, r.2)) := by
  unfold gCall gClose
  rw [if_pos ho, if_neg h]
  cases pArgs PP k (o + 1) 2048 (t + 2) with
  | none => rfl
  | some r =>
    dsimp only
    by_cases q : k r.2 = 41
    · rw [if_pos q, if_pos q]
    · rw [if_neg q, if_neg q]
theorem cal_okr (hP : HPr RLe ta k c PP) (hT : RTk ta c) (hk : ∀ i : Nat, i < c → rkd ta i = k i) : HCl RLe RLc ta k c PP := by
  intro t N o p0 pf na ma wa pf' na' ma' wa' v xt hc hW h16 h40 hp hN hb h
  have h4' := hc.2.2.2.1
  have h5' := hc.2.2.2.2.1
  have c1' := hc.2.2.1
  obtain ⟨m, h⟩ := h
  obtain ⟨m, pf72, na73, ma74, v76, h1, h⟩ := iv_mp_call_0 h
  obtain ⟨m1, m2, m3, m4⟩ := make_r hN (by omega) (show (vp_nar .byte (3 : Int32).toInt8.toInt32).toInt = 3 from rfl) hp h1
  have hc1 := hc.mk m3
  have hl := rlt hT hc1 (by rw [hk (t + 1) c1']; omega)
  rcases h with ⟨pq1, h2, e0, e1, e2, e3, ev, ex⟩ | ⟨pf88, h2, v106, h3, h⟩
  · obtain ⟨u1, u2⟩ := opens_r hc1 hl h2
    rcases u2 with ⟨x1, x2, x3⟩ | ⟨x1, x2⟩
    · exact absurd x2 (by decide)
    · have g : gCall PP k t o = none := by unfold gCall; rw [if_neg x1]
      rw [g]; exact ex
  · obtain ⟨u1, u2⟩ := opens_r hc1 hl h2
    rcases u2 with ⟨x1, x2, x3⟩ | ⟨x1, x2⟩
    · have hN2 : (pf88 13).toInt = ((N + 1 : Nat) : Int) := by rw [u1 13 (by decide) (by decide), m2]; rfl
      have kt := hk (t + 2) x3.2.2.1
      have w := is_r hT x3 (by decide) mq_41 (by decide) h3
      rw [kt] at w
      rcases h with ⟨h4, h⟩ | ⟨h4, h⟩
      · have y41 : k (t + 2) = 41 := w.2.mp (by omega)
        have g : gCall PP k t o = some (eCall t eNil, t + 3) := by unfold gCall; rw [if_pos x1, if_pos y41]
        rw [g]
        have cl := fun {p : Nat → Int32} {x : Int32} (y : R_mp_closes 1 (lby ")") ta pf88 p x) => closes_r hT x3 (by omega) (by decide) mq_41 (by decide) y
        rw [kt] at cl
        rcases h with ⟨pq1, h5, e0, e1, e2, e3, ev, ex⟩ | ⟨pf116, h5, e0, e1, e2, e3, ev, ex⟩
        · rcases (cl h5).2 with ⟨y1, y2, y3⟩ | ⟨y1, y2⟩
          · exact absurd y2 (by decide)
          · exact absurd y41 y1
        · obtain ⟨r1, r2⟩ := cl h5
          rcases r2 with ⟨y1, y2, y3⟩ | ⟨y1, y2⟩
          · have y3' : RCur pf116 c (t + 3) o := by have e : o + 1 - 1 = o := by omega
                                                    rw [e] at y3; exact y3
            rw [e0, e1, e2, e3, ev, ex]
            have dd := dp_callr (k := k) (j := t) (as := .null)
            rw [dp_nilr] at dd
            have dd' : dpT k (eCall t eNil) = 1 := dd
            refine ⟨rfl, N + 1, N, m1, by simp only []; omega, ?_, y3', rfl, ⟨N, rfl, by omega, m4.1.1, ?_, ⟨by omega, h16, rfl⟩, ?_⟩, ⟨m4.1.2.2.1, m4.1.2.2.2.2.2.2.1⟩, ?_, by simp only []; omega, m4.ag (Or.inl (Nat.le_refl _)), (mk_wk m3).tr (u1.tr r1).wk⟩
            · rw [r1 13 (by decide) (by decide)]; exact hN2
            · rw [m4.1.2.2.2.1]; exact dd.symm
            · show (na73 17 N).toInt < 0
              rw [m4.1.2.1]; decide
            · rw [m4.1.2.2.2.1]; exact dd'.symm
          · exact absurd y41 y1
      · have n41 : ¬ k (t + 2) = 41 := fun y => by have := w.2.mpr y; omega
        rw [gCall_a x1 n41, pArgs_s]
        rcases h with ⟨pq1, pq2, pq3, pq4, h5, e0, e1, e2, e3, ev, ex⟩ | ⟨pf132, na133, ma134, wa135, v137, h5, z152, h6, z153, h7, hE⟩
        · rw [(hP x3 ((hW.mk m3).sm u1 (by omega)) hN2 (by omega) h5).no]; exact ex
        · have q := hP x3 ((hW.mk m3).sm u1 (by omega)) hN2 (by omega) h5
          obtain ⟨r, hg⟩ := q.sm
          obtain ⟨a, t1⟩ := r
          rw [hg] at q ⊢
          obtain ⟨-, N', i, q1, q2, q3, q4, q5, q6, q7, q8, q9, q10, q11⟩ := q
          simp only [] at q2 q4 q5 q6 q8 q9
          have c4 := q4.2.2.2.1
          have c5 := q4.2.2.1
          rw [cn_of m1] at hE h6
          rw [cn_of q1, vau_n (by decide)] at h6
          have gN := q10 N (Nat.zero_le _) (by omega)
          have gN2 := gN.2.2.2.2.2.2.2 (by omega)
          have z7 := ti_add h7 (show (1 : Int32).toInt = 1 from rfl) (show z152.toInt = dpT k a by rw [h6]; exact q8) (by omega) (by omega)
          have hE' : E_mp_call RLe RLc ta p0 pf' na' ma' wa' v xt m 46 [v76, v137] [] [] [] [] pf132 (up17 na133 N v137 z153) ma134 wa135 := hE
          have at' : ∀ f y : Nat, ¬ y = N → up17 na133 N v137 z153 f y = na133 f y ∧ ma134 f y = ma134 f y := fun f y hy => ⟨up17_o hy, rfl⟩
          have b3 := cal_46 hP hT hk (b := t + 1) (N := N) (by omega) 2047 t1 (N + 1) N' i m a v76 v137 pf132 (up17 na133 N v137 z153) ma134 wa135 hE' m1 q1 (by omega) q4 (((hW.mk m3).sm u1 (by omega)).wk q11) q3 (by omega) q5 (rep_kp _ _ _ _ _ _ q6 (fun _ => ag_at at' (Or.inr (by omega))) (fun z => absurd z (by decide))) ⟨by rw [up17_o (by omega)]; exact q7.1, q7.2⟩ (by rw [up17_23]; omega) (by omega) (by omega)
          have eo : o + 1 - 1 = o := by omega
          rw [eo] at b3
          dsimp only
          cases hw : gRest PP k (o + 1) 2047 a t1 with
          | none =>
            rw [hw] at b3
            exact b3
          | some s =>
            obtain ⟨r, t2⟩ := s
            have dr := rest_dp hw
            rw [hw] at b3
            unfold gClose at b3 ⊢
            dsimp only at b3 ⊢
            by_cases w : k t2 = 41
            · rw [if_pos w] at b3 ⊢
              obtain ⟨d0, M, d1, d2, d3, d4, d5, d6, d7, d8⟩ := b3
              simp only [] at d2 d4 d5 d6
              rw [up17_23] at d6
              have dd := dp_callr (k := k) (j := t) (as := r)
              have dd' : dpT k (eCall t r) = max 1 (dpT k r) := dd
              refine ⟨d0, M, N, d1, by simp only []; omega, d3, d4, rfl, ⟨N, rfl, by omega, ⟨?_, ?_⟩, ?_, ⟨by omega, h16, rest_rw hw⟩, ?_⟩, ⟨?_, ?_⟩, ?_, by simp only []; omega, ?_, (mk_wk m3).tr (u1.wk.tr (q11.tr d8))⟩
              · rw [d7.2.2.1, up17_f (by decide) (by decide), gN.1]; exact m4.1.1.1
              · rw [d7.2.2.2.1, up17_f (by decide) (by decide), gN.2.1]; exact m4.1.1.2
              · rw [d6]; exact (by omega : max z153.toInt (dpT k r) = dpT k (.elem (.arg t) r))
              · rw [d7.2.2.2.2.1, up17_17, q1]; exact d5
              · rw [d7.2.2.2.2.2.1, up17_f (by decide) (by decide), gN2.1]; exact m4.1.2.2.1
              · rw [d7.2.2.2.2.2.2, gN2.2]; exact m4.1.2.2.2.2.2.2.1
              · rw [d6]; exact (by omega : max z153.toInt (dpT k r) = dpT k (eCall t r))
              · exact (m4.ag (Or.inl (Nat.le_refl _))).tr ((q10.le (Nat.le_refl _) (by omega)).tr ((ag_at at' (Or.inl (Nat.le_refl _))).tr d7.1))
            · rw [if_neg w] at b3 ⊢
              exact b3
    · exact absurd x2 (by decide)
end RF
