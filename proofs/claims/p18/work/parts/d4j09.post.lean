/-! THE REFERENCE: postfix -/
section RE
variable {RLe : T_mp_expression} {RLc : T_mp_conditional} {PP : PPT} {k : Nat → Int} {ta : Nat → Nat → Int32} {c t N : Nat} {o : Int} {pf : Nat → Int32} {na ma wa : Nat → Nat → Int32} {pf' : Nat → Int32} {na' ma' wa' : Nat → Nat → Int32} {v xt : Int32}
theorem dp_postr {j : Nat} {e : Ast} : dpT k (.div (.arg j) e) = dpT k e + 1 := by first | rfl | simp [dpT]
/-- a node set in fields 16, 23, 17 -/
def up3 (na : Nat → Nat → Int32) (n : Nat) (x y z : Int32) : Nat → Nat → Int32 := va_up (va_up (va_up na 16 (upd (na 16) n x)) 23 (upd ((va_up na 16 (upd (na 16) n x)) 23) n y)) 17 (upd ((va_up (va_up na 16 (upd (na 16) n x)) 23 (upd ((va_up na 16 (upd (na 16) n x)) 23) n y)) 17) n z)
theorem up3_o {n f i : Nat} {x y z : Int32} (h : ¬ i = n) : up3 na n x y z f i = na f i := by unfold up3; rw [vau_o h, vau_o h, vau_o h]
theorem up3_f {n f i : Nat} {x y z : Int32} (h1 : ¬ f = 16) (h2 : ¬ f = 23) (h3 : ¬ f = 17) : up3 na n x y z f i = na f i := by unfold up3; rw [vau_n h3, vau_n h2, vau_n h1]
theorem up3_23 {n : Nat} {x y z : Int32} : up3 na n x y z 23 n = y := by unfold up3; rw [vau_n (by decide), vau_s]
theorem up3_17 {n : Nat} {x y z : Int32} : up3 na n x y z 17 n = z := by unfold up3; rw [vau_s]
theorem pst_mk {e : Ast} {t1 : Nat} {pf5 : Nat → Int32} {na6 ma7 wa8 : Nat → Nat → Int32} {v10 : Int32} (hT : RTk ta c) (hk : ∀ i : Nat, i < c → rkd ta i = k i) (hb : N ≤ t + 10001) (q : OkR k c t o (some (e, t1)) N pf na ma wa pf5 na6 ma7 wa8 v10 0) (hp : k t1 = 138 ∨ k t1 = 139) {pf42 : Nat → Int32} {na43 ma44 : Nat → Nat → Int32} {v46 z57 z58 z59 z61 : Int32} (h : R_mp_make (6 : Int32) (pf5 11) pf5 na6 ma7 pf42 na43 ma44 v46) (hz : z58 = (va_up na43 16 (upd (na43 16) v46.toNatClampNeg z57)) 23 v10.toNatClampNeg) (hz2 : z59 = (1 : Int32) + z58) (hz3 : z61 = pf42 11 + (1 : Int32)) : OkR k c t o (some (ePost t1 e, t1 + 1)) N pf na ma wa (upd pf42 11 z61) (up3 na43 v46.toNatClampNeg z57 z59 v10) ma44 wa8 v46 0 := by
  obtain ⟨-, N', i, q1, q2, q3, q4, q5, q6, q7, q8, q9, q10, q11⟩ := q
  simp only [] at q2 q4 q5 q6 q8 q9
  have c4 := q4.2.2.2.1
  have c5 := q4.2.2.1
  obtain ⟨m1, m2, m3, m4⟩ := make_r q3 (by omega) (show (vp_nar .byte (6 : Int32).toInt8.toInt32).toInt = 6 from rfl) q4.1 h
  have hc1 := q4.mk m3
  have hl := rlt hT hc1 (by rw [hk t1 c5]; omega)
  rw [cn_of m1]
  rw [cn_of q1, vau_n (by decide), (m4.2 23 i (by omega)).1] at hz
  have zz := ti_add hz2 (show (1 : Int32).toInt = 1 from rfl) (show z58.toInt = dpT k e by rw [hz]; exact q8) (by omega) (by omega)
  have dd : dpT k (ePost t1 e) = dpT k e + 1 := dp_postr
  have a1 : ∀ f j : Nat, ¬ j = N' → up3 na43 N' z57 z59 v10 f j = na6 f j ∧ ma44 f j = ma7 f j := fun f j hj => ⟨(up3_o hj).trans (m4.2 f j hj).1, (m4.2 f j hj).2⟩
  refine ⟨rfl, N' + 1, N', m1, by simp only []; omega, ?_, hc1.st hz3 hl, rfl, ⟨N', rfl, by omega, ⟨?_, ?_⟩, ?_, ⟨c5, hp, q5⟩, ?_⟩, ⟨?_, ?_⟩, ?_, by simp only []; omega, ?_, ?_⟩
  · rw [pk_un (by decide), m2]; rfl
  · rw [up3_f (by decide) (by decide) (by decide)]; exact m4.1.1.1
  · rw [up3_f (by decide) (by decide) (by decide)]; exact m4.1.1.2
  · rw [up3_23]; exact (by omega : z59.toInt = dpT k (ePost t1 e))
  · rw [up3_17, q1]
    exact rep_kp _ _ _ _ _ _ q6 (fun _ => ag_at a1 (Or.inl (Nat.le_refl _))) (fun z => absurd z (by decide))
  · rw [up3_f (by decide) (by decide) (by decide)]; exact m4.1.2.2.1
  · exact m4.1.2.2.2.2.2.2.1
  · rw [up3_23]; exact (by omega : z59.toInt = dpT k (ePost t1 e))
  · exact q10.tr (ag_at a1 (Or.inl (by omega)))
  · exact q11.tr ((mk_wk m3).tr ⟨fun i a _ _ _ => pk_un a, by rw [pk_un (by decide)], fun _ _ _ => rfl⟩)
def gPost (PP : PPT) (k : Nat → Int) (t : Nat) (o : Int) : Option (Ast × Nat) := match pPrim PP k t o with
      | none => none
      | some (e, t1) => if k t1 = 138 ∨ k t1 = 139 then (if o + dpT k e < 60 then some (ePost t1 e, t1 + 1) else none) else some (e, t1)
theorem pst_okr (hW : RW pf o) (hP : HPr RLe ta k c PP) (hC : HCl RLe RLc ta k c PP) (hT : RTk ta c) (hk : ∀ i : Nat, i < c → rkd ta i = k i) (hc : RCur pf c t o) (hN : (pf 13).toInt = (N : Int)) (hb : N ≤ t + 10001) (h : R_mp_postfix RLe RLc ta pf na ma wa pf' na' ma' wa' v xt) : OkR k c t o (gPost PP k t o) N pf na ma wa pf' na' ma' wa' v xt := by
  unfold gPost
  obtain (⟨pq1, pq2, pq3, pq4, h1, e0, e1, e2, e3, ev, ex⟩ | ⟨pf5, na6, ma7, wa8, v10, h1, v29, h2, h⟩) | h := h
  · rw [(pri_ok hW hP hC hT hk hc hN hb h1).no]; exact ex
  · have q := pri_ok hW hP hC hT hk hc hN hb h1
    obtain ⟨r, hr⟩ := q.sm
    obtain ⟨e, t1⟩ := r
    rw [hr] at q ⊢
    have q' := q
    obtain ⟨-, N', i, q1, q2, q3, q4, q5, q6, q7, q8, q9, q10, q11⟩ := q'
    simp only [] at q2 q4 q5 q6 q8 q9
    have c4 := q4.2.2.2.1
    have c5 := q4.2.2.1
    have kt := hk t1 c5
    have w1 := is_r hT q4 (by decide) mq_138 (by decide) h2
    rw [kt] at w1
    have st := fun {x : Int32} (y : R_mp_stands pf5 na6 v10 x) => stands_r q4 q1 q8 (by omega) y
    dsimp only
    rcases h with ⟨h3, h⟩ | ⟨h3, v66, h4, h⟩
    · have y : k t1 = 138 := w1.2.mp (by omega)
      rw [if_pos (Or.inl y)]
      rcases h with ⟨h4, e0, e1, e2, e3, ev, ex⟩ | ⟨h4, pf42, na43, ma44, v46, h5, z57, h6, z58, h7, z59, h8, z61, h9, e0, e1, e2, e3, ev, ex⟩
      · rcases st h4 with ⟨x1, x2⟩ | ⟨x1, x2⟩
        · exact absurd x2 (by decide)
        · rw [if_neg x1]; exact ex
      · rcases st h4 with ⟨x1, x2⟩ | ⟨x1, x2⟩
        · rw [if_pos x1, e0, e1, e2, e3, ev, ex]
          exact pst_mk hT hk hb q (Or.inl y) h5 h7 h8 h9
        · exact absurd x2 (by decide)
    · have n1 : ¬ k t1 = 138 := fun y => by have := w1.2.mpr y; omega
      have w2 := is_r hT q4 (by decide) mq_139 (by decide) h4
      rw [kt] at w2
      rcases h with ⟨h5, e0, e1, e2, e3, ev, ex⟩ | ⟨h5, h⟩
      · rw [if_neg (fun y => by rcases y with y | y; exact n1 y; have := w2.2.mpr y; omega), e0, e1, e2, e3, ev, ex]
        exact q
      · have y : k t1 = 139 := w2.2.mp (by omega)
        rw [if_pos (Or.inr y)]
        rcases h with ⟨h6, e0, e1, e2, e3, ev, ex⟩ | ⟨h6, pf79, na80, ma81, v83, h7, z94, h8, z95, h9, z96, h10, z98, h11, e0, e1, e2, e3, ev, ex⟩
        · rcases st h6 with ⟨x1, x2⟩ | ⟨x1, x2⟩
          · exact absurd x2 (by decide)
          · rw [if_neg x1]; exact ex
        · rcases st h6 with ⟨x1, x2⟩ | ⟨x1, x2⟩
          · rw [if_pos x1, e0, e1, e2, e3, ev, ex]
            exact pst_mk hT hk hb q (Or.inr y) h7 h9 h10 h11
          · exact absurd x2 (by decide)
  · exact h.elim
end RE
