/-! THE REFERENCE's expressions against the grammar: what a parser gives (OkR); primary -/
/-- all but the cursor, the nodes' count and the waiting row's own stays; what waits stays -/
def WKp (pf : Nat → Int32) (wa : Nat → Nat → Int32) (pf' : Nat → Int32) (wa' : Nat → Nat → Int32) : Prop := (∀ i : Nat, ¬ i = 11 → ¬ i = 12 → ¬ i = 13 → ¬ i = 26 → pf' i = pf i) ∧ (pf' 26).toInt = (pf 26).toInt ∧ ∀ f j : Nat, (j : Int) < (pf 26).toInt → wa' f j = wa f j
theorem WKp.rf {pf : Nat → Int32} {wa : Nat → Nat → Int32} : WKp pf wa pf wa := ⟨fun _ _ _ _ _ => rfl, rfl, fun _ _ _ => rfl⟩
theorem WKp.tr {pf pf1 pf2 : Nat → Int32} {wa wa1 wa2 : Nat → Nat → Int32} (h : WKp pf wa pf1 wa1) (g : WKp pf1 wa1 pf2 wa2) : WKp pf wa pf2 wa2 := ⟨fun i a b d e => (g.1 i a b d e).trans (h.1 i a b d e), g.2.1.trans h.2.1, fun f j q => (g.2.2 f j (by rw [h.2.1]; exact q)).trans (h.2.2 f j q)⟩
theorem RSm.wk {pf pf' : Nat → Int32} {wa : Nat → Nat → Int32} (h : RSm pf pf') : WKp pf wa pf' wa := ⟨fun i a b _ _ => h i a b, by rw [h 26 (by decide) (by decide)], fun _ _ _ => rfl⟩
theorem mk_wk {pf pf' : Nat → Int32} {wa : Nat → Nat → Int32} (h : ∀ i : Nat, i ≠ 13 → pf' i = pf i) : WKp pf wa pf' wa := ⟨fun i _ _ d _ => h i d, by rw [h 26 (by decide)], fun _ _ _ => rfl⟩
theorem RCur.mk {pf pf' : Nat → Int32} {c t : Nat} {o : Int} (hc : RCur pf c t o) (h : ∀ i : Nat, i ≠ 13 → pf' i = pf i) : RCur pf' c t o := ⟨by rw [h 11 (by decide)]; exact hc.1, by rw [h 12 (by decide)]; exact hc.2.1, hc.2.2⟩
theorem AgF.rf {na ma : Nat → Nat → Int32} {lo hi : Nat} {r : Int} : AgF na ma na ma lo hi r := fun _ _ _ => ⟨rfl, rfl, rfl, rfl, rfl, rfl, rfl, fun _ => ⟨rfl, rfl⟩⟩
theorem AgF.tr {na ma na1 ma1 na2 ma2 : Nat → Nat → Int32} {lo hi : Nat} {r : Int} (h : AgF na ma na1 ma1 lo hi r) (g : AgF na1 ma1 na2 ma2 lo hi r) : AgF na ma na2 ma2 lo hi r := fun i a b => by
  obtain ⟨h1, h2, h3, h4, h5, h6, h7, h8⟩ := h i a b
  obtain ⟨g1, g2, g3, g4, g5, g6, g7, g8⟩ := g i a b
  exact ⟨g1.trans h1, g2.trans h2, g3.trans h3, g4.trans h4, g5.trans h5, g6.trans h6, g7.trans h7, fun q => ⟨(g8 q).1.trans (h8 q).1, (g8 q).2.trans (h8 q).2⟩⟩
/-- arrays that agree but at node N -/
theorem ag_at {na ma na' ma' : Nat → Nat → Int32} {N lo hi : Nat} {r : Int} (h : ∀ f i : Nat, ¬ i = N → na' f i = na f i ∧ ma' f i = ma f i) (h1 : hi ≤ N ∨ N < lo) : AgF na ma na' ma' lo hi r := fun i a b => by
  have k := fun f => h f i (by omega)
  exact ⟨(k 14).1, (k 15).1, (k 17).1, (k 18).2, (k 19).2, (k 22).2, (k 23).1, fun _ => ⟨(k 21).1, (k 20).2⟩⟩
/-- arrays that agree but in field 16 -/
theorem ag_16 {na ma : Nat → Nat → Int32} {x : Nat → Int32} {lo hi : Nat} {r : Int} : AgF na ma (va_up na 16 x) ma lo hi r := fun i a b => ⟨by rw [va_up_n (by decide)], by rw [va_up_n (by decide)], by rw [va_up_n (by decide)], rfl, rfl, rfl, by rw [va_up_n (by decide)], fun _ => ⟨by rw [va_up_n (by decide)], rfl⟩⟩
def OkR (k : Nat → Int) (c t : Nat) (o : Int) (g : Option (Ast × Nat)) (N : Nat) (pf : Nat → Int32) (na ma wa : Nat → Nat → Int32) (pf' : Nat → Int32) (na' ma' wa' : Nat → Nat → Int32) (v xt : Int32) : Prop :=
  match g with
  | none => xt = 1
  | some r => xt = 0 ∧ ∃ N' i : Nat, v.toInt = (i : Int) ∧ (N ≤ i ∧ i < N' ∧ N' + t ≤ N + r.2 ∧ t < r.2) ∧ (pf' 13).toInt = (N' : Int) ∧ RCur pf' c r.2 o ∧ isEx r.1 = true ∧ Rep k c na' ma' r.1 false (i : Int) 0 N N' ∧ ((na' 21 i).toInt = -1 ∧ (ma' 20 i).toInt = -1) ∧ (na' 23 i).toInt = dpT k r.1 ∧ (1 ≤ dpT k r.1 ∧ dpT k r.1 + (t : Int) ≤ (r.2 : Int)) ∧ AgF na ma na' ma' 0 N (-1) ∧ WKp pf wa pf' wa'
/-- what waits is open -/
def RW (pf : Nat → Int32) (o : Int) : Prop := 0 ≤ (pf 26).toInt ∧ (pf 26).toInt ≤ o
theorem RW.sm {pf pf' : Nat → Int32} {o o' : Int} (h : RW pf o) (hs : RSm pf pf') (ho : o ≤ o') : RW pf' o' := by
  unfold RW
  rw [hs 26 (by decide) (by decide)]
  exact ⟨h.1, Int.le_trans h.2 ho⟩
theorem RW.mk {pf pf' : Nat → Int32} {o : Int} (h : RW pf o) (hs : ∀ i : Nat, i ≠ 13 → pf' i = pf i) : RW pf' o := by
  unfold RW
  rw [hs 26 (by decide)]
  exact h
theorem RW.wk {pf pf' : Nat → Int32} {wa wa' : Nat → Nat → Int32} {o : Int} (h : RW pf o) (hs : WKp pf wa pf' wa') : RW pf' o := by
  unfold RW
  rw [hs.2.1]
  exact h
/-- what expression (L = -1) gives, one level below -/
def HPr (RLe : T_mp_expression) (ta : Nat → Nat → Int32) (k : Nat → Int) (c : Nat) (PP : PPT) : Prop := ∀ {t N : Nat} {o : Int} {pf : Nat → Int32} {na ma wa : Nat → Nat → Int32} {pf' : Nat → Int32} {na' ma' wa' : Nat → Nat → Int32} {v xt : Int32}, RCur pf c t o → RW pf o → (pf 13).toInt = (N : Int) → N ≤ t + 10001 → RLe ta pf na ma wa pf' na' ma' wa' v xt → OkR k c t o (PP (-1) t o) N pf na ma wa pf' na' ma' wa' v xt
section RD
variable {RLe : T_mp_expression} {RLc : T_mp_conditional} {PP : PPT} {k : Nat → Int} {ta : Nat → Nat → Int32} {c t N : Nat} {o : Int} {pf : Nat → Int32} {na ma wa : Nat → Nat → Int32} {pf' : Nat → Int32} {na' ma' wa' : Nat → Nat → Int32} {v xt : Int32}
theorem dp_num {j : Nat} : dpT k (.arg j) = 1 := by first | rfl | simp [dpT]
theorem dp_name {j : Nat} : dpT k (.index j) = 1 := by first | rfl | simp [dpT]
theorem dp_idx {j : Nat} {e : Ast} : dpT k (.sub (.arg j) e) = dpT k e + 1 := by first | rfl | simp [dpT]
theorem pri_num (hT : RTk ta c) (hk : ∀ i : Nat, i < c → rkd ta i = k i) (hc : RCur pf c t o) (hN : (pf 13).toInt = (N : Int)) (hb : N ≤ t + 10001) (h17 : k t = 17) {pf1 : Nat → Int32} {na1 ma1 : Nat → Nat → Int32} {v1 z : Int32} (h : R_mp_make (1 : Int32) (pf 11) pf na ma pf1 na1 ma1 v1) (hz : z = pf1 11 + 1) : OkR k c t o (some (eNum t, t + 1)) N pf na ma wa (upd pf1 11 z) na1 ma1 wa v1 0 := by
  have h4 := hc.2.2.2.1
  have h3 := hc.2.2.1
  obtain ⟨m1, m2, m3, m4⟩ := make_r hN (by omega) (show (vp_nar .byte (1 : Int32).toInt8.toInt32).toInt = 1 from rfl) hc.1 h
  have hc1 := hc.mk m3
  have hl := rlt hT hc1 (by rw [hk t h3]; omega)
  refine ⟨rfl, N + 1, N, m1, by simp only []; omega, ?_, hc1.st hz hl, rfl, ⟨N, rfl, by omega, m4.1.1, m4.1.2.2.2.1, h3, h17⟩, ⟨m4.1.2.2.1, m4.1.2.2.2.2.2.2.1⟩, ?_, ?_, m4.ag (Or.inl (Nat.le_refl _)), ?_⟩
  · rw [pk_un (by decide), m2]; rfl
  · rw [m4.1.2.2.2.1]; exact dp_num.symm
  · have e : dpT k (eNum t) = 1 := dp_num
    simp only []
    omega
  · exact (mk_wk m3).tr ⟨fun i a _ _ _ => pk_un a, by rw [pk_un (by decide)], fun _ _ _ => rfl⟩
theorem pri_name (h16 : k t = 16) (hc : RCur pf c t o) {pf0 : Nat → Int32} (hs : RSm pf pf0) (hc0 : RCur pf0 c (t + 1) o) (hN : (pf 13).toInt = (N : Int)) (hb : N ≤ t + 10001) {pf1 : Nat → Int32} {na1 ma1 : Nat → Nat → Int32} {v0 v1 : Int32} (hv : v0.toInt = (t : Int)) (h : R_mp_make (2 : Int32) v0 pf0 na ma pf1 na1 ma1 v1) : OkR k c t o (some (eName t, t + 1)) N pf na ma wa pf1 na1 ma1 wa v1 0 := by
  have h4 := hc.2.2.2.1
  have h3 := hc.2.2.1
  have hN0 : (pf0 13).toInt = (N : Int) := by rw [hs 13 (by decide) (by decide)]; exact hN
  obtain ⟨m1, m2, m3, m4⟩ := make_r hN0 (by omega) (show (vp_nar .byte (2 : Int32).toInt8.toInt32).toInt = 2 from rfl) hv h
  have hc1 := hc0.mk m3
  refine ⟨rfl, N + 1, N, m1, by simp only []; omega, by rw [m2]; rfl, hc1, rfl, ⟨N, rfl, by omega, m4.1.1, m4.1.2.2.2.1, h3, h16⟩, ⟨m4.1.2.2.1, m4.1.2.2.2.2.2.2.1⟩, ?_, ?_, m4.ag (Or.inl (Nat.le_refl _)), hs.wk.tr (mk_wk m3)⟩
  · rw [m4.1.2.2.2.1]; exact dp_name.symm
  · have e : dpT k (eName t) = 1 := dp_name
    simp only []
    omega
theorem pri_par (hW : RW pf o) (hP : HPr RLe ta k c PP) (hT : RTk ta c) (hk : ∀ i : Nat, i < c → rkd ta i = k i) (hc : RCur pf c t o) (ho : o < 60) {pf0 : Nat → Int32} (hs : RSm pf pf0) (hc0 : RCur pf0 c (t + 1) (o + 1)) (hN : (pf 13).toInt = (N : Int)) (hb : N ≤ t + 10001) {pf1 pf2 : Nat → Int32} {na1 ma1 wa1 : Nat → Nat → Int32} {v1 : Int32} {x : Nat → Int32} (h : RLe ta pf0 na ma wa pf1 na1 ma1 wa1 v1 0) (h2 : R_mp_closes 1 (lby ")") ta pf1 pf2 0) : OkR k c t o (match PP (-1) (t + 1) (o + 1) with
      | none => none
      | some (e, t1) => if k t1 = 41 then some (e, t1 + 1) else none) N pf na ma wa pf2 (va_up na1 16 x) ma1 wa1 v1 0 := by
  have hN0 : (pf0 13).toInt = (N : Int) := by rw [hs 13 (by decide) (by decide)]; exact hN
  have q := hP hc0 (hW.sm hs (by omega)) hN0 (by omega) h
  cases hg : PP (-1) (t + 1) (o + 1) with
  | none =>
    rw [hg] at q
    have q' : (0 : Int32) = 1 := q
    exact absurd q' (by decide)
  | some r =>
    obtain ⟨e, t1⟩ := r
    rw [hg] at q
    obtain ⟨-, N', i, q1, q2, q3, q4, q5, q6, q7, q8, q9, q10, q11⟩ := q
    simp only [] at q2 q4 q5 q6 q8 q9
    obtain ⟨r1, r2⟩ := closes_r hT q4 (by have := hc.2.2.2.2.1; omega) (by decide) mq_41 (by decide) h2
    rw [hk t1 q4.2.2.1] at r2
    rcases r2 with ⟨y1, y2, y3⟩ | ⟨y1, y2⟩
    · dsimp only
      rw [if_pos y1]
      have y3' : RCur pf2 c (t1 + 1) o := by have e : o + 1 - 1 = o := by omega
                                             rw [e] at y3; exact y3
      refine ⟨rfl, N', i, q1, by simp only []; omega, ?_, y3', q5, ?_, ?_, ?_, by simp only []; omega, ?_, ?_⟩
      · rw [r1 13 (by decide) (by decide)]; exact q3
      · exact rep_kp _ _ _ _ _ _ q6 (fun _ => ag_16) (fun z => absurd z (by decide))
      · rw [va_up_n (by decide)]; exact q7
      · rw [va_up_n (by decide)]; exact q8
      · exact q10.tr ag_16
      · exact hs.wk.tr (q11.tr r1.wk)
    · exact absurd y2 (by decide)
theorem pri_idx (hW : RW pf o) (h16 : k t = 16) (hP : HPr RLe ta k c PP) (hT : RTk ta c) (hk : ∀ i : Nat, i < c → rkd ta i = k i) (hc : RCur pf c t o) (ho : o < 60) {pf0 : Nat → Int32} (hs : RSm pf pf0) (hc0 : RCur pf0 c (t + 1) o) (hN : (pf 13).toInt = (N : Int)) (hb : N ≤ t + 10001) {pf1 pf2 pf3 pf4 : Nat → Int32} {na1 ma1 na3 ma3 wa3 : Nat → Nat → Int32} {v0 v1 v3 z : Int32} (hv : v0.toInt = (t : Int)) (h : R_mp_make (4 : Int32) v0 pf0 na ma pf1 na1 ma1 v1) (hs2 : RSm pf1 pf2) (hc2 : RCur pf2 c (t + 2) (o + 1)) (h3 : RLe ta pf2 na1 ma1 wa pf3 na3 ma3 wa3 v3 0) {z0 : Int32} (hz0 : z0 = (va_up na3 17 (upd (na3 17) v1.toNatClampNeg v3)) 23 v3.toNatClampNeg) (hz : z = (1 : Int32) + z0) (h4 : R_mp_closes 1 (lby "]") ta pf3 pf4 0) : OkR k c t o (match PP (-1) (t + 2) (o + 1) with
      | none => none
      | some (e, t1) => if k t1 = 93 then some (eIdx t e, t1 + 1) else none) N pf na ma wa pf4 (va_up (va_up na3 17 (upd (na3 17) v1.toNatClampNeg v3)) 23 (upd ((va_up na3 17 (upd (na3 17) v1.toNatClampNeg v3)) 23) v1.toNatClampNeg z)) ma3 wa3 v1 0 := by
  have h4' := hc.2.2.2.1
  have h3' := hc.2.2.1
  have hN0 : (pf0 13).toInt = (N : Int) := by rw [hs 13 (by decide) (by decide)]; exact hN
  obtain ⟨m1, m2, m3, m4⟩ := make_r hN0 (by omega) (show (vp_nar .byte (4 : Int32).toInt8.toInt32).toInt = 4 from rfl) hv h
  have hN2 : (pf2 13).toInt = ((N + 1 : Nat) : Int) := by rw [hs2 13 (by decide) (by decide), m2]; rfl
  have q := hP hc2 (((hW.sm hs (Int.le_refl _)).mk m3).sm hs2 (by omega)) hN2 (by omega) h3
  have hn := cn_of m1
  cases hg : PP (-1) (t + 2) (o + 1) with
  | none =>
    rw [hg] at q
    have q' : (0 : Int32) = 1 := q
    exact absurd q' (by decide)
  | some r =>
    obtain ⟨e, t1⟩ := r
    rw [hg] at q
    obtain ⟨-, N', i, q1, q2, q3, q4, q5, q6, q7, q8, q9, q10, q11⟩ := q
    simp only [] at q2 q4 q5 q6 q8 q9
    obtain ⟨r1, r2⟩ := closes_r hT q4 (by have := hc.2.2.2.2.1; omega) (by decide) mq_93 (by decide) h4
    rw [hk t1 q4.2.2.1] at r2
    rcases r2 with ⟨y1, y2, y3⟩ | ⟨y1, y2⟩
    · dsimp only
      rw [if_pos y1]
      have y3' : RCur pf4 c (t1 + 1) o := by have e : o + 1 - 1 = o := by omega
                                             rw [e] at y3; exact y3
      rw [cn_of q1, hn, vau_n (by decide)] at hz0
      rw [hn]
      have c4 := q4.2.2.2.1
      have c5 := q4.2.2.1
      have zz := ti_add hz (show (1 : Int32).toInt = 1 from rfl) (show z0.toInt = dpT k e by rw [hz0]; exact q8) (by omega) (by omega)
      obtain ⟨g1, g2, g3, g4, g5, g6, g7, g8⟩ := q10 N (Nat.zero_le _) (by omega)
      have g9 := g8 (by omega)
      have at' : ∀ f j : Nat, ¬ j = N → (va_up (va_up na3 17 (upd (na3 17) N v3)) 23 (upd ((va_up na3 17 (upd (na3 17) N v3)) 23) N z)) f j = na3 f j ∧ ma3 f j = ma3 f j := fun f j hj => ⟨by rw [vau_o hj, vau_o hj], rfl⟩
      have f14 : ∀ {f : Nat}, ¬ f = 17 → ¬ f = 23 → (va_up (va_up na3 17 (upd (na3 17) N v3)) 23 (upd ((va_up na3 17 (upd (na3 17) N v3)) 23) N z)) f N = na3 f N := fun a b => by rw [vau_n b, vau_n a]
      have f23 : (va_up (va_up na3 17 (upd (na3 17) N v3)) 23 (upd ((va_up na3 17 (upd (na3 17) N v3)) 23) N z)) 23 N = z := vau_s
      have f17 : (va_up (va_up na3 17 (upd (na3 17) N v3)) 23 (upd ((va_up na3 17 (upd (na3 17) N v3)) 23) N z)) 17 N = v3 := by rw [vau_n (by decide), vau_s]
      generalize (va_up (va_up na3 17 (upd (na3 17) N v3)) 23 (upd ((va_up na3 17 (upd (na3 17) N v3)) 23) N z)) = nb at *
      have dd : dpT k (eIdx t e) = dpT k e + 1 := dp_idx
      refine ⟨rfl, N', N, m1, by simp only []; omega, ?_, y3', rfl, ⟨N, rfl, by omega, ⟨?_, ?_⟩, ?_, ⟨h3', h16, q5⟩, ?_⟩, ⟨?_, ?_⟩, ?_, by simp only []; omega, ?_, ?_⟩
      · rw [r1 13 (by decide) (by decide)]; exact q3
      · rw [f14 (by decide) (by decide), g1]; exact m4.1.1.1
      · rw [f14 (by decide) (by decide), g2]; exact m4.1.1.2
      · rw [f23]; exact (by omega : z.toInt = dpT k (eIdx t e))
      · rw [f17, q1]
        exact rep_kp _ _ _ _ _ _ q6 (fun _ => ag_at at' (Or.inr (by omega))) (fun z => absurd z (by decide))
      · rw [f14 (by decide) (by decide), g9.1]; exact m4.1.2.2.1
      · rw [g9.2]; exact m4.1.2.2.2.2.2.2.1
      · rw [f23]; exact (by omega : z.toInt = dpT k (eIdx t e))
      · exact (m4.ag (Or.inl (Nat.le_refl _))).tr ((q10.le (Nat.le_refl _) (by omega)).tr (ag_at at' (Or.inl (Nat.le_refl _))))
      · exact hs.wk.tr ((mk_wk m3).tr (hs2.wk.tr (q11.tr r1.wk)))
    · exact absurd y2 (by decide)
theorem OkR.no {g : Option (Ast × Nat)} (q : OkR k c t o g N pf na ma wa pf' na' ma' wa' v 1) : g = none := by
  cases g with
  | none => rfl
  | some r => exact absurd q.1 (by decide)
theorem OkR.sm {g : Option (Ast × Nat)} (q : OkR k c t o g N pf na ma wa pf' na' ma' wa' v 0) : ∃ r, g = some r := by
  cases g with
  | none => exact absurd (show (0 : Int32) = 1 from q) (by decide)
  | some r => exact ⟨r, rfl⟩
theorem OkR.pre {g : Option (Ast × Nat)} {pf0 : Nat → Int32} (hs : RSm pf pf0) (q : OkR k c t o g N pf0 na ma wa pf' na' ma' wa' v xt) : OkR k c t o g N pf na ma wa pf' na' ma' wa' v xt := by
  cases g with
  | none => exact q
  | some r =>
    obtain ⟨q0, N', i, q1, q2, q3, q4, q5, q6, q7, q8, q9, q10, q11⟩ := q
    exact ⟨q0, N', i, q1, q2, q3, q4, q5, q6, q7, q8, q9, q10, hs.wk.tr q11⟩
/-- a call's own part of the grammar -/
def gCall (PP : PPT) (k : Nat → Int) (t : Nat) (o : Int) : Option (Ast × Nat) := if o < 60 then (if k (t + 2) = 41 then some (eCall t eNil, t + 3) else (match pArgs PP k (o + 1) 2048 (t + 2) with
        | none => none
        | some (as, t1) => if k t1 = 41 then some (eCall t as, t1 + 1) else none)) else none
def HCl (RLe : T_mp_expression) (RLc : T_mp_conditional) (ta : Nat → Nat → Int32) (k : Nat → Int) (c : Nat) (PP : PPT) : Prop := ∀ {t N : Nat} {o : Int} {p0 : Int32} {pf : Nat → Int32} {na ma wa : Nat → Nat → Int32} {pf' : Nat → Int32} {na' ma' wa' : Nat → Nat → Int32} {v xt : Int32}, RCur pf c (t + 1) o → RW pf o → k t = 16 → k (t + 1) = 40 → p0.toInt = (t : Int) → (pf 13).toInt = (N : Int) → N ≤ t + 10001 → R_mp_call RLe RLc ta p0 pf na ma wa pf' na' ma' wa' v xt → OkR k c t o (gCall PP k t o) N pf na ma wa pf' na' ma' wa' v xt
theorem pP_40 (h : k t = 40) (ho : o < 60) : pPrim PP k t o = (match PP (-1) (t + 1) (o + 1) with
      | none => none
      | some (e, t1) => if k t1 = 41 then some (e, t1 + 1) else none) := by
  unfold pPrim; rw [if_pos h, if_pos ho]; rfl
theorem pP_40n (h : k t = 40) (ho : ¬ o < 60) : pPrim PP k t o = none := by
  unfold pPrim; rw [if_pos h, if_neg ho]
theorem pP_17 (h : k t = 17) : pPrim PP k t o = some (eNum t, t + 1) := by
  unfold pPrim; rw [if_neg (by omega), if_neg (by omega), if_pos h]
theorem pP_no (h : ¬ k t = 17) (h1 : ¬ k t = 16) (h2 : ¬ k t = 40) : pPrim PP k t o = none := by
  unfold pPrim; rw [if_neg h2, if_neg h1, if_neg h]
theorem pP_nm (h : k t = 16) (h1 : ¬ k (t + 1) = 40) (h2 : ¬ k (t + 1) = 91) : pPrim PP k t o = some (eName t, t + 1) := by
  unfold pPrim; rw [if_neg (by omega), if_pos h, if_neg h1, if_neg h2]
theorem pP_ix (h : k t = 16) (h2 : k (t + 1) = 91) (ho : o < 60) : pPrim PP k t o = (match PP (-1) (t + 2) (o + 1) with
      | none => none
      | some (e, t1) => if k t1 = 93 then some (eIdx t e, t1 + 1) else none) := by
  unfold pPrim; rw [if_neg (by omega), if_pos h, if_neg (by omega), if_pos h2, if_pos ho]; rfl
theorem pP_ixn (h : k t = 16) (h2 : k (t + 1) = 91) (ho : ¬ o < 60) : pPrim PP k t o = none := by
  unfold pPrim; rw [if_neg (by omega), if_pos h, if_neg (by omega), if_pos h2, if_neg ho]
theorem pP_cl (h : k t = 16) (h2 : k (t + 1) = 40) : pPrim PP k t o = gCall PP k t o := by
  unfold pPrim gCall; rw [if_neg (by omega), if_pos h, if_pos h2]; rfl
theorem cl_thr (hW : RW pf (o + 1)) (hP : HPr RLe ta k c PP) (hT : RTk ta c) (hk : ∀ i : Nat, i < c → rkd ta i = k i) {t0 : Nat} {q : Int} {sn : Nat} {sb : Nat → Int32} (hs : sn ≤ 1000) (hq : ∀ w : Nat, w < 43 → mEq w sn sb = decide (mkC w = q)) (h33 : 33 ≤ q) (h0 : 0 ≤ o) (hc0 : RCur pf c t0 (o + 1)) (hN : (pf 13).toInt = (N : Int)) (hb : N ≤ t0 + 10001) {pf1 pf2 : Nat → Int32} {na1 ma1 wa1 : Nat → Nat → Int32} {v1 : Int32} (h : RLe ta pf na ma wa pf1 na1 ma1 wa1 v1 0) (h2 : R_mp_closes sn sb ta pf1 pf2 1) (F : Ast → Ast) : (match PP (-1) t0 (o + 1) with
      | none => none
      | some (e, t1) => if k t1 = q then some (F e, t1 + 1) else none) = (none : Option (Ast × Nat)) := by
  have y := hP hc0 hW hN hb h
  cases hg : PP (-1) t0 (o + 1) with
  | none => rfl
  | some r =>
    obtain ⟨e, t1⟩ := r
    rw [hg] at y
    obtain ⟨-, N', i, q1, q2, q3, q4, -⟩ := y
    obtain ⟨r1, r2⟩ := closes_r hT q4 (by omega) hs hq h33 h2
    rw [hk t1 q4.2.2.1] at r2
    rcases r2 with ⟨y1, y2, y3⟩ | ⟨y1, y2⟩
    · exact absurd y2 (by decide)
    · dsimp only; rw [if_neg y1]
theorem pri_ok (hW : RW pf o) (hP : HPr RLe ta k c PP) (hC : HCl RLe RLc ta k c PP) (hT : RTk ta c) (hk : ∀ i : Nat, i < c → rkd ta i = k i) (hc : RCur pf c t o) (hN : (pf 13).toInt = (N : Int)) (hb : N ≤ t + 10001) (h : R_mp_primary RLe RLc ta pf na ma wa pf' na' ma' wa' v xt) : OkR k c t o (pPrim PP k t o) N pf na ma wa pf' na' ma' wa' v xt := by
  have h4' := hc.2.2.2.1
  have h3' := hc.2.2.1
  have h5' := hc.2.2.2.2.1
  have kt := hk t h3'
  have hn := cn_of hc.1
  have k17 := (rkd_b hT h3').2.2.2.1
  rw [kt] at k17
  have is40 := fun {x : Int32} (y : R_mp_is 1 (lby "(") ta pf x) => is_r hT hc (by decide) mq_40 (by decide) y
  rw [kt] at is40
  obtain ⟨z1, h1, h⟩ | h := h
  · rw [hn] at h1
    rw [h1] at h
    rcases h with ⟨h2, v8, h3, h⟩ | ⟨h2, pf225, na226, ma227, v229, h3, z241, h4, e0, e1, e2, e3, ev, ex⟩
    · have n17 : ¬ k t = 17 := fun y => h2 (k17.mpr y)
      have w1 := is40 h3
      rcases h with ⟨h4, h⟩ | ⟨h4, h⟩
      · have n40 : ¬ k t = 40 := fun y => by have := w1.2.mpr y; omega
        rcases h with ⟨pq1, h5, e0, e1, e2, e3, ev, ex⟩ | ⟨pf15, v17, h5, v33, h6, h⟩
        · obtain ⟨s1, s2⟩ := name_r hT hc h5
          rw [kt] at s2
          rcases s2 with ⟨y1, y2, y3⟩ | ⟨y1, y2⟩
          · exact absurd y2 (by decide)
          · rw [pP_no n17 y1 n40]; exact ex
        · obtain ⟨s1, s2⟩ := name_r hT hc h5
          rw [kt] at s2
          rcases s2 with ⟨y1, y2, y3, y4⟩ | ⟨y1, y2⟩
          · have kt1 := hk (t + 1) y4.2.2.1
            have w2 := is_r hT y4 (by decide) mq_40 (by decide) h6
            rw [kt1] at w2
            have hN0 : (pf15 13).toInt = (N : Int) := by rw [s1 13 (by decide) (by decide)]; exact hN
            rcases h with ⟨h7, v43, h8, h⟩ | ⟨h7, h⟩
            · have w3 := is_r hT y4 (by decide) mq_91 (by decide) h8
              rw [kt1] at w3
              have n40' : ¬ k (t + 1) = 40 := fun y => by have := w2.2.mpr y; omega
              rcases h with ⟨h9, pf52, na53, ma54, v56, h10, e0, e1, e2, e3, ev, ex⟩ | ⟨h9, pf70, na71, ma72, v74, h10, h⟩
              · rw [pP_nm y1 n40' (fun y => by have := w3.2.mpr y; omega), e0, e1, e2, e3, ev, ex]
                exact pri_name y1 hc s1 y4 hN hb y3 h10
              · have y91 : k (t + 1) = 91 := w3.2.mp (by omega)
                obtain ⟨m1, m2, m3, m4⟩ := make_r hN0 (by omega) (show (vp_nar .byte (4 : Int32).toInt8.toInt32).toInt = 4 from rfl) y3 h10
                have hc1 := y4.mk m3
                have hl := rlt hT hc1 (by rw [kt1]; omega)
                rcases h with ⟨pq1, h11, e0, e1, e2, e3, ev, ex⟩ | ⟨pf86, h11, h⟩
                · obtain ⟨u1, u2⟩ := opens_r hc1 hl h11
                  rcases u2 with ⟨x1, x2, x3⟩ | ⟨x1, x2⟩
                  · exact absurd x2 (by decide)
                  · rw [pP_ixn y1 y91 x1]; exact ex
                · obtain ⟨u1, u2⟩ := opens_r hc1 hl h11
                  rcases u2 with ⟨x1, x2, x3⟩ | ⟨x1, x2⟩
                  · have hN2 : (pf86 13).toInt = ((N + 1 : Nat) : Int) := by rw [u1 13 (by decide) (by decide), m2]; rfl
                    rw [pP_ix y1 y91 x1]
                    rcases h with ⟨pq1, pq2, pq3, pq4, h12, e0, e1, e2, e3, ev, ex⟩ | ⟨pf104, na105, ma106, wa107, v109, h12, z124, h13, z125, h14, z126, h15, h⟩
                    · rw [(hP x3 (((hW.sm s1 (Int.le_refl _)).mk m3).sm u1 (by omega)) hN2 (by omega) h12).no]; exact ex
                    · rcases h with ⟨pq1, h16, e0, e1, e2, e3, ev, ex⟩ | ⟨pf131, h16, e0, e1, e2, e3, ev, ex⟩
                      · rw [cl_thr (((hW.sm s1 (Int.le_refl _)).mk m3).sm u1 (by omega)) hP hT hk (by decide) mq_93 (by decide) h5' x3 hN2 (by omega) h12 h16 (eIdx t)]; exact ex
                      · rw [e0, e1, e2, e3, ev, ex]
                        exact pri_idx hW y1 hP hT hk hc x1 s1 y4 hN hb y3 h10 u1 x3 h12 h14 h15 h16
                  · exact absurd x2 (by decide)
            · have y40 : k (t + 1) = 40 := w2.2.mp (by omega)
              rw [pP_cl y1 y40]
              rcases h with ⟨pq1, pq2, pq3, pq4, h8, e0, e1, e2, e3, ev, ex⟩ | ⟨pf147, na148, ma149, wa150, v152, h8, e0, e1, e2, e3, ev, ex⟩
              · rw [(hC y4 (hW.sm s1 (Int.le_refl _)) y1 y40 y3 hN0 hb h8).no]; exact ex
              · rw [e0, e1, e2, e3, ev, ex]
                exact (hC y4 (hW.sm s1 (Int.le_refl _)) y1 y40 y3 hN0 hb h8).pre s1
          · exact absurd y2 (by decide)
      · have y40 : k t = 40 := w1.2.mp (by omega)
        have hl := rlt hT hc (by rw [kt]; omega)
        rcases h with ⟨pq1, h5, e0, e1, e2, e3, ev, ex⟩ | ⟨pf168, h5, h⟩
        · obtain ⟨u1, u2⟩ := opens_r hc hl h5
          rcases u2 with ⟨x1, x2, x3⟩ | ⟨x1, x2⟩
          · exact absurd x2 (by decide)
          · rw [pP_40n y40 x1]; exact ex
        · obtain ⟨u1, u2⟩ := opens_r hc hl h5
          rcases u2 with ⟨x1, x2, x3⟩ | ⟨x1, x2⟩
          · have hN2 : (pf168 13).toInt = (N : Int) := by rw [u1 13 (by decide) (by decide)]; exact hN
            rw [pP_40 y40 x1]
            rcases h with ⟨pq1, pq2, pq3, pq4, h6, e0, e1, e2, e3, ev, ex⟩ | ⟨pf186, na187, ma188, wa189, v191, h6, h⟩
            · rw [(hP x3 (hW.sm u1 (by omega)) hN2 (by omega) h6).no]; exact ex
            · rcases h with ⟨pq1, h7, e0, e1, e2, e3, ev, ex⟩ | ⟨pf210, h7, e0, e1, e2, e3, ev, ex⟩
              · rw [cl_thr (hW.sm u1 (by omega)) hP hT hk (by decide) mq_41 (by decide) h5' x3 hN2 (by omega) h6 h7 (fun e => e)]; exact ex
              · rw [e0, e1, e2, e3, ev, ex]
                exact pri_par hW hP hT hk hc x1 u1 x3 hN hb h6 h7
          · exact absurd x2 (by decide)
    · rw [pP_17 (k17.mp h2), e0, e1, e2, e3, ev, ex]
      exact pri_num hT hk hc hN hb (k17.mp h2) h3 h4
  · exact h.elim
end RD
