/-! THE REFERENCE: the text whole -/
section RT
variable {k : Nat → Int} {ta : Nat → Nat → Int32} {c t N : Nat} {o : Int} {pf : Nat → Int32} {na ma wa : Nat → Nat → Int32} {pf' : Nat → Int32} {na' ma' wa' : Nat → Nat → Int32} {v xt : Int32}
/-- variables of the text -/
def gDe1 (k : Nat → Int) (t : Nat) (o : Int) : Option (Ast × Nat) := gEnd k 59 (gMap (fun vs => sNd 21 (.arg (k t).toNat) vs) (pVars k o 2048 (t + 1)))
/-- a function -/
def gFun (k : Nat → Int) (t : Nat) (o : Int) : Option (Ast × Nat) := if k (t + 1) = 16 ∧ k (t + 2) = 40 then gThen (pHead k (t + 1) o) (fun ps t1 => gFb k o (k t).toNat (t + 1) ps t1) else none
theorem de1_n (h : gDec k t o = none) : gDe1 k t o = none := by
  unfold gDec gDe1 at *
  cases hv : pVars k o 2048 (t + 1) with
  | none => rfl
  | some r =>
    rw [hv] at h
    have h' : (if k r.2 = 59 then some (sNd 3 (.arg (k t).toNat) r.1, r.2 + 1) else none) = none := h
    show (if k r.2 = 59 then some (sNd 21 (.arg (k t).toNat) r.1, r.2 + 1) else none) = none
    by_cases q : k r.2 = 59
    · rw [if_pos q] at h'; exact absurd h' (by simp)
    · rw [if_neg q]
theorem de1_s {n : Nat} {vs : Ast} {t1 : Nat} (h : gDec k t o = some (sNd 3 (.arg n) vs, t1)) : gDe1 k t o = some (sNd 21 (.arg n) vs, t1) := by
  unfold gDec gDe1 at *
  cases hv : pVars k o 2048 (t + 1) with
  | none => rw [hv] at h; exact absurd h (by simp [gMap, gEnd, gThen])
  | some r =>
    rw [hv] at h
    have h' : (if k r.2 = 59 then some (sNd 3 (.arg (k t).toNat) r.1, r.2 + 1) else none) = some (sNd 3 (.arg n) vs, t1) := h
    show (if k r.2 = 59 then some (sNd 21 (.arg (k t).toNat) r.1, r.2 + 1) else none) = some (sNd 21 (.arg n) vs, t1)
    by_cases q : k r.2 = 59
    · rw [if_pos q] at h' ⊢
      injection h' with h'
      injection h' with h1 h2
      obtain ⟨g1, g2⟩ := nd_inj h1
      rw [g1, g2, h2]
    · rw [if_neg q] at h'; exact absurd h' (by simp)
theorem pI_en (h : k t = 4) : pItem k t o = pEnum k t o := by unfold pItem; rw [if_pos h]
theorem pI_no (h : ¬ (k t = 4 ∨ k t = 1 ∨ k t = 2 ∨ k t = 3)) : pItem k t o = none := by
  unfold pItem
  rw [if_neg (by omega), if_neg (by omega)]
theorem pI_fn (h : k t = 1 ∨ k t = 2 ∨ k t = 3) (h1 : k (t + 1) = 16 ∧ k (t + 2) = 40) : pItem k t o = gFun k t o := by
  unfold pItem gFun
  rw [if_neg (by omega), if_pos h, if_pos h1, if_pos h1]
  cases pHead k (t + 1) o with
  | none => rfl
  | some r =>
    obtain ⟨ps, t1⟩ := r
    show (if k t1 = 123 ∧ o < 60 then _ else none) = gFb k o (k t).toNat (t + 1) ps t1
    unfold gFb
    by_cases q : k t1 = 123 ∧ o < 60
    · rw [if_pos q, if_pos q]
      cases pSts (pSt k 61) k (o + 1) 2049 (t1 + 1) with
      | none => rfl
      | some s =>
        obtain ⟨b, t2⟩ := s
        show (if k t2 = 125 then some (sNd 22 (.elem (.arg (k t).toNat) (.arg (t + 1))) (.elem ps b), t2 + 1) else none) = gMap (fun b => sNd 22 (.elem (.arg (k t).toNat) (.arg (t + 1))) (.elem ps b)) (if k t2 = 125 then some (b, t2 + 1) else none)
        by_cases q2 : k t2 = 125
        · rw [if_pos q2, if_pos q2]; rfl
        · rw [if_neg q2, if_neg q2]; rfl
    · rw [if_neg q, if_neg q]
theorem pI_v (h : k t = 3) (h1 : ¬ (k (t + 1) = 16 ∧ k (t + 2) = 40)) : pItem k t o = none := by
  unfold pItem
  rw [if_neg (by omega), if_pos (by omega), if_neg h1, if_pos h]
theorem pI_de (h : k t = 1 ∨ k t = 2) (h1 : ¬ (k (t + 1) = 16 ∧ k (t + 2) = 40)) : pItem k t o = gDe1 k t o := by
  unfold pItem gDe1
  rw [if_neg (by omega), if_pos (by omega), if_neg h1, if_neg (by omega)]
  cases pVars k o 2048 (t + 1) with
  | none => rfl
  | some r => rfl
theorem pie_de (hT : RTk ta c) (hk : ∀ i : Nat, i < c → rkd ta i = k i) (hPl : RPl ta c) (ht : k t = 1 ∨ k t = 2) (hc : RCur pf c t o) (hW : RW pf o) (hN : (pf 13).toInt = (N : Int)) (hb : N ≤ t + 10000) (h : (∃ (pq1 : Nat → Int32), ∃ (pq2 : Nat → Nat → Int32), ∃ (pq3 : Nat → Nat → Int32), ∃ (pq4 : Nat → Nat → Int32), (R_mp_declaration ta pf na ma wa pq1 pq2 pq3 pq4 0 1) ∧ pf' = pq1 ∧ na' = pq2 ∧ ma' = pq3 ∧ wa' = pq4 ∧ xt = 1) ∨ (∃ (pf30 : Nat → Int32), ∃ (na31 : Nat → Nat → Int32), ∃ (ma32 : Nat → Nat → Int32), ∃ (wa33 : Nat → Nat → Int32), ∃ (v35 : Int32), (R_mp_declaration ta pf na ma wa pf30 na31 ma32 wa33 v35 0) ∧ ∃ (pf53 : Nat → Int32), ∃ (na54 : Nat → Nat → Int32), (R_mp_add v35 pf30 na31 pf53 na54) ∧ pf' = pf53 ∧ na' = na54 ∧ ma' = ma32 ∧ wa' = wa33 ∧ xt = 0)) : OkI (RepI k c) c t o (gDe1 k t o) N pf na ma wa pf' na' ma' wa' xt := by
  rcases h with ⟨pq1, pq2, pq3, pq4, h1, e0, e1, e2, e3, ex⟩ | ⟨pf30, na31, ma32, wa33, v35, h1, pf53, na54, h2, e0, e1, e2, e3, ex⟩
  · rw [de1_n (dec_okr hT hk hPl ht hc hW hN hb h1).no]; exact OkI.thr ex
  · have p := dec_okr hT hk hPl ht hc hW hN hb h1
    obtain ⟨g, hg⟩ := p.sm
    obtain ⟨s, t1⟩ := g
    rw [hg] at p
    obtain ⟨-, N', z0, z1, z2, z3, ⟨n, vs, y1, y2, y3, y4, y5⟩, z5, z6, z7⟩ := p
    simp only [] at z1 z3 y1
    rw [y1] at hg
    rw [de1_s hg, e0, e1, e2, e3, ex]
    exact ⟨pf30, na31, v35, ⟨rfl, N', z0, z1, z2, z3, Or.inr (Or.inl ⟨n, vs, rfl, y2, y3, y4, y5⟩), z5, z6, z7⟩, fun _ => h2⟩
theorem pie_fn (hT : RTk ta c) (hk : ∀ i : Nat, i < c → rkd ta i = k i) (hPl : RPl ta c) (ht : k t = 1 ∨ k t = 2 ∨ k t = 3) {z z17 : Int32} (hz17 : z17.toInt = k t - 1) (hz : z = pf 11 + (1 : Int32)) (hc : RCur pf c t o) (hW : RW pf o) (hN : (pf 13).toInt = (N : Int)) (hb : N ≤ t + 10000) (h : (∃ (pq1 : Nat → Int32), (R_mp_name ta (upd pf 11 z) pq1 0 1) ∧ pf' = pq1 ∧ na' = na ∧ ma' = ma ∧ wa' = wa ∧ xt = 1) ∨ (∃ (pf68 : Nat → Int32), ∃ (v70 : Int32), (R_mp_name ta (upd pf 11 z) pf68 v70 0) ∧ ∃ (v86 : Int32), (R_mp_is 1 (lby "(") ta pf68 v86) ∧ (((v86.toInt = 0) ∧ pf' = pf68 ∧ na' = na ∧ ma' = ma ∧ wa' = wa ∧ xt = 1) ∨ ((¬ v86.toInt = 0) ∧ ((∃ (pq1 : Nat → Int32), ∃ (pq2 : Nat → Nat → Int32), ∃ (pq3 : Nat → Nat → Int32), ∃ (pq4 : Nat → Nat → Int32), (R_mp_functionText ta z17 v70 pf68 na ma wa pq1 pq2 pq3 pq4 1) ∧ pf' = pq1 ∧ na' = pq2 ∧ ma' = pq3 ∧ wa' = pq4 ∧ xt = 1) ∨ (∃ (pf96 : Nat → Int32), ∃ (na97 : Nat → Nat → Int32), ∃ (ma98 : Nat → Nat → Int32), ∃ (wa99 : Nat → Nat → Int32), (R_mp_functionText ta z17 v70 pf68 na ma wa pf96 na97 ma98 wa99 0) ∧ pf' = pf96 ∧ na' = na97 ∧ ma' = ma98 ∧ wa' = wa99 ∧ xt = 0)))))) : OkI (RepI k c) c t o (gFun k t o) N pf na ma wa pf' na' ma' wa' xt := by
  have c1 := hc.2.2.1
  have hc1 := hc.st hz (rlt hT hc (by rw [hk t c1]; omega))
  have d1 := hc1.2.2.1
  unfold gFun
  rcases h with ⟨pq1, h1, e0, e1, e2, e3, ex⟩ | ⟨pf68, v70, h1, v86, h2, h⟩
  · rcases (name_r hT hc1 h1).2 with ⟨y1, y2, -⟩ | ⟨y1, y2⟩
    · exact absurd y2 (by decide)
    · rw [hk (t + 1) d1] at y1
      rw [if_neg (fun q => y1 q.1)]; exact OkI.thr ex
  · obtain ⟨s1, s2⟩ := name_r hT hc1 h1
    rw [hk (t + 1) d1] at s2
    rcases s2 with ⟨y1, y2, y3, y4⟩ | ⟨y1, y2⟩
    · have y4' : RCur pf68 c (t + 2) o := y4
      have w := is_r hT y4' (by decide) mq_40 (by decide) h2
      rw [hk (t + 2) y4'.2.2.1] at w
      rcases h with ⟨h3, e0, e1, e2, e3, ex⟩ | ⟨h3, h⟩
      · rw [if_neg (fun q => by have := w.2.mpr q.2; omega)]; exact OkI.thr ex
      · have y40 : k (t + 2) = 40 := w.2.mp (by omega)
        rw [if_pos ⟨y1, y40⟩]
        have hW2 : RW pf68 o := (upd11_rw hW).sm s1 (Int.le_refl _)
        have hN2 : (pf68 13).toInt = (N : Int) := by rw [s1 13 (by decide) (by decide), pk_un (by decide)]; exact hN
        have fo := fun {p : Nat → Int32} {n1 n2 n3 : Nat → Nat → Int32} {z' : Int32} (y : R_mp_functionText ta z17 v70 pf68 na ma wa p n1 n2 n3 z') => fun_ok (ty := (k t).toNat) hT hk hPl (t0 := t) rfl ⟨by omega, by omega⟩ ⟨y3, y1⟩ y40 y4' hW2 hN2 hb y
        have pre : ∀ {g : Option (Ast × Nat)} {p : Nat → Int32} {n1 n2 n3 : Nat → Nat → Int32} {z' : Int32}, OkI (RepI k c) c t o g N pf68 na ma wa p n1 n2 n3 z' → OkI (RepI k c) c t o g N pf na ma wa p n1 n2 n3 z' := fun q => by
          obtain ⟨pf1, na1, v1, q1, q2⟩ := q
          refine ⟨pf1, na1, v1, ?_, q2⟩
          exact OkSr.pre (show RSm pf pf68 from fun i i1 i2 => by rw [s1 i i1 i2, pk_un i1]) q1
        rcases h with ⟨pq1, pq2, pq3, pq4, h4, e0, e1, e2, e3, ex⟩ | ⟨pf96, na97, ma98, wa99, h4, e0, e1, e2, e3, ex⟩
        · rw [(fo h4).no]; exact OkI.thr ex
        · rw [e0, e1, e2, e3, ex]; exact pre (fo h4)
    · exact absurd y2 (by decide)
def DeP (ta : Nat → Nat → Int32) (pf : Nat → Int32) (na ma wa : Nat → Nat → Int32) (pf' : Nat → Int32) (na' ma' wa' : Nat → Nat → Int32) (xt : Int32) : Prop := (∃ (pq1 : Nat → Int32), ∃ (pq2 : Nat → Nat → Int32), ∃ (pq3 : Nat → Nat → Int32), ∃ (pq4 : Nat → Nat → Int32), (R_mp_declaration ta pf na ma wa pq1 pq2 pq3 pq4 0 1) ∧ pf' = pq1 ∧ na' = pq2 ∧ ma' = pq3 ∧ wa' = pq4 ∧ xt = 1) ∨ (∃ (pf30 : Nat → Int32), ∃ (na31 : Nat → Nat → Int32), ∃ (ma32 : Nat → Nat → Int32), ∃ (wa33 : Nat → Nat → Int32), ∃ (v35 : Int32), (R_mp_declaration ta pf na ma wa pf30 na31 ma32 wa33 v35 0) ∧ ∃ (pf53 : Nat → Int32), ∃ (na54 : Nat → Nat → Int32), (R_mp_add v35 pf30 na31 pf53 na54) ∧ pf' = pf53 ∧ na' = na54 ∧ ma' = ma32 ∧ wa' = wa33 ∧ xt = 0)
def FnPr (ta : Nat → Nat → Int32) (pf : Nat → Int32) (na ma wa : Nat → Nat → Int32) (pf' : Nat → Int32) (na' ma' wa' : Nat → Nat → Int32) (xt : Int32) (z17 : Int32) : Prop := ∃ z : Int32, z = pf 11 + (1 : Int32) ∧ ((∃ (pq1 : Nat → Int32), (R_mp_name ta (upd pf 11 z) pq1 0 1) ∧ pf' = pq1 ∧ na' = na ∧ ma' = ma ∧ wa' = wa ∧ xt = 1) ∨ (∃ (pf68 : Nat → Int32), ∃ (v70 : Int32), (R_mp_name ta (upd pf 11 z) pf68 v70 0) ∧ ∃ (v86 : Int32), (R_mp_is 1 (lby "(") ta pf68 v86) ∧ (((v86.toInt = 0) ∧ pf' = pf68 ∧ na' = na ∧ ma' = ma ∧ wa' = wa ∧ xt = 1) ∨ ((¬ v86.toInt = 0) ∧ ((∃ (pq1 : Nat → Int32), ∃ (pq2 : Nat → Nat → Int32), ∃ (pq3 : Nat → Nat → Int32), ∃ (pq4 : Nat → Nat → Int32), (R_mp_functionText ta z17 v70 pf68 na ma wa pq1 pq2 pq3 pq4 1) ∧ pf' = pq1 ∧ na' = pq2 ∧ ma' = pq3 ∧ wa' = pq4 ∧ xt = 1) ∨ (∃ (pf96 : Nat → Int32), ∃ (na97 : Nat → Nat → Int32), ∃ (ma98 : Nat → Nat → Int32), ∃ (wa99 : Nat → Nat → Int32), (R_mp_functionText ta z17 v70 pf68 na ma wa pf96 na97 ma98 wa99 0) ∧ pf' = pf96 ∧ na' = na97 ∧ ma' = ma98 ∧ wa' = wa99 ∧ xt = 0))))))
/-- behind the type of an item -/
theorem pie_ty (hT : RTk ta c) (hk : ∀ i : Nat, i < c → rkd ta i = k i) (hPl : RPl ta c) (ht : k t = 1 ∨ k t = 2 ∨ k t = 3) (hc : RCur pf c t o) (hW : RW pf o) (hN : (pf 13).toInt = (N : Int)) (hb : N ≤ t + 10000) {D F : Int32 → Prop} (hD : (k t = 1 ∨ k t = 2) → ∀ z17 : Int32, D z17 → OkI (RepI k c) c t o (gDe1 k t o) N pf na ma wa pf' na' ma' wa' xt) (hF : ∀ z17 : Int32, z17.toInt = k t - 1 → F z17 → OkI (RepI k c) c t o (gFun k t o) N pf na ma wa pf' na' ma' wa' xt) (h : ∃ (z17 : Int32), (z17 = (ta 10) (pf 11).toNatClampNeg) ∧ ∃ (z19 : Int32), (z19 = (pf 11) + (1 : Int32)) ∧ ∃ (z20 : Int32), (z20 = (ta 9) z19.toNatClampNeg) ∧ (((¬ (z20.toInt = (1 : Int))) ∧ (((¬ (z17.toInt = (2 : Int))) ∧ D z17) ∨ ((z17.toInt = (2 : Int)) ∧ F z17))) ∨ ((z20.toInt = (1 : Int)) ∧ ∃ (z115 : Int32), (z115 = (pf 11) + (2 : Int32)) ∧ ∃ (v120 : Int32), (R_mp_isAt 1 (lby "(") ta z115 v120) ∧ (((v120.toInt = (0 : Int)) ∧ (((¬ (z17.toInt = (2 : Int))) ∧ D z17) ∨ ((z17.toInt = (2 : Int)) ∧ F z17))) ∨ ((¬ (v120.toInt = (0 : Int))) ∧ F z17))))) : OkI (RepI k c) c t o (pItem k t o) N pf na ma wa pf' na' ma' wa' xt := by
  have c1 := hc.2.2.1
  have c2 := hc.2.2.2.1
  obtain ⟨-, -, -, -, -, kk6, kk7, -⟩ := rkd_b hT c1
  rw [hk t c1] at kk6 kk7
  have w7 := kk7 (kk6.mpr (by clear h; omega))
  have hlt : t + 1 < c := rlt hT hc (by rw [hk t c1]; clear h; omega)
  have kk1 := (rkd_b hT hlt).2.2.1
  rw [hk (t + 1) hlt] at kk1
  obtain ⟨z17, h1, z19, h2, z20, h3, h⟩ := h
  rw [cn_of hc.1] at h1
  have e17 : z17.toInt = k t - 1 := by rw [h1]; clear h; omega
  have z2 := ti_add h2 hc.1 (show (1 : Int32).toInt = 1 from rfl) (by clear h; omega) (by clear h; omega)
  have ez : z19.toNatClampNeg = t + 1 := cn_of (by clear h; omega)
  rw [ez] at h3
  have gn : ¬ (k (t + 1) = 16 ∧ k (t + 2) = 40) → gFun k t o = none := fun q => by unfold gFun; rw [if_neg q]
  have two : ¬ (k (t + 1) = 16 ∧ k (t + 2) = 40) → (((¬ (z17.toInt = (2 : Int))) ∧ D z17) ∨ ((z17.toInt = (2 : Int)) ∧ F z17)) → OkI (RepI k c) c t o (pItem k t o) N pf na ma wa pf' na' ma' wa' xt := fun q y => by
    rcases y with ⟨y1, y2⟩ | ⟨y1, y2⟩
    · rw [pI_de (by clear h; omega) q]; exact hD (by clear h; omega) z17 y2
    · rw [pI_v (by clear h; omega) q, ← gn q]; exact hF z17 e17 y2
  rcases h with ⟨h4, h⟩ | ⟨h4, z115, h5, v120, h6, h⟩
  · rw [h3] at h4
    exact two (fun q => h4 (kk1.mpr q.1)) h
  · rw [h3] at h4
    have y16 := kk1.mp h4
    have k8 := (rkd_b hT hlt).2.2.2.2.2.2.2.1
    rw [hk (t + 1) hlt] at k8
    have hl2 : t + 2 < c := by clear h; omega
    have z5 := ti_add h5 hc.1 (show (2 : Int32).toInt = 2 from rfl) (by clear h; omega) (by clear h; omega)
    have w := isAt_r (t := t + 2) hT (by clear h; omega) hl2 (by decide) mq_40 (by decide) h6
    rw [hk (t + 2) hl2] at w
    rcases h with ⟨h7, h⟩ | ⟨h7, h⟩
    · exact two (fun q => by have := w.2.mpr q.2; clear h; omega) h
    · have y40 : k (t + 2) = 40 := w.2.mp (by clear h; omega)
      rw [pI_fn ht ⟨y16, y40⟩]
      exact hF z17 e17 h
theorem pie_ok (hT : RTk ta c) (hk : ∀ i : Nat, i < c → rkd ta i = k i) (hPl : RPl ta c) (hc : RCur pf c t o) (hW : RW pf o) (hN : (pf 13).toInt = (N : Int)) (hb : N ≤ t + 10000) (h : R_mp_piece ta pf na ma wa pf' na' ma' wa' xt) : OkI (RepI k c) c t o (pItem k t o) N pf na ma wa pf' na' ma' wa' xt := by
  have c1 := hc.2.2.1
  obtain ⟨v2, h1, h⟩ | h := h
  · have w1 := isKey_r hT hc (by decide) h1
    rw [hk t c1, show ((3 : Int32).toInt + 1 : Int) = 4 from rfl] at w1
    rcases h with ⟨h2, v9, h3, h⟩ | ⟨h2, h⟩
    · have n4 : ¬ k t = 4 := fun y => by have := w1.2.mpr y; clear h; omega
      have w2 := isType_r hT hc h3
      rw [hk t c1] at w2
      rcases h with ⟨h4, h⟩ | ⟨h4, v268, h5, h⟩
      · have yty : k t = 1 ∨ k t = 2 := w2.2.mp (by clear h; omega)
        rcases h with ⟨h5, e0, e1, e2, e3, ex⟩ | ⟨h5, z17, g1, z19, g2, z20, g3, h⟩
        · exact absurd h5 (by decide)
        · have P := pie_ty (D := fun _ => DeP ta pf na ma wa pf' na' ma' wa' xt) (F := FnPr ta pf na ma wa pf' na' ma' wa' xt) hT hk hPl (by clear h; omega) hc hW hN hb (fun yt z q => pie_de hT hk hPl yt hc hW hN hb q) (fun z e q => by
            obtain ⟨z', e', q⟩ := q
            exact pie_fn hT hk hPl (by clear q h; omega) e e' hc hW hN hb q)
          rcases h with ⟨h8, (⟨y1, y2⟩ | ⟨y1, y2⟩)⟩ | ⟨h8, z115, h9, v120, h10, (⟨h11, (⟨y1, y2⟩ | ⟨y1, y2⟩)⟩ | ⟨h11, y2⟩)⟩
          · exact P ⟨z17, g1, z19, g2, z20, g3, Or.inl ⟨h8, Or.inl ⟨y1, y2⟩⟩⟩
          · exact P ⟨z17, g1, z19, g2, z20, g3, Or.inl ⟨h8, Or.inr ⟨y1, y2⟩⟩⟩
          · exact P ⟨z17, g1, z19, g2, z20, g3, Or.inr ⟨h8, z115, h9, v120, h10, Or.inl ⟨h11, Or.inl ⟨y1, y2⟩⟩⟩⟩
          · exact P ⟨z17, g1, z19, g2, z20, g3, Or.inr ⟨h8, z115, h9, v120, h10, Or.inl ⟨h11, Or.inr ⟨y1, y2⟩⟩⟩⟩
          · exact P ⟨z17, g1, z19, g2, z20, g3, Or.inr ⟨h8, z115, h9, v120, h10, Or.inr ⟨h11, y2⟩⟩⟩
      · have nty : ¬ (k t = 1 ∨ k t = 2) := fun y => by have := w2.2.mpr y; clear h; omega
        have w3 := isKey_r hT hc (by decide) h5
        rw [hk t c1, show ((2 : Int32).toInt + 1 : Int) = 3 from rfl] at w3
        rcases h with ⟨h6, h⟩ | ⟨h6, h⟩
        · have n3 : ¬ k t = 3 := fun y => by have := w3.2.mpr y; clear h; omega
          rw [pI_no (by clear h; omega)]
          rcases h with ⟨h7, e0, e1, e2, e3, ex⟩ | ⟨h7, h⟩
          · exact OkI.thr ex
          · exact absurd rfl h7
        · have y3 : k t = 3 := w3.2.mp (by clear h; omega)
          rcases h with ⟨h7, e0, e1, e2, e3, ex⟩ | ⟨h7, z17, g1, z19, g2, z20, g3, h⟩
          · exact absurd h7 (by decide)
          · have P := pie_ty (D := fun _ => DeP ta pf na ma wa pf' na' ma' wa' xt) (F := FnPr ta pf na ma wa pf' na' ma' wa' xt) hT hk hPl (by clear h; omega) hc hW hN hb (fun yt z q => pie_de hT hk hPl yt hc hW hN hb q) (fun z e q => by
              obtain ⟨z', e', q⟩ := q
              exact pie_fn hT hk hPl (by clear q h; omega) e e' hc hW hN hb q)
            rcases h with ⟨h8, (⟨y1, y2⟩ | ⟨y1, y2⟩)⟩ | ⟨h8, z115, h9, v120, h10, (⟨h11, (⟨y1, y2⟩ | ⟨y1, y2⟩)⟩ | ⟨h11, y2⟩)⟩
            · exact P ⟨z17, g1, z19, g2, z20, g3, Or.inl ⟨h8, Or.inl ⟨y1, y2⟩⟩⟩
            · exact P ⟨z17, g1, z19, g2, z20, g3, Or.inl ⟨h8, Or.inr ⟨y1, y2⟩⟩⟩
            · exact P ⟨z17, g1, z19, g2, z20, g3, Or.inr ⟨h8, z115, h9, v120, h10, Or.inl ⟨h11, Or.inl ⟨y1, y2⟩⟩⟩⟩
            · exact P ⟨z17, g1, z19, g2, z20, g3, Or.inr ⟨h8, z115, h9, v120, h10, Or.inl ⟨h11, Or.inr ⟨y1, y2⟩⟩⟩⟩
            · exact P ⟨z17, g1, z19, g2, z20, g3, Or.inr ⟨h8, z115, h9, v120, h10, Or.inr ⟨h11, y2⟩⟩⟩
    · have y4 : k t = 4 := w1.2.mp (by clear h; omega)
      rw [pI_en y4]
      rcases h with ⟨pq1, pq2, pq3, pq4, h3, e0, e1, e2, e3, ex⟩ | ⟨pf782, na783, ma784, wa785, h3, e0, e1, e2, e3, ex⟩
      · rw [(enu_ok hT hk hPl y4 hc hW hN hb h3).no]; exact OkI.thr ex
      · rw [e0, e1, e2, e3, ex]; exact enu_ok hT hk hPl y4 hc hW hN hb h3
  · exact h.elim
theorem add_r {p0 : Int32} (h : R_mp_add p0 pf na pf' na') : (((pf 25).toInt < 0 ∧ na' = na) ∨ (¬ (pf 25).toInt < 0 ∧ na' = vu na 21 (pf 25).toNatClampNeg p0)) ∧ pf' 25 = p0 ∧ (((pf 24).toInt < 0 ∧ pf' 24 = p0) ∨ (¬ (pf 24).toInt < 0 ∧ pf' 24 = pf 24)) ∧ ∀ i : Nat, ¬ i = 24 → ¬ i = 25 → pf' i = pf i := by
  rcases h with ⟨na2, v4, h1, e0, e1⟩ | h
  · obtain ⟨g1, g2⟩ := hang_r h1
    rw [e0, e1]
    refine ⟨g1, by rw [pk_us], ?_, fun i i1 i2 => by rw [pk_un i2, pk_un i1]⟩
    rw [pk_un (by decide), pk_us]
    exact g2
  · exact h.elim
theorem RCur.ad {t1 : Nat} (hc : RCur pf c t1 o) (h : ∀ i : Nat, ¬ i = 24 → ¬ i = 25 → pf' i = pf i) : RCur pf' c t1 o := ⟨by rw [h 11 (by decide) (by decide)]; exact hc.1, by rw [h 12 (by decide) (by decide)]; exact hc.2.1, hc.2.2⟩
theorem RW.ad (hc : RW pf o) (h : ∀ i : Nat, ¬ i = 24 → ¬ i = 25 → pf' i = pf i) : RW pf' o := by
  unfold RW
  rw [h 26 (by decide) (by decide)]
  exact hc
theorem pIs_e {n : Nat} (h : k t = 0) : pItems k (n + 1) t = some (.null, t) := by
  have un : pItems k (n + 1) t = if k t = 0 then some (.null, t) else (match pItem k t 0 with
    | none => none
    | some (it, t1) => (match pItems k n t1 with
      | none => none
      | some (r, t2) => some (.add it r, t2))) := by first | rfl | simp [pItems]
  rw [un, if_pos h]
theorem pIs_s {n : Nat} (h : ¬ k t = 0) : pItems k (n + 1) t = gThen (pItem k t 0) (fun s t1 => gMap (fun r => .add s r) (pItems k n t1)) := by
  have un : pItems k (n + 1) t = if k t = 0 then some (.null, t) else (match pItem k t 0 with
    | none => none
    | some (it, t1) => (match pItems k n t1 with
      | none => none
      | some (r, t2) => some (.add it r, t2))) := by first | rfl | simp [pItems]
  rw [un, if_neg h]
  cases pItem k t 0 with
  | none => rfl
  | some r =>
    obtain ⟨s, t1⟩ := r
    show _ = gMap (fun r => .add s r) (pItems k n t1)
    dsimp only
    cases pItems k n t1 with
    | none => rfl
    | some q => rfl
/-- the row of items from node lo on -/
def OkX2 (k : Nat → Int) (c : Nat) (g : Option (Ast × Nat)) (lo : Nat) (hd : Int32) (na ma : Nat → Nat → Int32) (pf' : Nat → Int32) (na' ma' : Nat → Nat → Int32) (xt : Int32) : Prop := match g with
  | none => xt = 1
  | some r => xt = 0 ∧ pf' 24 = hd ∧ ∃ N' : Nat, N' ≤ 20000 ∧ RowS na' (RepI k c na' ma') r.1 (lo : Int) lo N' ∧ AgF na ma na' ma' 0 lo (-1)
theorem who_99 (hT : RTk ta c) (hk : ∀ i : Nat, i < c → rkd ta i = k i) (hPl : RPl ta c) : ∀ (n t lo hi m : Nat) (s : Ast) (pf : Nat → Int32) (na ma wa : Nat → Nat → Int32), E_mp_whole ta pf' na' ma' wa' xt m 99999 [] [] [] [] [] pf na ma wa → RCur pf c t 0 → RW pf 0 → (pf 13).toInt = (hi : Int) → hi ≤ t + 10000 → (pf 25).toInt = (lo : Int) → 0 ≤ (pf 24).toInt → lo < hi → RepI k c na ma s lo hi → (na 21 lo).toInt = -1 → c ≤ n + t → OkX2 k c (gMap (fun r => .add s r) (pItems k n t)) lo (pf 24) na ma pf' na' ma' xt := by
  intro n
  induction n with
  | zero =>
    intro t lo hi m s pf na ma wa h hc hW hN hb h25 h24 hl hE hm hf
    have := hc.2.2.1
    exfalso; omega
  | succ n ih =>
    intro t lo hi m s pf na ma wa h hc hW hN hb h25 h24 hl hE hm hf
    have c1 := hc.2.2.1
    have c2 := hc.2.2.2.1
    have k9 := (rkd_b hT c1).2.2.2.2.2.2.2.2
    rw [hk t c1] at k9
    obtain ⟨m, z1, h1, h⟩ := iv_mp_whole_99999 h
    rw [cn_of hc.1] at h1
    rcases h with ⟨h2, e0, e1, e2, e3, ex⟩ | ⟨h2, h⟩
    · rw [h1] at h2
      rw [pIs_e (k9.mp h2), e0, e1, e2, ex]
      exact ⟨rfl, rfl, hi, by omega, ⟨hi, rfl, ⟨hl, Nat.le_refl _⟩, hE, by omega, Nat.le_refl _⟩, AgF.rf⟩
    · rw [h1] at h2
      rw [pIs_s (fun y => h2 (k9.mpr y))]
      rcases h with ⟨pq1, pq2, pq3, pq4, h3, e0, e1, e2, e3, ex⟩ | ⟨pf8, na9, ma10, wa11, h3, hE'⟩
      · rw [(pie_ok hT hk hPl hc hW hN hb h3).no]; exact ex
      · obtain ⟨pf1, na1, v1, q, ad⟩ := pie_ok hT hk hPl hc hW hN hb h3
        obtain ⟨g, hg⟩ := q.sm
        obtain ⟨a, t1⟩ := g
        rw [hg] at q ⊢
        show OkX2 k c (gMap (fun r => .add s r) (gMap (fun r => .add a r) (pItems k n t1))) lo (pf 24) na ma pf' na' ma' xt
        obtain ⟨-, N', z0, z1, z2, z3, z4, z5, z6, z7⟩ := q
        simp only [] at z1 z3 z4
        obtain ⟨f1, f2, f3, f4⟩ := add_r (ad rfl)
        have p25 : (pf1 25).toInt = (lo : Int) := by rw [z7.1 25 (by decide) (by decide) (by decide) (by decide)]; exact h25
        have p24 := z7.1 24 (by decide) (by decide) (by decide) (by decide)
        have f1' : na9 = vu na1 21 lo v1 := by
          rcases f1 with ⟨y, -⟩ | ⟨-, y⟩
          · exfalso; omega
          · rw [cn_of p25] at y; exact y
        have f3' : pf8 24 = pf 24 := by
          rcases f3 with ⟨y, -⟩ | ⟨-, y⟩
          · rw [p24] at y; exfalso; omega
          · rw [y, p24]
        have b3 := ih t1 hi N' m a pf8 na9 ma10 wa11 hE' (z3.ad f4) ((hW.wk z7).ad f4) (by rw [f4 13 (by decide) (by decide)]; exact z2) (by omega) (by rw [f2]; exact z0) (by rw [f3']; exact h24) z1.1 (rpi_kp z1.1 z4 ((ag_21 f1').ot (r' := -1) (Or.inl (by omega))) (by omega)) (by rw [f1', vu_p (by omega)]; exact z5) (by omega)
        cases hw : pItems k n t1 with
        | none =>
          rw [hw] at b3
          exact b3
        | some s2 =>
          rw [hw] at b3
          show OkX2 k c (some (Term.add s (.add a s2.1), s2.2)) lo (pf 24) na ma pf' na' ma' xt
          obtain ⟨d0, d1, M, dM, d2, d3⟩ := b3
          simp only [] at d2
          have gj := (d3 lo (Nat.zero_le _) (by omega)).2.2.2.2.2.2.2 (by omega)
          have ax : AgF na ma na' ma' lo hi (lo : Int) := ((z6.le (Nat.zero_le _) (Nat.le_refl _)).ot (Or.inl (by omega))).tr ((ag_21 f1').tr ((d3.le (Nat.zero_le _) (Nat.le_refl _)).ot (Or.inl (by omega))))
          refine ⟨d0, by rw [d1, f3'], M, dM, ⟨hi, rfl, ⟨hl, row_le d2⟩, rpi_kp hl hE ax (Int.le_refl _), ?_⟩, ?_⟩
          · rw [gj.1, f1', vu_s, z0]; exact d2
          · exact (z6.le (Nat.le_refl _) (by omega)).tr (((ag_21 f1').ot (Or.inr (Int.le_refl _))).tr (d3.le (Nat.le_refl _) (by omega)))
/-- a text: it is one, and its row of items stands -/
theorem who_okr (hT : RTk ta c) (hk : ∀ i : Nat, i < c → rkd ta i = k i) (hPl : RPl ta c) (hc : RCur pf c 0 0) (hW : RW pf 0) (hN : (pf 13).toInt = 0) (h24 : (pf 24).toInt = -1) (h25 : (pf 25).toInt = -1) (h : R_mp_whole ta pf na ma wa pf' na' ma' wa' xt) : match pItems k 2050 0 with
    | none => xt = 1
    | some r => xt = 0 ∧ ∃ N' : Nat, N' ≤ 20000 ∧ RowS na' (RepI k c na' ma') r.1 (pf' 24).toInt 0 N' := by
  have c1 := hc.2.2.1
  have c2 := hc.2.2.2.1
  have k9 := (rkd_b hT c1).2.2.2.2.2.2.2.2
  rw [hk 0 c1] at k9
  have hN' : (pf 13).toInt = ((0 : Nat) : Int) := hN
  obtain ⟨m, h⟩ := h
  obtain ⟨m, z26, h1, h⟩ := iv_mp_whole_0 h
  rw [cn_of hc.1] at h1
  rcases h with ⟨h2, e0, e1, e2, e3, ex⟩ | ⟨h2, h⟩
  · rw [h1] at h2
    rw [pIs_e (k9.mp h2), e0, e1, e2]
    exact ⟨ex, 0, by omega, by omega, Nat.le_refl _⟩
  · rw [h1] at h2
    rw [pIs_s (fun y => h2 (k9.mpr y))]
    rcases h with ⟨pq1, pq2, pq3, pq4, h3, e0, e1, e2, e3, ex⟩ | ⟨pf8, na9, ma10, wa11, h3, hE'⟩
    · rw [(pie_ok hT hk hPl hc hW hN' (by omega) h3).no]; exact ex
    · obtain ⟨pf1, na1, v1, q, ad⟩ := pie_ok hT hk hPl hc hW hN' (by omega) h3
      obtain ⟨g, hg⟩ := q.sm
      obtain ⟨a, t1⟩ := g
      rw [hg] at q ⊢
      obtain ⟨-, N', z0, z1, z2, z3, z4, z5, z6, z7⟩ := q
      simp only [] at z1 z3 z4
      obtain ⟨f1, f2, f3, f4⟩ := add_r (ad rfl)
      have p25 := z7.1 25 (by decide) (by decide) (by decide) (by decide)
      have p24 := z7.1 24 (by decide) (by decide) (by decide) (by decide)
      have f1' : na9 = na1 := by
        rcases f1 with ⟨-, y⟩ | ⟨y, -⟩
        · exact y
        · rw [p25] at y; exfalso; omega
      have f3' : pf8 24 = v1 := by
        rcases f3 with ⟨-, y⟩ | ⟨y, -⟩
        · exact y
        · rw [p24] at y; exfalso; omega
      subst f1'
      have b3 := who_99 hT hk hPl 2049 t1 0 N' m a pf8 na9 ma10 wa11 hE' (z3.ad f4) ((hW.wk z7).ad f4) (by rw [f4 13 (by decide) (by decide)]; exact z2) (by omega) (by rw [f2]; exact z0) (by rw [f3']; omega) z1.1 z4 z5 (by omega)
      have eg : gThen (some (a, t1)) (fun s t1 => gMap (fun r => .add s r) (pItems k 2049 t1)) = gMap (fun r => .add a r) (pItems k 2049 t1) := rfl
      rw [eg]
      cases hw : gMap (fun r => Term.add a r) (pItems k 2049 t1) with
      | none =>
        rw [hw] at b3
        exact b3
      | some s2 =>
        rw [hw] at b3
        obtain ⟨d0, d1, M, dM, d2, d3⟩ := b3
        exact ⟨d0, M, dM, by rw [d1, f3', z0]; exact d2⟩
end RT
