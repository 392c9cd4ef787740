/-! THE REFERENCE: switch, statements by their keys, statements whole -/
section RO
variable {RLt : T_mp_statement} {S : POT} {k : Nat → Int} {ta : Nat → Nat → Int32} {c t N d : Nat} {o : Int} {pf : Nat → Int32} {na ma wa : Nat → Nat → Int32} {pf' : Nat → Int32} {na' ma' wa' : Nat → Nat → Int32} {v xt : Int32}
/-- one in a switch -/
def gSwE (S : POT) (k : Nat → Int) (o : Int) (b : Bool) (t : Nat) : Option (Ast × Nat) := if k t = 11 then gThen (pE k 0 (t + 1) o) (fun e t1 => if k t1 = 58 then some (sNd 10 e (.arg t), t1 + 1) else none) else if k t = 12 then (if k (t + 1) = 58 then some (sNd 11 (.arg t) .null, t + 2) else none) else if b = true then S t o else none
theorem pSw_e {b : Bool} {n : Nat} (h : k t = 125) : pSw S k o (n + 1) b t = some (.null, t) := by
  have un : pSw S k o (n + 1) b t = if k t = 125 then some (.null, t) else (match (
      if k t = 11 then (match pE k 0 (t + 1) o with
        | none => none
        | some (e, t1) => if k t1 = 58 then some (sNd 10 e (.arg t), t1 + 1) else none)
      else if k t = 12 then (if k (t + 1) = 58 then some (sNd 11 (.arg t) .null, t + 2) else none)
      else if b then S t o else none) with
    | none => none
    | some (s, t1) => (match pSw S k o n true t1 with
      | none => none
      | some (r, t2) => some (.add s r, t2))) := by first | rfl | simp [pSw]
  rw [un, if_pos h]
theorem pSw_s {b : Bool} {n : Nat} (h : ¬ k t = 125) : pSw S k o (n + 1) b t = gThen (gSwE S k o b t) (fun s t1 => gMap (fun r => .add s r) (pSw S k o n true t1)) := by
  have un : pSw S k o (n + 1) b t = if k t = 125 then some (.null, t) else (match (
      if k t = 11 then (match pE k 0 (t + 1) o with
        | none => none
        | some (e, t1) => if k t1 = 58 then some (sNd 10 e (.arg t), t1 + 1) else none)
      else if k t = 12 then (if k (t + 1) = 58 then some (sNd 11 (.arg t) .null, t + 2) else none)
      else if b then S t o else none) with
    | none => none
    | some (s, t1) => (match pSw S k o n true t1 with
      | none => none
      | some (r, t2) => some (.add s r, t2))) := by first | rfl | simp [pSw]
  have e1 : (if k t = 11 then (match pE k 0 (t + 1) o with
        | none => none
        | some (e, t1) => if k t1 = 58 then some (sNd 10 e (.arg t), t1 + 1) else none)
      else if k t = 12 then (if k (t + 1) = 58 then some (sNd 11 (.arg t) .null, t + 2) else none)
      else if b then S t o else none) = gSwE S k o b t := by
    unfold gSwE
    by_cases q : k t = 11
    · rw [if_pos q, if_pos q]
      cases pE k 0 (t + 1) o with
      | none => rfl
      | some r => rfl
    · rw [if_neg q, if_neg q]
  rw [un, if_neg h, e1]
  cases gSwE S k o b t with
  | none => rfl
  | some r =>
    obtain ⟨s, t1⟩ := r
    show _ = gMap (fun r => .add s r) (pSw S k o n true t1)
    dsimp only
    cases pSw S k o n true t1 with
    | none => rfl
    | some q => rfl
def Rlb (k : Nat → Int) (c d : Nat) (na ma : Nat → Nat → Int32) (s : Ast) (l h : Nat) : Prop := l < h ∧ (RepL k c na ma s l h ∨ RepS k c na ma d s l h)
theorem rlb_kp {s : Ast} {l h : Nat} {r : Int} (q : Rlb k c d na ma s l h) (g : AgS na ma na' ma' l h r) (hr : r ≤ (l : Int)) : Rlb k c d na' ma' s l h := ⟨q.1, q.2.elim (fun y => Or.inl (rpl_kp q.1 y g.1 hr)) (fun y => Or.inr (rps_kp _ _ _ _ _ y g hr))⟩
theorem swi_st (hS : HSt RLt d ta k c S) (hT : RTk ta c) (hk : ∀ i : Nat, i < c → rkd ta i = k i) (hPl : RPl ta c) {B hi n : Nat} {x1 x2 : Int32} (hx1 : x1.toInt = (B : Int)) (hc : RCur pf c t o) (hW : RW pf o) (hN : (pf 13).toInt = (hi : Int)) (hb : hi ≤ t + 10000) {bb : Bool} (hbb : bb = true ↔ ¬ x2.toInt < 0) (h : E_mp_switching RLt ta pf' na' ma' wa' v xt n 33 [x1, x2] [] [] [] [] pf na ma wa) : (k t = 125 ∧ ((∃ (pq1 : Nat → Int32), (R_mp_closes 1 (lby "}") ta pf pq1 1) ∧ xt = 1) ∨ (∃ (pf15 : Nat → Int32), (R_mp_closes 1 (lby "}") ta pf pf15 0) ∧ ∃ (z28 : Int32), (z28 = (pf15 12) - (1 : Int32)) ∧ pf' = (upd pf15 12 z28) ∧ na' = na ∧ ma' = ma ∧ wa' = wa ∧ v = x1 ∧ xt = 0))) ∨ (¬ k t = 125 ∧ ((xt = 1 ∧ gSwE S k o bb t = none) ∨ ∃ (s : Ast) (t1 : Nat) (pf2 : Nat → Int32) (na2 ma2 wa2 : Nat → Nat → Int32) (v2 : Int32), gSwE S k o bb t = some (s, t1) ∧ OkSr (Rlb k c d) c t o (some (s, t1)) hi pf na ma wa pf2 na2 ma2 wa2 v2 0 ∧ ∃ (na3 : Nat → Nat → Int32) (v3 : Int32), R_mp_hang (ma 18 B) x2 v2 na2 na3 v3 ∧ ∃ (n : Nat) (ma3 : Nat → Nat → Int32), ma3 = vu ma2 18 B v3 ∧ E_mp_switching RLt ta pf' na' ma' wa' v xt n 33 [x1, v2] [] [] [] [] pf2 na3 ma3 wa2)) := by
  have c1 := hc.2.2.1
  have c2 := hc.2.2.2.1
  obtain ⟨n, a17, b18, h1, h2, v5, h3, h⟩ := iv_mp_switching_33 h
  rw [cn_of hx1] at h2
  have w := is_r hT hc (by decide) mq_125 (by decide) h3
  rw [hk t c1] at w
  rcases h with ⟨h4, h⟩ | ⟨h4, v30, h5, h⟩
  · have y : k t = 125 := w.2.mp (by omega)
    refine Or.inl ⟨y, ?_⟩
    rcases h with ⟨pq1, h5, e0, e1, e2, e3, ev, ex⟩ | ⟨pf15, h5, z28, h6, e0, e1, e2, e3, ev, ex⟩
    · exact Or.inl ⟨pq1, h5, ex⟩
    · exact Or.inr ⟨pf15, h5, z28, h6, e0, e1, e2, e3, ev, ex⟩
  · have y : ¬ k t = 125 := fun y => by have := w.2.mpr y; omega
    refine Or.inr ⟨y, ?_⟩
    have u1 := isKey_r hT hc (by decide) h5
    rw [hk t c1, show ((10 : Int32).toInt + 1 : Int) = 11 from rfl] at u1
    rw [h2]
    rcases h with ⟨h6, v37, h7, h⟩ | ⟨h6, pf160, na161, ma162, v164, h7, z176, h8, h⟩
    · have n11 : ¬ k t = 11 := fun y => by have := u1.2.mpr y; omega
      have u2 := isKey_r hT hc (by decide) h7
      rw [hk t c1, show ((11 : Int32).toInt + 1 : Int) = 12 from rfl] at u2
      rcases h with ⟨h8, h⟩ | ⟨h8, pf116, na117, ma118, v120, h9, z132, h10, h⟩
      · have n12 : ¬ k t = 12 := fun y => by have := u2.2.mpr y; omega
        rcases h with ⟨h9, h⟩ | ⟨h9, h⟩
        · have ebb : ¬ bb = true := fun q => hbb.mp q h9
          have g0 : gSwE S k o bb t = none := by unfold gSwE; rw [if_neg n11, if_neg n12, if_neg ebb]
          rcases h with ⟨h10, e0, e1, e2, e3, ev, ex⟩ | ⟨h10, h⟩
          · exact Or.inl ⟨ex, g0⟩
          · exact absurd rfl h10
        · have ebb : bb = true := hbb.mpr h9
          have g0 : gSwE S k o bb t = S t o := by unfold gSwE; rw [if_neg n11, if_neg n12, if_pos ebb]
          rw [g0]
          rcases h with ⟨h10, e0, e1, e2, e3, ev, ex⟩ | ⟨h10, h⟩
          · exact absurd h10 (by decide)
          · rcases h with ⟨pq1, pq2, pq3, pq4, h11, e0, e1, e2, e3, ev, ex⟩ | ⟨pf85, na86, ma87, wa88, v90, h11, z105, h12, na107, v109, h13, ma112, h14, hE⟩
            · exact Or.inl ⟨ex, (hS hc hW hN hb h11).no⟩
            · have p := hS hc hW hN hb h11
              obtain ⟨g, hg⟩ := p.sm
              obtain ⟨s, t1⟩ := g
              rw [hg] at p
              rw [cn_of hx1] at h14
              exact Or.inr ⟨s, t1, pf85, na86, ma87, wa88, v90, hg, p.imp (fun n m s l h q1 q2 => ⟨q1, Or.inr q2⟩), na107, v109, h13, n, ma112, h14, hE⟩
      · have y12 : k t = 12 := u2.2.mp (by omega)
        obtain ⟨m1, m2, m3, m4⟩ := make_r hN (by omega) (show (vp_nar .byte (30 : Int32).toInt8.toInt32).toInt = 30 from rfl) hc.1 h9
        have hc1 := hc.mk m3
        have hc2 := hc1.st h10 (rlt hT hc1 (by rw [hk t c1]; omega))
        have tk := fun {p : Nat → Int32} {z : Int32} (y : R_mp_take 1 (lby ":") ta (upd pf116 11 z132) p z) => take_r hT hc2 (by decide) mq_58 (by decide) y
        rw [hk (t + 1) hc2.2.2.1] at tk
        have g0 : gSwE S k o bb t = if k (t + 1) = 58 then some (sNd 11 (.arg t) .null, t + 2) else none := by unfold gSwE; rw [if_neg n11, if_pos y12]
        rw [g0]
        rcases h with ⟨pq1, h11, e0, e1, e2, e3, ev, ex⟩ | ⟨pf137, h11, z149, h12, na151, v153, h13, ma156, h14, hE⟩
        · rcases (tk h11).2 with ⟨y1, y2, y3⟩ | ⟨y1, y2⟩
          · exact absurd y2 (by decide)
          · rw [if_neg y1]; exact Or.inl ⟨ex, rfl⟩
        · obtain ⟨r1, r2⟩ := tk h11
          rcases r2 with ⟨y1, y2, y3⟩ | ⟨y1, y2⟩
          · rw [if_pos y1]
            rw [cn_of hx1] at h14
            refine Or.inr ⟨_, _, pf137, na117, ma118, wa, v120, rfl, ?_, na151, v153, h13, n, ma156, h14, hE⟩
            refine ⟨rfl, hi + 1, m1, by simp only []; omega, ?_, y3, ⟨by omega, Or.inl (Or.inr ⟨t, rfl, m4.1.1.1⟩)⟩, m4.1.2.2.1, m4.ag (Or.inl (Nat.le_refl _)), (mk_wk m3).tr ((show WKp pf116 wa (upd pf116 11 z132) wa from ⟨fun i a _ _ _ => pk_un a, by rw [pk_un (by decide)], fun _ _ _ => rfl⟩).tr r1.wk)⟩
            rw [r1 13 (by decide) (by decide), pk_un (by decide), m2]; rfl
          · exact absurd y2 (by decide)
    · have y11 : k t = 11 := u1.2.mp (by omega)
      obtain ⟨m1, m2, m3, m4⟩ := make_r hN (by omega) (show (vp_nar .byte (29 : Int32).toInt8.toInt32).toInt = 29 from rfl) hc.1 h7
      have hc1 := hc.mk m3
      have hc2 := hc1.st h8 (rlt hT hc1 (by rw [hk t c1]; omega))
      have g0 : gSwE S k o bb t = gThen (pE k 0 (t + 1) o) (fun e t1 => if k t1 = 58 then some (sNd 10 e (.arg t), t1 + 1) else none) := by unfold gSwE; rw [if_pos y11]
      rw [g0]
      have hW1 : RW (upd pf160 11 z176) o := by
        have := hW.mk m3
        unfold RW at this ⊢
        rw [pk_un (by decide)]
        exact this
      have hN1 : ((upd pf160 11 z176) 13).toInt = ((hi + 1 : Nat) : Int) := by rw [pk_un (by decide), m2]; rfl
      rcases h with ⟨pq1, pq2, pq3, pq4, h9, e0, e1, e2, e3, ev, ex⟩ | ⟨pf181, na182, ma183, wa184, v186, h9, na201, h10, h⟩
      · rw [(cst_ok hT hk hPl hc2 hW1 hN1 (by omega) h9).no]; exact Or.inl ⟨ex, rfl⟩
      · have q := cst_ok hT hk hPl hc2 hW1 hN1 (by omega) h9
        obtain ⟨g, hg⟩ := q.sm
        obtain ⟨e, t1⟩ := g
        rw [hg] at q ⊢
        have eg : gThen (some (e, t1)) (fun e t1 => if k t1 = 58 then some (sNd 10 e (.arg t), t1 + 1) else none) = if k t1 = 58 then some (sNd 10 e (.arg t), t1 + 1) else none := rfl
        rw [eg]
        obtain ⟨M2, j, z0, z1, z2, z3, z4, z5, z6, z7⟩ := q.e
        rw [cn_of m1] at h10
        have h10' : na201 = vu na182 17 hi v186 := h10
        have at' : ∀ f i : Nat, ¬ i = hi → na201 f i = na182 f i ∧ ma183 f i = ma183 f i := fun f i hi => ⟨by rw [h10', vu_at hi], rfl⟩
        have g1 := agN z6 (show hi < hi + 1 by omega)
        have tk := fun {p : Nat → Int32} {z : Int32} (y : R_mp_take 1 (lby ":") ta pf181 p z) => take_r hT z4 (by decide) mq_58 (by decide) y
        rw [hk t1 z4.2.2.1] at tk
        rcases h with ⟨pq1, h11, e0, e1, e2, e3, ev, ex⟩ | ⟨pf206, h11, z218, h12, na220, v222, h13, ma225, h14, hE⟩
        · rcases (tk h11).2 with ⟨y1, y2, y3⟩ | ⟨y1, y2⟩
          · exact absurd y2 (by decide)
          · rw [if_neg y1]; exact Or.inl ⟨ex, rfl⟩
        · obtain ⟨r1, r2⟩ := tk h11
          rcases r2 with ⟨y1, y2, y3⟩ | ⟨y1, y2⟩
          · rw [if_pos y1]
            rw [cn_of hx1] at h14
            refine Or.inr ⟨_, _, pf206, na201, ma183, wa184, v164, rfl, ?_, na220, v222, h13, n, ma225, h14, hE⟩
            refine ⟨rfl, M2, m1, by simp only []; omega, by rw [r1 13 (by decide) (by decide)]; exact z1, y3, ⟨by omega, Or.inl (Or.inl ⟨e, t, rfl, ?_, ?_⟩)⟩, ?_, ?_, (mk_wk m3).tr ((show WKp pf160 wa (upd pf160 11 z176) wa from ⟨fun i a _ _ _ => pk_un a, by rw [pk_un (by decide)], fun _ _ _ => rfl⟩).tr (z7.tr r1.wk))⟩
            · rw [h10', vu_p (by omega), g1.1]; exact m4.1.1.1
            · rw [show na201 17 hi = v186 by rw [h10', vu_s]]
              exact z2.kp (ag_at (r := -1) at' (Or.inr (by omega))) (Or.inl (by omega))
            · rw [h10', vu_p (by omega), g1.2.2.2.1]; exact m4.1.2.2.1
            · exact (m4.ag (Or.inl (Nat.le_refl _))).tr ((z6.le (Nat.le_refl _) (by omega)).tr (ag_at at' (Or.inl (Nat.le_refl _))))
          · exact absurd y2 (by decide)
def gWr (S : POT) (k : Nat → Int) (o : Int) (n : Nat) (s : Ast) (t1 : Nat) : Option (Ast × Nat) := gMap (fun r => .add s r) (pSw S k o n true t1)
/-- the end of a switch -/
theorem swi_end (hT : RTk ta c) (hk : ∀ i : Nat, i < c → rkd ta i = k i) (ho : 2 ≤ o) {B : Nat} {x1 : Int32} (hx1 : x1.toInt = (B : Int)) (hc : RCur pf c t o) (y : k t = 125) (h : (∃ (pq1 : Nat → Int32), (R_mp_closes 1 (lby "}") ta pf pq1 1) ∧ xt = 1) ∨ (∃ (pf15 : Nat → Int32), (R_mp_closes 1 (lby "}") ta pf pf15 0) ∧ ∃ (z28 : Int32), (z28 = (pf15 12) - (1 : Int32)) ∧ pf' = (upd pf15 12 z28) ∧ na' = na ∧ ma' = ma ∧ wa' = wa ∧ v = x1 ∧ xt = 0)) : xt = 0 ∧ v.toInt = (B : Int) ∧ RCur pf' c (t + 1) (o - 2) ∧ (pf' 13).toInt = (pf 13).toInt ∧ na' = na ∧ ma' = ma ∧ wa' = wa ∧ WKp pf wa pf' wa := by
  have cl := fun {p : Nat → Int32} {z : Int32} (y : R_mp_closes 1 (lby "}") ta pf p z) => closes_r hT hc (by omega) (by decide) mq_125 (by decide) y
  rw [hk t hc.2.2.1] at cl
  rcases h with ⟨pq1, h5, ex⟩ | ⟨pf15, h5, z28, h6, e0, e1, e2, e3, ev, ex⟩
  · rcases (cl h5).2 with ⟨u1, u2, u3⟩ | ⟨u1, u2⟩
    · exact absurd u2 (by decide)
    · exact absurd y u1
  · obtain ⟨r1, r2⟩ := cl h5
    rcases r2 with ⟨u1, u2, u3⟩ | ⟨u1, u2⟩
    · have eo : o - 1 = o - 2 + 1 := by omega
      rw [eo] at u3
      obtain ⟨k1, k2⟩ := shut_r u3 (by omega) h6
      rw [e0, ev]
      exact ⟨ex, hx1, k1, by rw [k2, r1 13 (by decide) (by decide)], e1, e2, e3, r1.wk.tr cl_wk⟩
    · exact absurd u2 (by decide)
theorem swi_33 (hS : HSt RLt d ta k c S) (hT : RTk ta c) (hk : ∀ i : Nat, i < c → rkd ta i = k i) (hPl : RPl ta c) {B : Nat} (ho : 2 ≤ o) : ∀ (n t lo hi m : Nat) (s : Ast) (x1 x2 : Int32) (pf : Nat → Int32) (na ma wa : Nat → Nat → Int32), E_mp_switching RLt ta pf' na' ma' wa' v xt m 33 [x1, x2] [] [] [] [] pf na ma wa → x1.toInt = (B : Int) → x2.toInt = (lo : Int) → B < lo → 0 ≤ (ma 18 B).toInt → RCur pf c t o → RW pf o → (pf 13).toInt = (hi : Int) → hi ≤ t + 10000 → Rlb k c d na ma s lo hi → (na 21 lo).toInt = -1 → c ≤ n + t → OkL (Rlb k c d) c t (o - 2) (gEnd k 125 (gWr S k o n s t)) B lo hi pf na ma wa pf' na' ma' wa' v xt := by
  intro n
  induction n with
  | zero =>
    intro t lo hi m s x1 x2 pf na ma wa h hx1 hx2 hB h18 hc hW hN hb hE hm hf
    have := hc.2.2.1
    exfalso; omega
  | succ n ih =>
    intro t lo hi m s x1 x2 pf na ma wa h hx1 hx2 hB h18 hc hW hN hb hE hm hf
    have hl := hE.1
    unfold gWr
    rcases swi_st hS hT hk hPl hx1 hc hW hN hb (bb := true) ⟨fun _ => by omega, fun _ => rfl⟩ h with ⟨y, h⟩ | ⟨y, ⟨ex, g0⟩ | ⟨a, t1, pf2, na2, ma2, wa2, v2, g0, q, na3, v3, h5, m, ma3, h6, hE'⟩⟩
    · rw [pSw_e y]
      show OkL (Rlb k c d) c t (o - 2) (if k t = 125 then some (Term.add s .null, t + 1) else none) B lo hi pf na ma wa pf' na' ma' wa' v xt
      obtain ⟨e0, e1, e2, e3, e4, e5, e6, e7⟩ := swi_end hT hk ho hx1 hc y h
      rw [if_pos y, e0, e4, e5, e6]
      exact ⟨rfl, hi, e1, by simp only []; omega, by rw [e3]; exact hN, e2, ⟨hi, rfl, ⟨hl, Nat.le_refl _⟩, hE, by omega, Nat.le_refl _⟩, AgF.rf, e7⟩
    · rw [pSw_s y, g0]; exact ex
    · rw [pSw_s y, g0]
      show OkL (Rlb k c d) c t (o - 2) (gEnd k 125 (gMap (fun r => .add s r) (gWr S k o n a t1))) B lo hi pf na ma wa pf' na' ma' wa' v xt
      obtain ⟨-, N', z0, z1, z2, z3, z4, z5, z6, z7⟩ := q
      simp only [] at z1 z3 z4
      obtain ⟨f1, f2⟩ := hang_r h5
      have f1' : na3 = vu na2 21 lo v2 := by
        rcases f1 with ⟨y, -⟩ | ⟨-, y⟩
        · exfalso; omega
        · rw [cn_of hx2] at y; exact y
      have f2' : v3 = ma 18 B := by
        rcases f2 with ⟨y, -⟩ | ⟨-, y⟩
        · exfalso; omega
        · exact y
      have gB := z6 B (Nat.zero_le _) (by omega)
      have e3 : ma3 = ma2 := by
        funext f i
        by_cases q : f = 18 ∧ i = B
        · rw [q.1, q.2, h6, vu_s, f2', gB.2.2.2.1]
        · rw [h6, vu_p q]
      rw [e3] at hE'
      have b3 := ih t1 hi N' m a x1 v2 pf2 na3 ma2 wa2 hE' hx1 z0 (by omega) (by rw [gB.2.2.2.1]; exact h18) z3 (hW.wk z7) z2 (by omega) (rlb_kp z4 (((ag_21 f1').ot (r' := -1) (Or.inl (by omega))).s (Or.inl (by omega))) (by omega)) (by rw [f1', vu_p (by omega)]; exact z5) (by omega)
      cases hw : gWr S k o n a t1 with
      | none =>
        rw [hw] at b3
        exact b3
      | some s2 =>
        obtain ⟨r, t2⟩ := s2
        rw [hw] at b3
        have b3' : OkL (Rlb k c d) c t1 (o - 2) (if k t2 = 125 then some (r, t2 + 1) else none) B hi N' pf2 na3 ma2 wa2 pf' na' ma' wa' v xt := b3
        show OkL (Rlb k c d) c t (o - 2) (if k t2 = 125 then some (Term.add s r, t2 + 1) else none) B lo hi pf na ma wa pf' na' ma' wa' v xt
        by_cases w : k t2 = 125
        · rw [if_pos w] at b3' ⊢
          obtain ⟨d0, M, dv, d1, d2, d3, d4, d5, d6⟩ := b3'
          simp only [] at d1 d3 d4
          have gj := (d5 lo (Nat.zero_le _) (by omega)).2.2.2.2.2.2.2 (by omega)
          have ax : AgS na ma na' ma' lo hi (lo : Int) := ((((z6.le (Nat.zero_le _) (Nat.le_refl _)).s (Or.inl (by omega))).ot (Or.inl (by omega))).tr (⟨ag_21 f1', fun _ _ _ => rfl⟩ : AgS na2 ma2 na3 ma2 lo hi (lo : Int))).tr (((d5.le (Nat.zero_le _) (Nat.le_refl _)).s (Or.inl (by omega))).ot (Or.inl (by omega)))
          refine ⟨d0, M, dv, by simp only []; omega, d2, d3, ⟨hi, rfl, ⟨hl, by omega⟩, rlb_kp hE ax (Int.le_refl _), ?_⟩, ?_, z7.tr d6⟩
          · rw [gj.1, f1', vu_s, z0]; exact d4
          · exact (z6.le (Nat.le_refl _) (by omega)).tr (((ag_21 f1').ot (Or.inr (Int.le_refl _))).tr (d5.le (Nat.le_refl _) (by omega)))
        · rw [if_neg w] at b3' ⊢
          exact b3'
def gSwi (S : POT) (k : Nat → Int) (t : Nat) (o : Int) : Option (Ast × Nat) := if o < 60 then gThen (pCo k (t + 1) (o + 1)) (fun e t1 => if k t1 = 123 ∧ o < 59 then gMap (fun l => sNd 9 e l) (gEnd k 125 (pSw S k (o + 2) 2049 false (t1 + 1))) else none) else none
theorem pS_sw (h : k t = 10) : pStm S k t o = gSwi S k t o := by
  unfold pStm gSwi
  rw [if_neg (by omega), if_neg (by omega), if_neg (by omega), if_neg (by omega), if_neg (by omega), if_neg (by omega), if_neg (by omega), if_pos h]
  by_cases ho : o < 60
  · rw [if_pos ho, if_pos ho]
    cases pCo k (t + 1) (o + 1) with
    | none => rfl
    | some r =>
      obtain ⟨e, t1⟩ := r
      show (if k t1 = 123 ∧ o < 59 then _ else none) = (if k t1 = 123 ∧ o < 59 then gMap (fun l => sNd 9 e l) (gEnd k 125 (pSw S k (o + 2) 2049 false (t1 + 1))) else none)
      by_cases q : k t1 = 123 ∧ o < 59
      · rw [if_pos q, if_pos q]
        cases pSw S k (o + 2) 2049 false (t1 + 1) with
        | none => rfl
        | some r2 =>
          obtain ⟨l, t2⟩ := r2
          show (if k t2 = 125 then some (sNd 9 e l, t2 + 1) else none) = gMap (fun l => sNd 9 e l) (if k t2 = 125 then some (l, t2 + 1) else none)
          by_cases q2 : k t2 = 125
          · rw [if_pos q2, if_pos q2]; rfl
          · rw [if_neg q2, if_neg q2]; rfl
      · rw [if_neg q, if_neg q]
  · rw [if_neg ho, if_neg ho]
theorem rs_sw {e b : Ast} {lo hi m : Nat} (hl : lo < hi) (a2 : (na 14 lo).toInt = 28) (a3 : OkE k c na ma e (na 17 lo).toInt (lo + 1) m) (a4 : RowS na (Rlb k c d na ma) b (ma 18 lo).toInt m hi) : RepS k c na ma (d + 1) (sNd 9 e b) lo hi := ⟨hl, Or.inr (Or.inr (Or.inr (Or.inr (Or.inr (Or.inr (Or.inr (Or.inr (Or.inr (Or.inl ⟨e, b, m, rfl, a2, a3, a4⟩)))))))))⟩
theorem swi_ok (hS : HSt RLt d ta k c S) (hT : RTk ta c) (hk : ∀ i : Nat, i < c → rkd ta i = k i) (hPl : RPl ta c) (ht : k t = 10) (hc : RCur pf c t o) (hW : RW pf o) (hN : (pf 13).toInt = (N : Int)) (hb : N ≤ t + 10000) (h : R_mp_switching RLt ta pf na ma wa pf' na' ma' wa' v xt) : OkSr (fun n m => RepS k c n m (d + 1)) c t o (pStm S k t o) N pf na ma wa pf' na' ma' wa' v xt := by
  have c1 := hc.2.2.1
  have c2 := hc.2.2.2.1
  have h0 := hc.2.2.2.2.1
  rw [pS_sw ht]
  unfold gSwi
  obtain ⟨n, h⟩ := h
  obtain ⟨n, pf229, na230, ma231, v233, h1, h⟩ := iv_mp_switching_0 h
  obtain ⟨m1, m2, m3, m4⟩ := make_r hN (by omega) (show (vp_nar .byte (28 : Int32).toInt8.toInt32).toInt = 28 from rfl) hc.1 h1
  have hc1 := hc.mk m3
  have hl := rlt hT hc1 (by rw [hk t c1]; omega)
  rcases h with ⟨pq1, h3, e0, e1, e2, e3, ev, ex⟩ | ⟨pf245, h3, h⟩
  · rcases (opens_r hc1 hl h3).2 with ⟨u1, u2, u3⟩ | ⟨u1, u2⟩
    · exact absurd u2 (by decide)
    · rw [if_neg u1]; exact ex
  · obtain ⟨s1, s2⟩ := opens_r hc1 hl h3
    rcases s2 with ⟨u1, u2, u3⟩ | ⟨u1, u2⟩
    · rw [if_pos u1]
      have hW1 : RW pf245 (o + 1) := (hW.mk m3).sm s1 (by omega)
      have hN1 : (pf245 13).toInt = ((N + 1 : Nat) : Int) := by rw [s1 13 (by decide) (by decide), m2]; rfl
      have wk0 : WKp pf wa pf245 wa := (mk_wk m3).tr s1.wk
      rcases h with ⟨pq1, pq2, pq3, pq4, h4, e0, e1, e2, e3, ev, ex⟩ | ⟨pf263, na264, ma265, wa266, v268, h4, na283, h5, h⟩
      · rw [(inp_ok hT hk hPl u3 hW1 hN1 (by omega) h4).no]; exact ex
      · have q := inp_ok hT hk hPl u3 hW1 hN1 (by omega) h4
        obtain ⟨g, hg⟩ := q.sm
        obtain ⟨e, t1⟩ := g
        rw [hg] at q ⊢
        show OkSr (fun n m => RepS k c n m (d + 1)) c t o (if k t1 = 123 ∧ o < 59 then gMap (fun l => sNd 9 e l) (gEnd k 125 (pSw S k (o + 2) 2049 false (t1 + 1))) else none) N pf na ma wa pf' na' ma' wa' v xt
        obtain ⟨M1, j, z0, z1, z2, z3, z4, z5, z6, z7⟩ := q.e
        rw [cn_of m1] at h5
        have h5' : na283 = vu na264 17 N v268 := h5
        have at' : ∀ f i : Nat, ¬ i = N → na283 f i = na264 f i ∧ ma265 f i = ma265 f i := fun f i hi => ⟨by rw [h5', vu_at hi], rfl⟩
        have g1 := agN z6 (show N < N + 1 by omega)
        have n14 : (na283 14 N).toInt = 28 := by rw [h5', vu_p (by omega), g1.1]; exact m4.1.1.1
        have n17 : na283 17 N = v268 := by rw [h5', vu_s]
        have n21 : (na283 21 N).toInt = -1 := by rw [h5', vu_p (by omega), g1.2.2.2.1]; exact m4.1.2.2.1
        have q18 : (ma265 18 N).toInt = -1 := by rw [g1.2.2.2.2.1]; exact m4.1.2.2.2.2.1
        have eE : OkE k c na283 ma265 e v268.toInt (N + 1) M1 := z2.kp (ag_at (r := -1) at' (Or.inr (by omega))) (Or.inl (by omega))
        have aF : AgF na ma na283 ma265 0 N (-1) := (m4.ag (Or.inl (Nat.le_refl _))).tr ((z6.le (Nat.le_refl _) (by omega)).tr (ag_at at' (Or.inl (Nat.le_refl _))))
        have om := fun {p : Nat → Int32} {z : Int32} (y : R_mp_opensMark 1 (lby "{") ta pf263 p z) => opensMark_r hT z4 (by decide) mq_123 (by decide) y
        rw [hk t1 z4.2.2.1] at om
        rcases h with ⟨pq1, h6, e0, e1, e2, e3, ev, ex⟩ | ⟨pf288, h6, hE⟩
        · rcases (om h6).2 with ⟨y1, y2, y3⟩ | ⟨y1, y2⟩
          · exact absurd y2 (by decide)
          · rw [if_neg (fun w => y1 ⟨w.1, by have := w.2; omega⟩)]; exact ex
        · obtain ⟨r1, r2⟩ := om h6
          rcases r2 with ⟨y1, y2, y3⟩ | ⟨y1, y2⟩
          · rw [if_pos ⟨y1.1, by have := y1.2; omega⟩]
            have eo : o + 1 + 1 = o + 2 := by omega
            have eo2 : o + 2 - 2 = o := by omega
            rw [eo] at y3
            have hW2 : RW pf288 (o + 2) := (hW1.wk z7).sm r1 (by omega)
            have hN2 : (pf288 13).toInt = (M1 : Int) := by rw [r1 13 (by decide) (by decide)]; exact z1
            have wk1 : WKp pf wa pf288 wa266 := wk0.tr (z7.tr r1.wk)
            rw [show (2049 : Nat) = 2048 + 1 from rfl]
            rcases swi_st hS hT hk hPl m1 y3 hW2 hN2 (by omega) (bb := false) ⟨fun q => absurd q (by decide), fun q => absurd (show (-1 : Int32).toInt < 0 by decide) q⟩ hE with ⟨y, h⟩ | ⟨y, ⟨ex, g0⟩ | ⟨a, t2, pf2, na2, ma2, wa2, v2, g0, p, na3, v3, h7, m, ma3, h8, hE'⟩⟩
            · rw [pSw_e y]
              show OkSr (fun n m => RepS k c n m (d + 1)) c t o (gMap (fun l => sNd 9 e l) (if k (t1 + 1) = 125 then some (Term.null, t1 + 1 + 1) else none)) N pf na ma wa pf' na' ma' wa' v xt
              obtain ⟨e0, e1, e2, e3, e4, e5, e6, e7⟩ := swi_end hT hk (by omega) m1 y3 y h
              rw [eo2] at e2
              rw [if_pos y, e0, e4, e5, e6]
              refine ⟨rfl, M1, e1, by simp only []; omega, by rw [e3]; exact hN2, e2, rs_sw (m := M1) (by omega) n14 (by rw [n17]; exact eE) ⟨by omega, Nat.le_refl _⟩, n21, aF, wk1.tr e7⟩
            · rw [pSw_s y, g0]; exact ex
            · rw [pSw_s y, g0]
              show OkSr (fun n m => RepS k c n m (d + 1)) c t o (gMap (fun l => sNd 9 e l) (gEnd k 125 (gWr S k (o + 2) 2048 a t2))) N pf na ma wa pf' na' ma' wa' v xt
              obtain ⟨-, N', p0', p1, p2, p3, p4, p5, p6, p7⟩ := p
              simp only [] at p1 p3 p4
              obtain ⟨f1, f2⟩ := hang_r h7
              have f1' : na3 = na2 := by
                rcases f1 with ⟨-, y⟩ | ⟨y, -⟩
                · exact y
                · exact absurd (show (-1 : Int32).toInt < 0 by decide) y
              have f2' : v3 = v2 := by
                rcases f2 with ⟨-, y⟩ | ⟨y, -⟩
                · exact y
                · exfalso; omega
              rw [f2'] at h8
              rw [f1'] at hE'
              have g2 := agN p6 (show N < M1 by omega)
              have at2 : ∀ f i : Nat, ¬ i = N → na2 f i = na2 f i ∧ ma3 f i = ma2 f i := fun f i hi => ⟨rfl, by rw [h8, vu_at hi]⟩
              have b3 := swi_33 hS hT hk hPl (B := N) (o := o + 2) (by omega) 2048 t2 M1 N' m a v233 v2 pf2 na2 ma3 wa2 hE' m1 p0' (by omega) (by rw [h8, vu_s]; omega) p3 (hW2.wk p7) p2 (by omega) (rlb_kp p4 ((ag_at (r := -1) at2 (Or.inr (by omega))).s (Or.inl (by omega))) (by omega)) p5 (by omega)
              rw [eo2] at b3
              cases hw : gEnd k 125 (gWr S k (o + 2) 2048 a t2) with
              | none =>
                rw [hw] at b3
                exact b3
              | some s2 =>
                obtain ⟨l, t3⟩ := s2
                rw [hw] at b3
                show OkSr (fun n m => RepS k c n m (d + 1)) c t o (some (sNd 9 e l, t3)) N pf na ma wa pf' na' ma' wa' v xt
                obtain ⟨d0, M, dv, d1', d2, d3, d4, d5, d6⟩ := b3
                simp only [] at d1' d3 d4
                have g3 := agN d5 (show N < M1 by omega)
                refine ⟨d0, M, dv, by simp only []; omega, d2, d3, rs_sw (m := M1) (by omega) ?_ ?_ ?_, ?_, ?_, wk1.tr (p7.tr d6)⟩
                · rw [g3.1, g2.1]; exact n14
                · rw [g3.2.2.1, g2.2.2.1, n17]
                  exact eE.kp ((p6.le (Nat.zero_le _) (Nat.le_refl _)).tr ((ag_at at2 (Or.inr (by omega))).tr (d5.le (Nat.zero_le _) (Nat.le_refl _)))) (Or.inl (by omega))
                · rw [g3.2.2.2.2.1, h8, vu_s, p0']; exact d4
                · rw [g3.2.2.2.1, g2.2.2.2.1]; exact n21
                · exact aF.tr ((p6.le (Nat.le_refl _) (by omega)).tr ((ag_at at2 (Or.inl (Nat.le_refl _))).tr (d5.le (Nat.le_refl _) (by omega))))
          · exact absurd y2 (by decide)
    · exact absurd u2 (by decide)
end RO
