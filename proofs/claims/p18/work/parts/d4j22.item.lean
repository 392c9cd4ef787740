/-! THE REFERENCE: what a text is made of -/
/-- a name of enum, at node lo -/
def RepE (k : Nat → Int) (c : Nat) (na ma : Nat → Nat → Int32) (v : Ast) (lo hi : Nat) : Prop := lo < hi ∧ (na 14 lo).toInt = 44 ∧ ∃ t : Nat, ((na 15 lo).toInt = (t : Int) ∧ t < c ∧ k t = 16) ∧ ((v = vSing t ∧ (na 17 lo).toInt < 0) ∨ (∃ e : Ast, v = vInit t e ∧ OkE k c na ma e (na 17 lo).toInt (lo + 1) hi))
/-- a parameter -/
def RepP (k : Nat → Int) (c : Nat) (na ma : Nat → Nat → Int32) (v : Ast) (lo hi : Nat) : Prop := lo < hi ∧ (na 14 lo).toInt = 42 ∧ ∃ ty t : Nat, ((na 15 lo).toInt = (t : Int) ∧ t < c ∧ k t = 16) ∧ ((ma 22 lo).toInt = (ty : Int) - 1 ∧ (ty = 1 ∨ ty = 2)) ∧ ((v = .mul (.arg ty) (.arg t) ∧ (na 17 lo).toInt < 0) ∨ (v = .sub (.arg ty) (.arg t) ∧ 0 ≤ (na 17 lo).toInt))
/-- an item -/
def RepI (k : Nat → Int) (c : Nat) (na ma : Nat → Nat → Int32) (s : Ast) (lo hi : Nat) : Prop := (∃ vs : Ast, s = sNd 20 vs .null ∧ (na 14 lo).toInt = 43 ∧ RowS na (RepE k c na ma) vs (na 17 lo).toInt (lo + 1) hi) ∨ (∃ (n : Nat) (vs : Ast), s = sNd 21 (.arg n) vs ∧ (na 14 lo).toInt = 23 ∧ (n = 1 ∨ n = 2) ∧ (ma 22 lo).toInt = (n : Int) - 1 ∧ RowS na (RepV k c na ma) vs (na 17 lo).toInt (lo + 1) hi) ∨ (∃ (d n t m : Nat) (ps b : Ast), s = sNd 22 (.elem (.arg n) (.arg t)) (.elem ps b) ∧ (na 14 lo).toInt = 41 ∧ (n = 1 ∨ n = 2 ∨ n = 3) ∧ (ma 22 lo).toInt = (n : Int) - 1 ∧ ((na 15 lo).toInt = (t : Int) ∧ t < c ∧ k t = 16) ∧ RowS na (RepP k c na ma) ps (na 17 lo).toInt (lo + 1) m ∧ (ma 18 lo).toInt = (m : Int) ∧ m < hi ∧ (na 14 m).toInt = 20 ∧ RowS na (RepS k c na ma d) b (na 17 m).toInt (m + 1) hi)
theorem rpe_kp {k : Nat → Int} {c : Nat} {na ma na' ma' : Nat → Nat → Int32} {v : Ast} {lo hi : Nat} {r : Int} (h : RepE k c na ma v lo hi) (g : AgF na ma na' ma' lo hi r) (hr : r ≤ (lo : Int)) : RepE k c na' ma' v lo hi := by
  obtain ⟨h1, h2, t, h3, h4⟩ := h
  have hid := fun (_ : True) => h4
  clear h4
  obtain ⟨g1, g2, g3, -⟩ := g lo (Nat.le_refl _) h1
  refine ⟨h1, by rw [g1]; exact h2, t, by rw [g2]; exact h3, ?_⟩
  rcases hid trivial with ⟨a1, a3⟩ | ⟨e, a1, a4⟩
  · exact Or.inl ⟨a1, by rw [g3]; exact a3⟩
  · exact Or.inr ⟨e, a1, by rw [g3]; exact a4.kp (g.le (by omega) (Nat.le_refl _)) (Or.inl (by omega))⟩
theorem rpp_kp {k : Nat → Int} {c : Nat} {na ma na' ma' : Nat → Nat → Int32} {v : Ast} {lo hi : Nat} {r : Int} (h : RepP k c na ma v lo hi) (g : AgF na ma na' ma' lo hi r) : RepP k c na' ma' v lo hi := by
  obtain ⟨h1, h2, ty, t, h3, h4, h5⟩ := h
  obtain ⟨g1, g2, g3, g4, g5, g6, -⟩ := g lo (Nat.le_refl _) h1
  exact ⟨h1, by rw [g1]; exact h2, ty, t, by rw [g2]; exact h3, by rw [g6]; exact h4, by rw [g3]; exact h5⟩
theorem row_le {na : Nat → Nat → Int32} {R : Ast → Nat → Nat → Prop} {e : Ast} {n : Int} {lo hi : Nat} (h : RowS na R e n lo hi) : lo ≤ hi := by
  cases e with
  | null => exact h.2
  | add x y => obtain ⟨mid, -, q, -⟩ := h; omega
  | _ => exact h.elim
theorem rpi_kp {k : Nat → Int} {c : Nat} {na ma na' ma' : Nat → Nat → Int32} {s : Ast} {lo hi : Nat} {r : Int} (hl : lo < hi) (h : RepI k c na ma s lo hi) (g : AgF na ma na' ma' lo hi r) (hr : r ≤ (lo : Int)) : RepI k c na' ma' s lo hi := by
  obtain ⟨g1, g2, g3, g4, g5, g6, -⟩ := g lo (Nat.le_refl _) hl
  have g21 : ∀ i : Nat, lo < i → i < hi → na' 21 i = na 21 i := fun i q1 q2 => ((g i (by omega) q2).2.2.2.2.2.2.2 (by omega)).1
  rcases h with ⟨vs, a1, a2, a3⟩ | ⟨n, vs, a1, a2, a3, a4, a5⟩ | ⟨d, n, t, m, ps, b, a1, a2, a3, a4, a5, a6, a7, a8, a9, a10⟩
  · refine Or.inl ⟨vs, a1, by rw [g1]; exact a2, ?_⟩
    rw [g3]
    exact row_kp _ _ _ _ a3 (fun i q1 q2 => g21 i (by omega) q2) (fun s l h q1 q2 q3 => rpe_kp q3 (g.le (by omega) q2) (by omega))
  · refine Or.inr (Or.inl ⟨n, vs, a1, by rw [g1]; exact a2, a3, by rw [g6]; exact a4, ?_⟩)
    rw [g3]
    exact row_kp _ _ _ _ a5 (fun i q1 q2 => g21 i (by omega) q2) (fun s l h q1 q2 q3 => rpv_kp q3 (g.le (by omega) q2) (by omega))
  · have l1 := row_le a6
    obtain ⟨f1, f2, f3, -⟩ := g m (by omega) a8
    refine Or.inr (Or.inr ⟨d, n, t, m, ps, b, a1, by rw [g1]; exact a2, a3, by rw [g6]; exact a4, by rw [g2]; exact a5, ?_, by rw [g4]; exact a7, a8, by rw [f1]; exact a9, ?_⟩)
    · rw [g3]
      exact row_kp _ _ _ _ a6 (fun i q1 q2 => g21 i (by omega) (by omega)) (fun s l h q1 q2 q3 => rpp_kp q3 (g.le (by omega) (by omega)))
    · rw [f3]
      exact row_kp _ _ _ _ a10 (fun i q1 q2 => g21 i (by omega) q2) (fun s l h q1 q2 q3 => rps_kp _ _ _ _ (-1) q3 (((g.le (by omega) q2).ot (Or.inl (by omega))).s (Or.inl (by omega))) (by omega))
section RR
variable {k : Nat → Int} {ta : Nat → Nat → Int32} {c t N : Nat} {o : Int} {pf : Nat → Int32} {na ma wa : Nat → Nat → Int32} {pf' : Nat → Int32} {na' ma' wa' : Nat → Nat → Int32} {v xt : Int32}
/-- an item is read, then hung into the text's row -/
def OkI (R : (Nat → Nat → Int32) → (Nat → Nat → Int32) → Ast → Nat → Nat → Prop) (c t : Nat) (o : Int) (g : Option (Ast × Nat)) (N : Nat) (pf : Nat → Int32) (na ma wa : Nat → Nat → Int32) (pf' : Nat → Int32) (na' ma' wa' : Nat → Nat → Int32) (xt : Int32) : Prop := ∃ (pf1 : Nat → Int32) (na1 : Nat → Nat → Int32) (v1 : Int32), OkSr R c t o g N pf na ma wa pf1 na1 ma' wa' v1 xt ∧ (xt = 0 → R_mp_add v1 pf1 na1 pf' na')
theorem OkI.thr {R : (Nat → Nat → Int32) → (Nat → Nat → Int32) → Ast → Nat → Nat → Prop} (ex : xt = 1) : OkI R c t o none N pf na ma wa pf' na' ma' wa' xt := ⟨pf, na, 0, ex, fun q => absurd (q.symm.trans ex) (by decide)⟩
theorem OkI.no {R : (Nat → Nat → Int32) → (Nat → Nat → Int32) → Ast → Nat → Nat → Prop} {g : Option (Ast × Nat)} (q : OkI R c t o g N pf na ma wa pf' na' ma' wa' 1) : g = none := by
  obtain ⟨pf1, na1, v1, q1, -⟩ := q
  exact q1.no
/-- the rest of enum's names behind v -/
def gEr (k : Nat → Int) (o : Int) (n : Nat) (v : Ast) (t1 : Nat) : Option (Ast × Nat) := if k t1 = 44 then gMap (fun r => .add v r) (pEns k o n (t1 + 1)) else if k t1 = 125 ∧ k (t1 + 1) = 59 then some (.add v .null, t1 + 2) else none
theorem pEns_s {n : Nat} : pEns k o (n + 1) t = gThen (pEn k o t) (gEr k o n) := by
  have un : pEns k o (n + 1) t = (match pEn k o t with
    | none => none
    | some (v, t1) => if k t1 = 44 then (match pEns k o n (t1 + 1) with
        | none => none
        | some (r, t2) => some (.add v r, t2)) else if k t1 = 125 ∧ k (t1 + 1) = 59 then some (.add v .null, t1 + 2) else none) := by first | rfl | simp [pEns]
  rw [un]
  cases pEn k o t with
  | none => rfl
  | some r =>
    obtain ⟨e, t1⟩ := r
    show _ = gEr k o n e t1
    unfold gEr
    dsimp only
    by_cases q : k t1 = 44
    · rw [if_pos q, if_pos q]
      cases pEns k o n (t1 + 1) with
      | none => rfl
      | some s => rfl
    · rw [if_neg q, if_neg q]
theorem pEn_no (h : ¬ k t = 16) : pEn k o t = none := by unfold pEn; rw [if_neg h]
theorem pEn_s (h : k t = 16) (h1 : ¬ k (t + 1) = 256) : pEn k o t = some (vSing t, t + 1) := by unfold pEn; rw [if_pos h, if_neg h1]
theorem pEn_i (h : k t = 16) (h1 : k (t + 1) = 256) : pEn k o t = gThen (pE k 0 (t + 2) o) (fun e t1 => some (vInit t e, t1)) := by
  unfold pEn
  rw [if_pos h, if_pos h1]
  cases pE k 0 (t + 2) o with
  | none => rfl
  | some r => rfl
/-- one more name: where cut 31 goes on -/
theorem enu_st (hT : RTk ta c) (hk : ∀ i : Nat, i < c → rkd ta i = k i) (hPl : RPl ta c) {B hi n : Nat} {x1 x2 x3 : Int32} (hx1 : x1.toInt = (B : Int)) (hB : B < hi) (h3 : ¬ x3.toInt = 0) (hc : RCur pf c t o) (hW : RW pf o) (hN : (pf 13).toInt = (hi : Int)) (hb : hi ≤ t + 10000) (h : E_mp_enumeration ta pf' na' ma' wa' xt n 31 [x1, x2, x3] [] [] [] [] pf na ma wa) : (xt = 1 ∧ pEn k o t = none) ∨ ∃ (s : Ast) (t1 : Nat) (pf2 : Nat → Int32) (na2 ma2 wa2 : Nat → Nat → Int32) (v2 : Int32), pEn k o t = some (s, t1) ∧ OkSr (RepE k c) c t o (some (s, t1)) hi pf na ma wa pf2 na2 ma2 wa2 v2 0 ∧ ∃ (na3 : Nat → Nat → Int32) (v3 : Int32), R_mp_hang (na 17 B) x2 v2 na2 na3 v3 ∧ ∃ (n : Nat) (na4 : Nat → Nat → Int32) (pf5 : Nat → Int32) (v5 : Int32), na4 = vu na3 17 B v3 ∧ R_mp_takes 1 (lby ",") ta pf2 pf5 v5 ∧ E_mp_enumeration ta pf' na' ma' wa' xt n 31 [x1, v2, v5] [] [] [] [] pf5 na4 ma2 wa2 := by
  have c1 := hc.2.2.1
  have c2 := hc.2.2.2.1
  obtain ⟨n, b2, h1, h⟩ := iv_mp_enumeration_31 h
  rw [cn_of hx1] at h1
  rw [h1]
  rcases h with ⟨h4, h⟩ | ⟨h4, h⟩
  · exact absurd h4 h3
  · rcases h with ⟨pq1, h5, e0, e1, e2, e3, ex⟩ | ⟨pf52, v54, h5, pf69, na70, ma71, v73, h6, pf88, v90, h7, h⟩
    · rcases (name_r hT hc h5).2 with ⟨y1, y2, -⟩ | ⟨y1, y2⟩
      · exact absurd y2 (by decide)
      · rw [hk t c1] at y1
        exact Or.inl ⟨ex, pEn_no y1⟩
    · obtain ⟨s1, s2⟩ := name_r hT hc h5
      rw [hk t c1] at s2
      rcases s2 with ⟨y1, y2, y3, y4⟩ | ⟨y1, y2⟩
      · have hN2 : (pf52 13).toInt = (hi : Int) := by rw [s1 13 (by decide) (by decide)]; exact hN
        obtain ⟨m1, m2, m3, m4⟩ := make_r hN2 (by omega) (show (vp_nar .byte (44 : Int32).toInt8.toInt32).toInt = 44 from rfl) y3 h6
        have hc1 := y4.mk m3
        have d1 := hc1.2.2.1
        have hN3 : (pf69 13).toInt = ((hi + 1 : Nat) : Int) := by rw [m2]; rfl
        have wk0 : WKp pf wa pf69 wa := s1.wk.tr (mk_wk m3)
        have kd : ((na70 15 hi).toInt = (t : Int) ∧ t < c ∧ k t = 16) := ⟨m4.1.1.2, c1, y1⟩
        obtain ⟨r1, r2⟩ := takes_r hT hc1 (by decide) mq_256 (by decide) h7
        rw [hk (t + 1) d1] at r2
        rcases h with ⟨h8, z103, h9, na105, v107, h10, na110, h11, pf115, v117, h12, hE⟩ | ⟨h8, h⟩
        · rcases r2 with ⟨u1, u2, u3⟩ | ⟨u1, u2, u3⟩
          · exfalso; omega
          · rw [cn_of hx1] at h11
            refine Or.inr ⟨vSing t, t + 1, pf88, na70, ma71, wa, v73, pEn_s y1 u1, ?_, na105, v107, h10, n, na110, pf115, v117, h11, h12, hE⟩
            refine ⟨rfl, hi + 1, m1, by simp only []; omega, by rw [r1 13 (by decide) (by decide)]; exact hN3, u3, ⟨by omega, m4.1.1.1, t, kd, Or.inl ⟨rfl, ?_⟩⟩, m4.1.2.2.1, m4.ag (Or.inl (Nat.le_refl _)), wk0.tr r1.wk⟩
            rw [m4.1.2.1]; decide
        · rcases r2 with ⟨u1, u2, u3⟩ | ⟨u1, u2, u3⟩
          · have u3' : RCur pf88 c (t + 2) o := u3
            have hN4 : (pf88 13).toInt = ((hi + 1 : Nat) : Int) := by rw [r1 13 (by decide) (by decide)]; exact hN3
            have hW4 : RW pf88 o := (hW.wk wk0).sm r1 (Int.le_refl _)
            rw [pEn_i y1 u1]
            rcases h with ⟨pq1, pq2, pq3, pq4, h9, e0, e1, e2, e3, ex⟩ | ⟨pf132, na133, ma134, wa135, v137, h9, na152, h10, z153, h11, na155, v157, h12, na160, h13, pf165, v167, h14, hE⟩
            · rw [(cst_ok hT hk hPl u3' hW4 hN4 (by omega) h9).no]; exact Or.inl ⟨ex, rfl⟩
            · have q := cst_ok hT hk hPl u3' hW4 hN4 (by omega) h9
              obtain ⟨g, hg⟩ := q.sm
              obtain ⟨e, t1⟩ := g
              rw [hg] at q ⊢
              obtain ⟨M2, j, z0, z1, z2, z3, z4, z5, z6, z7⟩ := q.e
              rw [cn_of m1] at h10
              rw [cn_of hx1] at h13
              have h10' : na152 = vu na133 17 hi v137 := h10
              have at' : ∀ f i : Nat, ¬ i = hi → na152 f i = na133 f i ∧ ma134 f i = ma134 f i := fun f i hi => ⟨by rw [h10', vu_at hi], rfl⟩
              have g1 := agN z6 (show hi < hi + 1 by omega)
              refine Or.inr ⟨vInit t e, t1, pf132, na152, ma134, wa135, v73, rfl, ?_, na155, v157, h12, n, na160, pf165, v167, h13, h14, hE⟩
              refine ⟨rfl, M2, m1, by simp only []; omega, z1, z4, ⟨by omega, ?_, t, ?_, Or.inr ⟨e, rfl, ?_⟩⟩, ?_, ?_, wk0.tr (r1.wk.tr z7)⟩
              · rw [h10', vu_p (by omega), g1.1]; exact m4.1.1.1
              · rw [h10', vu_p (by omega), g1.2.1]; exact kd
              · rw [show na152 17 hi = v137 by rw [h10', vu_s]]
                exact z2.kp (ag_at (r := -1) at' (Or.inr (by omega))) (Or.inl (by omega))
              · rw [h10', vu_p (by omega), g1.2.2.2.1]; exact m4.1.2.2.1
              · exact (m4.ag (Or.inl (Nat.le_refl _))).tr ((z6.le (Nat.le_refl _) (by omega)).tr (ag_at at' (Or.inl (Nat.le_refl _))))
          · exfalso; omega
      · exact absurd y2 (by decide)
/-- the row of names from node lo on; then the enumeration is hung into the text -/
def OkN (k : Nat → Int) (c t : Nat) (o : Int) (g : Option (Ast × Nat)) (x1 : Int32) (lo hi : Nat) (pf : Nat → Int32) (na ma wa : Nat → Nat → Int32) (pf' : Nat → Int32) (na' ma' wa' : Nat → Nat → Int32) (xt : Int32) : Prop := match g with
  | none => xt = 1
  | some r => xt = 0 ∧ ∃ (N' : Nat) (pf1 : Nat → Int32) (na1 : Nat → Nat → Int32), (hi ≤ N' ∧ N' + t ≤ hi + r.2 ∧ t < r.2) ∧ (pf1 13).toInt = (N' : Int) ∧ RCur pf1 c r.2 o ∧ RowS na1 (RepE k c na1 ma') r.1 (lo : Int) lo N' ∧ AgF na ma na1 ma' 0 lo (-1) ∧ WKp pf wa pf1 wa' ∧ R_mp_add x1 pf1 na1 pf' na'
theorem enu_31 (hT : RTk ta c) (hk : ∀ i : Nat, i < c → rkd ta i = k i) (hPl : RPl ta c) {B : Nat} (ho : 1 ≤ o) : ∀ (n t t0 lo hi m : Nat) (s : Ast) (x1 x2 x3 : Int32) (pf : Nat → Int32) (na ma wa : Nat → Nat → Int32), E_mp_enumeration ta pf' na' ma' wa' xt m 31 [x1, x2, x3] [] [] [] [] pf na ma wa → x1.toInt = (B : Int) → x2.toInt = (lo : Int) → ((¬ x3.toInt = 0 ∧ k t0 = 44 ∧ t = t0 + 1) ∨ (x3.toInt = 0 ∧ ¬ k t0 = 44 ∧ t = t0)) → B < lo → 0 ≤ (na 17 B).toInt → RCur pf c t o → RW pf o → (pf 13).toInt = (hi : Int) → hi ≤ t0 + 10000 → RepE k c na ma s lo hi → (na 21 lo).toInt = -1 → c ≤ n + t0 → OkN k c t0 (o - 1) (gEr k o n s t0) x1 lo hi pf na ma wa pf' na' ma' wa' xt := by
  intro n
  induction n with
  | zero =>
    intro t t0 lo hi m s x1 x2 x3 pf na ma wa h hx1 hx2 hx3 hB h17 hc hW hN hb hE hm hf
    have := hc.2.2.1
    exfalso; omega
  | succ n ih =>
    intro t t0 lo hi m s x1 x2 x3 pf na ma wa h hx1 hx2 hx3 hB h17 hc hW hN hb hE hm hf
    have hl := hE.1
    have c1 := hc.2.2.1
    rcases hx3 with ⟨x31, x32, x33⟩ | ⟨x31, x32, x33⟩
    · subst x33
      have ge : gEr k o (n + 1) s t0 = gMap (fun r => .add s r) (pEns k o (n + 1) (t0 + 1)) := by unfold gEr; rw [if_pos x32]
      rw [ge, pEns_s]
      rcases enu_st hT hk hPl hx1 (by omega) x31 hc hW hN (by omega) h with ⟨ex, g0⟩ | ⟨a, t1, pf2, na2, ma2, wa2, v2, g0, q, na3, v3, h5, m, na4, pf5, v5, h6, h7, hE'⟩
      · rw [g0]; exact ex
      · rw [g0]
        show OkN k c t0 (o - 1) (gMap (fun r => .add s r) (gEr k o n a t1)) x1 lo hi pf na ma wa pf' na' ma' wa' xt
        obtain ⟨-, N', z0, z1, z2, z3, z4, z5, z6, z7⟩ := q
        simp only [] at z1 z3 z4
        obtain ⟨f1, f2⟩ := hang_r h5
        have f1' : na3 = vu na2 21 lo v2 := by
          rcases f1 with ⟨y, -⟩ | ⟨-, y⟩
          · exfalso; omega
          · rw [cn_of hx2] at y; exact y
        have f2' : v3 = na 17 B := by
          rcases f2 with ⟨y, -⟩ | ⟨-, y⟩
          · exfalso; omega
          · exact y
        have gB := z6 B (Nat.zero_le _) (by omega)
        have e4 : na4 = vu na2 21 lo v2 := by
          funext f i
          by_cases q : f = 17 ∧ i = B
          · rw [q.1, q.2, h6, vu_s, f2', vu_p (by omega), gB.2.2.1]
          · rw [h6, vu_p q, f1']
        obtain ⟨r1, r2⟩ := takes_r hT z3 (by decide) mq_44 (by decide) h7
        rw [hk t1 z3.2.2.1] at r2
        have hW5 : RW pf5 o := (hW.wk z7).sm r1 (Int.le_refl _)
        have hN5 : (pf5 13).toInt = (N' : Int) := by rw [r1 13 (by decide) (by decide)]; exact z2
        have nx : ∀ t' : Nat, RCur pf5 c t' o → ((¬ v5.toInt = 0 ∧ k t1 = 44 ∧ t' = t1 + 1) ∨ (v5.toInt = 0 ∧ ¬ k t1 = 44 ∧ t' = t1)) → OkN k c t1 (o - 1) (gEr k o n a t1) x1 hi N' pf5 na4 ma2 wa2 pf' na' ma' wa' xt := fun t' q1 q2 => ih t' t1 hi N' m a x1 v2 v5 pf5 na4 ma2 wa2 hE' hx1 z0 q2 (by omega) (by rw [e4, vu_p (by omega), gB.2.2.1]; exact h17) q1 hW5 hN5 (by omega) (rpe_kp z4 ((ag_21 e4).ot (r' := -1) (Or.inl (by omega))) (by omega)) (by rw [e4, vu_p (by omega)]; exact z5) (by omega)
        have b3 : OkN k c t1 (o - 1) (gEr k o n a t1) x1 hi N' pf5 na4 ma2 wa2 pf' na' ma' wa' xt := by
          rcases r2 with ⟨u1, u2, u3⟩ | ⟨u1, u2, u3⟩
          · exact nx (t1 + 1) u3 (Or.inl ⟨by omega, u1, rfl⟩)
          · exact nx t1 u3 (Or.inr ⟨u2, u1, rfl⟩)
        cases hw : gEr k o n a t1 with
        | none =>
          rw [hw] at b3
          exact b3
        | some s2 =>
          obtain ⟨r, t2⟩ := s2
          rw [hw] at b3
          show OkN k c t0 (o - 1) (some (Term.add s r, t2)) x1 lo hi pf na ma wa pf' na' ma' wa' xt
          obtain ⟨d0, M, pf1, na1, d1, d2, d3, d4, d5, d6, d7⟩ := b3
          simp only [] at d1 d3 d4
          have gj := (d5 lo (Nat.zero_le _) (by omega)).2.2.2.2.2.2.2 (by omega)
          have ax : AgF na ma na1 ma' lo hi (lo : Int) := ((z6.le (Nat.zero_le _) (Nat.le_refl _)).ot (Or.inl (by omega))).tr ((ag_21 e4).tr ((d5.le (Nat.zero_le _) (Nat.le_refl _)).ot (Or.inl (by omega))))
          refine ⟨d0, M, pf1, na1, by simp only []; omega, d2, d3, ⟨hi, rfl, ⟨hl, by omega⟩, rpe_kp hE ax (Int.le_refl _), ?_⟩, ?_, z7.tr (r1.wk.tr d6), d7⟩
          · rw [gj.1, e4, vu_s, z0]; exact d4
          · exact (z6.le (Nat.le_refl _) (by omega)).tr (((ag_21 e4).ot (Or.inr (Int.le_refl _))).tr (d5.le (Nat.le_refl _) (by omega)))
    · subst x33
      have ge : gEr k o (n + 1) s t = if k t = 125 ∧ k (t + 1) = 59 then some (.add s .null, t + 2) else none := by unfold gEr; rw [if_neg x32]
      rw [ge]
      obtain ⟨m, b2, h1, h⟩ := iv_mp_enumeration_31 h
      have cl := fun {p : Nat → Int32} {z : Int32} (y : R_mp_closes 1 (lby "}") ta pf p z) => closes_r hT hc ho (by decide) mq_125 (by decide) y
      rw [hk t c1] at cl
      rcases h with ⟨h4, h⟩ | ⟨h4, h⟩
      · rcases h with ⟨pq1, h5, e0, e1, e2, e3, ex⟩ | ⟨pf9, h5, h⟩
        · rcases (cl h5).2 with ⟨u1, u2, u3⟩ | ⟨u1, u2⟩
          · exact absurd u2 (by decide)
          · rw [if_neg (fun q => u1 q.1)]; exact ex
        · obtain ⟨r1, r2⟩ := cl h5
          rcases r2 with ⟨u1, u2, u3⟩ | ⟨u1, u2⟩
          · have tk := fun {p : Nat → Int32} {z : Int32} (y : R_mp_take 1 (lby ";") ta pf9 p z) => take_r hT u3 (by decide) mq_59 (by decide) y
            rw [hk (t + 1) u3.2.2.1] at tk
            rcases h with ⟨pq1, h6, e0, e1, e2, e3, ex⟩ | ⟨pf25, h6, pf39, na40, h7, e0, e1, e2, e3, ex⟩
            · rcases (tk h6).2 with ⟨w1, w2, w3⟩ | ⟨w1, w2⟩
              · exact absurd w2 (by decide)
              · rw [if_neg (fun q => w1 q.2)]; exact ex
            · obtain ⟨p1, p2⟩ := tk h6
              rcases p2 with ⟨w1, w2, w3⟩ | ⟨w1, w2⟩
              · rw [if_pos ⟨u1, w1⟩, e0, e1, e2, e3, ex]
                exact ⟨rfl, hi, pf25, na, by simp only []; omega, by rw [p1 13 (by decide) (by decide), r1 13 (by decide) (by decide)]; exact hN, w3, ⟨hi, rfl, ⟨hl, Nat.le_refl _⟩, hE, by omega, Nat.le_refl _⟩, AgF.rf, r1.wk.tr p1.wk, h7⟩
              · exact absurd w2 (by decide)
          · exact absurd u2 (by decide)
      · exact absurd x31 h4
theorem enu_ok (hT : RTk ta c) (hk : ∀ i : Nat, i < c → rkd ta i = k i) (hPl : RPl ta c) (ht : k t = 4) (hc : RCur pf c t o) (hW : RW pf o) (hN : (pf 13).toInt = (N : Int)) (hb : N ≤ t + 10000) (h : R_mp_enumeration ta pf na ma wa pf' na' ma' wa' xt) : OkI (RepI k c) c t o (pEnum k t o) N pf na ma wa pf' na' ma' wa' xt := by
  have c1 := hc.2.2.1
  have c2 := hc.2.2.2.1
  have h0 := hc.2.2.2.2.1
  obtain ⟨n, h⟩ := h
  obtain ⟨n, pf181, na182, ma183, v185, h1, z197, h2, h⟩ := iv_mp_enumeration_0 h
  obtain ⟨m1, m2, m3, m4⟩ := make_r hN (by omega) (show (vp_nar .byte (43 : Int32).toInt8.toInt32).toInt = 43 from rfl) hc.1 h1
  have hc1 := hc.mk m3
  have hc2 := hc1.st h2 (rlt hT hc1 (by rw [hk t c1]; omega))
  have om := fun {p : Nat → Int32} {z : Int32} (y : R_mp_opensMark 1 (lby "{") ta (upd pf181 11 z197) p z) => opensMark_r hT hc2 (by decide) mq_123 (by decide) y
  rw [hk (t + 1) hc2.2.2.1] at om
  have pe : pEnum k t o = if k (t + 1) = 123 ∧ o < 60 then gMap (fun vs => sNd 20 vs .null) (pEns k (o + 1) 2048 (t + 2)) else none := by
    unfold pEnum
    by_cases q : k (t + 1) = 123 ∧ o < 60
    · rw [if_pos q, if_pos q]
      cases pEns k (o + 1) 2048 (t + 2) with
      | none => rfl
      | some r => rfl
    · rw [if_neg q, if_neg q]
  rw [pe]
  rcases h with ⟨pq1, h3, e0, e1, e2, e3, ex⟩ | ⟨pf202, h3, hE⟩
  · rcases (om h3).2 with ⟨y1, y2, y3⟩ | ⟨y1, y2⟩
    · exact absurd y2 (by decide)
    · rw [if_neg y1]; exact OkI.thr ex
  · obtain ⟨s1, s2⟩ := om h3
    rcases s2 with ⟨y1, y2, y3⟩ | ⟨y1, y2⟩
    · rw [if_pos y1]
      have y3' : RCur pf202 c (t + 2) (o + 1) := y3
      have hW1 : RW pf202 (o + 1) := (upd11_rw (hW.mk m3)).sm s1 (by omega)
      have hN1 : (pf202 13).toInt = ((N + 1 : Nat) : Int) := by rw [s1 13 (by decide) (by decide), pk_un (by decide), m2]; rfl
      have wk0 : WKp pf wa pf202 wa := (mk_wk m3).tr (upd11_wk.tr s1.wk)
      have eo : o + 1 - 1 = o := by omega
      rw [show (2048 : Nat) = 2047 + 1 from rfl, pEns_s]
      rcases enu_st hT hk hPl m1 (show N < N + 1 by omega) (by decide) y3' hW1 hN1 (by omega) hE with ⟨ex, g0⟩ | ⟨a, t1, pf2, na2, ma2, wa2, v2, g0, q, na3, v3, h5, m, na4, pf5, v5, h6, h7, hE'⟩
      · rw [g0]; exact OkI.thr ex
      · rw [g0]
        have eg : gThen (some (a, t1)) (gEr k (o + 1) 2047) = gEr k (o + 1) 2047 a t1 := rfl
        rw [eg]
        obtain ⟨-, N', z0, z1, z2, z3, z4, z5, z6, z7⟩ := q
        simp only [] at z1 z3 z4
        obtain ⟨f1, f2⟩ := hang_r h5
        have f1' : na3 = na2 := by
          rcases f1 with ⟨-, y⟩ | ⟨y, -⟩
          · exact y
          · exact absurd (show (-1 : Int32).toInt < 0 by decide) y
        have n17 := m4.1.2.1
        have f2' : v3 = v2 := by
          rcases f2 with ⟨-, y⟩ | ⟨y, -⟩
          · exact y
          · exfalso; omega
        rw [f1', f2'] at h6
        have at' : ∀ f i : Nat, ¬ i = N → na4 f i = na2 f i ∧ ma2 f i = ma2 f i := fun f i hi => ⟨by rw [h6, vu_at hi], rfl⟩
        have g1 := agN z6 (show N < N + 1 by omega)
        obtain ⟨r1, r2⟩ := takes_r hT z3 (by decide) mq_44 (by decide) h7
        rw [hk t1 z3.2.2.1] at r2
        have hW5 : RW pf5 (o + 1) := (hW1.wk z7).sm r1 (Int.le_refl _)
        have hN5 : (pf5 13).toInt = (N' : Int) := by rw [r1 13 (by decide) (by decide)]; exact z2
        have nx : ∀ t' : Nat, RCur pf5 c t' (o + 1) → ((¬ v5.toInt = 0 ∧ k t1 = 44 ∧ t' = t1 + 1) ∨ (v5.toInt = 0 ∧ ¬ k t1 = 44 ∧ t' = t1)) → OkN k c t1 (o + 1 - 1) (gEr k (o + 1) 2047 a t1) v185 (N + 1) N' pf5 na4 ma2 wa2 pf' na' ma' wa' xt := fun t' q1 q2 => enu_31 hT hk hPl (B := N) (by omega) 2047 t' t1 (N + 1) N' m a v185 v2 v5 pf5 na4 ma2 wa2 hE' m1 z0 q2 (by omega) (by rw [h6, vu_s]; omega) q1 hW5 hN5 (by omega) (rpe_kp z4 (ag_at (r := -1) at' (Or.inr (by omega))) (by omega)) (by rw [(at' 21 (N + 1) (by omega)).1]; exact z5) (by omega)
        have b3 : OkN k c t1 (o + 1 - 1) (gEr k (o + 1) 2047 a t1) v185 (N + 1) N' pf5 na4 ma2 wa2 pf' na' ma' wa' xt := by
          rcases r2 with ⟨u1, u2, u3⟩ | ⟨u1, u2, u3⟩
          · exact nx (t1 + 1) u3 (Or.inl ⟨by omega, u1, rfl⟩)
          · exact nx t1 u3 (Or.inr ⟨u2, u1, rfl⟩)
        rw [eo] at b3
        cases hw : gEr k (o + 1) 2047 a t1 with
        | none =>
          rw [hw] at b3
          exact OkI.thr b3
        | some s2 =>
          obtain ⟨r, t2⟩ := s2
          rw [hw] at b3
          show OkI (RepI k c) c t o (some (sNd 20 r .null, t2)) N pf na ma wa pf' na' ma' wa' xt
          obtain ⟨d0, M, pf1, na1, d1, d2, d3, d4, d5, d6, d7⟩ := b3
          simp only [] at d1 d3 d4
          have g2 := agN d5 (show N < N + 1 by omega)
          refine ⟨pf1, na1, v185, ⟨d0, M, m1, by simp only []; omega, d2, d3, Or.inl ⟨r, rfl, ?_, ?_⟩, ?_, ?_, wk0.tr (z7.tr (r1.wk.tr d6))⟩, fun _ => d7⟩
          · rw [g2.1, h6, vu_p (by omega), g1.1]; exact m4.1.1.1
          · rw [show (na1 17 N).toInt = ((N + 1 : Nat) : Int) by rw [g2.2.2.1, h6, vu_s]; exact z0]; exact d4
          · rw [g2.2.2.2.1, h6, vu_p (by omega), g1.2.2.2.1]; exact m4.1.2.2.1
          · exact (m4.ag (Or.inl (Nat.le_refl _))).tr ((z6.le (Nat.le_refl _) (by omega)).tr ((ag_at at' (Or.inl (Nat.le_refl _))).tr (d5.le (Nat.le_refl _) (by omega))))
    · exact absurd y2 (by decide)
end RR
