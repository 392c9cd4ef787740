/-! THE REFERENCE: statements -/
section RL
variable {RLt : T_mp_statement} {S : POT} {k : Nat → Int} {ta : Nat → Nat → Int32} {c t N d : Nat} {o : Int} {pf : Nat → Int32} {na ma wa : Nat → Nat → Int32} {pf' : Nat → Int32} {na' ma' wa' : Nat → Nat → Int32} {v xt : Int32}
/-- what statement gives, one level below -/
def HSt (RLt : T_mp_statement) (d : Nat) (ta : Nat → Nat → Int32) (k : Nat → Int) (c : Nat) (S : POT) : Prop := ∀ {t N : Nat} {o : Int} {pf : Nat → Int32} {na ma wa : Nat → Nat → Int32} {pf' : Nat → Int32} {na' ma' wa' : Nat → Nat → Int32} {v xt : Int32}, RCur pf c t o → RW pf o → (pf 13).toInt = (N : Int) → N ≤ t + 10000 → RLt ta pf na ma wa pf' na' ma' wa' v xt → OkSr (fun n m => RepS k c n m d) c t o (S t o) N pf na ma wa pf' na' ma' wa' v xt
theorem OkSr.pre {R : (Nat → Nat → Int32) → (Nat → Nat → Int32) → Ast → Nat → Nat → Prop} {g : Option (Ast × Nat)} {pf0 : Nat → Int32} (hs : RSm pf pf0) (q : OkSr R c t o g N pf0 na ma wa pf' na' ma' wa' v xt) : OkSr R c t o g N pf na ma wa pf' na' ma' wa' v xt := by
  cases g with
  | none => exact q
  | some r =>
    obtain ⟨q0, N', q1, q2, q3, q4, q5, q6, q7, q8⟩ := q
    exact ⟨q0, N', q1, q2, q3, q4, q5, q6, q7, hs.wk.tr q8⟩
theorem OkSr.imp {R R' : (Nat → Nat → Int32) → (Nat → Nat → Int32) → Ast → Nat → Nat → Prop} {g : Option (Ast × Nat)} (q : OkSr R c t o g N pf na ma wa pf' na' ma' wa' v xt) (hi : ∀ (n m : Nat → Nat → Int32) (s : Ast) (l h : Nat), l < h → R n m s l h → R' n m s l h) : OkSr R' c t o g N pf na ma wa pf' na' ma' wa' v xt := by
  cases g with
  | none => exact q
  | some r =>
    obtain ⟨q0, N', q1, q2, q3, q4, q5, q6⟩ := q
    exact ⟨q0, N', q1, q2, q3, q4, hi _ _ _ _ _ q2.1 q5, q6⟩
theorem takesKey_r {p0 : Int32} (hT : RTk ta c) (hc : RCur pf c t o) (h0 : 0 ≤ p0.toInt ∧ p0.toInt < 15) (h : R_mp_takesKey ta p0 pf pf' v) : RSm pf pf' ∧ ((rkd ta t = p0.toInt + 1 ∧ v.toInt = 1 ∧ RCur pf' c (t + 1) o) ∨ (¬ rkd ta t = p0.toInt + 1 ∧ v.toInt = 0 ∧ RCur pf' c t o)) := by
  rcases h with ⟨v2, h1, (⟨h2, e0, ev⟩ | ⟨h2, z9, h3, e0, ev⟩)⟩ | h
  · obtain ⟨r1, r2⟩ := isKey_r hT hc h0 h1
    rw [e0, ev]
    refine ⟨fun i i1 _ => pk_un i1, Or.inr ⟨fun y => by have := r2.mpr y; omega, h2, ?_⟩⟩
    exact ⟨by rw [pk_us]; exact hc.1, by rw [pk_un (by decide)]; exact hc.2.1, hc.2.2⟩
  · obtain ⟨r1, r2⟩ := isKey_r hT hc h0 h1
    have y : rkd ta t = p0.toInt + 1 := r2.mp (by omega)
    rw [e0, ev]
    exact ⟨fun i i1 _ => pk_un i1, Or.inl ⟨y, by omega, hc.st h3 (rlt hT hc (by omega))⟩⟩
  · exact h.elim
theorem isType_r (hT : RTk ta c) (hc : RCur pf c t o) (h : R_mp_isType ta pf v) : (v.toInt = 0 ∨ v.toInt = 1) ∧ (v.toInt = 1 ↔ rkd ta t = 1 ∨ rkd ta t = 2) := by
  have i0 : (0 : Int32).toInt = 0 := rfl
  have i1 : (1 : Int32).toInt = 1 := rfl
  have q1 := fun {x : Int32} (y : R_mp_isKey ta pf (0 : Int32) x) => isKey_r hT hc (by decide) y
  have q2 := fun {x : Int32} (y : R_mp_isKey ta pf (1 : Int32) x) => isKey_r hT hc (by decide) y
  rcases h with ⟨v2, h1, (⟨h2, ev⟩ | ⟨h2, v9, h3, (⟨h4, ev⟩ | ⟨h4, ev⟩)⟩)⟩ | h
  · have w1 := q1 h1; rw [ev]; omega
  · have w1 := q1 h1; have w2 := q2 h3; rw [ev]; omega
  · have w1 := q1 h1; have w2 := q2 h3; rw [ev]; omega
  · exact h.elim
/-- a row of statements in braces, from the one that is read last on -/
def gSr (S : POT) (k : Nat → Int) (o : Int) (n : Nat) (s : Ast) (t1 : Nat) : Option (Ast × Nat) := gMap (fun r => .add s r) (pSts S k o n t1)
theorem pSts_e {S : POT} {n : Nat} (h : k t = 125) : pSts S k o (n + 1) t = some (.null, t) := by
  have un : pSts S k o (n + 1) t = if k t = 125 then some (.null, t) else (match S t o with
    | none => none
    | some (s, t1) => (match pSts S k o n t1 with
      | none => none
      | some (r, t2) => some (.add s r, t2))) := by first | rfl | simp [pSts]
  rw [un, if_pos h]
theorem pSts_s {S : POT} {n : Nat} (h : ¬ k t = 125) : pSts S k o (n + 1) t = gThen (S t o) (gSr S k o n) := by
  have un : pSts S k o (n + 1) t = if k t = 125 then some (.null, t) else (match S t o with
    | none => none
    | some (s, t1) => (match pSts S k o n t1 with
      | none => none
      | some (r, t2) => some (.add s r, t2))) := by first | rfl | simp [pSts]
  rw [un, if_neg h]
  cases S t o with
  | none => rfl
  | some r =>
    obtain ⟨s, t1⟩ := r
    show _ = gMap (fun r => .add s r) (pSts S k o n t1)
    dsimp only
    cases pSts S k o n t1 with
    | none => rfl
    | some q => rfl
/-- the loop of a block: what is read from token t on; hd tells where the row hangs -/
def OkL (R : (Nat → Nat → Int32) → (Nat → Nat → Int32) → Ast → Nat → Nat → Prop) (c t : Nat) (o : Int) (g : Option (Ast × Nat)) (B lo hi : Nat) (pf : Nat → Int32) (na ma wa : Nat → Nat → Int32) (pf' : Nat → Int32) (na' ma' wa' : Nat → Nat → Int32) (v xt : Int32) : Prop := match g with
  | none => xt = 1
  | some r => xt = 0 ∧ ∃ N' : Nat, v.toInt = (B : Int) ∧ (hi ≤ N' ∧ N' + t ≤ hi + r.2 ∧ t < r.2) ∧ (pf' 13).toInt = (N' : Int) ∧ RCur pf' c r.2 o ∧ RowS na' (R na' ma') r.1 (lo : Int) lo N' ∧ AgF na ma na' ma' 0 lo (-1) ∧ WKp pf wa pf' wa'
theorem blk_19 (hS : HSt RLt d ta k c S) (hT : RTk ta c) (hk : ∀ i : Nat, i < c → rkd ta i = k i) {B : Nat} (ho : 1 ≤ o) : ∀ (n t lo hi m : Nat) (s : Ast) (x1 x2 : Int32) (pf : Nat → Int32) (na ma wa : Nat → Nat → Int32), E_mp_block RLt ta pf' na' ma' wa' v xt m 19 [x1, x2] [] [] [] [] pf na ma wa → x1.toInt = (B : Int) → x2.toInt = (lo : Int) → B < lo → 0 ≤ (na 17 B).toInt → RCur pf c t o → RW pf o → (pf 13).toInt = (hi : Int) → hi ≤ t + 10000 → RepS k c na ma d s lo hi → (na 21 lo).toInt = -1 → c ≤ n + t → OkL (fun n m => RepS k c n m d) c t (o - 1) (gEnd k 125 (gSr S k o n s t)) B lo hi pf na ma wa pf' na' ma' wa' v xt := by
  intro n
  induction n with
  | zero =>
    intro t lo hi m s x1 x2 pf na ma wa h hx1 hx2 hB h17 hc hW hN hb hE hm hf
    have := hc.2.2.1
    exfalso; omega
  | succ n ih =>
    intro t lo hi m s x1 x2 pf na ma wa h hx1 hx2 hB h17 hc hW hN hb hE hm hf
    have c1 := hc.2.2.1
    have hl := rps_lt hE
    obtain ⟨m, b2, h0, v7, h1, h⟩ := iv_mp_block_19 h
    rw [cn_of hx1] at h0
    have w1 := is_r hT hc (by decide) mq_125 (by decide) h1
    rw [hk t c1] at w1
    unfold gSr
    rcases h with ⟨h2, h⟩ | ⟨h2, h⟩
    · have y : k t = 125 := w1.2.mp (by omega)
      rw [pSts_e y]
      show OkL (fun n m => RepS k c n m d) c t (o - 1) (if k t = 125 then some (Term.add s .null, t + 1) else none) B lo hi pf na ma wa pf' na' ma' wa' v xt
      rw [if_pos y]
      have cl := fun {p : Nat → Int32} {z : Int32} (y : R_mp_closes 1 (lby "}") ta pf p z) => closes_r hT hc ho (by decide) mq_125 (by decide) y
      rw [hk t c1] at cl
      rcases h with ⟨pq1, h3, e0, e1, e2, e3, ev, ex⟩ | ⟨pf17, h3, e0, e1, e2, e3, ev, ex⟩
      · rcases (cl h3).2 with ⟨u1, u2, u3⟩ | ⟨u1, u2⟩
        · exact absurd u2 (by decide)
        · exact absurd y u1
      · obtain ⟨r1, r2⟩ := cl h3
        rcases r2 with ⟨u1, u2, u3⟩ | ⟨u1, u2⟩
        · rw [e0, e1, e2, e3, ev, ex]
          exact ⟨rfl, hi, hx1, by simp only []; omega, by rw [r1 13 (by decide) (by decide)]; exact hN, u3, ⟨hi, rfl, ⟨hl, Nat.le_refl _⟩, hE, by omega, Nat.le_refl _⟩, AgF.rf, r1.wk⟩
        · exact absurd u2 (by decide)
    · have y : ¬ k t = 125 := fun y => by have := w1.2.mpr y; omega
      rw [pSts_s y]
      have co := fun {p : Nat → Int32} {n1 n2 n3 : Nat → Nat → Int32} {z z' : Int32} (y : RLt ta pf na ma wa p n1 n2 n3 z z') => hS hc hW hN hb y
      rcases h with ⟨pq1, pq2, pq3, pq4, h3, e0, e1, e2, e3, ev, ex⟩ | ⟨pf33, na34, ma35, wa36, v38, h3, z53, h4, na55, v57, h5, na60, h6, hE'⟩
      · rw [(co h3).no]; exact ex
      · have q := co h3
        obtain ⟨g, hg⟩ := q.sm
        obtain ⟨a, t1⟩ := g
        rw [hg] at q ⊢
        show OkL (fun n m => RepS k c n m d) c t (o - 1) (gEnd k 125 (gMap (fun r => .add s r) (gSr S k o n a t1))) B lo hi pf na ma wa pf' na' ma' wa' v xt
        obtain ⟨-, N', z0, z1, z2, z3, z4, z5, z6, z7⟩ := q
        simp only [] at z1 z3 z4
        obtain ⟨f1, f2⟩ := hang_r h5
        have f1' : na55 = vu na34 21 lo v38 := by
          rcases f1 with ⟨y, -⟩ | ⟨-, y⟩
          · exfalso; omega
          · rw [cn_of hx2] at y; exact y
        have f2' : v57 = b2 := by
          rcases f2 with ⟨y, -⟩ | ⟨-, y⟩
          · rw [← h0] at y; exfalso; omega
          · exact y
        rw [cn_of hx1] at h6
        have h6' : na60 = vu na55 17 B v57 := h6
        have gB := z6 B (Nat.zero_le _) (by omega)
        have ne : ∀ f i : Nat, na60 f i = na55 f i := fun f i => by
          by_cases q : f = 17 ∧ i = B
          · rw [q.1, q.2, h6', vu_s, f2', ← h0, f1', vu_p (by omega), gB.2.2.1]
          · rw [h6', vu_p q]
        have e60 : na60 = vu na34 21 lo v38 := by
          funext f i
          rw [ne f i, f1']
        have b3 := ih t1 hi N' m a x1 v38 pf33 na60 ma35 wa36 hE' hx1 z0 (by omega) (by rw [e60, vu_p (by omega), gB.2.2.1]; exact h17) z3 (hW.wk z7) z2 (by omega) (rps_kp _ _ _ _ (-1) z4 (((ag_21 e60).ot (r' := -1) (Or.inl (by omega))).s (Or.inl (by omega))) (by omega)) (by rw [e60, vu_p (by omega)]; exact z5) (by omega)
        cases hw : gSr S k o n a t1 with
        | none =>
          rw [hw] at b3
          exact b3
        | some s2 =>
          obtain ⟨r, t2⟩ := s2
          rw [hw] at b3
          have b3' : OkL (fun n m => RepS k c n m d) c t1 (o - 1) (if k t2 = 125 then some (r, t2 + 1) else none) B hi N' pf33 na60 ma35 wa36 pf' na' ma' wa' v xt := b3
          show OkL (fun n m => RepS k c n m d) c t (o - 1) (if k t2 = 125 then some (Term.add s r, t2 + 1) else none) B lo hi pf na ma wa pf' na' ma' wa' v xt
          by_cases w : k t2 = 125
          · rw [if_pos w] at b3' ⊢
            obtain ⟨d0, M, dv, d1, d2, d3, d4, d5, d6⟩ := b3'
            simp only [] at d1 d3 d4
            have gj := (d5 lo (Nat.zero_le _) (by omega)).2.2.2.2.2.2.2 (by omega)
            have ax : AgS na ma na' ma' lo hi (lo : Int) := (((z6.le (Nat.zero_le _) (Nat.le_refl _)).s (Or.inl (by omega))).ot (Or.inl (by omega))).tr (⟨ag_21 e60, fun _ _ _ => rfl⟩ : AgS na34 ma35 na60 ma35 lo hi (lo : Int)) |>.tr (((d5.le (Nat.zero_le _) (Nat.le_refl _)).s (Or.inl (by omega))).ot (Or.inl (by omega)))
            refine ⟨d0, M, dv, by simp only []; omega, d2, d3, ⟨hi, rfl, ⟨hl, by omega⟩, rps_kp _ _ _ _ _ hE ax (Int.le_refl _), ?_⟩, ?_, z7.tr d6⟩
            · rw [gj.1, e60, vu_s, z0]; exact d4
            · exact (z6.le (Nat.le_refl _) (by omega)).tr (((ag_21 e60).ot (Or.inr (Int.le_refl _))).tr (d5.le (Nat.le_refl _) (by omega)))
          · rw [if_neg w] at b3' ⊢
            exact b3'
/-- statements in braces -/
def gBlk (S : POT) (k : Nat → Int) (t : Nat) (o : Int) : Option (Ast × Nat) := if k t = 123 ∧ o < 60 then gMap (fun l => sNd 0 l .null) (gEnd k 125 (pSts S k (o + 1) 2049 (t + 1))) else none
def RepB (k : Nat → Int) (c d : Nat) (na ma : Nat → Nat → Int32) (s : Ast) (lo hi : Nat) : Prop := ∃ a : Ast, s = sNd 0 a .null ∧ (na 14 lo).toInt = 20 ∧ RowS na (RepS k c na ma d) a (na 17 lo).toInt (lo + 1) hi
theorem blk_okr (hS : HSt RLt d ta k c S) (hT : RTk ta c) (hk : ∀ i : Nat, i < c → rkd ta i = k i) (hc : RCur pf c t o) (hW : RW pf o) (hN : (pf 13).toInt = (N : Int)) (hb : N ≤ t + 10000) (h : R_mp_block RLt ta pf na ma wa pf' na' ma' wa' v xt) : OkSr (RepB k c d) c t o (gBlk S k t o) N pf na ma wa pf' na' ma' wa' v xt := by
  have c1 := hc.2.2.1
  have c2 := hc.2.2.2.1
  have h0' := hc.2.2.2.2.1
  obtain ⟨m, h⟩ := h
  obtain ⟨m, pf64, na65, ma66, v68, h1, h⟩ := iv_mp_block_0 h
  obtain ⟨m1, m2, m3, m4⟩ := make_r hN (by omega) (show (vp_nar .byte (20 : Int32).toInt8.toInt32).toInt = 20 from rfl) hc.1 h1
  have hc1 := hc.mk m3
  have om := fun {p : Nat → Int32} {z : Int32} (y : R_mp_opensMark 1 (lby "{") ta pf64 p z) => opensMark_r hT hc1 (by decide) mq_123 (by decide) y
  rw [hk t c1] at om
  unfold gBlk
  rcases h with ⟨pq1, h2, e0, e1, e2, e3, ev, ex⟩ | ⟨pf83, h2, hE⟩
  · rcases (om h2).2 with ⟨y1, y2, y3⟩ | ⟨y1, y2⟩
    · exact absurd y2 (by decide)
    · rw [if_neg y1]; exact ex
  · obtain ⟨s1, s2⟩ := om h2
    rcases s2 with ⟨y1, y2, y3⟩ | ⟨y1, y2⟩
    · rw [if_pos y1]
      have d1 := y3.2.2.1
      have hW1 : RW pf83 (o + 1) := (hW.mk m3).sm s1 (by omega)
      have hN1 : (pf83 13).toInt = ((N + 1 : Nat) : Int) := by rw [s1 13 (by decide) (by decide), m2]; rfl
      have wk0 : WKp pf wa pf83 wa := (mk_wk m3).tr s1.wk
      have eo : o + 1 - 1 = o := by omega
      obtain ⟨m, b2, h0, v7, h3, h⟩ := iv_mp_block_19 hE
      rw [cn_of m1] at h0
      have w1 := is_r hT y3 (by decide) mq_125 (by decide) h3
      rw [hk (t + 1) d1] at w1
      rw [show (2049 : Nat) = 2048 + 1 from rfl]
      rcases h with ⟨h4, h⟩ | ⟨h4, h⟩
      · have y : k (t + 1) = 125 := w1.2.mp (by omega)
        rw [pSts_e y]
        show OkSr (RepB k c d) c t o (gMap (fun l => sNd 0 l .null) (if k (t + 1) = 125 then some (Term.null, t + 1 + 1) else none)) N pf na ma wa pf' na' ma' wa' v xt
        rw [if_pos y]
        have cl := fun {p : Nat → Int32} {z : Int32} (y : R_mp_closes 1 (lby "}") ta pf83 p z) => closes_r hT y3 (by omega) (by decide) mq_125 (by decide) y
        rw [hk (t + 1) d1, eo] at cl
        rcases h with ⟨pq1, h5, e0, e1, e2, e3, ev, ex⟩ | ⟨pf17, h5, e0, e1, e2, e3, ev, ex⟩
        · rcases (cl h5).2 with ⟨u1, u2, u3⟩ | ⟨u1, u2⟩
          · exact absurd u2 (by decide)
          · exact absurd y u1
        · obtain ⟨r1, r2⟩ := cl h5
          rcases r2 with ⟨u1, u2, u3⟩ | ⟨u1, u2⟩
          · rw [e0, e1, e2, e3, ev, ex]
            refine ⟨rfl, N + 1, m1, by simp only []; omega, by rw [r1 13 (by decide) (by decide)]; exact hN1, u3, ⟨.null, rfl, m4.1.1.1, ?_, Nat.le_refl _⟩, m4.1.2.2.1, m4.ag (Or.inl (Nat.le_refl _)), wk0.tr r1.wk⟩
            rw [m4.1.2.1]; decide
          · exact absurd u2 (by decide)
      · have y : ¬ k (t + 1) = 125 := fun y => by have := w1.2.mpr y; omega
        rw [pSts_s y]
        have co := fun {p : Nat → Int32} {n1 n2 n3 : Nat → Nat → Int32} {z z' : Int32} (y : RLt ta pf83 na65 ma66 wa p n1 n2 n3 z z') => hS y3 hW1 hN1 (by omega) y
        rcases h with ⟨pq1, pq2, pq3, pq4, h5, e0, e1, e2, e3, ev, ex⟩ | ⟨pf33, na34, ma35, wa36, v38, h5, z53, h6, na55, v57, h7, na60, h8, hE'⟩
        · rw [(co h5).no]; exact ex
        · have q := co h5
          obtain ⟨g, hg⟩ := q.sm
          obtain ⟨a, t1⟩ := g
          rw [hg] at q ⊢
          show OkSr (RepB k c d) c t o (gMap (fun l => sNd 0 l .null) (gEnd k 125 (gSr S k (o + 1) 2048 a t1))) N pf na ma wa pf' na' ma' wa' v xt
          obtain ⟨-, N', z0, z1, z2, z3, z4, z5, z6, z7⟩ := q
          simp only [] at z1 z3 z4
          obtain ⟨f1, f2⟩ := hang_r h7
          have f1' : na55 = na34 := by
            rcases f1 with ⟨-, y⟩ | ⟨y, -⟩
            · exact y
            · exact absurd (show (-1 : Int32).toInt < 0 by decide) y
          have b2n : b2.toInt = -1 := by rw [← h0]; exact m4.1.2.1
          have f2' : v57 = v38 := by
            rcases f2 with ⟨-, y⟩ | ⟨y, -⟩
            · exact y
            · exfalso; omega
          rw [cn_of m1, f1', f2'] at h8
          have h8' : na60 = vu na34 17 N v38 := h8
          have gN := z6 N (Nat.zero_le _) (by omega)
          have gN2 := gN.2.2.2.2.2.2.2 (by omega)
          have at' : ∀ f i : Nat, ¬ i = N → na60 f i = na34 f i ∧ ma35 f i = ma35 f i := fun f i hi => ⟨by rw [h8', vu_at hi], rfl⟩
          have hl := rps_lt z4
          have b3 := blk_19 hS hT hk (B := N) (o := o + 1) (by omega) 2048 t1 (N + 1) N' m a v68 v38 pf33 na60 ma35 wa36 hE' m1 z0 (by omega) (by rw [h8', vu_s]; omega) z3 (hW1.wk z7) z2 (by omega) (rps_kp _ _ _ _ (-1) z4 ((ag_at (r := -1) at' (Or.inr (by omega))).s (Or.inl (by omega))) (by omega)) (by rw [(at' 21 (N + 1) (by omega)).1]; exact z5) (by omega)
          rw [eo] at b3
          cases hw : gEnd k 125 (gSr S k (o + 1) 2048 a t1) with
          | none =>
            rw [hw] at b3
            exact b3
          | some s2 =>
            obtain ⟨l, t2⟩ := s2
            rw [hw] at b3
            show OkSr (RepB k c d) c t o (some (sNd 0 l .null, t2)) N pf na ma wa pf' na' ma' wa' v xt
            obtain ⟨d0, M, dv, d1', d2, d3, d4, d5, d6⟩ := b3
            simp only [] at d1' d3 d4
            have gM := d5 N (Nat.zero_le _) (by omega)
            have gM2 := gM.2.2.2.2.2.2.2 (by omega)
            refine ⟨d0, M, dv, by simp only []; omega, d2, d3, ⟨l, rfl, ?_, ?_⟩, ?_, ?_, wk0.tr (z7.tr d6)⟩
            · rw [gM.1, h8', vu_p (by omega), gN.1]; exact m4.1.1.1
            · rw [gM.2.2.1, h8', vu_s, z0]; exact d4
            · rw [gM2.1, h8', vu_p (by omega), gN2.1]; exact m4.1.2.2.1
            · exact (m4.ag (Or.inl (Nat.le_refl _))).tr ((z6.le (Nat.le_refl _) (by omega)).tr ((ag_at at' (Or.inl (Nat.le_refl _))).tr (d5.le (Nat.le_refl _) (by omega))))
    · exact absurd y2 (by decide)
end RL
