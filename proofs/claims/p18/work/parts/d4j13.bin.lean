/-! THE REFERENCE: the row of waiting operators -/
theorem OkT.kp {k : Nat → Int} {c : Nat} {e : Ast} {lo hi : Nat} {na ma na' ma' : Nat → Nat → Int32} {i : Nat} {r : Int} (h : OkT k c e lo hi na ma i) (g : AgF na ma na' ma' lo hi r) (hr : r < 0) : OkT k c e lo hi na' ma' i := by
  obtain ⟨h1, h2, h3, h4, h5⟩ := h
  obtain ⟨-, -, -, -, -, -, g7, g8⟩ := g i h5.1 h5.2
  have g9 := g8 (by omega)
  exact ⟨h1, rep_kp _ _ _ _ _ _ h2 (fun _ => g.rt (Or.inl (by omega))) (fun z => absurd z (by decide)), ⟨by rw [g9.1]; exact h3.1, by rw [g9.2]; exact h3.2⟩, by rw [g7]; exact h4, h5⟩
def WsR (k : Nat → Int) (c : Nat) (na ma wa : Nat → Nat → Int32) (bs t0 N0 : Nat) : Wts → Nat → Nat → Prop
  | [], hi, s => hi = N0 ∧ s = t0
  | (r, tok, y, fl) :: W, hi, s => ∃ a m s0 : Nat, ((wa 27 (bs + W.length)).toInt = r ∧ (wa 28 (bs + W.length)).toInt = (tok : Int) ∧ (wa 29 (bs + W.length)).toInt = (a : Int)) ∧ (r = rkO (k tok) ∧ 0 < r ∧ tok < c) ∧ OkT k c y m hi na ma a ∧ (1 ≤ dpT k y ∧ dpT k y + (s0 : Int) ≤ (tok : Int) ∧ hi + s0 ≤ m + tok ∧ s = tok + 1 ∧ c ≤ 2 * fl + tok + 2) ∧ WsR k c na ma wa bs t0 N0 W m s0
theorem ws_kp {k : Nat → Int} {c : Nat} {na ma wa na' ma' wa' : Nat → Nat → Int32} {bs t0 N0 : Nat} : ∀ (W : Wts) (hi s : Nat), WsR k c na ma wa bs t0 N0 W hi s → AgF na ma na' ma' 0 hi (-1) → (∀ g j : Nat, bs ≤ j → j < bs + W.length → wa' g j = wa g j) → WsR k c na' ma' wa' bs t0 N0 W hi s := by
  intro W
  induction W with
  | nil => intro hi s h _ _; exact h
  | cons e W ih =>
    obtain ⟨r, tok, y, fl⟩ := e
    intro hi s h hA hw
    obtain ⟨a, m, s0, h1, h2, h3, h4, h5⟩ := h
    have el : ((r, tok, y, fl) :: W : Wts).length = W.length + 1 := rfl
    rw [el] at hw
    have ha := h3.2.2.2.2
    refine ⟨a, m, s0, ?_, h2, h3.kp (hA.le (Nat.zero_le _) (Nat.le_refl _)) (by decide), h4, ih m s0 h5 (hA.le (Nat.le_refl _) (by omega)) (fun g j q1 q2 => hw g j q1 (by omega))⟩
    rw [hw 27 _ (by omega) (by omega), hw 28 _ (by omega) (by omega), hw 29 _ (by omega) (by omega)]
    exact h1
theorem ws_b {k : Nat → Int} {c : Nat} {na ma wa : Nat → Nat → Int32} {bs t0 N0 : Nat} : ∀ (W : Wts) (hi s : Nat), WsR k c na ma wa bs t0 N0 W hi s → N0 ≤ hi ∧ hi + t0 ≤ N0 + s ∧ t0 ≤ s := by
  intro W
  induction W with
  | nil =>
    intro hi s h
    have h' : hi = N0 ∧ s = t0 := h
    omega
  | cons e W ih =>
    obtain ⟨r, tok, y, fl⟩ := e
    intro hi s h
    obtain ⟨a, m, s0, h1, h2, h3, h4, h5⟩ := h
    have := ih m s0 h5
    have ha := h3.2.2.2.2
    omega
/-- an operand x before token t, at node i; W waits -/
def BST (k : Nat → Int) (c : Nat) (o : Int) (bs t0 N0 : Nat) (pf0 : Nat → Int32) (nS mS wS : Nat → Nat → Int32) (f : Nat) (W : Wts) (x : Ast) (t i : Nat) (pf : Nat → Int32) (na ma wa : Nat → Nat → Int32) : Prop := ∃ hi N s : Nat, OkT k c x hi N na ma i ∧ (1 ≤ dpT k x ∧ dpT k x + (s : Int) ≤ (t : Int) ∧ N + s ≤ hi + t ∧ s < t) ∧ WsR k c na ma wa bs t0 N0 W hi s ∧ RCur pf c t (o + (W.length : Int)) ∧ (pf 26).toInt = ((bs + W.length : Nat) : Int) ∧ (pf 13).toInt = (N : Int) ∧ c ≤ 2 * f + t ∧ (∀ g j : Nat, j < bs → wa g j = wS g j) ∧ AgF nS mS na ma 0 N0 (-1) ∧ ∀ g : Nat, ¬ g = 11 → ¬ g = 12 → ¬ g = 13 → ¬ g = 26 → pf g = pf0 g
/-- as OkR, but a negative v tells that it is an operand alone -/
def OkB (al : Prop) (k : Nat → Int) (c t : Nat) (o : Int) (g : Option (Ast × Nat)) (N : Nat) (pf : Nat → Int32) (na ma wa : Nat → Nat → Int32) (pf' : Nat → Int32) (na' ma' wa' : Nat → Nat → Int32) (v xt : Int32) : Prop := ∃ u : Int32, OkR k c t o g N pf na ma wa pf' na' ma' wa' u xt ∧ (xt = 0 → (al ∧ v.toInt = -1 - u.toInt) ∨ (¬ al ∧ v.toInt = u.toInt))
section RI
variable {RLe : T_mp_expression} {RLc : T_mp_conditional} {k : Nat → Int} {ta : Nat → Nat → Int32} {c t0 N0 bs : Nat} {o : Int} {pf0 : Nat → Int32} {nS mS wS : Nat → Nat → Int32} {pf' : Nat → Int32} {na' ma' wa' : Nat → Nat → Int32} {v xt : Int32}
theorem OkB.thr {al : Prop} {pf : Nat → Int32} {na ma wa : Nat → Nat → Int32} {t N : Nat} (ex : xt = 1) : OkB al k c t o none N pf na ma wa pf' na' ma' wa' v xt := ⟨0, ex, fun q => absurd (q.symm.trans ex) (by decide)⟩
theorem bst_pop (hk : ∀ i : Nat, i < c → rkd ta i = k i) (hPl : RPl ta c) (h0 : 0 ≤ o) (hb : N0 ≤ t0 + 10001) (hbs : bs ≤ 1000) {f fl tok t i : Nat} {r : Int} {y x : Ast} {W : Wts} {pf : Nat → Int32} {na ma wa : Nat → Nat → Int32} {x2 a rk tk : Int32} (hS : BST k c o bs t0 N0 pf0 nS mS wS f ((r, tok, y, fl) :: W) x t i pf na ma wa) (hx : x2.toInt = (i : Int)) (hTop : TopW wa ((pf 26).toInt - 1).toNat a rk tk) {pf9 : Nat → Int32} {na10 ma11 : Nat → Nat → Int32} {v13 : Int32} (h : R_mp_settle ta wa a rk tk x2 pf na ma pf9 na10 ma11 v13) : ∃ i' : Nat, v13.toInt = (i' : Int) ∧ BST k c o bs t0 N0 pf0 nS mS wS fl W (eBin tok y x) t i' pf9 na10 ma11 wa := by
  obtain ⟨hi, N, s, b1, b2, b3, b4, b5, b6, b7, b8, b9, b10⟩ := hS
  obtain ⟨a0, m, s0, w1, w2, w3, w4, w5⟩ := b3
  have el : ((r, tok, y, fl) :: W : Wts).length = W.length + 1 := rfl
  rw [el] at b4 b5
  have c1 := b4.2.2.1
  have c2 := b4.2.2.2.1
  have c3 := b4.2.1
  have c5 := b4.2.2.2.2
  have wb := ws_b W m s0 w5
  have ha := w3.2.2.2.2
  have hx5 := b1.2.2.2.2
  have ix : ((pf 26).toInt - 1).toNat = bs + W.length := by omega
  rw [ix] at hTop
  obtain ⟨t1, t2, t3⟩ := hTop
  rw [t1, t2, t3] at w1
  have d0 := dpT_nn k y
  have d1 := dpT_nn k x
  have hI : SIn k c tok y x m hi hi N a0 i a rk tk x2 pf na ma := ⟨w3, b1, Nat.le_refl _, ⟨w1.2.2, hx, by omega, w1.2.1⟩, ⟨w2.2.2, by omega⟩, b6, by omega, by omega, by omega⟩
  obtain ⟨p0, ⟨N', i', s1, s2, s3, s4, s5, s6⟩, q1, q2, q3⟩ := stl_ok hk hPl hI b5 c3 (by omega) h
  have dl : dpT k (eBin tok y x) ≤ max (dpT k y + 1) (dpT k x + 1) ∧ 1 ≤ dpT k (eBin tok y x) := by
    rw [dp_binr]
    split <;> omega
  refine ⟨i', s1, m, N', s0, s4, ?_, ws_kp W m s0 w5 s5 (fun _ _ _ _ => rfl), ⟨?_, ?_, c1, c2, by omega, by omega⟩, ?_, s3, by omega, b8, b9.tr (s5.le (Nat.le_refl _) wb.1), fun g g1 g2 g3 g4 => ?_⟩
  · omega
  · rw [s6 11 (by decide), q3 11 (by decide) (by decide)]; exact b4.1
  · rw [s6 12 (by decide), q2]; omega
  · rw [s6 26 (by decide), q1]; omega
  · rw [s6 g g3, q3 g g2 g4]; exact b10 g g1 g2 g3 g4
theorem bst_end {f t i : Nat} {x : Ast} {pf : Nat → Int32} {na ma wa : Nat → Nat → Int32} {u : Int32} (hbs : (pf0 26).toInt = (bs : Int)) (hS : BST k c o bs t0 N0 pf0 nS mS wS f [] x t i pf na ma wa) (hx : u.toInt = (i : Int)) : OkR k c t0 o (some (x, t)) N0 pf0 nS mS wS pf na ma wa u 0 := by
  obtain ⟨hi, N, s, b1, b2, b3, b4, b5, b6, b7, b8, b9, b10⟩ := hS
  have b3' : hi = N0 ∧ s = t0 := b3
  obtain ⟨e1, e2⟩ := b3'
  subst e1
  subst e2
  have eo : o + ((([] : Wts).length : Nat) : Int) = o := by
    show o + ((0 : Nat) : Int) = o
    omega
  rw [eo] at b4
  have e5 : (pf 26).toInt = (bs : Int) := b5
  refine ⟨rfl, N, i, hx, ⟨b1.2.2.2.2.1, b1.2.2.2.2.2, by simp only []; omega, by simp only []; omega⟩, b6, b4, b1.1, b1.2.1, b1.2.2.1, b1.2.2.2.1, ⟨b2.1, b2.2.1⟩, b9, ⟨b10, by rw [e5]; exact hbs.symm, fun g j q => b8 g j (by omega)⟩⟩
theorem bin_133 (hk : ∀ i : Nat, i < c → rkd ta i = k i) (hPl : RPl ta c) (h0 : 0 ≤ o) (hb : N0 ≤ t0 + 10001) (hbs : bs ≤ 1000) (hb0 : (pf0 26).toInt = (bs : Int)) {t : Nat} (hr : rkO (k t) ≤ 0) : ∀ (W : Wts) (f i n : Nat) (x : Ast) (x1 x2 x3 : Int32) (pf : Nat → Int32) (na ma wa : Nat → Nat → Int32), E_mp_binary RLe RLc ta pf' na' ma' wa' v xt n 133 [x1, x2, x3] [] [] [] [] pf na ma wa → x1.toInt = (bs : Int) → x2.toInt = (i : Int) → BST k c o bs t0 N0 pf0 nS mS wS f W x t i pf na ma wa → OkB (¬ x3.toInt = 0) k c t0 o (runW k o f W x t) N0 pf0 nS mS wS pf' na' ma' wa' v xt := by
  intro W
  induction W with
  | nil =>
    intro f i n x x1 x2 x3 pf na ma wa h hx1 hx2 hS
    have e5 : (pf 26).toInt = (bs : Int) := by
      obtain ⟨hi, N, s, b1, b2, b3, b4, b5, -⟩ := hS
      exact b5
    have q := bst_end hb0 hS hx2
    rw [run_end (by omega)]
    rcases iv_mp_binary_133 h with ⟨n, (⟨h1, (⟨h2, e0, e1, e2, e3, ev, ex⟩ | ⟨h2, z5, h3, e0, e1, e2, e3, ev, ex⟩)⟩ | ⟨h1, a, rk, tk, h2, pf9, na10, ma11, v13, h3, hE⟩)⟩
    · rw [e0, e1, e2, e3, ev, ex]
      exact ⟨x2, q, fun _ => Or.inr ⟨fun y => y h2, rfl⟩⟩
    · rw [e0, e1, e2, e3, ev, ex]
      have i2 := Int32.toInt_lt x2
      have z := ti_sub h3 (show (-1 : Int32).toInt = -1 from rfl) hx2 (by omega) (by omega)
      exact ⟨x2, q, fun _ => Or.inl ⟨h2, by omega⟩⟩
    · exfalso; omega
  | cons e W ih =>
    obtain ⟨r, tok, y, fl⟩ := e
    intro f i n x x1 x2 x3 pf na ma wa h hx1 hx2 hS
    have e5 : (pf 26).toInt = ((bs + (W.length + 1) : Nat) : Int) ∧ 0 < r := by
      obtain ⟨hi, N, s, b1, b2, b3, b4, b5, -⟩ := hS
      obtain ⟨a0, m, s0, w1, w2, -⟩ := b3
      exact ⟨b5, w2.2.1⟩
    rw [run_pop (by omega)]
    rcases iv_mp_binary_133 h with ⟨n, (⟨h1, (⟨h2, e0, e1, e2, e3, ev, ex⟩ | ⟨h2, z5, h3, e0, e1, e2, e3, ev, ex⟩)⟩ | ⟨h1, a, rk, tk, h2, pf9, na10, ma11, v13, h3, hE⟩)⟩
    · exfalso; omega
    · exfalso; omega
    · obtain ⟨i', p1, p2⟩ := bst_pop hk hPl h0 hb hbs hS hx2 h2 h3
      exact ih fl i' n (eBin tok y x) x1 v13 x3 pf9 na10 ma11 wa hE hx1 p1 p2
/-- what 22 gives behind token t -/
def H22 (RLe : T_mp_expression) (RLc : T_mp_conditional) (k : Nat → Int) (ta : Nat → Nat → Int32) (c t0 N0 bs : Nat) (o : Int) (pf0 : Nat → Int32) (nS mS wS : Nat → Nat → Int32) (pf' : Nat → Int32) (na' ma' wa' : Nat → Nat → Int32) (v xt : Int32) (t : Nat) : Prop := ∀ (W : Wts) (t' f i n : Nat) (x : Ast) (x1 x2 x3 x4 : Int32) (pf : Nat → Int32) (na ma wa : Nat → Nat → Int32), t < t' → E_mp_binary RLe RLc ta pf' na' ma' wa' v xt n 22 [x1, x2, x3, x4] [] [] [] [] pf na ma wa → x1.toInt = (bs : Int) → x2.toInt = (i : Int) → x3.toInt = 0 → x4.toInt = rkO (k t') → BST k c o bs t0 N0 pf0 nS mS wS f W x t' i pf na ma wa → OkB False k c t0 o (runW k o f W x t') N0 pf0 nS mS wS pf' na' ma' wa' v xt
theorem bin_push (hP : HPr RLe ta k c (pBoth k 62).1) (hT : RTk ta c) (hk : ∀ i : Nat, i < c → rkd ta i = k i) (hPl : RPl ta c) (h0 : 0 ≤ o) (hb : N0 ≤ t0 + 10001) (hbs : (bs : Int) ≤ o) {t : Nat} (H : H22 RLe RLc k ta c t0 N0 bs o pf0 nS mS wS pf' na' ma' wa' v xt t) {W : Wts} {f i n : Nat} {x : Ast} {x1 x2 x3 x4 : Int32} {pf : Nat → Int32} {na ma wa : Nat → Nat → Int32} (hx1 : x1.toInt = (bs : Int)) (hx2 : x2.toInt = (i : Int)) (hx3 : x3.toInt = 0) (hx4 : x4.toInt = rkO (k t)) (hr : 0 < rkO (k t)) (htop : topR W ≤ rkO (k t)) (hS : BST k c o bs t0 N0 pf0 nS mS wS f W x t i pf na ma wa)
    (h : ((R_mp_stands pf na x2 1) ∧ pf' = pf ∧ na' = na ∧ ma' = ma ∧ wa' = vu (vu (vu wa 27 (pf 26).toNatClampNeg x4) 28 (pf 26).toNatClampNeg (pf 11)) 29 (pf 26).toNatClampNeg x2 ∧ v = 0 ∧ xt = 1) ∨ ((R_mp_stands pf na x2 0) ∧ ((∃ (pq1 : Nat → Int32), (R_mp_opens pf pq1 1) ∧ pf' = pq1 ∧ na' = na ∧ ma' = ma ∧ wa' = vu (vu (vu wa 27 (pf 26).toNatClampNeg x4) 28 (pf 26).toNatClampNeg (pf 11)) 29 (pf 26).toNatClampNeg x2 ∧ v = 0 ∧ xt = 1) ∨ (∃ (pf33 : Nat → Int32), (R_mp_opens pf pf33 0) ∧ ∃ (z48 : Int32), (z48 = (pf33 26) + (1 : Int32)) ∧ ((∃ (pq1 : Nat → Int32), ∃ (pq2 : Nat → Nat → Int32), ∃ (pq3 : Nat → Nat → Int32), ∃ (pq4 : Nat → Nat → Int32), (R_mp_unary RLe RLc ta (upd pf33 26 z48) na ma (vu (vu (vu wa 27 (pf 26).toNatClampNeg x4) 28 (pf 26).toNatClampNeg (pf 11)) 29 (pf 26).toNatClampNeg x2) pq1 pq2 pq3 pq4 0 1) ∧ pf' = pq1 ∧ na' = pq2 ∧ ma' = pq3 ∧ wa' = pq4 ∧ v = 0 ∧ xt = 1) ∨ (∃ (pf53 : Nat → Int32), ∃ (na54 : Nat → Nat → Int32), ∃ (ma55 : Nat → Nat → Int32), ∃ (wa56 : Nat → Nat → Int32), ∃ (v58 : Int32), (R_mp_unary RLe RLc ta (upd pf33 26 z48) na ma (vu (vu (vu wa 27 (pf 26).toNatClampNeg x4) 28 (pf 26).toNatClampNeg (pf 11)) 29 (pf 26).toNatClampNeg x2) pf53 na54 ma55 wa56 v58 0) ∧ ∃ (v74 : Int32), (R_mp_rank ta (pf53 11) v74) ∧ E_mp_binary RLe RLc ta pf' na' ma' wa' v xt n 22 [x1, v58, x3, v74] [] [] [] [] pf53 na54 ma55 wa56)))))) : OkB False k c t0 o (runW k o f W x t) N0 pf0 nS mS wS pf' na' ma' wa' v xt := by
  obtain ⟨hi, N, s, b1, b2, b3, b4, b5, b6, b7, b8, b9, b10⟩ := hS
  have c1 := b4.2.2.1
  have c2 := b4.2.2.2.1
  have c5 := b4.2.2.2.2
  have wb := ws_b W hi s b3
  have hx5 := b1.2.2.2.2
  obtain ⟨f', rfl⟩ : ∃ f' : Nat, f = f' + 1 := ⟨f - 1, by omega⟩
  rw [run_push h0 hr htop]
  have hl : t + 1 < c := rlt hT b4 (fun q => by
    rw [hk t c1] at q
    have := rkO_lo (v := k t) (by omega)
    omega)
  have st := fun {z : Int32} (y : R_mp_stands pf na x2 z) => stands_r b4 hx2 b1.2.2.2.1 (by omega) y
  rcases h with ⟨h1, e0, e1, e2, e3, ev, ex⟩ | ⟨h1, h⟩
  · rcases st h1 with ⟨y1, y2⟩ | ⟨y1, y2⟩
    · exact absurd y2 (by decide)
    · rw [if_neg y1]; exact OkB.thr ex
  · rcases st h1 with ⟨y1, y2⟩ | ⟨y1, y2⟩
    · rw [if_pos y1]
      rcases h with ⟨pq1, h3, e0, e1, e2, e3, ev, ex⟩ | ⟨pf33, h3, z48, h4, h⟩
      · rcases (opens_r b4 hl h3).2 with ⟨u1, u2, u3⟩ | ⟨u1, u2⟩
        · exact absurd u2 (by decide)
        · exfalso; omega
      · obtain ⟨r1, r2⟩ := opens_r b4 hl h3
        rcases r2 with ⟨u1, u2, u3⟩ | ⟨u1, u2⟩
        · have f26 := r1 26 (by decide) (by decide)
          rw [f26] at h4
          have z4 := ti_add h4 b5 (show (1 : Int32).toInt = 1 from rfl) (by omega) (by omega)
          have hc' : RCur (upd pf33 26 z48) c (t + 1) (o + (W.length : Int) + 1) := ⟨by rw [pk_un (by decide)]; exact u3.1, by rw [pk_un (by decide)]; exact u3.2.1, u3.2.2⟩
          have hW' : RW (upd pf33 26 z48) (o + (W.length : Int) + 1) := by
            unfold RW
            rw [pk_us]
            omega
          have hN' : ((upd pf33 26 z48) 13).toInt = (N : Int) := by rw [pk_un (by decide), r1 13 (by decide) (by decide)]; exact b6
          have uo := fun {p : Nat → Int32} {n1 n2 n3 : Nat → Nat → Int32} {z z' : Int32} (y : R_mp_unary RLe RLc ta (upd pf33 26 z48) na ma (vu (vu (vu wa 27 (pf 26).toNatClampNeg x4) 28 (pf 26).toNatClampNeg (pf 11)) 29 (pf 26).toNatClampNeg x2) p n1 n2 n3 z z') => una_ok hW' hP hT hk hPl hc' hN' (by omega) y
          rcases h with ⟨pq1, pq2, pq3, pq4, h5, e0, e1, e2, e3, ev, ex⟩ | ⟨pf53, na54, ma55, wa56, v58, h5, v74, h6, hE⟩
          · rw [(uo h5).no]; exact OkB.thr ex
          · have q := uo h5
            obtain ⟨g, hg⟩ := q.sm
            obtain ⟨u, t'⟩ := g
            rw [hg] at q ⊢
            dsimp only
            obtain ⟨-, N', i', q1, q2, q3, q4, q5, q6, q7, q8, q9, q10, q11⟩ := q
            simp only [] at q2 q4 q5 q6 q8 q9
            have ix : (pf 26).toNatClampNeg = bs + W.length := cn_of b5
            rw [ix] at q11
            have hw : ∀ g j : Nat, j < bs + W.length → wa56 g j = wa g j := fun g j hj => by
              rw [q11.2.2 g j (by rw [pk_us]; omega), vu_p (by omega), vu_p (by omega), vu_p (by omega)]
            have hw' := fun g => q11.2.2 g (bs + W.length) (by rw [pk_us]; omega)
            have el : (((rkO (k t), t, x, f') :: W : Wts).length : Nat) = W.length + 1 := rfl
            refine H ((rkO (k t), t, x, f') :: W) t' 2048 i' n u x1 v58 x3 v74 pf53 na54 ma55 wa56 (by omega) hE hx1 q1 hx3 (by rw [rnk_r hT q4.1 q4.2.2.1 h6, hk t' q4.2.2.1]) ?_
            refine ⟨N, N', t + 1, ⟨q5, q6, q7, q8, q2.1, q2.2.1⟩, ⟨q9.1, q9.2, by omega, by omega⟩, ⟨i, hi, s, ⟨?_, ?_, ?_⟩, ⟨rfl, hr, c1⟩, b1.kp (q10.le (Nat.zero_le _) (Nat.le_refl _)) (by decide), ⟨b2.1, b2.2.1, by omega, rfl, by omega⟩, ws_kp W hi s b3 (q10.le (Nat.le_refl _) (by omega)) (fun g j _ h2 => hw g j h2)⟩, ?_, ?_, q3, by omega, fun g j hj => by rw [hw g j (by omega)]; exact b8 g j hj, b9.tr (q10.le (Nat.le_refl _) (by omega)), fun g g1 g2 g3 g4 => ?_⟩
            · rw [hw' 27, vu_p (by omega), vu_p (by omega), vu_s]; exact hx4
            · rw [hw' 28, vu_p (by omega), vu_s]; exact b4.1
            · rw [hw' 29, vu_s]; exact hx2
            · rw [el]
              have eo : o + ((W.length + 1 : Nat) : Int) = o + (W.length : Int) + 1 := by omega
              rw [eo]; exact q4
            · rw [q11.2.1, pk_us, el]; omega
            · rw [q11.1 g g1 g2 g3 g4, pk_un g4, r1 g g1 g2]; exact b10 g g1 g2 g3 g4
        · exact absurd u2 (by decide)
    · exact absurd y2 (by decide)
theorem bin_29 (hP : HPr RLe ta k c (pBoth k 62).1) (hT : RTk ta c) (hk : ∀ i : Nat, i < c → rkd ta i = k i) (hPl : RPl ta c) (h0 : 0 ≤ o) (hb : N0 ≤ t0 + 10001) (hbs : (bs : Int) ≤ o) (ho : o ≤ 60) {t : Nat} (H : H22 RLe RLc k ta c t0 N0 bs o pf0 nS mS wS pf' na' ma' wa' v xt t) (hr : 0 < rkO (k t)) : ∀ (W : Wts) (f i n : Nat) (x : Ast) (x1 x2 x3 x4 : Int32) (pf : Nat → Int32) (na ma wa : Nat → Nat → Int32), E_mp_binary RLe RLc ta pf' na' ma' wa' v xt n 29 [x1, x2, x3, x4] [] [] [] [] pf na ma wa → x1.toInt = (bs : Int) → x2.toInt = (i : Int) → x3.toInt = 0 → x4.toInt = rkO (k t) → BST k c o bs t0 N0 pf0 nS mS wS f W x t i pf na ma wa → OkB False k c t0 o (runW k o f W x t) N0 pf0 nS mS wS pf' na' ma' wa' v xt := by
  intro W
  induction W with
  | nil =>
    intro f i n x x1 x2 x3 x4 pf na ma wa h hx1 hx2 hx3 hx4 hS
    have e5 : (pf 26).toInt = (bs : Int) := by
      obtain ⟨hi, N, s, b1, b2, b3, b4, b5, -⟩ := hS
      exact b5
    obtain ⟨n, h⟩ := iv_mp_binary_29 h
    rcases h with ⟨h1, h⟩ | ⟨h1, h⟩
    · exact bin_push hP hT hk hPl h0 hb hbs H hx1 hx2 hx3 hx4 hr (show (1 : Int) ≤ rkO (k t) by omega) hS h
    · exfalso; omega
  | cons e W ih =>
    obtain ⟨r, tok, y, fl⟩ := e
    intro f i n x x1 x2 x3 x4 pf na ma wa h hx1 hx2 hx3 hx4 hS
    have e5 : (pf 26).toInt = ((bs + (W.length + 1) : Nat) : Int) ∧ (wa 27 (bs + W.length)).toInt = r ∧ W.length ≤ 60 := by
      obtain ⟨hi, N, s, b1, b2, b3, b4, b5, -⟩ := hS
      obtain ⟨a0, m, s0, w1, w2, -⟩ := b3
      have c5 : o + ((W.length + 1 : Nat) : Int) ≤ 60 := b4.2.2.2.2.2
      exact ⟨b5, w1.1, by omega⟩
    obtain ⟨n, h⟩ := iv_mp_binary_29 h
    rcases h with ⟨h1, h⟩ | ⟨h1, z81, h2, z82, h3, h⟩
    · exfalso; omega
    · have z1 := ti_sub h2 e5.1 (show (1 : Int32).toInt = 1 from rfl) (by omega) (by omega)
      have ez : z81.toNatClampNeg = bs + W.length := cn_of (by omega)
      rw [ez] at h3
      rw [h3] at h
      rcases h with ⟨h4, h⟩ | ⟨h4, a, rk, tk, h5, pf140, na141, ma142, v144, h6, hE⟩
      · exact bin_push hP hT hk hPl h0 hb hbs H hx1 hx2 hx3 hx4 hr (show r + 1 ≤ rkO (k t) by omega) hS h
      · obtain ⟨i', p1, p2⟩ := bst_pop hk hPl h0 hb (by omega) hS hx2 h5 h6
        rw [run_pop (by omega)]
        exact ih fl i' n (eBin tok y x) x1 v144 x3 x4 pf140 na141 ma142 wa hE hx1 p1 hx3 hx4 p2
theorem bin_22 (hP : HPr RLe ta k c (pBoth k 62).1) (hT : RTk ta c) (hk : ∀ i : Nat, i < c → rkd ta i = k i) (hPl : RPl ta c) (h0 : 0 ≤ o) (hb : N0 ≤ t0 + 10001) (hbs : (bs : Int) ≤ o) (ho : o ≤ 60) (hb0 : (pf0 26).toInt = (bs : Int)) : ∀ (d t : Nat), c ≤ t + d → ∀ (W : Wts) (f i n : Nat) (x : Ast) (x1 x2 x3 x4 : Int32) (pf : Nat → Int32) (na ma wa : Nat → Nat → Int32), E_mp_binary RLe RLc ta pf' na' ma' wa' v xt n 22 [x1, x2, x3, x4] [] [] [] [] pf na ma wa → x1.toInt = (bs : Int) → x2.toInt = (i : Int) → x4.toInt = rkO (k t) → BST k c o bs t0 N0 pf0 nS mS wS f W x t i pf na ma wa → OkB (¬ x3.toInt = 0 ∧ rkO (k t) ≤ 0) k c t0 o (runW k o f W x t) N0 pf0 nS mS wS pf' na' ma' wa' v xt := by
  intro d
  induction d with
  | zero =>
    intro t hd W f i n x x1 x2 x3 x4 pf na ma wa h hx1 hx2 hx4 hS
    obtain ⟨hi, N, s, b1, b2, b3, b4, -⟩ := hS
    have := b4.2.2.1
    exfalso; omega
  | succ d ih =>
    intro t hd W f i n x x1 x2 x3 x4 pf na ma wa h hx1 hx2 hx4 hS
    obtain ⟨n, h⟩ := iv_mp_binary_22 h
    rcases h with ⟨h1, hE⟩ | ⟨h1, hE⟩
    · have hr : rkO (k t) ≤ 0 := by omega
      obtain ⟨u, q1, q2⟩ := bin_133 hk hPl h0 hb (by omega) hb0 hr W f i n x x1 x2 x3 pf na ma wa hE hx1 hx2 hS
      refine ⟨u, q1, fun e => ?_⟩
      rcases q2 e with ⟨y1, y2⟩ | ⟨y1, y2⟩
      · exact Or.inl ⟨⟨y1, hr⟩, y2⟩
      · exact Or.inr ⟨fun y => y1 y.1, y2⟩
    · have hr : 0 < rkO (k t) := by omega
      have H : H22 RLe RLc k ta c t0 N0 bs o pf0 nS mS wS pf' na' ma' wa' v xt t := by
        intro W' t' f' i' n' x' y1 y2 y3 y4 p' n1 n2 n3 ht hE' k1 k2 k3 k4 k5
        obtain ⟨u, q1, q2⟩ := ih t' (by omega) W' f' i' n' x' y1 y2 y3 y4 p' n1 n2 n3 hE' k1 k2 k4 k5
        refine ⟨u, q1, fun e => ?_⟩
        rcases q2 e with ⟨z1, z2⟩ | ⟨z1, z2⟩
        · exact absurd k3 z1.1
        · exact Or.inr ⟨id, z2⟩
      obtain ⟨u, q1, q2⟩ := bin_29 hP hT hk hPl h0 hb hbs ho H hr W f i n x x1 x2 0 x4 pf na ma wa hE hx1 hx2 rfl hx4 hS
      refine ⟨u, q1, fun e => ?_⟩
      rcases q2 e with ⟨z1, z2⟩ | ⟨z1, z2⟩
      · exact z1.elim
      · exact Or.inr ⟨fun y => by have := y.2; omega, z2⟩
/-- one parser behind another -/
def gThen (g : Option (Ast × Nat)) (F : Ast → Nat → Option (Ast × Nat)) : Option (Ast × Nat) := match g with
  | none => none
  | some r => F r.1 r.2
theorem gThen_s {F : Ast → Nat → Option (Ast × Nat)} {x : Ast} {t : Nat} : gThen (some (x, t)) F = F x t := rfl
theorem gThen_n {F : Ast → Nat → Option (Ast × Nat)} : gThen none F = none := rfl
theorem gThen_a {g : Option (Ast × Nat)} {F H : Ast → Nat → Option (Ast × Nat)} : gThen (gThen g F) H = gThen g (fun x t => gThen (F x t) H) := by cases g <;> rfl
theorem gThen_c {g : Option (Ast × Nat)} {F H : Ast → Nat → Option (Ast × Nat)} (h : ∀ (x : Ast) (t : Nat), g = some (x, t) → F x t = H x t) : gThen g F = gThen g H := by
  cases g with
  | none => rfl
  | some r => exact h r.1 r.2 rfl
theorem gThen_m {g : Option (Ast × Nat)} {F : Ast → Nat → Option (Ast × Nat)} : (match g with
  | none => none
  | some (x, t1) => F x t1) = gThen g F := by cases g <;> rfl
/-- operators between two, from the first operand on -/
def gBin (k : Nat → Int) (t : Nat) (o : Int) : Option (Ast × Nat) := gThen ((pBoth k 62).2 t o) (runW k o 2048 [])
/-- there is an operand and no operator behind it -/
def alB (k : Nat → Int) (t : Nat) (o : Int) : Prop := ∃ (x : Ast) (t1 : Nat), (pBoth k 62).2 t o = some (x, t1) ∧ rkO (k t1) ≤ 0
theorem bin_ok {t N : Nat} {pf : Nat → Int32} {na ma wa : Nat → Nat → Int32} (hW : RW pf o) (hP : HPr RLe ta k c (pBoth k 62).1) (hT : RTk ta c) (hk : ∀ i : Nat, i < c → rkd ta i = k i) (hPl : RPl ta c) (hc : RCur pf c t o) (hN : (pf 13).toInt = (N : Int)) (hb : N ≤ t + 10001) (h : R_mp_binary RLe RLc ta pf na ma wa pf' na' ma' wa' v xt) : OkB (alB k t o) k c t o (gBin k t o) N pf na ma wa pf' na' ma' wa' v xt := by
  have h0 := hc.2.2.2.2.1
  have ho := hc.2.2.2.2.2
  have hw1 := hW.1
  have hw2 := hW.2
  obtain ⟨n, h⟩ := h
  obtain ⟨n, h⟩ := iv_mp_binary_0 h
  unfold gBin
  rcases h with ⟨pq1, pq2, pq3, pq4, h1, e0, e1, e2, e3, ev, ex⟩ | ⟨pf163, na164, ma165, wa166, v168, h1, v184, h2, hE⟩
  · rw [(una_ok hW hP hT hk hPl hc hN hb h1).no, gThen_n]; exact OkB.thr ex
  · have q := una_ok hW hP hT hk hPl hc hN hb h1
    obtain ⟨g, hg⟩ := q.sm
    obtain ⟨u, t'⟩ := g
    rw [hg] at q
    rw [hg, gThen_s]
    obtain ⟨-, N', i', q1, q2, q3, q4, q5, q6, q7, q8, q9, q10, q11⟩ := q
    simp only [] at q2 q4 q5 q6 q8 q9
    have c1 := q4.2.2.1
    have c2 := q4.2.2.2.1
    have eb : (pf 26).toInt = (((pf 26).toInt.toNat : Nat) : Int) := by omega
    have eo : o + ((([] : Wts).length : Nat) : Int) = o := by
      show o + ((0 : Nat) : Int) = o
      omega
    have hS : BST k c o (pf 26).toInt.toNat t N pf na ma wa 2048 [] u t' i' pf163 na164 ma165 wa166 := by
      refine ⟨N, N', t, ⟨q5, q6, q7, q8, q2.1, q2.2.1⟩, ⟨q9.1, q9.2, by omega, by omega⟩, ⟨rfl, rfl⟩, by rw [eo]; exact q4, ?_, q3, by omega, fun g j hj => q11.2.2 g j (by omega), q10, q11.1⟩
      rw [q11.2.1]; exact eb
    obtain ⟨w, r1, r2⟩ := bin_22 hP hT hk hPl h0 hb (by omega) ho eb c t' (by omega) [] 2048 i' n u (pf 26) v168 1 v184 pf163 na164 ma165 wa166 hE eb q1 (by rw [rnk_r hT q4.1 c1 h2, hk t' c1]) hS
    refine ⟨w, r1, fun e => ?_⟩
    rcases r2 e with ⟨z1, z2⟩ | ⟨z1, z2⟩
    · exact Or.inl ⟨⟨u, t', hg, z1.2⟩, z2⟩
    · refine Or.inr ⟨fun y => ?_, z2⟩
      obtain ⟨x'', t'', e'', r''⟩ := y
      rw [hg] at e''
      injection e'' with e''
      injection e'' with e1 e2
      rw [← e2] at r''
      exact z1 ⟨by decide, r''⟩
end RI
