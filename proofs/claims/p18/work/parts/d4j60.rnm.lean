/-! THE REFERENCE's tokens: numbers -/
section TD
variable {tf tf' tf0 : Nat → Int32} {ta ta' ta0 : Nat → Nat → Int32} {b : Nat → Int} {n p i : Nat} {p0 v : Int32}
theorem dgV_f {c : Int} : 0 ≤ dgV false c ↔ isD c = true := by
  unfold dgV isD
  simp only [Bool.false_eq_true, false_and, if_false, decide_eq_true_eq]
  split
  · next h => exact ⟨fun _ => h, fun _ => by omega⟩
  · next h => exact ⟨fun q => absurd q (by omega), fun q => absurd q h⟩
theorem dgV_tf {c : Int} (h : isD c = true) : dgV true c = dgV false c := by
  have h' := of_decide_eq_true h
  unfold dgV
  rw [if_pos h', if_pos h']
theorem dgV_e {hx : Bool} : dgV hx (-1) = -1 := by cases hx <;> decide
theorem lg_c {x : Int64} {z : Int32} (h : z = lg_cmp x 4294967296) : 0 ≤ z.toInt ↔ 4294967296 ≤ x.toInt := by
  have cb : (4294967296 : Int64).toInt = 4294967296 := by decide
  unfold lg_cmp at h
  simp only [gt_iff_lt, Int64.lt_iff_toInt_lt, ← Int64.toInt_inj] at h
  rw [cb] at h
  split at h
  · next q => rw [h]; exact ⟨fun _ => by omega, fun _ => by decide⟩
  · next q =>
    split at h
    · next q2 => rw [h]; exact ⟨fun _ => by omega, fun _ => by decide⟩
    · next q2 => rw [h]; exact ⟨fun w => absurd w (by decide), fun w => by exfalso; omega⟩
/-- a round of readNumber's loop: it ends, or goes on -/
theorem num_x {C : Prop} {hx : Bool} {q j m : Nat} {x2 x3 x4 : Int32} {x5 : Int64} (hT : RTx tf0 ta0 b n) (hp : p0.toInt = (p : Int)) (hqj : q + j ≤ 5000) (hx2 : x2.toInt = (if hx = true then 1 else 0)) (hx3 : x3.toInt = (q : Int)) (hx4 : x4.toInt = (j : Int)) (h : E_mp_readNumber p0 tf' ta' v tf0 ta0 m 46 [x2, x3, x4] [x5] [] [] [] tf0 ta0) (Fn : ∀ {z1 z2 w : Int32} {tf7 : Nat → Int32} {ta8 : Nat → Nat → Int32}, z1 = x3 - p0 → z2 = z1 + x4 → w = x5.toInt32 → R_mp_token p0 z2 (3 : Int32) w tf0 ta0 tf7 ta8 → tf' = tf7 → ta' = ta8 → ((v.toInt = 0 ∨ v.toInt = 1) ∧ (v.toInt = 1 ↔ if hx = true then 1 ≤ j ∧ j ≤ 8 else j ≤ 10 ∧ x5.toInt < 4294967296) ∧ ¬ 0 ≤ dgV hx (b (q + j))) → C) (Gn : 0 ≤ dgV hx (b (q + j)) → ∀ (m' : Nat) (z : Int32) (y : Int64), z = x4 + 1 → E_mp_readNumber p0 tf' ta' v tf0 ta0 m' 46 [x2, x3, z] [y] [] [] [] tf0 ta0 → (j < 12 → x5.toInt = dgS b hx j q 0 → (0 ≤ dgS b hx j q 0 ∧ dgS b hx j q 0 < ((16 ^ j : Nat) : Int)) → y.toInt = dgS b hx j q 0 * (if hx = true then 16 else 10) + dgV hx (b (q + j))) → C) : C := by
  have pw : j < 12 → ((16 ^ j : Nat) : Int) ≤ 17592186044416 := fun hj => by
    have w : 16 ^ j ≤ 16 ^ 11 := Nat.pow_le_pow_right (by decide) (by omega)
    have w2 : (16 : Nat) ^ 11 = 17592186044416 := by decide
    omega
  cases hx with
  | false =>
    have hx0 : x2.toInt = 0 := by rw [hx2]; rfl
    have fin : ∀ {v10 v5 z3 : Int32}, z3 = x3 + x4 → R_mp_byteAt tf0 ta0 z3 v5 → R_mp_isDigit v5 v10 → v10.toInt = 0 → ¬ 0 ≤ dgV false (b (q + j)) := by
      intro v10 v5 z3 e1 e2 e3 e4 g
      have y1 := ti_add e1 hx3 hx4 (by omega) (by omega)
      have bb := byt_r hT (p := q + j) (by omega) e2
      have dd := dgV_f.mp g
      rcases rdig_r bb e3 with ⟨-, w⟩ | ⟨w, -⟩
      · rw [w] at dd; exact absurd dd (by decide)
      · omega
    have pos : ∀ {v10 v5 z3 : Int32}, z3 = x3 + x4 → R_mp_byteAt tf0 ta0 z3 v5 → R_mp_isDigit v5 v10 → ¬ v10.toInt = 0 → isD (b (q + j)) = true := by
      intro v10 v5 z3 e1 e2 e3 e4
      have y1 := ti_add e1 hx3 hx4 (by omega) (by omega)
      have bb := byt_r hT (p := q + j) (by omega) e2
      rcases rdig_r bb e3 with ⟨w, -⟩ | ⟨-, w⟩
      · exact absurd w e4
      · exact w
    have ifF : ∀ {A B : Prop}, (if false = true then A else B) ↔ B := fun {A B} => by simp
    rcases iv_mp_readNumber_46 h with ⟨m', (⟨h1, z3, h2, v5, h3, v10, h4, (⟨h5, z17, h6, z18, h7, z19, h8, tf22, ta23, h9, (⟨h10, (⟨h11, e0, e1, ev⟩ | ⟨h11, z34, h12, (⟨h13, e0, e1, ev⟩ | ⟨h13, e0, e1, ev⟩)⟩)⟩ | ⟨h10, (⟨h11, e0, e1, ev⟩ | ⟨h11, (⟨h12, e0, e1, ev⟩ | ⟨h12, e0, e1, ev⟩)⟩)⟩)⟩ | ⟨h5, (⟨h6, z43, h7, hQ⟩ | ⟨h6, (⟨h7, z46, h8, z47, h9, v49, h10, v54, h11, z59, h12, z60, h13, hQ⟩ | ⟨h7, z61, h8, z62, h9, v64, h10, v69, h11, z74, h12, z75, h13, hQ⟩)⟩)⟩)⟩ | ⟨h1, z76, h2, v78, h3, v83, h4, (⟨h5, z90, h6, z91, h7, z92, h8, tf95, ta96, h9, (⟨h10, (⟨h11, e0, e1, ev⟩ | ⟨h11, z107, h12, (⟨h13, e0, e1, ev⟩ | ⟨h13, e0, e1, ev⟩)⟩)⟩ | ⟨h10, (⟨h11, e0, e1, ev⟩ | ⟨h11, (⟨h12, e0, e1, ev⟩ | ⟨h12, e0, e1, ev⟩)⟩)⟩)⟩ | ⟨h5, (⟨h6, z116, h7, hQ⟩ | ⟨h6, (⟨h7, z119, h8, z120, h9, v122, h10, v127, h11, z132, h12, z133, h13, hQ⟩ | ⟨h7, z134, h8, z135, h9, v137, h10, v142, h11, z147, h12, z148, h13, hQ⟩)⟩)⟩)⟩)⟩
    · exact Fn h6 h7 h8 h9 e0 e1 ⟨Or.inl (by rw [ev]; rfl), by rw [ev, ifF]; exact ⟨fun w => absurd w (by decide), fun w => by exfalso; omega⟩, fin h2 h3 h4 h5⟩
    · have lc := lg_c h12
      exact Fn h6 h7 h8 h9 e0 e1 ⟨Or.inl (by rw [ev]; rfl), by rw [ev, ifF]; exact ⟨fun w => absurd w (by decide), fun w => by exfalso; have := lc.mp h13; omega⟩, fin h2 h3 h4 h5⟩
    · have lc := lg_c h12
      exact Fn h6 h7 h8 h9 e0 e1 ⟨Or.inr (by rw [ev]; rfl), by rw [ev, ifF]; exact ⟨fun _ => ⟨by omega, by
        by_cases w : x5.toInt < 4294967296
        · exact w
        · exact absurd (lc.mpr (by omega)) h13⟩, fun _ => rfl⟩, fin h2 h3 h4 h5⟩
    · exact absurd hx0 h10
    · exact absurd hx0 h10
    · exact absurd hx0 h10
    · exact Gn (dgV_f.mpr (pos h2 h3 h4 h5)) m' z43 x5 h7 hQ (fun w => by exfalso; omega)
    · have dp := pos h2 h3 h4 h5
      refine Gn (dgV_f.mpr dp) m' z60 z59 h13 hQ (fun w1 w2 w3 => ?_)
      have y1 := ti_add h9 hx3 hx4 (by omega) (by omega)
      have bb := byt_r hT (p := q + j) (by omega) h10
      have fg := rfig_r bb h11
      rw [dgV_tf dp] at fg
      have pj := pw w1
      have vb := (dgV_b (hx := false) (c := b (q + j))).2 (dgV_f.mpr dp)
      have v0 := dgV_f.mpr dp
      simp only [Bool.false_eq_true, if_false] at vb ⊢
      have c10 : (10 : Int64).toInt = 10 := by decide
      have m1 : (x5 * 10).toInt = x5.toInt * 10 := by
        rw [Int64.toInt_mul, c10, Int.bmod_eq_of_le] <;> omega
      have c7 : v54.toInt64.toInt = v54.toInt := Int32.toInt_toInt64 v54
      rw [h12, h8, Int64.toInt_add, m1, c7, Int.bmod_eq_of_le] <;> omega
    · exact absurd hx0 h7
    all_goals exact absurd hx0 h1
  | true =>
    have hx1 : x2.toInt = 1 := by rw [hx2]; rfl
    have fig : ∀ {v83 v78 z76 : Int32}, z76 = x3 + x4 → R_mp_byteAt tf0 ta0 z76 v78 → R_mp_figure v78 v83 → v83.toInt = dgV true (b (q + j)) := by
      intro v83 v78 z76 e1 e2 e3
      have y1 := ti_add e1 hx3 hx4 (by omega) (by omega)
      exact rfig_r (byt_r hT (p := q + j) (by omega) e2) e3
    have ifT : ∀ {A B : Prop}, (if true = true then A else B) ↔ A := fun {A B} => by simp
    rcases iv_mp_readNumber_46 h with ⟨m', (⟨h1, z3, h2, v5, h3, v10, h4, (⟨h5, z17, h6, z18, h7, z19, h8, tf22, ta23, h9, (⟨h10, (⟨h11, e0, e1, ev⟩ | ⟨h11, z34, h12, (⟨h13, e0, e1, ev⟩ | ⟨h13, e0, e1, ev⟩)⟩)⟩ | ⟨h10, (⟨h11, e0, e1, ev⟩ | ⟨h11, (⟨h12, e0, e1, ev⟩ | ⟨h12, e0, e1, ev⟩)⟩)⟩)⟩ | ⟨h5, (⟨h6, z43, h7, hQ⟩ | ⟨h6, (⟨h7, z46, h8, z47, h9, v49, h10, v54, h11, z59, h12, z60, h13, hQ⟩ | ⟨h7, z61, h8, z62, h9, v64, h10, v69, h11, z74, h12, z75, h13, hQ⟩)⟩)⟩)⟩ | ⟨h1, z76, h2, v78, h3, v83, h4, (⟨h5, z90, h6, z91, h7, z92, h8, tf95, ta96, h9, (⟨h10, (⟨h11, e0, e1, ev⟩ | ⟨h11, z107, h12, (⟨h13, e0, e1, ev⟩ | ⟨h13, e0, e1, ev⟩)⟩)⟩ | ⟨h10, (⟨h11, e0, e1, ev⟩ | ⟨h11, (⟨h12, e0, e1, ev⟩ | ⟨h12, e0, e1, ev⟩)⟩)⟩)⟩ | ⟨h5, (⟨h6, z116, h7, hQ⟩ | ⟨h6, (⟨h7, z119, h8, z120, h9, v122, h10, v127, h11, z132, h12, z133, h13, hQ⟩ | ⟨h7, z134, h8, z135, h9, v137, h10, v142, h11, z147, h12, z148, h13, hQ⟩)⟩)⟩)⟩)⟩
    · exfalso; omega
    · exfalso; omega
    · exfalso; omega
    · exfalso; omega
    · exfalso; omega
    · exfalso; omega
    · exfalso; omega
    · exfalso; omega
    · exfalso; omega
    · exfalso; omega
    · exfalso; omega
    · exfalso; omega
    · have fg := fig h2 h3 h4
      exact Fn h6 h7 h8 h9 e0 e1 ⟨Or.inl (by rw [ev]; rfl), by rw [ev, ifT]; exact ⟨fun w => absurd w (by decide), fun w => by exfalso; omega⟩, by omega⟩
    · have fg := fig h2 h3 h4
      exact Fn h6 h7 h8 h9 e0 e1 ⟨Or.inl (by rw [ev]; rfl), by rw [ev, ifT]; exact ⟨fun w => absurd w (by decide), fun w => by exfalso; omega⟩, by omega⟩
    · have fg := fig h2 h3 h4
      exact Fn h6 h7 h8 h9 e0 e1 ⟨Or.inr (by rw [ev]; rfl), by rw [ev, ifT]; exact ⟨fun _ => by omega, fun _ => rfl⟩, by omega⟩
    · have fg := fig h2 h3 h4
      exact Gn (by omega) m' z116 x5 h7 hQ (fun w => by exfalso; omega)
    · exfalso; omega
    · have fg := fig h2 h3 h4
      refine Gn (by omega) m' z148 z147 h13 hQ (fun w1 w2 w3 => ?_)
      have fg2 := fig h9 h10 h11
      have pj := pw w1
      have vb := (dgV_b (hx := true) (c := b (q + j))).2 (by omega)
      simp only [if_true] at vb ⊢
      have c16 : (16 : Int64).toInt = 16 := by decide
      have m1 : (x5 * 16).toInt = x5.toInt * 16 := by
        rw [Int64.toInt_mul, c16, Int.bmod_eq_of_le] <;> omega
      have c7 : v142.toInt64.toInt = v142.toInt := Int32.toInt_toInt64 v142
      rw [h12, h8, Int64.toInt_add, m1, c7, Int.bmod_eq_of_le] <;> omega
theorem num_46 (hT : RTx tf0 ta0 b n) (hp : p0.toInt = (p : Int)) (hi : (tf0 6).toInt = (i : Int)) (hi2 : i ≤ 100000) {hx : Bool} {q : Nat} (hq : p ≤ q ∧ q ≤ p + 2) (hpn : p < n) : ∀ (d m j : Nat) (x2 x3 x4 : Int32) (x5 : Int64), E_mp_readNumber p0 tf' ta' v tf0 ta0 m 46 [x2, x3, x4] [x5] [] [] [] tf0 ta0 → x2.toInt = (if hx = true then 1 else 0) → x3.toInt = (q : Int) → x4.toInt = (j : Int) → (q + j + d = n ∨ (d = 0 ∧ n ≤ q + j)) → q + j ≤ 5000 → (j ≤ 12 → x5.toInt = dgS b hx j q 0) → (∀ i : Nat, i < j → 0 ≤ dgV hx (b (q + i))) → ∃ (N : Nat) (x : Int64), N = j + dgN b hx d (q + j) ∧ q + N ≤ 5000 ∧ (N ≤ 12 → x.toInt = dgS b hx N q 0) ∧ LdT tf0 ta0 i p ((q : Int) - (p : Int) + (N : Int)) 3 x.toInt32 tf' ta' ∧ (v.toInt = 0 ∨ v.toInt = 1) ∧ (v.toInt = 1 ↔ if hx = true then 1 ≤ N ∧ N ≤ 8 else N ≤ 10 ∧ x.toInt < 4294967296) ∧ ∀ i : Nat, i < N → 0 ≤ dgV hx (b (q + i)) := by
  have t2 := hT.2.1
  intro d
  induction d with
  | zero =>
    intro m j x2 x3 x4 x5 h hx2 hx3 hx4 hd hqj hs hv
    have be : b (q + j) = -1 := hT.2.2.1 _ (by omega)
    have en : ∀ {z1 z2 : Int32} {w : Int32} {tf7 : Nat → Int32} {ta8 : Nat → Nat → Int32}, z1 = x3 - p0 → z2 = z1 + x4 → w = x5.toInt32 → R_mp_token p0 z2 (3 : Int32) w tf0 ta0 tf7 ta8 → LdT tf0 ta0 i p ((q : Int) - (p : Int) + (j : Int)) 3 x5.toInt32 tf7 ta8 := by
      intro z1 z2 w tf7 ta8 e1 e2 e3 ht
      have y1 := ti_sub e1 hx3 hp (by omega) (by omega)
      have y2 := ti_add e2 y1 hx4 (by omega) (by omega)
      rw [← e3]
      exact ld_r hp hi hi2 y2 (show (vp_nar .byte (3 : Int32).toInt8.toInt32).toInt = 3 from rfl) ht
    have out : LdT tf0 ta0 i p ((q : Int) - (p : Int) + (j : Int)) 3 x5.toInt32 tf' ta' → (v.toInt = 0 ∨ v.toInt = 1) ∧ (v.toInt = 1 ↔ if hx = true then 1 ≤ j ∧ j ≤ 8 else j ≤ 10 ∧ x5.toInt < 4294967296) → ∃ (N : Nat) (x : Int64), N = j + dgN b hx 0 (q + j) ∧ q + N ≤ 5000 ∧ (N ≤ 12 → x.toInt = dgS b hx N q 0) ∧ LdT tf0 ta0 i p ((q : Int) - (p : Int) + (N : Int)) 3 x.toInt32 tf' ta' ∧ (v.toInt = 0 ∨ v.toInt = 1) ∧ (v.toInt = 1 ↔ if hx = true then 1 ≤ N ∧ N ≤ 8 else N ≤ 10 ∧ x.toInt < 4294967296) ∧ ∀ i : Nat, i < N → 0 ≤ dgV hx (b (q + i)) := fun L o => ⟨j, x5, rfl, hqj, hs, L, o.1, o.2, hv⟩
    exact num_x hT hp (by omega) hx2 hx3 hx4 h (fun e1 e2 e3 ht f0 f1 o => out (by rw [f0, f1]; exact en e1 e2 e3 ht) ⟨o.1, o.2.1⟩) (fun hd0 => by exfalso; rw [be, dgV_e] at hd0; omega)
  | succ d ih =>
    intro m j x2 x3 x4 x5 h hx2 hx3 hx4 hd hqj hs hv
    have en : ∀ {z1 z2 : Int32} {w : Int32} {tf7 : Nat → Int32} {ta8 : Nat → Nat → Int32}, z1 = x3 - p0 → z2 = z1 + x4 → w = x5.toInt32 → R_mp_token p0 z2 (3 : Int32) w tf0 ta0 tf7 ta8 → LdT tf0 ta0 i p ((q : Int) - (p : Int) + (j : Int)) 3 x5.toInt32 tf7 ta8 := by
      intro z1 z2 w tf7 ta8 e1 e2 e3 ht
      have y1 := ti_sub e1 hx3 hp (by omega) (by omega)
      have y2 := ti_add e2 y1 hx4 (by omega) (by omega)
      rw [← e3]
      exact ld_r hp hi hi2 y2 (show (vp_nar .byte (3 : Int32).toInt8.toInt32).toInt = 3 from rfl) ht
    have dn : dgN b hx (d + 1) (q + j) = if 0 ≤ dgV hx (b (q + j)) then dgN b hx d (q + j + 1) + 1 else 0 := rfl
    by_cases g : 0 ≤ dgV hx (b (q + j))
    · have lt := hT.lt (p := q + j) (by
        by_cases w : 0 ≤ b (q + j)
        · exact w
        · exfalso
          unfold dgV at g
          rw [if_neg (by omega), if_neg (by omega), if_neg (by omega)] at g
          omega)
      refine num_x hT hp (by omega) hx2 hx3 hx4 h (fun e1 e2 e3 ht f0 f1 o => ?_) (fun _ => ?_)
      · exact absurd g o.2.2
      · intro m' z y hz hE hy
        have z1 := ti_add hz hx4 (show (1 : Int32).toInt = 1 from rfl) (by omega) (by omega)
        have e1 : q + j + 1 = q + (j + 1) := by omega
        obtain ⟨N, x, g1, g2⟩ := ih m' (j + 1) x2 x3 z y hE hx2 hx3 (by omega) (by omega) (by omega) (fun hj => by
            rw [dgS_snoc]
            exact hy (by omega) (hs (by omega)) (dgS_b j hv)) (fun k hk => by
          by_cases w : k = j
          · rw [w]; exact g
          · exact hv k (by omega))
        refine ⟨N, x, ?_, g2⟩
        rw [dn, if_pos g, g1, e1]
        omega
    · refine num_x hT hp (by omega) hx2 hx3 hx4 h (fun e1 e2 e3 ht f0 f1 o => ?_) (fun g' => absurd g' g)
      refine ⟨j, x5, ?_, hqj, hs, by rw [f0, f1]; exact en e1 e2 e3 ht, o.1, o.2.1, hv⟩
      rw [dn, if_neg g]
      rfl
/-- a number: its length, what it is, whether it is one -/
theorem num_rr (hT : RTx tf ta b n) (hp : p0.toInt = (p : Int)) (hi : (tf 6).toInt = (i : Int)) (hi2 : i ≤ 100000) (hpn : p < n) (hd : isD (b p) = true) (h : R_mp_readNumber p0 tf ta tf' ta' v) : ∃ w : Int32, LdT tf ta i p (((nFr b p + nCt b n p : Nat) : Int) - (p : Int)) 3 w tf' ta' ∧ nFr b p + nCt b n p ≤ n ∧ p < nFr b p + nCt b n p ∧ ((v.toInt = 1 ∧ nOk b n p = true ∧ w = nVl (nSm b n p)) ∨ (v.toInt = 0 ∧ nOk b n p = false)) := by
  have t2 := hT.2.1
  have dle : ∀ (hx : Bool) (d i : Nat), dgN b hx d i ≤ d := by
    intro hx d
    induction d with
    | zero => intro i; exact Nat.le_refl _
    | succ d ih =>
      intro i
      show (if 0 ≤ dgV hx (b i) then dgN b hx d (i + 1) + 1 else 0) ≤ d + 1
      have := ih (i + 1)
      split <;> omega
  have go : ∀ {hx : Bool} {q m : Nat} {x2 x3 : Int32}, hexB b p = hx → nFr b p = q → (p ≤ q ∧ q ≤ p + 2 ∧ q ≤ n) → x2.toInt = (if hx = true then 1 else 0) → x3.toInt = (q : Int) → (hx = false → 1 ≤ nCt b n p) → (hx = true → p + 2 = q) → E_mp_readNumber p0 tf' ta' v tf ta m 46 [x2, x3, (0 : Int32)] [0] [] [] [] tf ta → ∃ w : Int32, LdT tf ta i p (((nFr b p + nCt b n p : Nat) : Int) - (p : Int)) 3 w tf' ta' ∧ nFr b p + nCt b n p ≤ n ∧ p < nFr b p + nCt b n p ∧ ((v.toInt = 1 ∧ nOk b n p = true ∧ w = nVl (nSm b n p)) ∨ (v.toInt = 0 ∧ nOk b n p = false)) := by
    intro hx q m x2 x3 e1 e2 hq hx2 hx3 h1 h2 hE
    have ec : nCt b n p = dgN b hx (n - q) q := by unfold nCt; rw [e1, e2]
    obtain ⟨N, x, g1, g2, g3, g4, g5, g6, g7⟩ := num_46 hT hp hi hi2 ⟨hq.1, hq.2.1⟩ hpn (n - q) m 0 x2 x3 (0 : Int32) 0 hE hx2 hx3 rfl (Or.inl (by omega)) (by omega) (fun _ => rfl) (fun i hi => absurd hi (Nat.not_lt_zero _))
    have eN : N = nCt b n p := by rw [ec, g1, Nat.zero_add]; rfl
    have dl := dle hx (n - q) q
    rw [← ec] at dl
    rw [e2]
    refine ⟨x.toInt32, ?_, by omega, ?_, ?_⟩
    · have el : ((q + nCt b n p : Nat) : Int) - (p : Int) = (q : Int) - (p : Int) + (N : Int) := by rw [eN]; omega
      rw [el]; exact g4
    · cases hx with
      | false => have := h1 rfl; omega
      | true => have := h2 rfl; omega
    · have es : N ≤ 12 → x.toInt = nSm b n p := fun w => by unfold nSm; rw [e1, e2, ← eN]; exact g3 w
      have bd := dgS_b (b := b) (hx := hx) (i := q) N g7
      have vv : x.toInt = nSm b n p → x.toInt32 = nVl (nSm b n p) := fun w => by unfold nVl; rw [← w, Int64.ofInt_toInt]
      unfold nOk
      rw [e1]
      cases hx with
      | false =>
        simp only [Bool.false_eq_true, if_false] at g6 ⊢
        have c1 := h1 rfl
        rcases g5 with g5 | g5
        · refine Or.inr ⟨g5, decide_eq_false (fun w => ?_)⟩
          have := g6.mpr ⟨by omega, by rw [es (by omega)]; omega⟩
          omega
        · have y := g6.mp g5
          have ex := es (by omega)
          exact Or.inl ⟨g5, decide_eq_true ⟨c1, by omega, by omega⟩, vv ex⟩
      | true =>
        simp only [if_true] at g6 ⊢
        rcases g5 with g5 | g5
        · refine Or.inr ⟨g5, decide_eq_false (fun w => ?_)⟩
          have := g6.mpr ⟨by omega, by omega⟩
          omega
        · have y := g6.mp g5
          have ex := es (by omega)
          have p8 : ((16 ^ N : Nat) : Int) ≤ 4294967296 := by
            have w : 16 ^ N ≤ 16 ^ 8 := Nat.pow_le_pow_right (by decide) (by omega)
            have w2 : (16 : Nat) ^ 8 = 4294967296 := by decide
            omega
          refine Or.inl ⟨g5, decide_eq_true ⟨by omega, by omega, ?_⟩, vv ex⟩
          have sm : nSm b n p = dgS b true N q 0 := by unfold nSm; rw [e1, e2, ← eN]
          rw [sm]
          omega
  obtain ⟨m, h⟩ := h
  have b0 : 48 ≤ b p ∧ b p ≤ 57 := of_decide_eq_true hd
  have ct1 : hexB b p = false → 1 ≤ nCt b n p := fun q => by
    unfold nCt nFr
    rw [q, if_neg (by decide)]
    have e : n - p = (n - p - 1) + 1 := by omega
    rw [e]
    show 1 ≤ (if 0 ≤ dgV false (b p) then dgN b false (n - p - 1) (p + 1) + 1 else 0)
    rw [if_pos (dgV_f.mpr hd)]
    omega
  rcases iv_mp_readNumber_0 h with ⟨m', v150, h1, (⟨h2, hQ⟩ | ⟨h2, z157, h3, v159, h4, (⟨h5, hQ⟩ | ⟨h5, z167, h6, hQ⟩)⟩)⟩
  all_goals
    have bb := byt_r hT hp h1
    unfold BtR at bb
  · have e : hexB b p = false := decide_eq_false (by omega)
    exact go e (by unfold nFr; rw [e, if_neg (by decide)]) ⟨Nat.le_refl _, by omega, by omega⟩ rfl hp (fun _ => ct1 e) (fun q => absurd q (by decide)) hQ
  · have y := ti_add h3 hp (show (1 : Int32).toInt = 1 from rfl) (by omega) (by omega)
    have b1 := byt_r hT (p := p + 1) (by omega) h4
    unfold BtR at b1
    have e : hexB b p = false := decide_eq_false (by omega)
    exact go e (by unfold nFr; rw [e, if_neg (by decide)]) ⟨Nat.le_refl _, by omega, by omega⟩ rfl hp (fun _ => ct1 e) (fun q => absurd q (by decide)) hQ
  · have y := ti_add h3 hp (show (1 : Int32).toInt = 1 from rfl) (by omega) (by omega)
    have b1 := byt_r hT (p := p + 1) (by omega) h4
    unfold BtR at b1
    have l1 := hT.lt (p := p + 1) (by omega)
    have y2 := ti_add h6 hp (show (2 : Int32).toInt = 2 from rfl) (by omega) (by omega)
    have e : hexB b p = true := decide_eq_true (by omega)
    exact go e (by unfold nFr; rw [e, if_pos rfl]) ⟨by omega, Nat.le_refl _, by omega⟩ rfl (by omega) (fun q => absurd q (by decide)) (fun _ => rfl) hQ
end TD
