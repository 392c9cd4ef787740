/-! THE REFERENCE's checker: heights of statements, a kind at a time -/
section SG
variable {na ca0 ca1 ma ma1 : Nat → Nat → Int32} {M0 : Nat → Int32} {lo hi l r l2 r2 l3 r3 l4 r4 : Nat} {cf cf' : Nat → Int32} {p0 z : Int32} {g1 g2 g3 g4 : Int}
theorem mo_iv (h : RX_mp_measureOne na ma1 ca1 p0 cf cf') : ∃ (RL : T_mp_measureOne) (m : Nat), (∀ (p : Int32) (a b : Nat → Int32), RL na ma1 ca1 p a b → RX_mp_measureOne na ma1 ca1 p a b) ∧ E_mp_measureOne RL na ma1 ca1 p0 cf' m 0 [] [] [] [] [] cf := by
  obtain ⟨n, h⟩ := h
  cases n with
  | zero => exact False.elim h
  | succ n =>
    have h' : R_mp_measureOne (RL_mp_measureOne n) na ma1 ca1 p0 cf cf' := h
    obtain ⟨m, h'⟩ := h'
    exact ⟨RL_mp_measureOne n, m, fun p a b q => ⟨n, q⟩, h'⟩
theorem mr_r {RL : T_mp_measureOne} {n : Int} (X : MsR na ca0 M0 lo hi n g1 ma) (hL : ∀ (p : Int32) (a b : Nat → Int32), RL na ma1 ca1 p a b → RX_mp_measureOne na ma1 ca1 p a b) (hg : RgM na ca0 M0 ma lo hi ca1 ma1) (hc : 0 ≤ (cf 59).toInt) (hx : p0.toInt = n) (h : R_mp_measure RL na ma1 ca1 p0 cf cf') : Ups g1 cf cf' := by
  obtain ⟨m, h⟩ := h
  obtain ⟨m', h⟩ := iv_mp_measure_0 h
  exact X.2 RL ca1 ma1 m' p0 p0 cf cf' hL hg hc hx h
theorem ms_n (hp : p0.toInt = (lo : Int)) (h14 : (na 14 lo).toInt = 21 ∨ (29 ≤ (na 14 lo).toInt ∧ (na 14 lo).toInt ≤ 32)) : Ms na ca0 M0 lo hi p0 0 ma := by
  refine ⟨by decide, fun ca1 ma1 cf cf' hg hc h => ?_⟩
  obtain ⟨RL, m, hL, h⟩ := mo_iv h
  rcases iv_mp_measureOne_0 h with ⟨m', z31, h1, (⟨h2, e0⟩ | ⟨h2, z34, h3, cf36, h4, e0⟩ | ⟨h2, e0⟩ | ⟨h2, z45, h3, cf47, h4, e0⟩ | ⟨h2, z56, h3, hQ⟩ | ⟨h2, z57, h3, cf59, h4, z68, h5, cf70, h6, z79, h7, (⟨h8, e0⟩ | ⟨h8, z82, h9, cf84, h10, e0⟩)⟩ | ⟨h2, z93, h3, (⟨h4, z96, h5, cf98, h6, z107, h7, cf109, h8, z118, h9, cf120, h10, e0⟩ | ⟨h4, z129, h5, cf131, h6, z140, h7, cf142, h8, z151, h9, cf153, h10, z162, h11, cf164, h12, e0⟩)⟩ | ⟨h2, z173, h3, cf175, h4, z184, h5, cf186, h6, e0⟩)⟩
  all_goals have hk : z31.toInt = (na 14 lo).toInt := by rw [h1, cn_of hp]
  · rw [e0]; exact Ups.rf hc
  · exfalso; omega
  · rw [e0]; exact Ups.rf hc
  all_goals (exfalso; omega)
theorem ms_33n (hp : p0.toInt = (lo : Int)) (h14 : (na 14 lo).toInt = 33) (hn : (na 17 lo).toInt < 0) : Ms na ca0 M0 lo hi p0 0 ma := by
  refine ⟨by decide, fun ca1 ma1 cf cf' hg hc h => ?_⟩
  obtain ⟨RL, m, hL, h⟩ := mo_iv h
  rcases iv_mp_measureOne_0 h with ⟨m', z31, h1, (⟨h2, e0⟩ | ⟨h2, z34, h3, cf36, h4, e0⟩ | ⟨h2, e0⟩ | ⟨h2, z45, h3, cf47, h4, e0⟩ | ⟨h2, z56, h3, hQ⟩ | ⟨h2, z57, h3, cf59, h4, z68, h5, cf70, h6, z79, h7, (⟨h8, e0⟩ | ⟨h8, z82, h9, cf84, h10, e0⟩)⟩ | ⟨h2, z93, h3, (⟨h4, z96, h5, cf98, h6, z107, h7, cf109, h8, z118, h9, cf120, h10, e0⟩ | ⟨h4, z129, h5, cf131, h6, z140, h7, cf142, h8, z151, h9, cf153, h10, z162, h11, cf164, h12, e0⟩)⟩ | ⟨h2, z173, h3, cf175, h4, z184, h5, cf186, h6, e0⟩)⟩
  all_goals have hk : z31.toInt = (na 14 lo).toInt := by rw [h1, cn_of hp]
  · exfalso; omega
  · exfalso; omega
  · exfalso; omega
  · rw [cn_of hp] at h3
    rw [e0]
    exact raise_n (by rw [h3]; exact hn) hc h4
  all_goals (exfalso; omega)
theorem ms_22 (hp : p0.toInt = (lo : Int)) (h14 : (na 14 lo).toInt = 22 ∨ (na 14 lo).toInt = 33) (hz : z = na 17 lo) (hn : 0 ≤ z.toInt) (X : HtX na ca0 M0 l r z g1 ma) (hl : lo ≤ l ∧ r ≤ hi) : Ms na ca0 M0 lo hi p0 g1 ma := by
  refine ⟨X.1, fun ca1 ma1 cf cf' hg hc h => ?_⟩
  obtain ⟨RL, m, hL, h⟩ := mo_iv h
  rcases iv_mp_measureOne_0 h with ⟨m', z31, h1, (⟨h2, e0⟩ | ⟨h2, z34, h3, cf36, h4, e0⟩ | ⟨h2, e0⟩ | ⟨h2, z45, h3, cf47, h4, e0⟩ | ⟨h2, z56, h3, hQ⟩ | ⟨h2, z57, h3, cf59, h4, z68, h5, cf70, h6, z79, h7, (⟨h8, e0⟩ | ⟨h8, z82, h9, cf84, h10, e0⟩)⟩ | ⟨h2, z93, h3, (⟨h4, z96, h5, cf98, h6, z107, h7, cf109, h8, z118, h9, cf120, h10, e0⟩ | ⟨h4, z129, h5, cf131, h6, z140, h7, cf142, h8, z151, h9, cf153, h10, z162, h11, cf164, h12, e0⟩)⟩ | ⟨h2, z173, h3, cf175, h4, z184, h5, cf186, h6, e0⟩)⟩
  all_goals have hk : z31.toInt = (na 14 lo).toInt := by rw [h1, cn_of hp]
  · exfalso; omega
  · exfalso; omega
  · exfalso; omega
  · rw [cn_of hp, ← hz] at h3
    rw [e0]
    rw [h3] at h4
    exact raise_x X (hg.le hl.1 hl.2) hn h4
  all_goals (exfalso; omega)
theorem ms_20 {n : Int} (hp : p0.toInt = (lo : Int)) (h14 : (na 14 lo).toInt = 20) (hn : n = (na 17 lo).toInt) (X : MsR na ca0 M0 l r n g1 ma) (hl : lo ≤ l ∧ r ≤ hi) : Ms na ca0 M0 lo hi p0 g1 ma := by
  refine ⟨X.1, fun ca1 ma1 cf cf' hg hc h => ?_⟩
  obtain ⟨RL, m, hL, h⟩ := mo_iv h
  rcases iv_mp_measureOne_0 h with ⟨m', z31, h1, (⟨h2, e0⟩ | ⟨h2, z34, h3, cf36, h4, e0⟩ | ⟨h2, e0⟩ | ⟨h2, z45, h3, cf47, h4, e0⟩ | ⟨h2, z56, h3, hQ⟩ | ⟨h2, z57, h3, cf59, h4, z68, h5, cf70, h6, z79, h7, (⟨h8, e0⟩ | ⟨h8, z82, h9, cf84, h10, e0⟩)⟩ | ⟨h2, z93, h3, (⟨h4, z96, h5, cf98, h6, z107, h7, cf109, h8, z118, h9, cf120, h10, e0⟩ | ⟨h4, z129, h5, cf131, h6, z140, h7, cf142, h8, z151, h9, cf153, h10, z162, h11, cf164, h12, e0⟩)⟩ | ⟨h2, z173, h3, cf175, h4, z184, h5, cf186, h6, e0⟩)⟩
  all_goals have hk : z31.toInt = (na 14 lo).toInt := by rw [h1, cn_of hp]
  · exfalso; omega
  · rw [cn_of hp] at h3
    rw [e0]
    exact mr_r X hL (hg.le hl.1 hl.2) hc (by rw [h3, hn]) h4
  all_goals (exfalso; omega)
theorem ms_23 {n : Int} (hp : p0.toInt = (lo : Int)) (h14 : (na 14 lo).toInt = 23) (hn : n = (na 17 lo).toInt) (X : WVs na ca0 M0 l r n g1 ma) (hl : lo ≤ l ∧ r ≤ hi) : Ms na ca0 M0 lo hi p0 g1 ma := by
  refine ⟨X.1, fun ca1 ma1 cf cf' hg hc h => ?_⟩
  obtain ⟨RL, m, hL, h⟩ := mo_iv h
  rcases iv_mp_measureOne_0 h with ⟨m', z31, h1, (⟨h2, e0⟩ | ⟨h2, z34, h3, cf36, h4, e0⟩ | ⟨h2, e0⟩ | ⟨h2, z45, h3, cf47, h4, e0⟩ | ⟨h2, z56, h3, hQ⟩ | ⟨h2, z57, h3, cf59, h4, z68, h5, cf70, h6, z79, h7, (⟨h8, e0⟩ | ⟨h8, z82, h9, cf84, h10, e0⟩)⟩ | ⟨h2, z93, h3, (⟨h4, z96, h5, cf98, h6, z107, h7, cf109, h8, z118, h9, cf120, h10, e0⟩ | ⟨h4, z129, h5, cf131, h6, z140, h7, cf142, h8, z151, h9, cf153, h10, z162, h11, cf164, h12, e0⟩)⟩ | ⟨h2, z173, h3, cf175, h4, z184, h5, cf186, h6, e0⟩)⟩
  all_goals have hk : z31.toInt = (na 14 lo).toInt := by rw [h1, cn_of hp]
  · exfalso; omega
  · exfalso; omega
  · exfalso; omega
  · exfalso; omega
  · rw [cn_of hp] at h3
    exact X.2 RL ca1 ma1 m' p0 z56 cf cf' (hg.le hl.1 hl.2) hc (by rw [h3, hn]) hQ
  all_goals (exfalso; omega)
/-- if, while, do: a condition, a statement, perhaps another -/
theorem ms_24 {y w : Int32} (hp : p0.toInt = (lo : Int)) (hlh : lo < hi) (h14 : (na 14 lo).toInt = 24 ∨ (na 14 lo).toInt = 25 ∨ (na 14 lo).toInt = 26) (hz : z = na 17 lo) (hn : 0 ≤ z.toInt) (X : HtX na ca0 M0 l r z g1 ma) (hl : lo ≤ l ∧ r ≤ hi) (hy : (ma 18 lo).toInt = y.toInt) (Y : Ms na ca0 M0 l2 r2 y g2 ma) (hl2 : lo ≤ l2 ∧ r2 ≤ hi) (Z : ((ma 19 lo).toInt < 0 ∧ g3 = 0) ∨ ((ma 19 lo).toInt = w.toInt ∧ 0 ≤ w.toInt ∧ Ms na ca0 M0 l3 r3 w g3 ma ∧ lo ≤ l3 ∧ r3 ≤ hi)) : Ms na ca0 M0 lo hi p0 (max g1 (max g2 g3)) ma := by
  have x0 := X.1
  have y0 := Y.1
  have z0 : g3 ≤ 300000 := by
    rcases Z with ⟨-, q⟩ | ⟨-, -, q, -⟩
    · omega
    · exact q.1.2
  refine ⟨by omega, fun ca1 ma1 cf cf' hg hc h => ?_⟩
  obtain ⟨RL, m, hL, h⟩ := mo_iv h
  have m18 : ma1 18 lo = y := by rw [hg.2.2 18 lo (Nat.le_refl _) hlh]; exact Int32.toInt_inj.mp hy
  have m19 : ma1 19 lo = ma 19 lo := hg.2.2 19 lo (Nat.le_refl _) hlh
  rcases iv_mp_measureOne_0 h with ⟨m', z31, h1, (⟨h2, e0⟩ | ⟨h2, z34, h3, cf36, h4, e0⟩ | ⟨h2, e0⟩ | ⟨h2, z45, h3, cf47, h4, e0⟩ | ⟨h2, z56, h3, hQ⟩ | ⟨h2, z57, h3, cf59, h4, z68, h5, cf70, h6, z79, h7, (⟨h8, e0⟩ | ⟨h8, z82, h9, cf84, h10, e0⟩)⟩ | ⟨h2, z93, h3, (⟨h4, z96, h5, cf98, h6, z107, h7, cf109, h8, z118, h9, cf120, h10, e0⟩ | ⟨h4, z129, h5, cf131, h6, z140, h7, cf142, h8, z151, h9, cf153, h10, z162, h11, cf164, h12, e0⟩)⟩ | ⟨h2, z173, h3, cf175, h4, z184, h5, cf186, h6, e0⟩)⟩
  all_goals have hk : z31.toInt = (na 14 lo).toInt := by rw [h1, cn_of hp]
  · exfalso; omega
  · exfalso; omega
  · exfalso; omega
  · exfalso; omega
  · exfalso; omega
  · rw [cn_of hp, ← hz] at h3
    rw [cn_of hp, m18] at h5
    rw [cn_of hp, m19] at h7
    rw [h3] at h4
    rw [h5] at h6
    have u1 := raise_x X (hg.le hl.1 hl.2) hn h4
    have u2 := Y.2 ca1 ma1 cf59 cf70 (hg.le hl2.1 hl2.2) (u1.nn hc) (hL _ _ _ h6)
    rcases Z with ⟨w1, w2⟩ | ⟨w1, w2, -⟩
    · rw [e0, w2]
      have u3 := u2.tr (Ups.rf (u2.nn (u1.nn hc)))
      exact u1.tr u3
    · rw [h7, w1] at h8
      exfalso; omega
  · rw [cn_of hp, ← hz] at h3
    rw [cn_of hp, m18] at h5
    rw [cn_of hp, m19] at h7 h9
    rw [h3] at h4
    rw [h5] at h6
    have u1 := raise_x X (hg.le hl.1 hl.2) hn h4
    have u2 := Y.2 ca1 ma1 cf59 cf70 (hg.le hl2.1 hl2.2) (u1.nn hc) (hL _ _ _ h6)
    rcases Z with ⟨w1, w2⟩ | ⟨w1, w2, w3, w4, w5⟩
    · rw [h7] at h8
      exact absurd w1 h8
    · have e9 : z82 = w := by rw [h9]; exact Int32.toInt_inj.mp w1
      rw [e9] at h10
      rw [e0]
      exact u1.tr (u2.tr (w3.2 ca1 ma1 cf70 cf84 (hg.le w4 w5) (u2.nn (u1.nn hc)) (hL _ _ _ h10)))
  all_goals (exfalso; omega)
/-- a switch -/
theorem ms_28 {n : Int} (hp : p0.toInt = (lo : Int)) (hlh : lo < hi) (h14 : (na 14 lo).toInt = 28) (hz : z = na 17 lo) (hn : 0 ≤ z.toInt) (X : HtX na ca0 M0 l r z g1 ma) (hl : lo ≤ l ∧ r ≤ hi) (hy : n = (ma 18 lo).toInt) (Y : MsR na ca0 M0 l2 r2 n g2 ma) (hl2 : lo ≤ l2 ∧ r2 ≤ hi) : Ms na ca0 M0 lo hi p0 (max g1 g2) ma := by
  have x0 := X.1
  have y0 := Y.1
  refine ⟨by omega, fun ca1 ma1 cf cf' hg hc h => ?_⟩
  obtain ⟨RL, m, hL, h⟩ := mo_iv h
  have m18 : ma1 18 lo = ma 18 lo := hg.2.2 18 lo (Nat.le_refl _) hlh
  rcases iv_mp_measureOne_0 h with ⟨m', z31, h1, (⟨h2, e0⟩ | ⟨h2, z34, h3, cf36, h4, e0⟩ | ⟨h2, e0⟩ | ⟨h2, z45, h3, cf47, h4, e0⟩ | ⟨h2, z56, h3, hQ⟩ | ⟨h2, z57, h3, cf59, h4, z68, h5, cf70, h6, z79, h7, (⟨h8, e0⟩ | ⟨h8, z82, h9, cf84, h10, e0⟩)⟩ | ⟨h2, z93, h3, (⟨h4, z96, h5, cf98, h6, z107, h7, cf109, h8, z118, h9, cf120, h10, e0⟩ | ⟨h4, z129, h5, cf131, h6, z140, h7, cf142, h8, z151, h9, cf153, h10, z162, h11, cf164, h12, e0⟩)⟩ | ⟨h2, z173, h3, cf175, h4, z184, h5, cf186, h6, e0⟩)⟩
  all_goals have hk : z31.toInt = (na 14 lo).toInt := by rw [h1, cn_of hp]
  · exfalso; omega
  · exfalso; omega
  · exfalso; omega
  · exfalso; omega
  · exfalso; omega
  · exfalso; omega
  · exfalso; omega
  · exfalso; omega
  · exfalso; omega
  · rw [cn_of hp, ← hz] at h3
    rw [cn_of hp, m18] at h5
    rw [h3] at h4
    rw [e0]
    have u1 := raise_x X (hg.le hl.1 hl.2) hn h4
    exact u1.tr (mr_r Y hL (hg.le hl2.1 hl2.2) (u1.nn hc) (by rw [h5, hy]) h6)
/-- perhaps an expression -/
def HtO (na ca0 : Nat → Nat → Int32) (M0 : Nat → Int32) (l r : Nat) (z : Int32) (h : Int) (ma : Nat → Nat → Int32) : Prop := (z.toInt < 0 ∧ h = 0) ∨ (0 ≤ z.toInt ∧ HtX na ca0 M0 l r z h ma)
theorem hto_r (X : HtO na ca0 M0 l r z g1 ma) (hg : RgM na ca0 M0 ma l r ca1 ma1) (hc : 0 ≤ (cf 59).toInt) (h : R_mp_raise na ma1 ca1 z cf cf') : Ups g1 cf cf' := by
  rcases X with ⟨x1, x2⟩ | ⟨x1, x2⟩
  · rw [x2]; exact raise_n x1 hc h
  · exact raise_x x2 hg x1 h
theorem HtO.nn (X : HtO na ca0 M0 l r z g1 ma) : 0 ≤ g1 ∧ g1 ≤ 300000 := by
  rcases X with ⟨x1, x2⟩ | ⟨x1, x2⟩
  · omega
  · exact x2.1
/-- for -/
theorem ms_27 {x y w u : Int32} (hp : p0.toInt = (lo : Int)) (hlh : lo < hi) (h14 : (na 14 lo).toInt = 27) (hx : (na 17 lo).toInt = x.toInt) (X : (x.toInt < 0 ∧ g1 = 0) ∨ (0 ≤ x.toInt ∧ Ms na ca0 M0 l r x g1 ma)) (hl : lo ≤ l ∧ r ≤ hi) (hy : ma 18 lo = y) (Y : HtO na ca0 M0 l2 r2 y g2 ma) (hl2 : lo ≤ l2 ∧ r2 ≤ hi) (hw : ma 19 lo = w) (Z : HtO na ca0 M0 l3 r3 w g3 ma) (hl3 : lo ≤ l3 ∧ r3 ≤ hi) (hu : (ma 20 lo).toInt = u.toInt) (V : Ms na ca0 M0 l4 r4 u g4 ma) (hl4 : lo ≤ l4 ∧ r4 ≤ hi) : Ms na ca0 M0 lo hi p0 (max g1 (max g2 (max g3 g4))) ma := by
  have x0 := V.1
  have y0 := Y.nn
  have z0 := Z.nn
  have w0 : g1 ≤ 300000 := by
    rcases X with ⟨-, q⟩ | ⟨-, q⟩
    · omega
    · exact q.1.2
  refine ⟨by omega, fun ca1 ma1 cf cf' hg hc h => ?_⟩
  obtain ⟨RL, m, hL, h⟩ := mo_iv h
  have m18 : ma1 18 lo = y := (hg.2.2 18 lo (Nat.le_refl _) hlh).trans hy
  have m19 : ma1 19 lo = w := (hg.2.2 19 lo (Nat.le_refl _) hlh).trans hw
  have m20 : ma1 20 lo = u := by rw [hg.2.2 20 lo (Nat.le_refl _) hlh]; exact Int32.toInt_inj.mp hu
  rcases iv_mp_measureOne_0 h with ⟨m', z31, h1, (⟨h2, e0⟩ | ⟨h2, z34, h3, cf36, h4, e0⟩ | ⟨h2, e0⟩ | ⟨h2, z45, h3, cf47, h4, e0⟩ | ⟨h2, z56, h3, hQ⟩ | ⟨h2, z57, h3, cf59, h4, z68, h5, cf70, h6, z79, h7, (⟨h8, e0⟩ | ⟨h8, z82, h9, cf84, h10, e0⟩)⟩ | ⟨h2, z93, h3, (⟨h4, z96, h5, cf98, h6, z107, h7, cf109, h8, z118, h9, cf120, h10, e0⟩ | ⟨h4, z129, h5, cf131, h6, z140, h7, cf142, h8, z151, h9, cf153, h10, z162, h11, cf164, h12, e0⟩)⟩ | ⟨h2, z173, h3, cf175, h4, z184, h5, cf186, h6, e0⟩)⟩
  all_goals have hk : z31.toInt = (na 14 lo).toInt := by rw [h1, cn_of hp]
  · exfalso; omega
  · exfalso; omega
  · exfalso; omega
  · exfalso; omega
  · exfalso; omega
  · exfalso; omega
  · exfalso; omega
  · rw [cn_of hp] at h3
    rw [cn_of hp, m18] at h5
    rw [cn_of hp, m19] at h7
    rw [cn_of hp, m20] at h9
    rw [h5] at h6
    rw [h7] at h8
    rw [h9] at h10
    rw [h3, hx] at h4
    rcases X with ⟨x1, x2⟩ | ⟨x1, -⟩
    · have u2 := hto_r Y (hg.le hl2.1 hl2.2) hc h6
      have u3 := hto_r Z (hg.le hl3.1 hl3.2) (u2.nn hc) h8
      have u4 := V.2 ca1 ma1 cf109 cf120 (hg.le hl4.1 hl4.2) (u3.nn (u2.nn hc)) (hL _ _ _ h10)
      rw [e0, x2]
      exact (Ups.rf hc).tr (u2.tr (u3.tr u4))
    · exfalso; omega
  · rw [cn_of hp] at h3 h5
    rw [cn_of hp, m18] at h7
    rw [cn_of hp, m19] at h9
    rw [cn_of hp, m20] at h11
    have e5 : z129 = x := by rw [h5]; exact Int32.toInt_inj.mp hx
    rw [e5] at h6
    rw [h7] at h8
    rw [h9] at h10
    rw [h11] at h12
    rw [h3, hx] at h4
    rcases X with ⟨x1, x2⟩ | ⟨x1, x2⟩
    · exfalso; omega
    · have u1 := x2.2 ca1 ma1 cf cf131 (hg.le hl.1 hl.2) hc (hL _ _ _ h6)
      have u2 := hto_r Y (hg.le hl2.1 hl2.2) (u1.nn hc) h8
      have u3 := hto_r Z (hg.le hl3.1 hl3.2) (u2.nn (u1.nn hc)) h10
      have u4 := V.2 ca1 ma1 cf153 cf164 (hg.le hl4.1 hl4.2) (u3.nn (u2.nn (u1.nn hc))) (hL _ _ _ h12)
      rw [e0]
      exact u1.tr (u2.tr (u3.tr u4))
  · exfalso; omega
end SG
