/-! THE REFERENCE's checker: what it writes, names, indexes, places -/
/-- within [lo, hi) only notes of names, calls and indexes are written -/
def AgKr (na ma ma' : Nat → Nat → Int32) (lo hi : Nat) : Prop := ∀ i : Nat, lo ≤ i → i < hi → (¬ ((na 14 i).toInt = 2 ∨ (na 14 i).toInt = 3 ∨ (na 14 i).toInt = 4) → ma' 18 i = ma 18 i ∧ ma' 19 i = ma 19 i) ∧ ma' 20 i = ma 20 i ∧ ma' 22 i = ma 22 i
/-- outside of [lo, hi) nothing is written -/
def FrM (ma ma' : Nat → Nat → Int32) (lo hi : Nat) : Prop := ∀ f i : Nat, (i < lo ∨ hi ≤ i) → ma' f i = ma f i
theorem AgKr.rf {na ma : Nat → Nat → Int32} {lo hi : Nat} : AgKr na ma ma lo hi := fun _ _ _ => ⟨fun _ => ⟨rfl, rfl⟩, rfl, rfl⟩
theorem AgKr.tr {na ma ma1 ma2 : Nat → Nat → Int32} {lo hi : Nat} (h : AgKr na ma ma1 lo hi) (g : AgKr na ma1 ma2 lo hi) : AgKr na ma ma2 lo hi := fun i a b => by
  obtain ⟨h1, h2, h3⟩ := h i a b
  obtain ⟨g1, g2, g3⟩ := g i a b
  exact ⟨fun q => ⟨(g1 q).1.trans (h1 q).1, (g1 q).2.trans (h1 q).2⟩, g2.trans h2, g3.trans h3⟩
theorem AgKr.le {na ma ma' : Nat → Nat → Int32} {lo hi lo' hi' : Nat} (h : AgKr na ma ma' lo hi) (h1 : lo ≤ lo') (h2 : hi' ≤ hi) : AgKr na ma ma' lo' hi' := fun i a b => h i (by omega) (by omega)
theorem FrM.rf {ma : Nat → Nat → Int32} {lo hi : Nat} : FrM ma ma lo hi := fun _ _ _ => rfl
theorem FrM.tr {ma ma1 ma2 : Nat → Nat → Int32} {lo hi : Nat} (h : FrM ma ma1 lo hi) (g : FrM ma1 ma2 lo hi) : FrM ma ma2 lo hi := fun f i q => (g f i q).trans (h f i q)
theorem FrM.le {ma ma' : Nat → Nat → Int32} {lo hi lo' hi' : Nat} (h : FrM ma ma' lo hi) (h1 : lo' ≤ lo) (h2 : hi ≤ hi') : FrM ma ma' lo' hi' := fun f i q => h f i (by omega)
/-- what is written elsewhere -/
theorem FrM.ag {na ma ma' : Nat → Nat → Int32} {lo hi l h : Nat} {r : Int} (g : FrM ma ma' lo hi) (q : h ≤ lo ∨ hi ≤ l) : AgF na ma na ma' l h r := fun i a b => ⟨rfl, rfl, rfl, g 18 i (by omega), g 19 i (by omega), g 22 i (by omega), rfl, fun _ => ⟨rfl, g 20 i (by omega)⟩⟩
theorem FrM.k {na ma ma' : Nat → Nat → Int32} {lo hi l h : Nat} (g : FrM ma ma' lo hi) (q : h ≤ lo ∨ hi ≤ l) : AgKr na ma ma' l h := fun i a b => ⟨fun _ => ⟨g 18 i (by omega), g 19 i (by omega)⟩, g 20 i (by omega), g 22 i (by omega)⟩
/-- notes are no part of the tree -/
theorem rep_k2 {k : Nat → Int} {c : Nat} {na ma ma' : Nat → Nat → Int32} (e : Ast) (md : Bool) (n b : Int) (lo hi : Nat) : Rep k c na ma e md n b lo hi → AgKr na ma ma' lo hi → Rep k c na ma' e md n b lo hi := by
  fun_induction Rep k c na ma e md n b lo hi
  all_goals intro h hK
  case case1 => exact h
  case case2 => exact h
  case case3 =>
    rename_i t as n b lo hi ih
    obtain ⟨i, h1, h2, h3, h4, hq, h5⟩ := h
    exact ⟨i, h1, h2, h3, h4, hq, ih i h5 (hK.le (by omega) (Nat.le_refl _))⟩
  case case4 => exact h
  case case5 =>
    rename_i e r n b lo hi ih2 ih1
    obtain ⟨i, mid, h1, h2, hq, h3, h4⟩ := h
    exact ⟨i, mid, h1, h2, hq, ih2 mid h3 (hK.le (Nat.le_refl _) (by omega)), ih1 i mid h4 (hK.le (by omega) (Nat.le_refl _))⟩
  case case6 =>
    rename_i t e n b lo hi ih
    obtain ⟨i, h1, h2, h3, h4, hq, h5⟩ := h
    exact ⟨i, h1, h2, h3, h4, hq, ih i h5 (hK.le (by omega) (Nat.le_refl _))⟩
  case case7 =>
    rename_i t e n b lo hi ih
    obtain ⟨i, j, h1, h2, h3, h4, hq, h6, h5⟩ := h
    exact ⟨i, j, h1, h2, h3, h4, hq, ⟨h6.1, h6.2.1, h6.2.2.1, h6.2.2.2.1, by rw [(hK j (by omega) (by omega)).2.1]; exact h6.2.2.2.2⟩, ih i j h5 (hK.le (Nat.le_refl _) (by omega))⟩
  case case8 =>
    rename_i t e n b lo hi ih
    obtain ⟨i, h1, h2, h3, h4, hq, h5⟩ := h
    exact ⟨i, h1, h2, h3, h4, hq, ih i h5 (hK.le (Nat.le_refl _) (by omega))⟩
  case case9 =>
    rename_i x y z n b lo hi ih3 ih2 ih1
    obtain ⟨i, m1, m2, h1, h2, h3, h4, hq, h5, h6, h7⟩ := h
    have g := (hK i (by omega) (by omega)).1 (by omega)
    refine ⟨i, m1, m2, h1, h2, h3, h4, hq, ih3 i m1 h5 (hK.le (Nat.le_refl _) (by omega)), ?_, ?_⟩
    · rw [g.1]; exact ih2 i m1 m2 h6 (hK.le (by omega) (by omega))
    · rw [g.2]; exact ih1 i m2 h7 (hK.le (by omega) (by omega))
  case case10 =>
    rename_i t x y n b lo hi ih2 ih1
    obtain ⟨i, m1, h1, h2, h3, h4, hq, h5, h6⟩ := h
    have g3 := h3.1
    have g := (hK i (by omega) (by omega)).1 (by omega)
    refine ⟨i, m1, h1, h2, h3, h4, hq, ih2 i m1 h5 (hK.le (Nat.le_refl _) (by omega)), ?_⟩
    rw [g.1]; exact ih1 i m1 h6 (hK.le (by omega) (by omega))
  case case11 =>
    rename_i t x y md n b lo hi ih3 ih2 ih1
    obtain ⟨i, j, mid, l2, h2, a1, a2, a3, a4, a5, a6, a7, a8, a9, a10, a11, a12, a13⟩ := h
    have hid := fun (_ : True) => a13
    clear a13
    have gi := hK i a4.1 a4.2
    have gj := hK j (by omega) (by omega)
    have gi1 := gi.1 (by omega)
    refine ⟨i, j, mid, l2, h2, a1, a2, fun q => by rw [gi1.1]; exact a3 q, a4, a5, a6, a7, a8, a9, by rw [gi.2.2]; exact a10, by rw [gj.2.1]; exact a11, ih3 j l2 h2 a12 (hK.le (by omega) (by omega)), ?_⟩
    rcases hid trivial with ⟨b1, b2, p, b3, b4, b5⟩ | ⟨b1, b2, a, b3, b4, b5, b6⟩
    · exact Or.inl ⟨b1, b2, p, b3, ih2 mid p b4 (hK.le (Nat.le_refl _) (by omega)), b5⟩
    · exact Or.inr ⟨b1, b2, a, b3, b4, ih1 mid a b5 (hK.le (Nat.le_refl _) (by omega)), b6⟩
  case case12 =>
    rename_i s e n b lo hi ih
    exact ⟨h.1, ih h.2 hK⟩
  case case13 => exact h.elim
/-- what check answers, and what an expression is -/
def IsV (v a : Int) : Prop := (v = 1 ∧ (a = 0 ∨ a = 1 ∨ a = 4)) ∨ (v = 2 ∧ a = 2) ∨ (v = 3 ∧ a = 5) ∨ (v = 4 ∧ a = 3)
section RV
variable {tf : Nat → Int32} {ta : Nat → Nat → Int32} {k : Nat → Int} {vl : Nat → Int32} {c t i : Nat} {cf cf' : Nat → Int32} {ca na ma ma' : Nat → Nat → Int32} {L : Nms} {p0 p1 v : Int32}
/-- two notes at node i -/
theorem k_at {x y : Int32} (hk : (na 14 i).toInt = 2 ∨ (na 14 i).toInt = 3 ∨ (na 14 i).toInt = 4) {lo hi : Nat} : AgKr na ma (vu (vu ma 18 i x) 19 i y) lo hi := fun j a b => by
  by_cases q : j = i
  · subst q
    exact ⟨fun w => absurd hk w, by rw [vu_p (by omega), vu_p (by omega)], by rw [vu_p (by omega), vu_p (by omega)]⟩
  · exact ⟨fun _ => ⟨by rw [vu_at q, vu_at q], by rw [vu_at q, vu_at q]⟩, by rw [vu_at q, vu_at q], by rw [vu_at q, vu_at q]⟩
theorem k_at1 {x : Int32} (hk : (na 14 i).toInt = 2 ∨ (na 14 i).toInt = 3 ∨ (na 14 i).toInt = 4) {lo hi : Nat} : AgKr na ma (vu ma 18 i x) lo hi := fun j a b => by
  by_cases q : j = i
  · subst q
    exact ⟨fun w => absurd hk w, by rw [vu_p (by omega)], by rw [vu_p (by omega)]⟩
  · exact ⟨fun _ => ⟨by rw [vu_at q], by rw [vu_at q]⟩, by rw [vu_at q], by rw [vu_at q]⟩
theorem chn_rr (hs : SmN ta k vl c) (hE : EnvR k vl c cf ca L) (hp : p0.toInt = (i : Int)) (h14 : (na 14 i).toInt = 2) (h15 : (na 15 i).toInt = (t : Int)) (htc : t < c) (h16 : k t = 16) (h : R_mp_checkName ta na ca p0 ma cf ma' cf' v) : SmK cf cf' ∧ FrM ma ma' i (i + 1) ∧ AgKr na ma ma' i (i + 1) ∧ (lkp L (vl t) = none → v.toInt = 0) ∧ AC cf cf' (lkp L (vl t)) (fun g => IsV v.toInt (aNam g).1 ∧ (v.toInt = 1 → (g.1 = 0 ∨ g.1 = 1))) := by
  rcases h with ⟨z1, h1, v3, h2, (⟨h3, z11, h4, z12, h5, ma13, h6, z14, h7, ma15, h8, (⟨h9, (⟨h10, e0, e1, ev⟩ | ⟨h10, e0, e1, ev⟩)⟩ | ⟨h9, e0, e1, ev⟩)⟩ | ⟨h3, z20, h4, cf22, h5, e0, e1, ev⟩)⟩ | h
  · rw [cn_of hp] at h1 h6 h8
    rcases find_0 hs hE (show z1.toInt = (t : Int) by rw [h1]; exact h15) htc h16 h2 with ⟨q1, q2⟩ | ⟨j, e, q1, q2, q3, q4⟩
    · exfalso; omega
    · have h6' : ma13 = vu ma 18 i z12 := h6
      have h8' : ma15 = vu ma13 19 i z14 := h8
      rw [h6'] at h8'
      rw [cn_of q1] at h4
      rw [h4] at h9 h10
      rw [e0, e1, ev, h8', q2]
      refine ⟨SmK.rf, fun f j q => by rw [vu_at (by omega), vu_at (by omega)], k_at (Or.inl h14), fun y => absurd y (by simp), AC.ret ?_⟩
      rw [← q3]
      unfold entR aNam IsV
      by_cases w4 : (ca 35 j).toInt = 4
      · rw [if_pos w4]
        exact ⟨Or.inl ⟨rfl, Or.inl rfl⟩, fun _ => Or.inl rfl⟩
      · rw [if_neg w4]
        have w1 : (ca 35 j).toInt = 1 := by omega
        simp only [w1]
        exact ⟨Or.inl ⟨rfl, Or.inr (Or.inl rfl)⟩, fun _ => Or.inr trivial⟩
  · rw [cn_of hp] at h1 h6 h8
    rcases find_0 hs hE (show z1.toInt = (t : Int) by rw [h1]; exact h15) htc h16 h2 with ⟨q1, q2⟩ | ⟨j, e, q1, q2, q3, q4⟩
    · exfalso; omega
    · have h6' : ma13 = vu ma 18 i z12 := h6
      have h8' : ma15 = vu ma13 19 i z14 := h8
      rw [h6'] at h8'
      rw [cn_of q1] at h4
      rw [h4] at h9 h10
      rw [e0, e1, ev, h8', q2]
      refine ⟨SmK.rf, fun f j q => by rw [vu_at (by omega), vu_at (by omega)], k_at (Or.inl h14), fun y => absurd y (by simp), AC.ret ?_⟩
      rw [← q3]
      unfold entR aNam IsV
      simp only [h10]
      exact ⟨Or.inr (Or.inr (Or.inl ⟨rfl, rfl⟩)), fun y => absurd y (by decide)⟩
  · rw [cn_of hp] at h1 h6 h8
    rcases find_0 hs hE (show z1.toInt = (t : Int) by rw [h1]; exact h15) htc h16 h2 with ⟨q1, q2⟩ | ⟨j, e, q1, q2, q3, q4⟩
    · exfalso; omega
    · have h6' : ma13 = vu ma 18 i z12 := h6
      have h8' : ma15 = vu ma13 19 i z14 := h8
      rw [h6'] at h8'
      rw [cn_of q1] at h4
      rw [h4] at h9
      rw [e0, e1, ev, h8', q2]
      refine ⟨SmK.rf, fun f j q => by rw [vu_at (by omega), vu_at (by omega)], k_at (Or.inl h14), fun y => absurd y (by simp), AC.ret ?_⟩
      rw [← q3]
      unfold entR aNam IsV
      simp only [h9]
      exact ⟨Or.inr (Or.inl ⟨rfl, rfl⟩), fun y => absurd y (by decide)⟩
  · rw [cn_of hp] at h1 h4
    rcases find_0 hs hE (show z1.toInt = (t : Int) by rw [h1]; exact h15) htc h16 h2 with ⟨q1, q2⟩ | ⟨j, e, q1, q2, q3, q4⟩
    · rw [e0, e1, ev, q2]
      exact ⟨(bad_r h5 (by decide)).2, FrM.rf, AgKr.rf, fun _ => rfl, AC.bad h5 (by decide)⟩
    · exfalso; omega
  · exact h.elim
end RV
