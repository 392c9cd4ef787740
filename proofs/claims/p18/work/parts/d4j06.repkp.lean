/-- the root whose own row is not told: none for a row of arguments -/
def rtE (e : Ast) (n : Int) : Int := match e with
  | .add _ _ => -1
  | .null => -1
  | _ => n
theorem AgF.rt {na ma na' ma' : Nat → Nat → Int32} {lo hi : Nat} {r : Int} {e : Ast} {n : Int} (h : AgF na ma na' ma' lo hi r) (h1 : r < (lo : Int) ∨ (hi : Int) ≤ r) : AgF na ma na' ma' lo hi (rtE e n) := h.ot h1
theorem AgT.le {na ma na' ma' : Nat → Nat → Int32} {lo hi lo' hi' : Nat} {n b : Int} (h : AgT na ma na' ma' lo hi n b) (h1 : lo ≤ lo') (h2 : hi' ≤ hi) : AgT na ma na' ma' lo' hi' n b := fun i a c => h i (by omega) (by omega)
theorem AgF.tc {na ma na' ma' : Nat → Nat → Int32} {lo hi : Nat} {n b : Int} (h : AgF na ma na' ma' lo hi n) : AgT na ma na' ma' lo hi n b := fun i a c => by
  obtain ⟨g1, g2, g3, g4, g5, g6, g7, g8⟩ := h i a c
  exact ⟨g1, g2, g3, g5, g6, fun q => ⟨g4, g7, (g8 q).2, fun _ => (g8 q).1⟩⟩
theorem NdI.kp {na na' : Nat → Nat → Int32} {i : Nat} {s t : Int} (h : NdI na i s t) (h1 : na' 14 i = na 14 i) (h2 : na' 15 i = na 15 i) : NdI na' i s t := by
  unfold NdI
  rw [h1, h2]
  exact h
theorem rtE_x {e : Ast} {n : Int} (h : isEx e = true) : rtE e n = n := by
  cases e <;> first | rfl | exact absurd h Bool.false_ne_true
theorem rep_kp {k : Nat → Int} {c : Nat} {na ma na' ma' : Nat → Nat → Int32} (e : Ast) (md : Bool) (n b : Int) (lo hi : Nat) : Rep k c na ma e md n b lo hi → (md = false → AgF na ma na' ma' lo hi (rtE e n)) → (md = true → AgT na ma na' ma' lo hi n b) → Rep k c na' ma' e md n b lo hi := by
  fun_induction Rep k c na ma e md n b lo hi
  all_goals intro h hF hT
  case case1 =>
    obtain ⟨i, h1, h2, h3, h4, hq⟩ := h
    obtain ⟨g1, g2, g3, g4, g5, g6, g7, g8⟩ := hF rfl i h2.1 h2.2
    exact ⟨i, h1, h2, h3.kp g1 g2, by rw [g7]; exact h4, hq⟩
  case case2 =>
    obtain ⟨i, h1, h2, h3, h4, hq⟩ := h
    obtain ⟨g1, g2, g3, g4, g5, g6, g7, g8⟩ := hF rfl i h2.1 h2.2
    exact ⟨i, h1, h2, h3.kp g1 g2, by rw [g7]; exact h4, hq⟩
  case case3 =>
    rename_i t as n b lo hi ih
    have ag : AgF na ma na' ma' lo hi n := hF rfl
    obtain ⟨i, h1, h2, h3, h4, hq, h5⟩ := h
    obtain ⟨g1, g2, g3, g4, g5, g6, g7, g8⟩ := ag i h2.1 h2.2
    refine ⟨i, h1, h2, h3.kp g1 g2, by rw [g7]; exact h4, hq, ?_⟩
    rw [g3]
    exact ih i h5 (fun _ => (ag.le (by omega) (Nat.le_refl _)).rt (Or.inl (by omega))) (fun q => absurd q (by decide))
  case case4 => exact h
  case case5 =>
    rename_i e r n b lo hi ih2 ih1
    have ag : AgF na ma na' ma' lo hi (-1) := hF rfl
    obtain ⟨i, mid, h1, h2, hq, h3, h4⟩ := h
    obtain ⟨g1, g2, g3, g4, g5, g6, g7, g8⟩ := ag i h2.1 (by omega)
    refine ⟨i, mid, h1, h2, hq, ih2 mid h3 (fun _ => (ag.le (Nat.le_refl _) h2.2.2).rt (Or.inl (by omega))) (fun q => absurd q (by decide)), ?_⟩
    rw [(g8 (by omega)).1]
    exact ih1 i mid h4 (fun _ => (ag.le (by omega) (Nat.le_refl _)).rt (Or.inl (by omega))) (fun q => absurd q (by decide))
  case case6 =>
    rename_i t e n b lo hi ih
    have ag : AgF na ma na' ma' lo hi n := hF rfl
    obtain ⟨i, h1, h2, h3, h4, hq, h5⟩ := h
    obtain ⟨g1, g2, g3, g4, g5, g6, g7, g8⟩ := ag i h2.1 h2.2
    refine ⟨i, h1, h2, h3.kp g1 g2, by rw [g7]; exact h4, hq, ?_⟩
    rw [g3]
    exact ih i h5 (fun _ => (ag.le (by omega) (Nat.le_refl _)).rt (Or.inl (by omega))) (fun q => absurd q (by decide))
  case case7 =>
    rename_i t e n b lo hi ih
    have ag : AgF na ma na' ma' lo hi n := hF rfl
    obtain ⟨i, j, h1, h2, h3, h4, hq, h6, h5⟩ := h
    obtain ⟨g1, g2, g3, g4, g5, g6, g7, g8⟩ := ag i h2.1 h2.2
    have gj := (ag j (by omega) (by omega)).2.2.2.2.2.2.2 (by omega)
    refine ⟨i, j, h1, h2, h3.kp g1 g2, by rw [g7]; exact h4, hq, ⟨by rw [g3]; exact h6.1, h6.2.1, h6.2.2.1, by rw [gj.1]; exact h6.2.2.2.1, by rw [gj.2]; exact h6.2.2.2.2⟩, ?_⟩
    exact ih i j h5 (fun _ => (ag.le (Nat.le_refl _) (by omega)).rt (Or.inr (by omega))) (fun q => absurd q (by decide))
  case case8 =>
    rename_i t e n b lo hi ih
    have ag : AgF na ma na' ma' lo hi n := hF rfl
    obtain ⟨i, h1, h2, h3, h4, hq, h5⟩ := h
    obtain ⟨g1, g2, g3, g4, g5, g6, g7, g8⟩ := ag i h2.1 h2.2
    refine ⟨i, h1, h2, h3.kp g1 g2, by rw [g7]; exact h4, hq, ?_⟩
    rw [g3]
    exact ih i h5 (fun _ => (ag.le (Nat.le_refl _) (by omega)).rt (Or.inr (by omega))) (fun q => absurd q (by decide))
  case case9 =>
    rename_i x y z n b lo hi ih3 ih2 ih1
    have ag : AgF na ma na' ma' lo hi n := hF rfl
    obtain ⟨i, m1, m2, h1, h2, h3, h4, hq, h5, h6, h7⟩ := h
    obtain ⟨g1, g2, g3, g4, g5, g6, g7, g8⟩ := ag i (by omega) (by omega)
    refine ⟨i, m1, m2, h1, h2, by rw [g1]; exact h3, by rw [g7]; exact h4, hq, ?_, ?_, ?_⟩
    · rw [g3]; exact ih3 i m1 h5 (fun _ => (ag.le (Nat.le_refl _) (by omega)).rt (Or.inr (by omega))) (fun q => absurd q (by decide))
    · rw [g4]; exact ih2 i m1 m2 h6 (fun _ => (ag.le (by omega) (by omega)).rt (Or.inr (by omega))) (fun q => absurd q (by decide))
    · rw [g5]; exact ih1 i m2 h7 (fun _ => (ag.le (by omega) (by omega)).rt (Or.inr (by omega))) (fun q => absurd q (by decide))
  case case10 =>
    rename_i t x y n b lo hi ih2 ih1
    have ag : AgF na ma na' ma' lo hi n := hF rfl
    obtain ⟨i, m1, h1, h2, h3, h4, hq, h5, h6⟩ := h
    obtain ⟨g1, g2, g3, g4, g5, g6, g7, g8⟩ := ag i (by omega) (by omega)
    refine ⟨i, m1, h1, h2, h3.kp g1 g2, by rw [g7]; exact h4, hq, ?_, ?_⟩
    · rw [g3]; exact ih2 i m1 h5 (fun _ => (ag.le (Nat.le_refl _) (by omega)).rt (Or.inr (by omega))) (fun q => absurd q (by decide))
    · rw [g4]; exact ih1 i m1 h6 (fun _ => (ag.le (by omega) (by omega)).rt (Or.inr (by omega))) (fun q => absurd q (by decide))
  case case11 =>
    rename_i t x y md n b lo hi ih3 ih2 ih1
    obtain ⟨i, j, mid, l2, h2, a1, a2, a3, a4, a5, a6, a7, a8, a9, a10, a11, a12, a13⟩ := h
    have hid := fun (_ : True) => a13
    clear a13
    cases md with
    | false =>
      have ag : AgF na ma na' ma' lo hi n := hF rfl
      obtain ⟨g1, g2, g3, g4, g5, g6, g7, g8⟩ := ag i a4.1 a4.2
      have gj := (ag j (by omega) (by omega)).2.2.2.2.2.2.2 (by omega)
      refine ⟨i, j, mid, l2, h2, a1, a2, fun q => ?_, a4, a5, a6, a7, a8, by rw [g1]; exact a9, by rw [g6]; exact a10, by rw [gj.2]; exact a11, ?_, ?_⟩
      · rw [g4, g7, gj.1]; exact a3 rfl
      · exact ih3 j l2 h2 a12 (fun _ => (ag.le (by omega) (by omega)).rt (by omega)) (fun q => absurd q (by decide))
      · rcases hid trivial with ⟨b1, b2, p, b3, b4, b5⟩ | ⟨b1, b2, a, b3, b4, b5, b6⟩
        · have gp := (ag p (by omega) (by omega)).2.2.2.2.2.2.2 (by omega)
          exact Or.inl ⟨b1, b2, p, b3, ih2 mid p b4 (fun q => absurd q (by decide)) (fun _ => (ag.le (Nat.le_refl _) (by omega)).tc), by rw [gp.1]; exact b5⟩
        · have ga := (ag a (by omega) (by omega)).2.2.2.2.2.2.2 (by omega)
          exact Or.inr ⟨b1, b2, a, b3, by rw [g3]; exact b4, ih1 mid a b5 (fun _ => (ag.le (Nat.le_refl _) (by omega)).rt (by omega)) (fun q => absurd q (by decide)), by rw [ga.1]; exact b6⟩
    | true =>
      have ag : AgT na ma na' ma' lo hi n b := hT rfl
      have eb := a2 rfl
      obtain ⟨g1, g2, g3, g5, g6, g7⟩ := ag i a4.1 a4.2
      have gj := (ag j (by omega) (by omega)).2.2.2.2.2 (by omega)
      have fy : AgF na ma na' ma' l2 h2 (j : Int) := fun i' q1 q2 => by
        obtain ⟨k1, k2, k3, k5, k6, k7⟩ := ag i' (by omega) (by omega)
        have k8 := k7 (by omega)
        exact ⟨k1, k2, k3, k8.1, k5, k6, k8.2.1, fun q => ⟨k8.2.2.2 (by omega), k8.2.2.1⟩⟩
      refine ⟨i, j, mid, l2, h2, a1, a2, fun q => absurd q (by decide), a4, a5, a6, a7, a8, by rw [g1]; exact a9, by rw [g6]; exact a10, by rw [gj.2.2.1]; exact a11, ?_, ?_⟩
      · exact ih3 j l2 h2 a12 (fun _ => by rw [rtE_x a8.2.1]; exact fy) (fun q => absurd q (by decide))
      · rcases hid trivial with ⟨b1, b2, p, b3, b4, b5⟩ | ⟨b1, b2, a, b3, b4, b5, b6⟩
        · have gp := ((ag p (by omega) (by omega)).2.2.2.2.2 (by omega)).2.2.2 (by omega)
          refine Or.inl ⟨b1, b2, p, b3, ih2 mid p b4 (fun q => absurd q (by decide)) (fun _ i' q1 q2 => ?_), by rw [gp]; exact b5⟩
          obtain ⟨k1, k2, k3, k5, k6, k7⟩ := ag i' (by omega) (by omega)
          exact ⟨k1, k2, k3, k5, k6, fun q => ⟨(k7 q).1, (k7 q).2.1, (k7 q).2.2.1, fun _ => (k7 q).2.2.2 (by omega)⟩⟩
        · have ga := ((ag a (by omega) (by omega)).2.2.2.2.2 (by omega)).2.2.2 (by omega)
          refine Or.inr ⟨b1, b2, a, b3, by rw [g3]; exact b4, ih1 mid a b5 (fun _ i' q1 q2 => ?_) (fun q => absurd q (by decide)), by rw [ga]; exact b6⟩
          obtain ⟨k1, k2, k3, k5, k6, k7⟩ := ag i' (by omega) (by omega)
          have k8 := k7 (by omega)
          exact ⟨k1, k2, k3, k8.1, k5, k6, k8.2.1, fun _ => ⟨k8.2.2.2 (by omega), k8.2.2.1⟩⟩
  case case12 =>
    rename_i s e n b lo hi ih
    exact ⟨h.1, ih h.2 (fun q => absurd q (by decide)) hT⟩
  case case13 => exact h.elim
