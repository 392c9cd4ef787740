/-! THE REFERENCE: what waits is settled -/
def vu (f : Nat → Nat → Int32) (m n : Nat) (x : Int32) : Nat → Nat → Int32 := va_up f m (upd (f m) n x)
theorem vu_s {f : Nat → Nat → Int32} {m n : Nat} {x : Int32} : vu f m n x m n = x := vau_s
theorem vu_p {f : Nat → Nat → Int32} {m n g i : Nat} {x : Int32} (h : ¬ (g = m ∧ i = n)) : vu f m n x g i = f g i := by
  unfold vu
  by_cases q : g = m
  · exact vau_o (fun e => h ⟨q, e⟩)
  · exact vau_n q
/-- an expression at node i, made of nodes of [lo, hi); nothing hangs behind it -/
def OkT (k : Nat → Int) (c : Nat) (e : Ast) (lo hi : Nat) (na ma : Nat → Nat → Int32) (i : Nat) : Prop := isEx e = true ∧ Rep k c na ma e false (i : Int) 0 lo hi ∧ ((na 21 i).toInt = -1 ∧ (ma 20 i).toInt = -1) ∧ (na 23 i).toInt = dpT k e ∧ (lo ≤ i ∧ i < hi)
theorem rep_wt {k : Nat → Int} {c : Nat} {na ma : Nat → Nat → Int32} (e : Ast) (md : Bool) (n b : Int) (lo hi : Nat) : Rep k c na ma e md n b lo hi → md = true → ∀ hi' : Nat, hi ≤ hi' → Rep k c na ma e md n b lo hi' := by
  fun_induction Rep k c na ma e md n b lo hi
  all_goals intro h hm hi' hl
  case case11 =>
    subst hm
    obtain ⟨i, j, mid, l2, h2, a1, a2, a3, a4, a5, a6, a7, a8, a9, a10, a11, a12, a13⟩ := h
    have hid := fun (_ : True) => a13
    clear a13
    exact ⟨i, j, mid, l2, h2, a1, a2, a3, ⟨a4.1, by omega⟩, ⟨a5.1, a5.2.1, a5.2.2.1, by omega⟩, a6, a7, a8, a9, a10, a11, a12, hid trivial⟩
  case case12 =>
    rename_i s e n b lo hi ih
    exact ⟨h.1, ih h.2 rfl hi' hl⟩
  case case13 => exact h.elim
  all_goals exact absurd hm (by decide)
/-- a node of an expression: a prefix, a chain, or another -/
def NdKr (k : Nat → Int) (c : Nat) (na ma : Nat → Nat → Int32) (e : Ast) (lo hi i : Nat) : Prop := (∃ (s j : Nat) (e' : Ast), e = .mul (.arg s) e' ∧ (na 14 i).toInt = 5 ∧ (na 15 i).toInt = (s : Int) ∧ s < c ∧ isEx e' = true ∧ ((na 17 i).toInt = (j : Int) ∧ lo ≤ j ∧ j < i ∧ (na 21 j).toInt = -1 ∧ (ma 20 j).toInt = -1) ∧ Rep k c na ma e' false (j : Int) 0 lo i) ∨ ((na 14 i).toInt = 7 ∧ (ma 22 i).toInt = rkT k e ∧ 0 < rkT k e ∧ ∃ p : Nat, (ma 18 i).toInt = (p : Int) ∧ (lo ≤ p ∧ p < hi ∧ ¬ p = i) ∧ Rep k c na ma e true (i : Int) (p : Int) lo hi) ∨ (rkT k e = 0 ∧ ¬ (na 14 i).toInt = 5 ∧ ¬ (na 14 i).toInt = 7)
theorem rep_kind {k : Nat → Int} {c : Nat} {na ma : Nat → Nat → Int32} (e : Ast) (md : Bool) (n b : Int) (lo hi : Nat) : Rep k c na ma e md n b lo hi → md = false → isEx e = true → ∃ i : Nat, n = (i : Int) ∧ (lo ≤ i ∧ i < hi) ∧ NdKr k c na ma e lo hi i := by
  fun_induction Rep k c na ma e md n b lo hi
  all_goals intro h hm hx
  case case1 =>
    obtain ⟨i, h1, h2, h3, h4⟩ := h
    have := h3.1
    exact ⟨i, h1, h2, Or.inr (Or.inr ⟨by first | rfl | simp [rkT], by omega, by omega⟩)⟩
  case case2 =>
    obtain ⟨i, h1, h2, h3, h4⟩ := h
    have := h3.1
    exact ⟨i, h1, h2, Or.inr (Or.inr ⟨by first | rfl | simp [rkT], by omega, by omega⟩)⟩
  case case3 =>
    obtain ⟨i, h1, h2, h3, h4⟩ := h
    have := h3.1
    exact ⟨i, h1, h2, Or.inr (Or.inr ⟨by first | rfl | simp [rkT], by omega, by omega⟩)⟩
  case case4 => exact absurd hx (by decide)
  case case5 => exact absurd hx (by simp [isEx])
  case case6 =>
    obtain ⟨i, h1, h2, h3, h4⟩ := h
    have := h3.1
    exact ⟨i, h1, h2, Or.inr (Or.inr ⟨by first | rfl | simp [rkT], by omega, by omega⟩)⟩
  case case7 =>
    rename_i t e n b lo hi ih
    obtain ⟨i, j, h1, h2, h3, h4, hq, h6, h5⟩ := h
    exact ⟨i, h1, h2, Or.inl ⟨t, j, e, rfl, h3.1, h3.2, hq.1, hq.2.2, h6, h5⟩⟩
  case case8 =>
    obtain ⟨i, h1, h2, h3, h4⟩ := h
    have := h3.1
    exact ⟨i, h1, h2, Or.inr (Or.inr ⟨by first | rfl | simp [rkT], by omega, by omega⟩)⟩
  case case9 =>
    obtain ⟨i, m1, m2, h1, h2, h3, h4⟩ := h
    exact ⟨i, h1, by omega, Or.inr (Or.inr ⟨by first | rfl | simp [rkT], by omega, by omega⟩)⟩
  case case10 =>
    obtain ⟨i, m1, h1, h2, h3, h4⟩ := h
    have := h3.1
    exact ⟨i, h1, by omega, Or.inr (Or.inr ⟨by first | rfl | simp [rkT], by omega, by omega⟩)⟩
  case case11 =>
    subst hm
    rename_i t x y n b lo hi ih3 ih2 ih1
    obtain ⟨i, j, mid, l2, h2, a1, a2, a3, a4, a5, a6, a7, a8, a9, a10, a11, a12, a13⟩ := h
    have hid := fun (_ : True) => a13
    clear a13
    have er : rkT k (.rem (.arg t) (.elem x y)) = rkO (k t) := by first | rfl | simp [rkT]
    refine ⟨i, a1, a4, Or.inr (Or.inl ⟨a9, by rw [er]; exact a10, by rw [er]; exact a8.2.2.2, j, (a3 rfl).1, by omega, ?_⟩)⟩
    subst a1
    exact ⟨i, j, mid, l2, h2, rfl, fun _ => rfl, fun q => absurd q (by decide), a4, a5, a6, a7, a8, a9, a10, a11, a12, hid trivial⟩
  case case12 => exact absurd hm (by decide)
  case case13 => exact h.elim
theorem rep_dp' {k : Nat → Int} {c : Nat} {na ma : Nat → Nat → Int32} (e : Ast) (md : Bool) (n b : Int) (lo hi : Nat) : Rep k c na ma e md n b lo hi → md = false → isEx e = true → ∀ j : Nat, n = (j : Int) → (na 23 j).toInt = dpT k e := by
  fun_induction Rep k c na ma e md n b lo hi
  all_goals intro h hm hx j hj
  case case1 =>
    obtain ⟨i, h1, h2, h3, h4, -⟩ := h
    obtain rfl : i = j := by omega
    rw [h4]; exact dp_num.symm
  case case2 =>
    obtain ⟨i, h1, h2, h3, h4, -⟩ := h
    obtain rfl : i = j := by omega
    rw [h4]; exact dp_name.symm
  case case3 =>
    obtain ⟨i, h1, h2, h3, h4, -⟩ := h
    obtain rfl : i = j := by omega
    exact h4
  case case4 => exact absurd hx (by decide)
  case case5 => exact absurd hx (by simp [isEx])
  case case6 =>
    obtain ⟨i, h1, h2, h3, h4, -⟩ := h
    obtain rfl : i = j := by omega
    exact h4
  case case7 =>
    obtain ⟨i, j', h1, h2, h3, h4, -⟩ := h
    obtain rfl : i = j := by omega
    exact h4
  case case8 =>
    obtain ⟨i, h1, h2, h3, h4, -⟩ := h
    obtain rfl : i = j := by omega
    exact h4
  case case9 =>
    obtain ⟨i, m1, m2, h1, h2, h3, h4, -⟩ := h
    obtain rfl : i = j := by omega
    exact h4
  case case10 =>
    obtain ⟨i, m1, h1, h2, h3, h4, -⟩ := h
    obtain rfl : i = j := by omega
    exact h4
  case case11 =>
    subst hm
    obtain ⟨i, j', mid, l2, h2, a1, a2, a3, -⟩ := h
    obtain rfl : i = j := by omega
    exact (a3 rfl).2.1
  case case12 => exact absurd hm (by decide)
  case case13 => exact h.elim
theorem rep_dp {k : Nat → Int} {c : Nat} {na ma : Nat → Nat → Int32} {e : Ast} {j lo hi : Nat} (h : Rep k c na ma e false (j : Int) 0 lo hi) (hx : isEx e = true) : (na 23 j).toInt = dpT k e := rep_dp' _ _ _ _ _ _ h rfl hx j rfl
/-- what settle begins with: y waits for x, by token tok -/
def SIn (k : Nat → Int) (c tok : Nat) (y x : Ast) (lo m1 l2 N ia j : Nat) (a rk tk p0 : Int32) (pf : Nat → Int32) (na ma : Nat → Nat → Int32) : Prop := OkT k c y lo m1 na ma ia ∧ OkT k c x l2 N na ma j ∧ m1 ≤ l2 ∧ (a.toInt = (ia : Int) ∧ p0.toInt = (j : Int) ∧ rk.toInt = rkO (k tok) ∧ tk.toInt = (tok : Int)) ∧ (tok < c ∧ 0 < rkO (k tok)) ∧ ((pf 13).toInt = (N : Int) ∧ N ≤ 100000 ∧ dpT k y ≤ 3000 ∧ dpT k x ≤ 3000)
def STL (k : Nat → Int) (c tok : Nat) (y x : Ast) (lo N : Nat) (pf : Nat → Int32) (na ma : Nat → Nat → Int32) (pf' : Nat → Int32) (na' ma' : Nat → Nat → Int32) (v : Int32) : Prop := ∃ N' i : Nat, v.toInt = (i : Int) ∧ (N ≤ N' ∧ N' ≤ N + 1) ∧ (pf' 13).toInt = (N' : Int) ∧ OkT k c (eBin tok y x) lo N' na' ma' i ∧ AgF na ma na' ma' 0 lo (-1) ∧ ∀ f : Nat, ¬ f = 13 → pf' f = pf f
section RH
variable {k : Nat → Int} {ta wa : Nat → Nat → Int32} {c tok lo m1 l2 N ia j : Nat} {y x : Ast} {a rk tk p0 v : Int32} {pf pf' : Nat → Int32} {na ma na' ma' : Nat → Nat → Int32}
theorem dp_binr : dpT k (eBin tok y x) = max (if rkT k y = rkO (k tok) then dpT k y else dpT k y + 1) (dpT k x + 1) := by first | rfl | simp [dpT, eBin]
theorem set_new (hI : SIn k c tok y x lo m1 l2 N ia j a rk tk p0 pf na ma) (hn : ¬ rkT k y = rkO (k tok)) {pf1 : Nat → Int32} {n1 q1 : Nat → Nat → Int32} {w z30 z31 z32 z33 z34 z35 z37 : Int32} (h9 : R_mp_make (7 : Int32) tk pf na ma pf1 n1 q1 w) (h11 : z31 = vu (vu n1 16 w.toNatClampNeg z30) 17 w.toNatClampNeg a 23 a.toNatClampNeg) (h12 : z32 = (1 : Int32) + z31) (h13 : z33 = vu (vu (vu n1 16 w.toNatClampNeg z30) 17 w.toNatClampNeg a) 23 w.toNatClampNeg z32 23 w.toNatClampNeg) (h14 : z34 = vu (vu (vu n1 16 w.toNatClampNeg z30) 17 w.toNatClampNeg a) 23 w.toNatClampNeg z32 23 p0.toNatClampNeg) (h15 : z35 = (1 : Int32) + z34) (h16 : R_mp_deeper z33 z35 z37) : STL k c tok y x lo N pf na ma pf1 (vu (vu (vu (vu (vu n1 16 w.toNatClampNeg z30) 17 w.toNatClampNeg a) 23 w.toNatClampNeg z32) 23 w.toNatClampNeg z37) 21 a.toNatClampNeg p0) (vu (vu (vu (vu q1 22 w.toNatClampNeg rk) 18 w.toNatClampNeg a) 18 w.toNatClampNeg p0) 20 p0.toNatClampNeg tk) w := by
  obtain ⟨⟨y1, y2, y3, y4, y5⟩, ⟨x1, x2, x3, x4, x5⟩, hml, ⟨ea, ej, er, et⟩, ⟨htc, hr0⟩, hN, hNb, hdy, hdx⟩ := hI
  obtain ⟨m1', m2, m3, m4⟩ := make_r hN (by omega) (show (vp_nar .byte (7 : Int32).toInt8.toInt32).toInt = 7 from rfl) et h9
  have d0 := dpT_nn k y
  have d1 := dpT_nn k x
  rw [cn_of m1', cn_of ea] at h11
  rw [cn_of m1'] at h13
  rw [cn_of m1', cn_of ej] at h14
  rw [vu_p (by omega), vu_p (by omega), (m4.2 23 ia (by omega)).1] at h11
  rw [vu_s] at h13
  rw [vu_p (by omega), vu_p (by omega), vu_p (by omega), (m4.2 23 j (by omega)).1] at h14
  have z1 := ti_add h12 (show (1 : Int32).toInt = 1 from rfl) (show z31.toInt = dpT k y by rw [h11]; exact y4) (by omega) (by omega)
  have z2 := ti_add h15 (show (1 : Int32).toInt = 1 from rfl) (show z34.toInt = dpT k x by rw [h14]; exact x4) (by omega) (by omega)
  have z3 := deeper_r h16
  rw [h13] at z3
  have dd : dpT k (eBin tok y x) = max (dpT k y + 1) (dpT k x + 1) := by rw [dp_binr, if_neg hn]
  rw [cn_of m1', cn_of ea, cn_of ej]
  generalize hA : (vu (vu (vu (vu (vu n1 16 N z30) 17 N a) 23 N z32) 23 N z37) 21 ia p0) = nb
  generalize hB : (vu (vu (vu (vu q1 22 N rk) 18 N a) 18 N p0) 20 j tk) = mb
  have nA : ∀ f i : Nat, ¬ i = N → ¬ (f = 21 ∧ i = ia) → nb f i = na f i := fun f i hi hf => by
    rw [← hA, vu_p hf, vu_p (fun q => hi q.2), vu_p (fun q => hi q.2), vu_p (fun q => hi q.2), vu_p (fun q => hi q.2)]
    exact (m4.2 f i hi).1
  have nB : ∀ f i : Nat, ¬ i = N → ¬ (f = 20 ∧ i = j) → mb f i = ma f i := fun f i hi hf => by
    rw [← hB, vu_p hf, vu_p (fun q => hi q.2), vu_p (fun q => hi q.2), vu_p (fun q => hi q.2)]
    exact (m4.2 f i hi).2
  have a14 : (nb 14 N).toInt = 7 := by rw [← hA, vu_p (by omega), vu_p (by omega), vu_p (by omega), vu_p (by omega), vu_p (by omega)]; exact m4.1.1.1
  have a17 : (nb 17 N).toInt = (ia : Int) := by rw [← hA, vu_p (by omega), vu_p (by omega), vu_p (by omega), vu_s]; exact ea
  have a21 : (nb 21 N).toInt = -1 := by rw [← hA, vu_p (by omega), vu_p (by omega), vu_p (by omega), vu_p (by omega), vu_p (by omega)]; exact m4.1.2.2.1
  have a21' : (nb 21 ia).toInt = (j : Int) := by rw [← hA, vu_s]; exact ej
  have a23 : (nb 23 N).toInt = dpT k (eBin tok y x) := by rw [← hA, vu_p (by omega), vu_s]; omega
  have b18 : (mb 18 N).toInt = (j : Int) := by rw [← hB, vu_p (by omega), vu_s]; exact ej
  have b20 : (mb 20 N).toInt = -1 := by rw [← hB, vu_p (by omega), vu_p (by omega), vu_p (by omega), vu_p (by omega)]; exact m4.1.2.2.2.2.2.2.1
  have b20' : (mb 20 j).toInt = (tok : Int) := by rw [← hB, vu_s]; exact et
  have b22 : (mb 22 N).toInt = rkO (k tok) := by rw [← hB, vu_p (by omega), vu_p (by omega), vu_p (by omega), vu_s]; exact er
  clear hA hB h11 h13 h14
  have ag : ∀ {l h : Nat} {r : Int}, h ≤ N → ((ia : Int) = r ∨ ia < l ∨ h ≤ ia) → ((j : Int) = r ∨ j < l ∨ h ≤ j) → AgF na ma nb mb l h r := fun {l h r} hh ha hj i q1 q2 => by
    refine ⟨nA 14 i (by omega) (by omega), nA 15 i (by omega) (by omega), nA 17 i (by omega) (by omega), nB 18 i (by omega) (by omega), nB 19 i (by omega) (by omega), nB 22 i (by omega) (by omega), nA 23 i (by omega) (by omega), fun q => ⟨nA 21 i (by omega) (by omega), nB 20 i (by omega) (by omega)⟩⟩
  refine ⟨N + 1, N, m1', by omega, by rw [m2]; rfl, ⟨rfl, ⟨N, j, m1, l2, N, rfl, fun q => absurd q (by decide), fun _ => ⟨b18, a23, ?_⟩, by omega, by omega, Or.inr (Nat.le_refl _), by omega, ⟨y1, x1, htc, hr0⟩, a14, b22, b20', ?_, Or.inr ⟨hn, by omega, ia, y5, a17, ?_, a21'⟩⟩, ⟨a21, b20⟩, a23, by omega, by omega⟩, ?_, fun f hf => m3 f hf⟩
  · rw [nA 21 j (by omega) (by omega)]; exact x3.1
  · exact rep_kp _ _ _ _ _ _ x2 (fun _ => by rw [rtE_x x1]; exact ag (Nat.le_refl _) (Or.inr (Or.inl (by omega))) (Or.inl rfl)) (fun z => absurd z (by decide))
  · exact rep_kp _ _ _ _ _ _ y2 (fun _ => by rw [rtE_x y1]; exact ag (by omega) (Or.inl rfl) (Or.inr (Or.inr (by omega)))) (fun z => absurd z (by decide))
  · exact ag (by omega) (Or.inr (Or.inr (by omega))) (Or.inr (Or.inr (by omega)))
theorem set_go (hI : SIn k c tok y x lo m1 l2 N ia j a rk tk p0 pf na ma) (hn : rkT k y = rkO (k tok)) {u p : Nat} {w z87 z94 z95 z96 z98 z103 : Int32} (hu : w.toInt = (u : Int)) (hup : lo ≤ u ∧ u < m1 ∧ lo ≤ p ∧ p < m1 ∧ ¬ p = u) (hR : Rep k c na ma y true (u : Int) (p : Int) lo m1) (k14 : (na 14 u).toInt = 7) (k22 : (ma 22 u).toInt = rkO (k tok)) (k23 : (na 23 u).toInt = dpT k y) (kr : (na 21 u).toInt = -1 ∧ (ma 20 u).toInt = -1) (k18 : (ma 18 u).toInt = (p : Int)) (h12 : z94 = vu na 16 w.toNatClampNeg z87 23 w.toNatClampNeg) (h13 : z95 = vu na 16 w.toNatClampNeg z87 23 p0.toNatClampNeg) (h14 : z96 = (1 : Int32) + z95) (h15 : R_mp_deeper z94 z96 z98) (h16 : z103 = ma 18 w.toNatClampNeg) : STL k c tok y x lo N pf na ma pf (vu (vu (vu na 16 w.toNatClampNeg z87) 23 w.toNatClampNeg z98) 21 z103.toNatClampNeg p0) (vu (vu ma 18 w.toNatClampNeg p0) 20 p0.toNatClampNeg tk) w := by
  obtain ⟨⟨y1, y2, y3, y4, y5⟩, ⟨x1, x2, x3, x4, x5⟩, hml, ⟨ea, ej, er, et⟩, ⟨htc, hr0⟩, hN, hNb, hdy, hdx⟩ := hI
  have d0 := dpT_nn k y
  have d1 := dpT_nn k x
  rw [cn_of hu, vu_p (by omega)] at h12
  rw [cn_of hu, cn_of ej, vu_p (by omega)] at h13
  rw [cn_of hu] at h16
  have e103 : z103.toInt = (p : Int) := by rw [h16]; exact k18
  have z2 := ti_add h14 (show (1 : Int32).toInt = 1 from rfl) (show z95.toInt = dpT k x by rw [h13]; exact x4) (by omega) (by omega)
  have z3 := deeper_r h15
  have z4 : z94.toInt = dpT k y := by rw [h12]; exact k23
  have dd : dpT k (eBin tok y x) = max (dpT k y) (dpT k x + 1) := by rw [dp_binr, if_pos hn]
  rw [cn_of hu, cn_of e103, cn_of ej]
  generalize hA : (vu (vu (vu na 16 u z87) 23 u z98) 21 p p0) = nb
  generalize hB : (vu (vu ma 18 u p0) 20 j tk) = mb
  have nA : ∀ f i : Nat, ¬ f = 16 → ¬ (f = 23 ∧ i = u) → ¬ (f = 21 ∧ i = p) → nb f i = na f i := fun f i h1 h2 h3 => by
    rw [← hA, vu_p h3, vu_p h2, vu_p (fun q => h1 q.1)]
  have nB : ∀ f i : Nat, ¬ (f = 18 ∧ i = u) → ¬ (f = 20 ∧ i = j) → mb f i = ma f i := fun f i h1 h2 => by
    rw [← hB, vu_p h2, vu_p h1]
  have a21' : (nb 21 p).toInt = (j : Int) := by rw [← hA, vu_s]; exact ej
  have a23 : (nb 23 u).toInt = dpT k (eBin tok y x) := by rw [← hA, vu_p (by omega), vu_s]; omega
  have b18 : (mb 18 u).toInt = (j : Int) := by rw [← hB, vu_p (by omega), vu_s]; exact ej
  have b20' : (mb 20 j).toInt = (tok : Int) := by rw [← hB, vu_s]; exact et
  clear hA hB h12 h13 h16
  refine ⟨N, u, hu, by omega, hN, ⟨rfl, ⟨u, j, m1, l2, N, rfl, fun q => absurd q (by decide), fun _ => ⟨b18, a23, ?_⟩, by omega, by omega, Or.inl (by omega), by omega, ⟨y1, x1, htc, hr0⟩, ?_, ?_, b20', ?_, Or.inl ⟨hn, by omega, p, by omega, ?_, a21'⟩⟩, ⟨?_, ?_⟩, a23, by omega, by omega⟩, ?_, fun f _ => rfl⟩
  · rw [nA 21 j (by decide) (by omega) (by omega)]; exact x3.1
  · rw [nA 14 u (by decide) (by omega) (by omega)]; exact k14
  · rw [nB 22 u (by omega) (by omega)]; exact k22
  · refine rep_kp _ _ _ _ _ _ x2 (fun _ => ?_) (fun z => absurd z (by decide))
    rw [rtE_x x1]
    exact fun i q1 q2 => ⟨nA 14 i (by decide) (by omega) (by omega), nA 15 i (by decide) (by omega) (by omega), nA 17 i (by decide) (by omega) (by omega), nB 18 i (by omega) (by omega), nB 19 i (by omega) (by omega), nB 22 i (by omega) (by omega), nA 23 i (by decide) (by omega) (by omega), fun q => ⟨nA 21 i (by decide) (by omega) (by omega), nB 20 i (by omega) (by omega)⟩⟩
  · refine rep_kp _ _ _ _ _ _ hR (fun z => absurd z (by decide)) (fun _ i q1 q2 => ?_)
    exact ⟨nA 14 i (by decide) (by omega) (by omega), nA 15 i (by decide) (by omega) (by omega), nA 17 i (by decide) (by omega) (by omega), nB 19 i (by omega) (by omega), nB 22 i (by omega) (by omega), fun q => ⟨nB 18 i (by omega) (by omega), nA 23 i (by decide) (by omega) (by omega), nB 20 i (by omega) (by omega), fun q' => nA 21 i (by decide) (by omega) (by omega)⟩⟩
  · rw [nA 21 u (by decide) (by omega) (by omega)]; exact kr.1
  · rw [nB 20 u (by omega) (by omega)]; exact kr.2
  · exact fun i q1 q2 => ⟨nA 14 i (by decide) (by omega) (by omega), nA 15 i (by decide) (by omega) (by omega), nA 17 i (by decide) (by omega) (by omega), nB 18 i (by omega) (by omega), nB 19 i (by omega) (by omega), nB 22 i (by omega) (by omega), nA 23 i (by decide) (by omega) (by omega), fun q => ⟨nA 21 i (by decide) (by omega) (by omega), nB 20 i (by omega) (by omega)⟩⟩
theorem set_43 (hk : ∀ i : Nat, i < c → rkd ta i = k i) (hPl : RPl ta c) (hI : SIn k c tok y x lo m1 l2 N ia j a rk tk p0 pf na ma) : ∀ (d hi n i : Nat) (e : Ast) (x4 : Int32), hi ≤ d → E_mp_settle ta wa a rk tk p0 pf' na' ma' v na ma n 43 [x4] [] [] [] [] pf na ma → x4.toInt = (i : Int) → OkT k c e lo hi na ma i → hi ≤ m1 → rkT k e = rkT k y → dpT k e = dpT k y → (∀ u p : Nat, Rep k c na ma e true (u : Int) (p : Int) lo hi → Rep k c na ma y true (u : Int) (p : Int) lo m1) → STL k c tok y x lo N pf na ma pf' na' ma' v := by
  have er := hI.2.2.2.1.2.2.1
  have hr0 := hI.2.2.2.2.1.2
  intro d
  induction d with
  | zero =>
    intro hi n i e x4 hd h hx4 ho
    have := ho.2.2.2.2
    exfalso; omega
  | succ d ih =>
    intro hi n i e x4 hd h hx4 ho hm hrk hdp hup
    obtain ⟨o1, o2, o3, o4, o5⟩ := ho
    obtain ⟨i', ei, hi', nk⟩ := rep_kind _ _ _ _ _ _ o2 rfl o1
    have ei' : i' = i := by omega
    rw [ei'] at nk
    have ci := cn_of hx4
    rcases iv_mp_settle_43 h with ⟨n, z1, h1, (⟨h2, z4, h3, (⟨h4, z7, h5, z8, h6, h7, z11, h8, pf15, na16, ma17, v19, h9, z30, h10, z31, h11, z32, h12, z33, h13, z34, h14, z35, h15, v37, h16, z42, h17, z43, h18, f0, e1, e2, ev⟩ | ⟨h4, z44, h5, (⟨h6, z47, h7, z48, h8, h9, z51, h10, h11, z54, h12, pf58, na59, ma60, v62, h13, z73, h14, z74, h15, z75, h16, z76, h17, z77, h18, z78, h19, v80, h20, z85, h21, z86, h22, f0, e1, e2, ev⟩ | ⟨h6, z87, h7, z88, h8, h9, z91, h10, h11, z94, h12, z95, h13, z96, h14, v98, h15, z103, h16, z104, h17, f0, e1, e2, ev⟩)⟩)⟩ | ⟨h2, z105, h3, v107, h4, (⟨h5, z113, h6, (⟨h7, z116, h8, z117, h9, h10, z120, h11, pf124, na125, ma126, v128, h12, z139, h13, z140, h14, z141, h15, z142, h16, z143, h17, z144, h18, v146, h19, z151, h20, z152, h21, f0, e1, e2, ev⟩ | ⟨h7, z153, h8, (⟨h9, z156, h10, z157, h11, h12, z160, h13, h14, z163, h15, pf167, na168, ma169, v171, h16, z182, h17, z183, h18, z184, h19, z185, h20, z186, h21, z187, h22, v189, h23, z194, h24, z195, h25, f0, e1, e2, ev⟩ | ⟨h9, z196, h10, z197, h11, h12, z200, h13, h14, z203, h15, z204, h16, z205, h17, v207, h18, z212, h19, z213, h20, f0, e1, e2, ev⟩)⟩)⟩ | ⟨h5, z214, h6, hE⟩)⟩)⟩
    · rw [ci] at h1 h3
      rw [h1] at h2
      rw [h3] at h4
      have hn : ¬ rkT k y = rkO (k tok) := by
        rcases nk with ⟨s, j', e', nk1, nk2, -⟩ | ⟨nk1, -⟩ | ⟨nk1, -⟩
        · exact absurd nk2 h2
        · exact absurd nk1 h4
        · omega
      rw [f0, e1, e2, ev]
      exact set_new hI hn h9 h11 h12 h13 h14 h15 h16
    · rw [ci] at h1 h3 h5
      rw [h1] at h2
      rw [h5] at h6
      have hn : ¬ rkT k y = rkO (k tok) := by
        rcases nk with ⟨s, j', e', nk1, nk2, -⟩ | ⟨nk1, nk2, -⟩ | ⟨nk1, -⟩
        · exact absurd nk2 h2
        · omega
        · omega
      rw [f0, e1, e2, ev]
      exact set_new hI hn h13 h15 h16 h17 h18 h19 h20
    · rw [ci] at h1 h3 h5
      rw [h1] at h2
      rw [h3] at h4
      rw [h5] at h6
      rcases nk with ⟨s, j', e', nk1, nk2, -⟩ | ⟨nk1, nk2, nk3, p, nk4, nk5, nk6⟩ | ⟨nk1, nk2, nk3⟩
      · exact absurd nk2 h2
      · rw [f0, e1, e2, ev]
        exact set_go hI (by omega) hx4 (by omega) (hup _ _ nk6) nk1 (by omega) (by omega) o3 nk4 h12 h13 h14 h15 h16
      · exact absurd h4 nk3
    · rw [ci] at h1 h3 h6
      rw [h1] at h2
      rw [h6] at h7
      rcases nk with ⟨s, j', e', nk1, nk2, nk3, nk4, -⟩ | ⟨nk1, -⟩ | ⟨nk1, nk2, nk3⟩
      · have g := isNothing_r hPl (show z105.toInt = (s : Int) by rw [h3]; exact nk3) nk4 h4
        rw [hk s nk4] at g
        have n43 : ¬ k s = 43 := fun q => by have := g.2.mpr q; omega
        have hn : ¬ rkT k y = rkO (k tok) := by
          have z : rkT k e = 0 := by
            rw [nk1]
            have q : rkT k (.mul (.arg s) e') = if k s = 43 then rkT k e' else 0 := by first | rfl | simp [rkT]
            rw [q, if_neg n43]
          omega
        rw [f0, e1, e2, ev]
        exact set_new hI hn h12 h14 h15 h16 h17 h18 h19
      · exact absurd nk1 h7
      · exact absurd h2 nk2
    · rw [ci] at h1 h6
      rw [h1] at h2
      rw [h6] at h7
      exfalso; omega
    · rw [ci] at h1 h6
      rw [h1] at h2
      rw [h6] at h7
      exfalso; omega
    · rw [ci] at h1 h3 h6
      rw [h1] at h2
      rcases nk with ⟨s, j', e', nk1, nk2, nk3, nk4, nk5, nk6, nk7⟩ | ⟨nk1, -⟩ | ⟨nk1, nk2, nk3⟩
      · have g := isNothing_r hPl (show z105.toInt = (s : Int) by rw [h3]; exact nk3) nk4 h4
        rw [hk s nk4] at g
        have y43 : k s = 43 := g.2.mp (by omega)
        subst nk1
        have qr : rkT k (.mul (.arg s) e') = rkT k e' := by
          have q : rkT k (.mul (.arg s) e') = if k s = 43 then rkT k e' else 0 := by first | rfl | simp [rkT]
          rw [q, if_pos y43]
        have qd : dpT k (.mul (.arg s) e') = dpT k e' := by
          rw [dp_prer, if_pos y43]
        have dj : (na 23 j').toInt = dpT k e' := rep_dp nk7 nk5
        exact ih i n j' e' z214 (by omega) hE (by rw [h6]; exact nk6.1) ⟨nk5, nk7, ⟨nk6.2.2.2.1, nk6.2.2.2.2⟩, dj, nk6.2.1, nk6.2.2.1⟩ (by omega) (by omega) (by omega) (fun u p q => hup u p ⟨⟨y43, nk4⟩, rep_wt _ _ _ _ _ _ q rfl hi (by omega)⟩)
      · exfalso; omega
      · exact absurd h2 nk2
theorem stl_ok (hk : ∀ i : Nat, i < c → rkd ta i = k i) (hPl : RPl ta c) (hI : SIn k c tok y x lo m1 l2 N ia j a rk tk p0 pf na ma) {W o : Int} (hW : (pf 26).toInt = W) (ho : (pf 12).toInt = o) (hb : 1 ≤ W ∧ W ≤ 100000 ∧ 1 ≤ o ∧ o ≤ 100000) (h : R_mp_settle ta wa a rk tk p0 pf na ma pf' na' ma' v) : ∃ pf0 : Nat → Int32, STL k c tok y x lo N pf0 na ma pf' na' ma' v ∧ (pf0 26).toInt = W - 1 ∧ (pf0 12).toInt = o - 1 ∧ ∀ f : Nat, ¬ f = 12 → ¬ f = 26 → pf0 f = pf f := by
  obtain ⟨n, h⟩ := h
  obtain ⟨n, z216, h1, z218, h2, z219, h3, z220, h4, hE⟩ := iv_mp_settle_0 h
  have z1 := ti_sub h1 hW (show (1 : Int32).toInt = 1 from rfl) (by omega) (by omega)
  have z2 := ti_sub h2 ho (show (1 : Int32).toInt = 1 from rfl) (by omega) (by omega)
  have f13 : (upd (upd pf 12 z218) 26 z216) 13 = pf 13 := by rw [pk_un (by decide), pk_un (by decide)]
  obtain ⟨i1, i2, i3, i4, i5, i6⟩ := hI
  refine ⟨upd (upd pf 12 z218) 26 z216, ?_, by rw [pk_us]; exact z1, by rw [pk_un (by decide), pk_us]; exact z2, fun f g1 g2 => by rw [pk_un g2, pk_un g1]⟩
  exact set_43 hk hPl ⟨i1, i2, i3, i4, i5, by rw [f13]; exact i6⟩ m1 m1 n ia y a (Nat.le_refl _) hE i4.1 i1 (Nat.le_refl _) rfl rfl (fun u p q => q)
end RH
