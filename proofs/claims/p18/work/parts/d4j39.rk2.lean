/-! THE REFERENCE's checker: reckon of every shape (laid by genr2.py) -/
section RG2
variable {k : Nat → Int} {vl : Nat → Int32} {c : Nat} {ta ca na ma : Nat → Nat → Int32} {L : Nms} {F : Int32 → Option Fnc}
/-- the numbers of the text -/
def VlN (ta : Nat → Nat → Int32) (k : Nat → Int) (vl : Nat → Int32) (c : Nat) : Prop := ∀ t : Nat, t < c → k t = 17 → ta 10 t = vl t
theorem ops_o (e : Ast) : isCh k e → ∃ (e1 : Ast) (r : List (Option Nat × Ast)), opsT k e = (none, e1) :: r ∧ ∀ oe ∈ r, ∃ t : Nat, oe.1 = some t ∧ rkO (k t) = rkT k e := by
  fun_induction opsT k e
  case case1 =>
    rename_i t e ih
    intro h
    obtain ⟨e1, r, h1, h2⟩ := ih h.2
    have h43 : k t = 43 := h.1
    have y : rkT k (.mul (.arg t) e) = rkT k e := by
      have y' : rkT k (.mul (.arg t) e) = if k t = 43 then rkT k e else 0 := by first | rfl | simp [rkT]
      rw [y', if_pos h43]
    exact ⟨e1, r, h1, by rw [y]; exact h2⟩
  case case2 =>
    rename_i t x y ih
    intro h
    have h' : rkT k x = rkO (k t) → isCh k x := h
    show ∃ (e1 : Ast) (r : List (Option Nat × Ast)), (if rkT k x = rkO (k t) then opsT k x else [(none, x)]) ++ [(some t, y)] = (none, e1) :: r ∧ ∀ oe ∈ r, ∃ t' : Nat, oe.1 = some t' ∧ rkO (k t') = rkO (k t)
    by_cases q : rkT k x = rkO (k t)
    · obtain ⟨e1, r, h1, h2⟩ := ih (h' q)
      rw [if_pos q, h1]
      refine ⟨e1, r ++ [(some t, y)], rfl, fun oe hm => ?_⟩
      rcases List.mem_append.mp hm with w | w
      · rw [← q]; exact h2 oe w
      · rw [List.mem_singleton] at w
        exact ⟨t, by rw [w], rfl⟩
    · rw [if_neg q]
      refine ⟨x, [(some t, y)], rfl, fun oe w => ?_⟩
      rw [List.mem_singleton] at w
      exact ⟨t, by rw [w], rfl⟩
  case case3 =>
    rename_i e h1 h2
    intro h
    exfalso
    unfold isCh at h
    split at h
    · exact h1 _ _ rfl
    · exact h2 _ _ _ rfl
    · exact h
theorem RkM.mp {s : Int} {w w' : Int32} {cf cf' : Nat → Int32} {v v' : Int32} (h : RkM (s, w) cf cf' v) (g : v = w → v' = w') : RkM (s, w') cf cf' v' := ⟨h.1, h.2.1, fun z => ⟨fun y => ⟨((h.2.2 z).1 y).1, g ((h.2.2 z).1 y).2⟩, (h.2.2 z).2⟩⟩
variable {RL : Trk} {p0 v : Int32} {cf cf' : Nat → Int32} {t lo hi : Nat} {a : Atr} {e x y z : Ast}
theorem rk_num (hT : RTk ta c) (hk : ∀ i : Nat, i < c → rkd ta i = k i) (hs : SmN ta k vl c) (hP : PrL ta k c) (hV : VlN ta k vl c) (HR : HRk k vl c L F ta na ma ca RL) (hR : Rep k c na ma (.arg t) false p0.toInt 0 lo hi) (hE : EnvR k vl c cf ca L) (ha : att k vl (lkp L) F (.arg t) [] 0 = some a) (h3a : ¬ a.2.1 = 3) {m : Nat} (h : E_mp_reckon RL ta na ma ca p0 cf' v m 0 [] [] [] [] [] cf) : RkM (a.2.1, a.2.2.1) cf cf' v := by
  obtain ⟨i, hp, h2', h3', h4', hq⟩ := hR
  have h14 := h3'.1
  have q := att_num.symm.trans ha
  injection q with q
  rcases iv_mp_reckon_0 h with ⟨m', z68, h1, (⟨h2, z70, h3, z71, h4, cf73, v75, h5, z83, h6, z84, h7, hQ⟩ | ⟨h2, z86, h3, z87, h4, e0, ev⟩ | ⟨h2, z88, h3, v90, h4, z96, h5, e0, ev⟩ | ⟨h2, z97, h3, z98, h4, cf100, v102, h5, z110, h6, z111, h7, hQ⟩ | ⟨h2, z112, h3, cf114, v116, h4, z124, h5, z125, h6, z126, h7, (⟨h8, (⟨h9, (⟨h10, e0, ev⟩ | ⟨h10, z133, h11, e0, ev⟩)⟩ | ⟨h9, (⟨h10, e0, ev⟩ | ⟨h10, e0, ev⟩)⟩)⟩ | ⟨h8, z136, h9, e0, ev⟩)⟩ | ⟨h2, z137, h3, cf139, v141, h4, (⟨h5, z151, h6, cf153, v155, h7, e0, ev⟩ | ⟨h5, z163, h6, cf165, v167, h7, e0, ev⟩)⟩)⟩
  · rw [cn_of hp] at h1
    rw [h1] at h2
    exfalso; omega
  · rw [cn_of hp] at h3
    have gt : z86.toNatClampNeg = t := cn_of (by rw [h3]; exact h3'.2)
    rw [gt] at h4
    rw [e0, ev, h4, hV t hq.1 hq.2, ← q]
    exact ⟨fun _ _ => rfl, id, fun w => ⟨fun _ => ⟨w, rfl⟩, fun y => absurd y (show ¬ (0 : Int) = 2 by decide)⟩⟩
  · rw [cn_of hp] at h1
    rw [h1] at h2
    exfalso; omega
  · rw [cn_of hp] at h1
    rw [h1] at h2
    exfalso; omega
  · rw [cn_of hp] at h1
    rw [h1] at h2
    exfalso; omega
  · rw [cn_of hp] at h1
    rw [h1] at h2
    exfalso; omega
  · rw [cn_of hp] at h1
    rw [h1] at h2
    exfalso; omega
  · rw [cn_of hp] at h1
    rw [h1] at h2
    exfalso; omega
  · rw [cn_of hp] at h1
    rw [h1] at h2
    exfalso; omega
  · rw [cn_of hp] at h1
    rw [h1] at h2
    exfalso; omega
  · rw [cn_of hp] at h1
    rw [h1] at h2
    exfalso; omega
theorem rk_nam (hT : RTk ta c) (hk : ∀ i : Nat, i < c → rkd ta i = k i) (hs : SmN ta k vl c) (hP : PrL ta k c) (hV : VlN ta k vl c) (HR : HRk k vl c L F ta na ma ca RL) (hR : Rep k c na ma (.index t) false p0.toInt 0 lo hi) (hE : EnvR k vl c cf ca L) (ha : att k vl (lkp L) F (.index t) [] 0 = some a) (h3a : ¬ a.2.1 = 3) {m : Nat} (h : E_mp_reckon RL ta na ma ca p0 cf' v m 0 [] [] [] [] [] cf) : RkM (a.2.1, a.2.2.1) cf cf' v := by
  obtain ⟨i, hp, h2', h3', h4', hq⟩ := hR
  have h14 := h3'.1
  obtain ⟨g, g1, g2⟩ := bnd (att_name.symm.trans ha)
  injection g2 with g2
  have g0 : g.1 = 0 := by
    by_cases w : g.1 = 0
    · exact w
    · exfalso
      apply h3a
      rw [← g2]
      unfold aNam
      rw [if_neg w]
  have ga : (a.2.1, a.2.2.1) = ((0 : Int), g.2) := by
    rw [← g2]
    unfold aNam
    rw [if_pos g0]
  rcases iv_mp_reckon_0 h with ⟨m', z68, h1, (⟨h2, z70, h3, z71, h4, cf73, v75, h5, z83, h6, z84, h7, hQ⟩ | ⟨h2, z86, h3, z87, h4, e0, ev⟩ | ⟨h2, z88, h3, v90, h4, z96, h5, e0, ev⟩ | ⟨h2, z97, h3, z98, h4, cf100, v102, h5, z110, h6, z111, h7, hQ⟩ | ⟨h2, z112, h3, cf114, v116, h4, z124, h5, z125, h6, z126, h7, (⟨h8, (⟨h9, (⟨h10, e0, ev⟩ | ⟨h10, z133, h11, e0, ev⟩)⟩ | ⟨h9, (⟨h10, e0, ev⟩ | ⟨h10, e0, ev⟩)⟩)⟩ | ⟨h8, z136, h9, e0, ev⟩)⟩ | ⟨h2, z137, h3, cf139, v141, h4, (⟨h5, z151, h6, cf153, v155, h7, e0, ev⟩ | ⟨h5, z163, h6, cf165, v167, h7, e0, ev⟩)⟩)⟩
  · rw [cn_of hp] at h1
    rw [h1] at h2
    exfalso; omega
  · rw [cn_of hp] at h1
    rw [h1] at h2
    exfalso; omega
  · rw [cn_of hp] at h3
    rcases find_0 hs hE (show z88.toInt = (t : Int) by rw [h3]; exact h3'.2) hq.1 hq.2 h4 with ⟨q1, q2⟩ | ⟨j, e, q1, q2, q3, q4⟩
    · rw [g1] at q2; exact absurd q2 (by simp)
    · rw [g1] at q2
      injection q2 with q2
      rw [cn_of q1] at h5
      have e4 : (ca 35 j).toInt = 4 := by
        have w := ent_f (ca := ca) (j := j)
        rw [q3, ← q2, g0] at w
        split at w
        · assumption
        · omega
      have e6 : g.2 = ca 36 j := by
        rw [q2, ← q3]
        unfold entR
        rw [if_pos e4]
      rw [e0, ev, h5, ga, e6]
      exact ⟨fun _ _ => rfl, id, fun w => ⟨fun _ => ⟨w, rfl⟩, fun y => absurd y (show ¬ (0 : Int) = 2 by decide)⟩⟩
  · rw [cn_of hp] at h1
    rw [h1] at h2
    exfalso; omega
  · rw [cn_of hp] at h1
    rw [h1] at h2
    exfalso; omega
  · rw [cn_of hp] at h1
    rw [h1] at h2
    exfalso; omega
  · rw [cn_of hp] at h1
    rw [h1] at h2
    exfalso; omega
  · rw [cn_of hp] at h1
    rw [h1] at h2
    exfalso; omega
  · rw [cn_of hp] at h1
    rw [h1] at h2
    exfalso; omega
  · rw [cn_of hp] at h1
    rw [h1] at h2
    exfalso; omega
  · rw [cn_of hp] at h1
    rw [h1] at h2
    exfalso; omega
theorem rk_prer (hT : RTk ta c) (hk : ∀ i : Nat, i < c → rkd ta i = k i) (hs : SmN ta k vl c) (hP : PrL ta k c) (hV : VlN ta k vl c) (HR : HRk k vl c L F ta na ma ca RL) (hR : Rep k c na ma (.mul (.arg t) e) false p0.toInt 0 lo hi) (hE : EnvR k vl c cf ca L) (ha : att k vl (lkp L) F (.mul (.arg t) e) [] 0 = some a) (h3a : ¬ a.2.1 = 3) {m : Nat} (h : E_mp_reckon RL ta na ma ca p0 cf' v m 0 [] [] [] [] [] cf) : RkM (a.2.1, a.2.2.1) cf cf' v := by
  obtain ⟨i, j, hp, h2', h3', h4', hq, h6', h5'⟩ := hR
  have h14 := h3'.1
  obtain ⟨b', b1, b2⟩ := bnd (att_pre.symm.trans ha)
  have np : ¬ (k t = 138 ∨ k t = 139) := fun w => by
    unfold aPre at b2
    rw [if_pos w] at b2
    obtain ⟨y, y1, y2⟩ := bnd b2
    injection y2 with y2
    exact h3a (by rw [← y2])
  have pr2 := (hP t hq.1 hq.2.1).2 np
  unfold aPre at b2
  rw [if_neg np] at b2
  obtain ⟨b'', y1, y2⟩ := bnd b2
  injection y2 with y2
  have yb := num_f y1
  have y : (a.2.1, a.2.2.1) = (b'.2.1, if k t = 43 then b'.2.2.1 else rku (k t) b'.2.2.1) := by rw [← y2, yb]
  have n3 : ¬ b'.2.1 = 3 := fun w => h3a (by rw [← y2, yb]; exact w)
  clear b2
  rcases iv_mp_reckon_0 h with ⟨m', z68, h1, (⟨h2, z70, h3, z71, h4, cf73, v75, h5, z83, h6, z84, h7, hQ⟩ | ⟨h2, z86, h3, z87, h4, e0, ev⟩ | ⟨h2, z88, h3, v90, h4, z96, h5, e0, ev⟩ | ⟨h2, z97, h3, z98, h4, cf100, v102, h5, z110, h6, z111, h7, hQ⟩ | ⟨h2, z112, h3, cf114, v116, h4, z124, h5, z125, h6, z126, h7, (⟨h8, (⟨h9, (⟨h10, e0, ev⟩ | ⟨h10, z133, h11, e0, ev⟩)⟩ | ⟨h9, (⟨h10, e0, ev⟩ | ⟨h10, e0, ev⟩)⟩)⟩ | ⟨h8, z136, h9, e0, ev⟩)⟩ | ⟨h2, z137, h3, cf139, v141, h4, (⟨h5, z151, h6, cf153, v155, h7, e0, ev⟩ | ⟨h5, z163, h6, cf165, v167, h7, e0, ev⟩)⟩)⟩
  · rw [cn_of hp] at h1
    rw [h1] at h2
    exfalso; omega
  · rw [cn_of hp] at h1
    rw [h1] at h2
    exfalso; omega
  · rw [cn_of hp] at h1
    rw [h1] at h2
    exfalso; omega
  · rw [cn_of hp] at h1
    rw [h1] at h2
    exfalso; omega
  · rw [cn_of hp] at h3 h5
    have gt : z124.toNatClampNeg = t := cn_of (by rw [h5]; exact h3'.2)
    rw [gt] at h6
    rw [h6] at h7
    rw [← h7] at pr2
    have A := HR e z112 v116 lo i b' cf cf114 hq.2.2 (by rw [h3, h6'.1]; exact h5') hE b1 n3 h4
    rw [e0, ev]
    have hk0 : k t = 43 := by have := hq.2.1; unfold isPre at this; omega
    rw [y, if_pos hk0]; exact A.mp id
  · rw [cn_of hp] at h3 h5
    have gt : z124.toNatClampNeg = t := cn_of (by rw [h5]; exact h3'.2)
    rw [gt] at h6
    rw [h6] at h7
    rw [← h7] at pr2
    have A := HR e z112 v116 lo i b' cf cf114 hq.2.2 (by rw [h3, h6'.1]; exact h5') hE b1 n3 h4
    rw [e0, ev]
    have hk0 : k t = 126 := by omega
    rw [y, if_neg (by omega)]; exact A.mp (fun w => by rw [h11, w]; unfold rku; rw [if_neg (by omega), if_neg (by omega)])
  · rw [cn_of hp] at h3 h5
    have gt : z124.toNatClampNeg = t := cn_of (by rw [h5]; exact h3'.2)
    rw [gt] at h6
    rw [h6] at h7
    rw [← h7] at pr2
    have A := HR e z112 v116 lo i b' cf cf114 hq.2.2 (by rw [h3, h6'.1]; exact h5') hE b1 n3 h4
    rw [e0, ev]
    have hk0 : k t = 33 := by omega
    rw [y, if_neg (by omega)]; exact A.mp (fun w => by rw [w] at h10; unfold rku; rw [if_neg (by omega), if_pos hk0, if_neg h10])
  · rw [cn_of hp] at h3 h5
    have gt : z124.toNatClampNeg = t := cn_of (by rw [h5]; exact h3'.2)
    rw [gt] at h6
    rw [h6] at h7
    rw [← h7] at pr2
    have A := HR e z112 v116 lo i b' cf cf114 hq.2.2 (by rw [h3, h6'.1]; exact h5') hE b1 n3 h4
    rw [e0, ev]
    have hk0 : k t = 33 := by omega
    rw [y, if_neg (by omega)]; exact A.mp (fun w => by rw [w] at h10; unfold rku; rw [if_neg (by omega), if_pos hk0, if_pos h10])
  · rw [cn_of hp] at h3 h5
    have gt : z124.toNatClampNeg = t := cn_of (by rw [h5]; exact h3'.2)
    rw [gt] at h6
    rw [h6] at h7
    rw [← h7] at pr2
    have A := HR e z112 v116 lo i b' cf cf114 hq.2.2 (by rw [h3, h6'.1]; exact h5') hE b1 n3 h4
    rw [e0, ev]
    have hk0 : k t = 45 := by omega
    rw [y, if_neg (by omega)]; exact A.mp (fun w => by rw [h9, w]; unfold rku; rw [if_pos hk0])
  · rw [cn_of hp] at h1
    rw [h1] at h2
    exfalso; omega
  · rw [cn_of hp] at h1
    rw [h1] at h2
    exfalso; omega
theorem rk_cndr (hT : RTk ta c) (hk : ∀ i : Nat, i < c → rkd ta i = k i) (hs : SmN ta k vl c) (hP : PrL ta k c) (hV : VlN ta k vl c) (HR : HRk k vl c L F ta na ma ca RL) (hR : Rep k c na ma (.old (.elem x (.elem y z))) false p0.toInt 0 lo hi) (hE : EnvR k vl c cf ca L) (ha : att k vl (lkp L) F (.old (.elem x (.elem y z))) [] 0 = some a) (h3a : ¬ a.2.1 = 3) {m : Nat} (h : E_mp_reckon RL ta na ma ca p0 cf' v m 0 [] [] [] [] [] cf) : RkM (a.2.1, a.2.2.1) cf cf' v := by
  obtain ⟨i, m1, m2, hp, h2', h14, h4', hq, h5', h6', h7'⟩ := hR
  obtain ⟨c1, d1, f⟩ := bnd (att_cnd.symm.trans ha)
  obtain ⟨c2, d2, f⟩ := bnd f
  obtain ⟨c3, d3, f⟩ := bnd f
  injection f with f
  obtain ⟨e1, k1, l1⟩ := bnd d1
  obtain ⟨e2, k2, l2⟩ := bnd d2
  obtain ⟨e3, k3, l3⟩ := bnd d3
  have y1 := num_f l1
  have y2 := num_f l2
  have y3 := num_f l3
  have yy : a.2.1 = if e2.2.1 = 3 ∨ e3.2.1 = 3 then 3 else if e1.2.1 = 0 then (if e1.2.2.1.toInt = 0 then e3.2.1 else e2.2.1) else e1.2.1 := by rw [← f, y1, y2, y3]; rfl
  have yv : a.2.2.1 = if e1.2.2.1.toInt = 0 then e3.2.2.1 else e2.2.2.1 := by rw [← f, y1, y2, y3]; rfl
  have n23 : ¬ (e2.2.1 = 3 ∨ e3.2.1 = 3) := fun w => h3a (by rw [yy, if_pos w])
  rw [if_neg n23] at yy
  have n1 : ¬ e1.2.1 = 3 := fun w => h3a (by rw [yy, if_neg (by omega)]; exact w)
  have b1 : e1.2.1 = 0 ∨ e1.2.1 = 2 := by
    rcases kn_b _ _ _ _ _ _ h5' [] 0 e1 k1 with w | w | w
    · exact Or.inl w
    · exact Or.inr w
    · exact absurd w n1
  rcases iv_mp_reckon_0 h with ⟨m', z68, h1, (⟨h2, z70, h3, z71, h4, cf73, v75, h5, z83, h6, z84, h7, hQ⟩ | ⟨h2, z86, h3, z87, h4, e0, ev⟩ | ⟨h2, z88, h3, v90, h4, z96, h5, e0, ev⟩ | ⟨h2, z97, h3, z98, h4, cf100, v102, h5, z110, h6, z111, h7, hQ⟩ | ⟨h2, z112, h3, cf114, v116, h4, z124, h5, z125, h6, z126, h7, (⟨h8, (⟨h9, (⟨h10, e0, ev⟩ | ⟨h10, z133, h11, e0, ev⟩)⟩ | ⟨h9, (⟨h10, e0, ev⟩ | ⟨h10, e0, ev⟩)⟩)⟩ | ⟨h8, z136, h9, e0, ev⟩)⟩ | ⟨h2, z137, h3, cf139, v141, h4, (⟨h5, z151, h6, cf153, v155, h7, e0, ev⟩ | ⟨h5, z163, h6, cf165, v167, h7, e0, ev⟩)⟩)⟩
  · rw [cn_of hp] at h1
    rw [h1] at h2
    exfalso; omega
  · rw [cn_of hp] at h1
    rw [h1] at h2
    exfalso; omega
  · rw [cn_of hp] at h1
    rw [h1] at h2
    exfalso; omega
  · rw [cn_of hp] at h1
    rw [h1] at h2
    exfalso; omega
  · rw [cn_of hp] at h1
    rw [h1] at h2
    exfalso; omega
  · rw [cn_of hp] at h1
    rw [h1] at h2
    exfalso; omega
  · rw [cn_of hp] at h1
    rw [h1] at h2
    exfalso; omega
  · rw [cn_of hp] at h1
    rw [h1] at h2
    exfalso; omega
  · rw [cn_of hp] at h1
    rw [h1] at h2
    exfalso; omega
  · rw [cn_of hp] at h3 h6
    have A := HR x z137 v141 lo m1 e1 cf cf139 hq.1 (by rw [h3]; exact h5') hE k1 n1 h4
    have hE2 : EnvR k vl c cf139 ca L := hE.sm (A.1 33 (by decide))
    have B := HR z z151 v155 m2 i e3 cf139 cf153 hq.2.2 (by rw [h6]; exact h7') hE2 k3 (fun w => n23 (Or.inr w)) h7
    rw [e0, ev]
    refine ⟨fun i hi => (B.1 i hi).trans (A.1 i hi), fun w => B.2.1 (A.2.1 w), fun w => ?_⟩
    have A3 := A.2.2 w
    rcases b1 with w0 | w2
    · obtain ⟨s1, s2⟩ := A3.1 w0
      have s2' : v141 = e1.2.2.1 := s2
      rw [s2'] at h5
      rw [if_pos w0, if_pos h5] at yy
      rw [if_pos h5] at yv
      rw [yy, yv]
      exact B.2.2 s1
    · rw [if_neg (by omega)] at yy
      refine ⟨fun z => ?_, fun _ => B.2.1 (A3.2 w2)⟩
      have z' : a.2.1 = 0 := z
      exfalso; omega
  · rw [cn_of hp] at h3 h6
    have A := HR x z137 v141 lo m1 e1 cf cf139 hq.1 (by rw [h3]; exact h5') hE k1 n1 h4
    have hE2 : EnvR k vl c cf139 ca L := hE.sm (A.1 33 (by decide))
    have B := HR y z163 v167 m1 m2 e2 cf139 cf165 hq.2.1 (by rw [h6]; exact h6') hE2 k2 (fun w => n23 (Or.inl w)) h7
    rw [e0, ev]
    refine ⟨fun i hi => (B.1 i hi).trans (A.1 i hi), fun w => B.2.1 (A.2.1 w), fun w => ?_⟩
    have A3 := A.2.2 w
    rcases b1 with w0 | w2
    · obtain ⟨s1, s2⟩ := A3.1 w0
      have s2' : v141 = e1.2.2.1 := s2
      rw [s2'] at h5
      rw [if_pos w0, if_neg h5] at yy
      rw [if_neg h5] at yv
      rw [yy, yv]
      exact B.2.2 s1
    · rw [if_neg (by omega)] at yy
      refine ⟨fun z => ?_, fun _ => B.2.1 (A3.2 w2)⟩
      have z' : a.2.1 = 0 := z
      exfalso; omega
theorem rk_binr (hT : RTk ta c) (hk : ∀ i : Nat, i < c → rkd ta i = k i) (hs : SmN ta k vl c) (hP : PrL ta k c) (hV : VlN ta k vl c) (HR : HRk k vl c L F ta na ma ca RL) (hR : Rep k c na ma (.rem (.arg t) (.elem x y)) false p0.toInt 0 lo hi) (hE : EnvR k vl c cf ca L) (ha : att k vl (lkp L) F (.rem (.arg t) (.elem x y)) [] 0 = some a) (h3a : ¬ a.2.1 = 3) {m : Nat} (h : E_mp_reckon RL ta na ma ca p0 cf' v m 0 [] [] [] [] [] cf) : RkM (a.2.1, a.2.2.1) cf cf' v := by
  have ch := rep_c2 hR
  obtain ⟨i, hp, h2', h14, h22, hO⟩ := chain_r hR
  clear hR
  obtain ⟨l1, l2⟩ := att_kL _ ch a ha
  have ok := (att_ops (vl := vl) (G := lkp L) (F := F) _ ch).1
  rw [ha] at ok
  have ok' : okL k vl (lkp L) F (opsT k (.rem (.arg t) (.elem x y))) = some () := ok
  obtain ⟨e1, r, q1, q2⟩ := ops_o _ ch
  have q2' : ∀ oe ∈ r, ∃ t' : Nat, oe.1 = some t' ∧ rkO (k t') = rkO (k t) := q2
  rw [q1] at l2 ok' hO
  have h3b : ¬ (foK k vl (lkp L) F r (knE k vl (lkp L) F e1)).1 = 3 := by
    have w : (a.2.1, a.2.2.1) = foK k vl (lkp L) F r (knE k vl (lkp L) F e1) := l2
    rw [← w]; exact h3a
  obtain ⟨j, l, h', r1, r2, r3, r4, r5, r6⟩ := hO
  obtain ⟨b0, b1, b2⟩ := bnd (show (((att k vl (lkp L) F e1 [] 0).bind aNum).bind fun _ => okL k vl (lkp L) F r) = some () from ok')
  obtain ⟨b, g1, g2⟩ := bnd b1
  have kn := knE_s g1
  have n3 := foK_3 r _ h3b
  rw [kn] at n3 h3b
  have b02 : b.2.1 = 0 ∨ b.2.1 = 2 := by
    rcases kn_b _ _ _ _ _ _ r4 [] 0 b g1 with w | w | w
    · exact Or.inl w
    · exact Or.inr w
    · exact absurd w n3
  rcases iv_mp_reckon_0 h with ⟨m', z68, h1, (⟨h2, z70, h3, z71, h4, cf73, v75, h5, z83, h6, z84, h7, hQ⟩ | ⟨h2, z86, h3, z87, h4, e0, ev⟩ | ⟨h2, z88, h3, v90, h4, z96, h5, e0, ev⟩ | ⟨h2, z97, h3, z98, h4, cf100, v102, h5, z110, h6, z111, h7, hQ⟩ | ⟨h2, z112, h3, cf114, v116, h4, z124, h5, z125, h6, z126, h7, (⟨h8, (⟨h9, (⟨h10, e0, ev⟩ | ⟨h10, z133, h11, e0, ev⟩)⟩ | ⟨h9, (⟨h10, e0, ev⟩ | ⟨h10, e0, ev⟩)⟩)⟩ | ⟨h8, z136, h9, e0, ev⟩)⟩ | ⟨h2, z137, h3, cf139, v141, h4, (⟨h5, z151, h6, cf153, v155, h7, e0, ev⟩ | ⟨h5, z163, h6, cf165, v167, h7, e0, ev⟩)⟩)⟩
  · rw [cn_of hp] at h1
    rw [h1] at h2
    exfalso; omega
  · rw [cn_of hp] at h1
    rw [h1] at h2
    exfalso; omega
  · rw [cn_of hp] at h1
    rw [h1] at h2
    exfalso; omega
  · rw [cn_of hp] at h3 h4
    rw [← h4] at r1
    have r4' : Rep k c na ma e1 false z98.toInt 0 l h' := by rw [r1]; exact r4
    rw [cn_of r1] at h7
    have A := HR e1 z98 v102 l h' b cf cf100 r3 r4' hE g1 n3 h5
    have R := rk_222 hT hk HR (q := rkO (k t)) (x4 := z97) (by rw [h3]; exact h22) r m' v102 z111 h' hi cf100 cf (b.2.1, b.2.2.1) hQ (by rw [h7]; exact r6) q2' b2 (hE.sm (A.1 33 (by decide))) b02 A h3b
    rw [l2]
    show RkM (foK k vl (lkp L) F r (knE k vl (lkp L) F e1)) cf cf' v
    rw [kn]
    exact R
  · rw [cn_of hp] at h1
    rw [h1] at h2
    exfalso; omega
  · rw [cn_of hp] at h1
    rw [h1] at h2
    exfalso; omega
  · rw [cn_of hp] at h1
    rw [h1] at h2
    exfalso; omega
  · rw [cn_of hp] at h1
    rw [h1] at h2
    exfalso; omega
  · rw [cn_of hp] at h1
    rw [h1] at h2
    exfalso; omega
  · rw [cn_of hp] at h1
    rw [h1] at h2
    exfalso; omega
  · rw [cn_of hp] at h1
    rw [h1] at h2
    exfalso; omega
theorem rk_r (hT : RTk ta c) (hk : ∀ i : Nat, i < c → rkd ta i = k i) (hs : SmN ta k vl c) (hP : PrL ta k c) (hV : VlN ta k vl c) (HR : HRk k vl c L F ta na ma ca RL) : HRk k vl c L F ta na ma ca (R_mp_reckon RL) := by
  intro e p0 v lo hi a cf cf' hx hR hE ha h3 h
  obtain ⟨m, h⟩ := h
  rcases rep_sh _ _ _ _ _ _ hR rfl hx with ⟨t, q⟩ | ⟨t, q⟩ | ⟨t, as, q⟩ | ⟨t, y, q⟩ | ⟨t, y, q⟩ | ⟨t, y, q⟩ | ⟨x, y, z, q⟩ | ⟨t, x, y, q⟩ | ⟨t, x, y, q⟩
  · subst q; exact rk_num hT hk hs hP hV HR hR hE ha h3 h
  · subst q; exact rk_nam hT hk hs hP hV HR hR hE ha h3 h
  · subst q
    obtain ⟨f, f1, f2⟩ := bnd (att_call.symm.trans ha)
    obtain ⟨b', b1, b2⟩ := bnd f2
    injection b2 with b2
    exact absurd (by rw [← b2]) h3
  · subst q
    obtain ⟨f, f1, f2⟩ := bnd (att_idx.symm.trans ha)
    obtain ⟨b', b1, b2⟩ := bnd f2
    injection b2 with b2
    exact absurd (by rw [← b2]) h3
  · subst q; exact rk_prer hT hk hs hP hV HR hR hE ha h3 h
  · subst q
    obtain ⟨b', b1, b2⟩ := bnd (att_post.symm.trans ha)
    injection b2 with b2
    exact absurd (by rw [← b2]) h3
  · subst q; exact rk_cndr hT hk hs hP hV HR hR hE ha h3 h
  · subst q
    obtain ⟨c1, d1, f⟩ := bnd (att_asg.symm.trans ha)
    obtain ⟨c2, d2, f⟩ := bnd f
    injection f with f
    exact absurd (by rw [← f]; rfl) h3
  · subst q; exact rk_binr hT hk hs hP hV HR hR hE ha h3 h
theorem rk_all (hT : RTk ta c) (hk : ∀ i : Nat, i < c → rkd ta i = k i) (hs : SmN ta k vl c) (hP : PrL ta k c) (hV : VlN ta k vl c) : ∀ n : Nat, HRk k vl c L F ta na ma ca (RL_mp_reckon n)
  | 0 => fun _ _ _ _ _ _ _ _ _ _ _ _ _ h => False.elim h
  | n + 1 => rk_r hT hk hs hP hV (rk_all hT hk hs hP hV n)
theorem rk_x (hT : RTk ta c) (hk : ∀ i : Nat, i < c → rkd ta i = k i) (hs : SmN ta k vl c) (hP : PrL ta k c) (hV : VlN ta k vl c) : HRk k vl c L F ta na ma ca RX_mp_reckon := fun e p0 v lo hi a cf cf' h1 h2 h3 h4 h5 h => by
  obtain ⟨n, h⟩ := h
  exact rk_all hT hk hs hP hV n e p0 v lo hi a cf cf' h1 h2 h3 h4 h5 h
end RG2
