/-! THE REFERENCE's checker: heights of chains and of every shape (laid by genh2.py) -/
section RE2
variable {k : Nat → Int} {vl : Nat → Int32} {c : Nat} {ca na ma : Nat → Nat → Int32} {G : Int32 → Option Ent} {L : Nms} {F : Int32 → Option Fnc} {M : Nat → Int32}
def htE (k : Nat → Int) (vl : Nat → Int32) (G : Int32 → Option Ent) (F : Int32 → Option Fnc) (e : Ast) : Int := match att k vl G F e [] 0 with
  | none => 0
  | some a => a.2.2.2
theorem htE_s {e : Ast} {a : Atr} (h : att k vl G F e [] 0 = some a) : htE k vl G F e = a.2.2.2 := by unfold htE; rw [h]
def foH (k : Nat → Int) (vl : Nat → Int32) (G : Int32 → Option Ent) (F : Int32 → Option Fnc) : List (Option Nat × Ast) → Int → Int
  | [], m => m
  | (_, e) :: r, m => foH k vl G F r (max m (1 + htE k vl G F e))
def hL (k : Nat → Int) (vl : Nat → Int32) (G : Int32 → Option Ent) (F : Int32 → Option Fnc) : List (Option Nat × Ast) → Int
  | [] => 0
  | (_, e) :: r => foH k vl G F r (htE k vl G F e)
theorem foH_ap : ∀ (l : List (Option Nat × Ast)) (o : Option Nat) (y : Ast) (m : Int), foH k vl G F (l ++ [(o, y)]) m = max (foH k vl G F l m) (1 + htE k vl G F y) := by
  intro l
  induction l with
  | nil => intro o y m; rfl
  | cons a l ih =>
    obtain ⟨o', e'⟩ := a
    intro o y m
    exact ih o y _
theorem hL_ap {l : List (Option Nat × Ast)} {o : Option Nat} {y : Ast} (h : ¬ l = []) : hL k vl G F (l ++ [(o, y)]) = max (hL k vl G F l) (1 + htE k vl G F y) := by
  cases l with
  | nil => exact absurd rfl h
  | cons a l =>
    obtain ⟨o', e'⟩ := a
    exact foH_ap l o y _
theorem att_hL (e : Ast) : isCh k e → ∀ a : Atr, att k vl G F e [] 0 = some a → ¬ opsT k e = [] ∧ a.2.2.2 = hL k vl G F (opsT k e) := by
  fun_induction opsT k e
  case case1 =>
    rename_i t e ih
    intro h a ha
    obtain ⟨b', b1, b2⟩ := bnd (att_pre.symm.trans ha)
    obtain ⟨i1, i2⟩ := ih h.2 b' b1
    exact ⟨i1, (pre_h b2).trans i2⟩
  case case2 =>
    rename_i t x y ih
    intro h a ha
    have h' : rkT k x = rkO (k t) → isCh k x := h
    obtain ⟨c1, d1, f⟩ := bnd (att_bin.symm.trans ha)
    obtain ⟨c2, d2, f⟩ := bnd f
    injection f with f
    obtain ⟨e1, k1, l1⟩ := bnd d1
    obtain ⟨e2, k2, l2⟩ := bnd d2
    have yy : a.2.2.2 = max c1.2.2.2 (c2.2.2.2 + 1) := by rw [← f]; rfl
    have y1 := num_h l1
    have y2 := num_h l2
    have lx : ¬ (if rkT k x = rkO (k t) then opsT k x else [(none, x)]) = [] ∧ e1.2.2.2 = hL k vl G F (if rkT k x = rkO (k t) then opsT k x else [(none, x)]) := by
      by_cases q : rkT k x = rkO (k t)
      · rw [if_pos q]
        exact ih (h' q) e1 k1
      · rw [if_neg q]
        exact ⟨by simp, (htE_s k1).symm⟩
    refine ⟨by simp, ?_⟩
    rw [hL_ap lx.1, ← lx.2, htE_s k2]
    omega
  case case3 =>
    rename_i e h1 h2
    intro h
    exfalso
    unfold isCh at h
    split at h
    · exact h1 _ _ rfl
    · exact h2 _ _ _ rfl
    · exact h
variable {RL : Tht} {p0 v : Int32}
theorem ht_265 (HH : HHt k vl c L F M na ma ca RL) : ∀ (r : List (Option Nat × Ast)) (m : Nat) (x6 x7 : Int32) (lo hi : Nat), E_mp_height RL na ma ca p0 v m 265 [x6, x7] [] [] [] [] () → OpL k c na ma r x7.toInt lo hi → hi ≤ 100000 → okL k vl (lkp L) F r = some () → (∀ d : Nat, AllN na (NtN na ca vl M F ma d) x7.toInt) → v.toInt = foH k vl (lkp L) F r x6.toInt := by
  intro r
  induction r with
  | nil =>
    intro m x6 x7 lo hi h hO hh _ hN
    have hneg : x7.toInt < 0 := hO.1
    rcases iv_mp_height_265 h with ⟨m', (⟨h1, ev⟩ | ⟨h1, v93, h2, z98, h3, (⟨h4, z101, h5, hQ⟩ | ⟨h4, z102, h5, hQ⟩)⟩)⟩
    · rw [ev]; rfl
    all_goals (exfalso; omega)
  | cons a r ih =>
    obtain ⟨o, e⟩ := a
    intro m x6 x7 lo hi h hO hh hok hN
    obtain ⟨j, l, h', r1, r2, r3, r4, r5, r6⟩ := hO
    obtain ⟨q0, q1, q2⟩ := bnd (show (((att k vl (lkp L) F e [] 0).bind aNum).bind fun _ => okL k vl (lkp L) F r) = some () from hok)
    obtain ⟨a, g1, g2⟩ := bnd q1
    have r4' : Rep k c na ma e false x7.toInt 0 l h' := by rw [r1]; exact r4
    have bd := (att_bd _ _ _ _ _ _ r4 (show l ≤ h' by omega)).1 r3 a g1
    have hte := htE_s g1
    have N1 : ∀ d : Nat, NtN na ca vl M F ma d x7.toInt := fun d => by
      rcases (hN d).inv with q | ⟨i2, q1, q2, q3⟩
      · exfalso; omega
      · exact q2
    have N2 : ∀ d : Nat, AllN na (NtN na ca vl M F ma d) (na 21 j).toInt := fun d => by
      rcases (hN d).inv with q | ⟨i2, q1, q2, q3⟩
      · exfalso; omega
      · have ei : i2 = j := by omega
        rw [← ei]; exact q3
    show v.toInt = foH k vl (lkp L) F r (max x6.toInt (1 + htE k vl (lkp L) F e))
    rw [hte]
    rcases iv_mp_height_265 h with ⟨m', (⟨h1, ev⟩ | ⟨h1, v93, h2, z98, h3, (⟨h4, z101, h5, hQ⟩ | ⟨h4, z102, h5, hQ⟩)⟩)⟩
    · exfalso; omega
    · rw [cn_of r1] at h5
      have hv := HH e x7 v93 l h' a r3 (by omega) r4' g1 N1 h2
      have y3 := ti_add h3 (show (1 : Int32).toInt = 1 from rfl) hv (by omega) (by omega)
      rw [ih m' x6 z101 h' hi hQ (by rw [h5]; exact r6) hh q2 (fun d => by rw [h5]; exact N2 d), show max x6.toInt (1 + a.2.2.2) = x6.toInt by omega]
    · rw [cn_of r1] at h5
      have hv := HH e x7 v93 l h' a r3 (by omega) r4' g1 N1 h2
      have y3 := ti_add h3 (show (1 : Int32).toInt = 1 from rfl) hv (by omega) (by omega)
      rw [ih m' z98 z102 h' hi hQ (by rw [h5]; exact r6) hh q2 (fun d => by rw [h5]; exact N2 d), show max x6.toInt (1 + a.2.2.2) = z98.toInt by omega]
variable {t lo hi : Nat} {a : Atr} {e x y z as : Ast}
theorem ht_num (HH : HHt k vl c L F M na ma ca RL) (hM : ma 22 = M) (hh : lo ≤ hi ∧ hi ≤ 100000) (hR : Rep k c na ma (.arg t) false p0.toInt 0 lo hi) (ha : att k vl (lkp L) F (.arg t) [] 0 = some a) (hN : ∀ d : Nat, NtN na ca vl M F ma d p0.toInt) {m : Nat} (h : E_mp_height RL na ma ca p0 v m 0 [] [] [] [] [] ()) : v.toInt = a.2.2.2 := by
  obtain ⟨i, hp, h2', h3', h4'⟩ := hR
  have h14 := h3'.1
  have q := att_num.symm.trans ha
  injection q with q
  have y : a.2.2.2 = 1 := by rw [← q]
  rcases iv_mp_height_0 h with ⟨m', z103, h1, (⟨h2, z105, h3, v107, h4, ev⟩ | ⟨h2, ev⟩ | ⟨h2, z113, h3, (⟨h4, z116, h5, hQ⟩ | ⟨h4, z117, h5, hQ⟩)⟩ | ⟨h2, z118, h3, v120, h4, ev⟩ | ⟨h2, z125, h3, v127, h4, ev⟩ | ⟨h2, z132, h3, v134, h4, z139, h5, z140, h6, hQ⟩ | ⟨h2, z141, h3, v143, h4, z148, h5, v150, h6, z155, h7, v157, h8, (⟨h9, (⟨h10, ev⟩ | ⟨h10, ev⟩)⟩ | ⟨h9, (⟨h10, ev⟩ | ⟨h10, ev⟩)⟩)⟩ | ⟨h2, z168, h3, v170, h4, z175, h5, z176, h6, (⟨h7, ev⟩ | ⟨h7, z179, h8, z180, h9, v182, h10, z187, h11, (⟨h12, z190, h13, ev⟩ | ⟨h12, ev⟩)⟩)⟩)⟩
  · rw [cn_of hp] at h1
    rw [h1] at h2
    exfalso; omega
  · rw [ev, y]; rfl
  · rw [cn_of hp] at h1
    rw [h1] at h2
    exfalso; omega
  · rw [cn_of hp] at h1
    rw [h1] at h2
    exfalso; omega
  · rw [cn_of hp] at h1
    rw [h1] at h2
    exfalso; omega
  · rw [cn_of hp] at h1
    rw [h1] at h2
    exfalso; omega
  · rw [cn_of hp] at h1
    rw [h1] at h2
    exfalso; omega
  · rw [cn_of hp] at h1
    rw [h1] at h2
    exfalso; omega
  · rw [cn_of hp] at h1
    rw [h1] at h2
    exfalso; omega
  · rw [cn_of hp] at h1
    rw [h1] at h2
    exfalso; omega
  · rw [cn_of hp] at h1
    rw [h1] at h2
    exfalso; omega
  · rw [cn_of hp] at h1
    rw [h1] at h2
    exfalso; omega
  · rw [cn_of hp] at h1
    rw [h1] at h2
    exfalso; omega
  · rw [cn_of hp] at h1
    rw [h1] at h2
    exfalso; omega
theorem ht_nam (HH : HHt k vl c L F M na ma ca RL) (hM : ma 22 = M) (hh : lo ≤ hi ∧ hi ≤ 100000) (hR : Rep k c na ma (.index t) false p0.toInt 0 lo hi) (ha : att k vl (lkp L) F (.index t) [] 0 = some a) (hN : ∀ d : Nat, NtN na ca vl M F ma d p0.toInt) {m : Nat} (h : E_mp_height RL na ma ca p0 v m 0 [] [] [] [] [] ()) : v.toInt = a.2.2.2 := by
  obtain ⟨i, hp, h2', h3', h4', hq⟩ := hR
  have h14 := h3'.1
  obtain ⟨g, g1, g2⟩ := bnd (att_name.symm.trans ha)
  injection g2 with g2
  have y : a.2.2.2 = 1 := by rw [← g2]; exact aNam_h
  rcases iv_mp_height_0 h with ⟨m', z103, h1, (⟨h2, z105, h3, v107, h4, ev⟩ | ⟨h2, ev⟩ | ⟨h2, z113, h3, (⟨h4, z116, h5, hQ⟩ | ⟨h4, z117, h5, hQ⟩)⟩ | ⟨h2, z118, h3, v120, h4, ev⟩ | ⟨h2, z125, h3, v127, h4, ev⟩ | ⟨h2, z132, h3, v134, h4, z139, h5, z140, h6, hQ⟩ | ⟨h2, z141, h3, v143, h4, z148, h5, v150, h6, z155, h7, v157, h8, (⟨h9, (⟨h10, ev⟩ | ⟨h10, ev⟩)⟩ | ⟨h9, (⟨h10, ev⟩ | ⟨h10, ev⟩)⟩)⟩ | ⟨h2, z168, h3, v170, h4, z175, h5, z176, h6, (⟨h7, ev⟩ | ⟨h7, z179, h8, z180, h9, v182, h10, z187, h11, (⟨h12, z190, h13, ev⟩ | ⟨h12, ev⟩)⟩)⟩)⟩
  · rw [cn_of hp] at h1
    rw [h1] at h2
    exfalso; omega
  · rw [ev, y]; rfl
  · rw [cn_of hp] at h1
    rw [h1] at h2
    exfalso; omega
  · rw [cn_of hp] at h1
    rw [h1] at h2
    exfalso; omega
  · rw [cn_of hp] at h1
    rw [h1] at h2
    exfalso; omega
  · rw [cn_of hp] at h1
    rw [h1] at h2
    exfalso; omega
  · rw [cn_of hp] at h1
    rw [h1] at h2
    exfalso; omega
  · rw [cn_of hp] at h1
    rw [h1] at h2
    exfalso; omega
  · rw [cn_of hp] at h1
    rw [h1] at h2
    exfalso; omega
  · rw [cn_of hp] at h1
    rw [h1] at h2
    exfalso; omega
  · rw [cn_of hp] at h1
    rw [h1] at h2
    exfalso; omega
  · rw [cn_of hp] at h1
    rw [h1] at h2
    exfalso; omega
  · rw [cn_of hp] at h1
    rw [h1] at h2
    exfalso; omega
  · rw [cn_of hp] at h1
    rw [h1] at h2
    exfalso; omega
theorem ht_cal (HH : HHt k vl c L F M na ma ca RL) (hM : ma 22 = M) (hh : lo ≤ hi ∧ hi ≤ 100000) (hR : Rep k c na ma (.elem (.arg t) as) false p0.toInt 0 lo hi) (ha : att k vl (lkp L) F (.elem (.arg t) as) [] 0 = some a) (hN : ∀ d : Nat, NtN na ca vl M F ma d p0.toInt) {m : Nat} (h : E_mp_height RL na ma ca p0 v m 0 [] [] [] [] [] ()) : v.toInt = a.2.2.2 := by
  obtain ⟨i, hp, h2', h3', h4', hq, h5'⟩ := hR
  have h14 := h3'.1
  obtain ⟨f, f1, f2⟩ := bnd (att_call.symm.trans ha)
  obtain ⟨b', b1, b2⟩ := bnd f2
  injection b2 with b2
  have y : a.2.2.2 = max 1 b'.2.2.2 := by rw [← b2]
  have hF : F (vl t) = some f := by
    unfold aFun at f1
    split at f1
    · exact absurd f1 (by simp)
    · exact f1
  have N1 : NtC na ca vl M F i (ma 18 i) := by
    obtain ⟨i', g1, g2, -⟩ := hN 1
    have ei : i' = i := by omega
    subst ei
    exact (g2 h14).1
  have N2 : ∀ d : Nat, AllN na (NtN na ca vl M F ma d) (na 17 i).toInt := fun d => by
    obtain ⟨i', g1, g2, -⟩ := hN (d + 1)
    have ei : i' = i := by omega
    subst ei
    exact (g2 h14).2
  obtain ⟨t', f', n1, n2, n3⟩ := N1
  have et : t' = t := by have := h3'.2; omega
  subst et
  have ef : f' = f := by rw [hF] at n2; injection n2 with n2; exact n2.symm
  subst ef
  rcases iv_mp_height_0 h with ⟨m', z103, h1, (⟨h2, z105, h3, v107, h4, ev⟩ | ⟨h2, ev⟩ | ⟨h2, z113, h3, (⟨h4, z116, h5, hQ⟩ | ⟨h4, z117, h5, hQ⟩)⟩ | ⟨h2, z118, h3, v120, h4, ev⟩ | ⟨h2, z125, h3, v127, h4, ev⟩ | ⟨h2, z132, h3, v134, h4, z139, h5, z140, h6, hQ⟩ | ⟨h2, z141, h3, v143, h4, z148, h5, v150, h6, z155, h7, v157, h8, (⟨h9, (⟨h10, ev⟩ | ⟨h10, ev⟩)⟩ | ⟨h9, (⟨h10, ev⟩ | ⟨h10, ev⟩)⟩)⟩ | ⟨h2, z168, h3, v170, h4, z175, h5, z176, h6, (⟨h7, ev⟩ | ⟨h7, z179, h8, z180, h9, v182, h10, z187, h11, (⟨h12, z190, h13, ev⟩ | ⟨h12, ev⟩)⟩)⟩)⟩
  · rw [cn_of hp] at h1
    rw [h1] at h2
    exfalso; omega
  · rw [cn_of hp] at h1
    rw [h1] at h2
    exfalso; omega
  · rw [cn_of hp] at h3 h5
    rw [h3] at h4
    have r := ht_91 (f := f') (x4 := 0) HH hp hM (Or.inl ⟨rfl, by
          rcases n3 with ⟨w1, -⟩ | w
          · exfalso; omega
          · exact w⟩) as 0 m' 1 0 0 z116 (i + 1) hi 0 b' hQ hq.2.2 (by rw [h5]; exact h5') (by omega) rfl (by omega) rfl (by omega) (by decide) (by rw [List.drop_zero]; exact b1) (fun d => by rw [h5]; exact N2 d)
    rw [r, y]; rfl
  · rw [cn_of hp] at h3 h5
    rw [h3] at h4
    have r := ht_91 (f := f') (x4 := 1) HH hp hM (Or.inr ⟨by decide, by
          rcases n3 with ⟨-, w⟩ | ⟨fn, w1, w2, -⟩
          · exact w
          · exfalso; omega⟩) as 0 m' 1 0 0 z117 (i + 1) hi 0 b' hQ hq.2.2 (by rw [h5]; exact h5') (by omega) rfl (by omega) rfl (by omega) (by decide) (by rw [List.drop_zero]; exact b1) (fun d => by rw [h5]; exact N2 d)
    rw [r, y]; rfl
  · rw [cn_of hp] at h1
    rw [h1] at h2
    exfalso; omega
  · rw [cn_of hp] at h1
    rw [h1] at h2
    exfalso; omega
  · rw [cn_of hp] at h1
    rw [h1] at h2
    exfalso; omega
  · rw [cn_of hp] at h1
    rw [h1] at h2
    exfalso; omega
  · rw [cn_of hp] at h1
    rw [h1] at h2
    exfalso; omega
  · rw [cn_of hp] at h1
    rw [h1] at h2
    exfalso; omega
  · rw [cn_of hp] at h1
    rw [h1] at h2
    exfalso; omega
  · rw [cn_of hp] at h1
    rw [h1] at h2
    exfalso; omega
  · rw [cn_of hp] at h1
    rw [h1] at h2
    exfalso; omega
  · rw [cn_of hp] at h1
    rw [h1] at h2
    exfalso; omega
theorem ht_idx (HH : HHt k vl c L F M na ma ca RL) (hM : ma 22 = M) (hh : lo ≤ hi ∧ hi ≤ 100000) (hR : Rep k c na ma (.sub (.arg t) e) false p0.toInt 0 lo hi) (ha : att k vl (lkp L) F (.sub (.arg t) e) [] 0 = some a) (hN : ∀ d : Nat, NtN na ca vl M F ma d p0.toInt) {m : Nat} (h : E_mp_height RL na ma ca p0 v m 0 [] [] [] [] [] ()) : v.toInt = a.2.2.2 := by
  obtain ⟨i, hp, h2', h3', h4', hq, h5'⟩ := hR
  have h14 := h3'.1
  obtain ⟨f, f1, f2⟩ := bnd (att_idx.symm.trans ha)
  obtain ⟨b', b1, b2⟩ := bnd f2
  obtain ⟨b'', b3, b4⟩ := bnd b1
  injection b2 with b2
  have y : a.2.2.2 = b''.2.2.2 := by rw [← b2]; show b'.2.2.2 = b''.2.2.2; exact num_h b4
  have N1 : ∀ d : Nat, NtN na ca vl M F ma d (na 17 i).toInt := fun d => by
    obtain ⟨i', g1, -, g2, -⟩ := hN (d + 1)
    have ei : i' = i := by omega
    subst ei
    exact g2 (Or.inl h14)
  rcases iv_mp_height_0 h with ⟨m', z103, h1, (⟨h2, z105, h3, v107, h4, ev⟩ | ⟨h2, ev⟩ | ⟨h2, z113, h3, (⟨h4, z116, h5, hQ⟩ | ⟨h4, z117, h5, hQ⟩)⟩ | ⟨h2, z118, h3, v120, h4, ev⟩ | ⟨h2, z125, h3, v127, h4, ev⟩ | ⟨h2, z132, h3, v134, h4, z139, h5, z140, h6, hQ⟩ | ⟨h2, z141, h3, v143, h4, z148, h5, v150, h6, z155, h7, v157, h8, (⟨h9, (⟨h10, ev⟩ | ⟨h10, ev⟩)⟩ | ⟨h9, (⟨h10, ev⟩ | ⟨h10, ev⟩)⟩)⟩ | ⟨h2, z168, h3, v170, h4, z175, h5, z176, h6, (⟨h7, ev⟩ | ⟨h7, z179, h8, z180, h9, v182, h10, z187, h11, (⟨h12, z190, h13, ev⟩ | ⟨h12, ev⟩)⟩)⟩)⟩
  · rw [cn_of hp] at h1
    rw [h1] at h2
    exfalso; omega
  · rw [cn_of hp] at h1
    rw [h1] at h2
    exfalso; omega
  · rw [cn_of hp] at h1
    rw [h1] at h2
    exfalso; omega
  · rw [cn_of hp] at h1
    rw [h1] at h2
    exfalso; omega
  · rw [cn_of hp] at h3
    rw [ev, y]
    exact HH e z118 v120 (i + 1) hi b'' hq.2.2 (by omega) (by rw [h3]; exact h5') b3 (fun d => by rw [h3]; exact N1 d) h4
  · rw [cn_of hp] at h1
    rw [h1] at h2
    exfalso; omega
  · rw [cn_of hp] at h1
    rw [h1] at h2
    exfalso; omega
  · rw [cn_of hp] at h1
    rw [h1] at h2
    exfalso; omega
  · rw [cn_of hp] at h1
    rw [h1] at h2
    exfalso; omega
  · rw [cn_of hp] at h1
    rw [h1] at h2
    exfalso; omega
  · rw [cn_of hp] at h1
    rw [h1] at h2
    exfalso; omega
  · rw [cn_of hp] at h1
    rw [h1] at h2
    exfalso; omega
  · rw [cn_of hp] at h1
    rw [h1] at h2
    exfalso; omega
  · rw [cn_of hp] at h1
    rw [h1] at h2
    exfalso; omega
theorem ht_pre (HH : HHt k vl c L F M na ma ca RL) (hM : ma 22 = M) (hh : lo ≤ hi ∧ hi ≤ 100000) (hR : Rep k c na ma (.mul (.arg t) e) false p0.toInt 0 lo hi) (ha : att k vl (lkp L) F (.mul (.arg t) e) [] 0 = some a) (hN : ∀ d : Nat, NtN na ca vl M F ma d p0.toInt) {m : Nat} (h : E_mp_height RL na ma ca p0 v m 0 [] [] [] [] [] ()) : v.toInt = a.2.2.2 := by
  obtain ⟨i, j, hp, h2', h3', h4', hq, h6', h5'⟩ := hR
  have h14 := h3'.1
  obtain ⟨b', b1, b2⟩ := bnd (att_pre.symm.trans ha)
  have y := pre_h b2
  have N1 : ∀ d : Nat, NtN na ca vl M F ma d (na 17 i).toInt := fun d => by
    obtain ⟨i', g1, -, g2, -⟩ := hN (d + 1)
    have ei : i' = i := by omega
    subst ei
    exact g2 (Or.inr (Or.inl h14))
  rcases iv_mp_height_0 h with ⟨m', z103, h1, (⟨h2, z105, h3, v107, h4, ev⟩ | ⟨h2, ev⟩ | ⟨h2, z113, h3, (⟨h4, z116, h5, hQ⟩ | ⟨h4, z117, h5, hQ⟩)⟩ | ⟨h2, z118, h3, v120, h4, ev⟩ | ⟨h2, z125, h3, v127, h4, ev⟩ | ⟨h2, z132, h3, v134, h4, z139, h5, z140, h6, hQ⟩ | ⟨h2, z141, h3, v143, h4, z148, h5, v150, h6, z155, h7, v157, h8, (⟨h9, (⟨h10, ev⟩ | ⟨h10, ev⟩)⟩ | ⟨h9, (⟨h10, ev⟩ | ⟨h10, ev⟩)⟩)⟩ | ⟨h2, z168, h3, v170, h4, z175, h5, z176, h6, (⟨h7, ev⟩ | ⟨h7, z179, h8, z180, h9, v182, h10, z187, h11, (⟨h12, z190, h13, ev⟩ | ⟨h12, ev⟩)⟩)⟩)⟩
  · rw [cn_of hp] at h1
    rw [h1] at h2
    exfalso; omega
  · rw [cn_of hp] at h1
    rw [h1] at h2
    exfalso; omega
  · rw [cn_of hp] at h1
    rw [h1] at h2
    exfalso; omega
  · rw [cn_of hp] at h1
    rw [h1] at h2
    exfalso; omega
  · rw [cn_of hp] at h1
    rw [h1] at h2
    exfalso; omega
  · rw [cn_of hp] at h3
    rw [ev, y]
    exact HH e z125 v127 lo i b' hq.2.2 (by omega) (by rw [h3, h6'.1]; exact h5') b1 (fun d => by rw [h3]; exact N1 d) h4
  · rw [cn_of hp] at h1
    rw [h1] at h2
    exfalso; omega
  · rw [cn_of hp] at h1
    rw [h1] at h2
    exfalso; omega
  · rw [cn_of hp] at h1
    rw [h1] at h2
    exfalso; omega
  · rw [cn_of hp] at h1
    rw [h1] at h2
    exfalso; omega
  · rw [cn_of hp] at h1
    rw [h1] at h2
    exfalso; omega
  · rw [cn_of hp] at h1
    rw [h1] at h2
    exfalso; omega
  · rw [cn_of hp] at h1
    rw [h1] at h2
    exfalso; omega
  · rw [cn_of hp] at h1
    rw [h1] at h2
    exfalso; omega
theorem ht_pst (HH : HHt k vl c L F M na ma ca RL) (hM : ma 22 = M) (hh : lo ≤ hi ∧ hi ≤ 100000) (hR : Rep k c na ma (.div (.arg t) e) false p0.toInt 0 lo hi) (ha : att k vl (lkp L) F (.div (.arg t) e) [] 0 = some a) (hN : ∀ d : Nat, NtN na ca vl M F ma d p0.toInt) {m : Nat} (h : E_mp_height RL na ma ca p0 v m 0 [] [] [] [] [] ()) : v.toInt = a.2.2.2 := by
  obtain ⟨i, hp, h2', h3', h4', hq, h5'⟩ := hR
  have h14 := h3'.1
  obtain ⟨b', b1, b2⟩ := bnd (att_post.symm.trans ha)
  obtain ⟨b'', b3, b4⟩ := bnd b1
  injection b2 with b2
  have y : a.2.2.2 = b'.2.2.2 := by rw [← b2]
  rw [tgt_h b4] at y
  have N1 : ∀ d : Nat, NtN na ca vl M F ma d (na 17 i).toInt := fun d => by
    obtain ⟨i', g1, -, g2, -⟩ := hN (d + 1)
    have ei : i' = i := by omega
    subst ei
    exact g2 (Or.inr (Or.inr h14))
  rcases iv_mp_height_0 h with ⟨m', z103, h1, (⟨h2, z105, h3, v107, h4, ev⟩ | ⟨h2, ev⟩ | ⟨h2, z113, h3, (⟨h4, z116, h5, hQ⟩ | ⟨h4, z117, h5, hQ⟩)⟩ | ⟨h2, z118, h3, v120, h4, ev⟩ | ⟨h2, z125, h3, v127, h4, ev⟩ | ⟨h2, z132, h3, v134, h4, z139, h5, z140, h6, hQ⟩ | ⟨h2, z141, h3, v143, h4, z148, h5, v150, h6, z155, h7, v157, h8, (⟨h9, (⟨h10, ev⟩ | ⟨h10, ev⟩)⟩ | ⟨h9, (⟨h10, ev⟩ | ⟨h10, ev⟩)⟩)⟩ | ⟨h2, z168, h3, v170, h4, z175, h5, z176, h6, (⟨h7, ev⟩ | ⟨h7, z179, h8, z180, h9, v182, h10, z187, h11, (⟨h12, z190, h13, ev⟩ | ⟨h12, ev⟩)⟩)⟩)⟩
  · rw [cn_of hp] at h1
    rw [h1] at h2
    exfalso; omega
  · rw [cn_of hp] at h1
    rw [h1] at h2
    exfalso; omega
  · rw [cn_of hp] at h1
    rw [h1] at h2
    exfalso; omega
  · rw [cn_of hp] at h1
    rw [h1] at h2
    exfalso; omega
  · rw [cn_of hp] at h1
    rw [h1] at h2
    exfalso; omega
  · rw [cn_of hp] at h3
    rw [ev, y]
    exact HH e z125 v127 lo i b'' hq.2.2 (by omega) (by rw [h3]; exact h5') b3 (fun d => by rw [h3]; exact N1 d) h4
  · rw [cn_of hp] at h1
    rw [h1] at h2
    exfalso; omega
  · rw [cn_of hp] at h1
    rw [h1] at h2
    exfalso; omega
  · rw [cn_of hp] at h1
    rw [h1] at h2
    exfalso; omega
  · rw [cn_of hp] at h1
    rw [h1] at h2
    exfalso; omega
  · rw [cn_of hp] at h1
    rw [h1] at h2
    exfalso; omega
  · rw [cn_of hp] at h1
    rw [h1] at h2
    exfalso; omega
  · rw [cn_of hp] at h1
    rw [h1] at h2
    exfalso; omega
  · rw [cn_of hp] at h1
    rw [h1] at h2
    exfalso; omega
theorem ht_bin (HH : HHt k vl c L F M na ma ca RL) (hM : ma 22 = M) (hh : lo ≤ hi ∧ hi ≤ 100000) (hR : Rep k c na ma (.rem (.arg t) (.elem x y)) false p0.toInt 0 lo hi) (ha : att k vl (lkp L) F (.rem (.arg t) (.elem x y)) [] 0 = some a) (hN : ∀ d : Nat, NtN na ca vl M F ma d p0.toInt) {m : Nat} (h : E_mp_height RL na ma ca p0 v m 0 [] [] [] [] [] ()) : v.toInt = a.2.2.2 := by
  have ch := rep_c2 hR
  obtain ⟨i, hp, h2', h14, -, hO⟩ := chain_r hR
  clear hR
  obtain ⟨l1, l2⟩ := att_hL _ ch a ha
  have ok := (att_ops (vl := vl) (G := lkp L) (F := F) _ ch).1
  rw [ha] at ok
  have ok' : okL k vl (lkp L) F (opsT k (.rem (.arg t) (.elem x y))) = some () := ok
  have N1 : ∀ d : Nat, AllN na (NtN na ca vl M F ma d) (na 17 i).toInt := fun d => by
    obtain ⟨i', g1, -, -, g2, -⟩ := hN (d + 1)
    have ei : i' = i := by omega
    subst ei
    exact g2 h14
  revert l1 l2 ok' hO
  generalize opsT k (.rem (.arg t) (.elem x y)) = ll
  intro hO l1 l2 ok'
  rcases iv_mp_height_0 h with ⟨m', z103, h1, (⟨h2, z105, h3, v107, h4, ev⟩ | ⟨h2, ev⟩ | ⟨h2, z113, h3, (⟨h4, z116, h5, hQ⟩ | ⟨h4, z117, h5, hQ⟩)⟩ | ⟨h2, z118, h3, v120, h4, ev⟩ | ⟨h2, z125, h3, v127, h4, ev⟩ | ⟨h2, z132, h3, v134, h4, z139, h5, z140, h6, hQ⟩ | ⟨h2, z141, h3, v143, h4, z148, h5, v150, h6, z155, h7, v157, h8, (⟨h9, (⟨h10, ev⟩ | ⟨h10, ev⟩)⟩ | ⟨h9, (⟨h10, ev⟩ | ⟨h10, ev⟩)⟩)⟩ | ⟨h2, z168, h3, v170, h4, z175, h5, z176, h6, (⟨h7, ev⟩ | ⟨h7, z179, h8, z180, h9, v182, h10, z187, h11, (⟨h12, z190, h13, ev⟩ | ⟨h12, ev⟩)⟩)⟩)⟩
  · rw [cn_of hp] at h1
    rw [h1] at h2
    exfalso; omega
  · rw [cn_of hp] at h1
    rw [h1] at h2
    exfalso; omega
  · rw [cn_of hp] at h1
    rw [h1] at h2
    exfalso; omega
  · rw [cn_of hp] at h1
    rw [h1] at h2
    exfalso; omega
  · rw [cn_of hp] at h1
    rw [h1] at h2
    exfalso; omega
  · rw [cn_of hp] at h1
    rw [h1] at h2
    exfalso; omega
  · rw [cn_of hp] at h3
    cases ll with
    | nil => exact absurd rfl l1
    | cons p r =>
      obtain ⟨o, e⟩ := p
      obtain ⟨j, l, h', r1, r2, r3, r4, r5, r6⟩ := hO
      obtain ⟨q0, q1, q2⟩ := bnd (show (((att k vl (lkp L) F e [] 0).bind aNum).bind fun _ => okL k vl (lkp L) F r) = some () from ok')
      obtain ⟨b, g1, g2⟩ := bnd q1
      have hte := htE_s g1
      rw [← h3] at r1
      have r4' : Rep k c na ma e false z132.toInt 0 l h' := by rw [r1]; exact r4
      rw [cn_of r1] at h6
      have M1 : ∀ d : Nat, NtN na ca vl M F ma d z132.toInt := fun d => by
        rw [h3]
        rcases (N1 d).inv with q | ⟨i2, q1, q2, q3⟩
        · rw [h3] at r1; exfalso; omega
        · exact q2
      have M2 : ∀ d : Nat, AllN na (NtN na ca vl M F ma d) (na 21 j).toInt := fun d => by
        rcases (N1 d).inv with q | ⟨i2, q1, q2, q3⟩
        · rw [h3] at r1; exfalso; omega
        · have ei : i2 = j := by rw [h3] at r1; omega
          rw [← ei]; exact q3
      have hv := HH e z132 v134 l h' b r3 (by omega) r4' g1 M1 h4
      rw [ht_265 HH r m' v134 z140 h' hi hQ (by rw [h6]; exact r6) hh.2 q2 (fun d => by rw [h6]; exact M2 d), hv, l2, ← hte]
      rfl
  · rw [cn_of hp] at h1
    rw [h1] at h2
    exfalso; omega
  · rw [cn_of hp] at h1
    rw [h1] at h2
    exfalso; omega
  · rw [cn_of hp] at h1
    rw [h1] at h2
    exfalso; omega
  · rw [cn_of hp] at h1
    rw [h1] at h2
    exfalso; omega
  · rw [cn_of hp] at h1
    rw [h1] at h2
    exfalso; omega
  · rw [cn_of hp] at h1
    rw [h1] at h2
    exfalso; omega
  · rw [cn_of hp] at h1
    rw [h1] at h2
    exfalso; omega
theorem ht_cnd (HH : HHt k vl c L F M na ma ca RL) (hM : ma 22 = M) (hh : lo ≤ hi ∧ hi ≤ 100000) (hR : Rep k c na ma (.old (.elem x (.elem y z))) false p0.toInt 0 lo hi) (ha : att k vl (lkp L) F (.old (.elem x (.elem y z))) [] 0 = some a) (hN : ∀ d : Nat, NtN na ca vl M F ma d p0.toInt) {m : Nat} (h : E_mp_height RL na ma ca p0 v m 0 [] [] [] [] [] ()) : v.toInt = a.2.2.2 := by
  obtain ⟨i, m1, m2, hp, h2', h14, h4', hq, h5', h6', h7'⟩ := hR
  obtain ⟨c1, d1, f⟩ := bnd (att_cnd.symm.trans ha)
  obtain ⟨c2, d2, f⟩ := bnd f
  obtain ⟨c3, d3, f⟩ := bnd f
  injection f with f
  obtain ⟨e1, k1, l1⟩ := bnd d1
  obtain ⟨e2, k2, l2⟩ := bnd d2
  obtain ⟨e3, k3, l3⟩ := bnd d3
  have y1 := num_h l1
  have y2 := num_h l2
  have y3 := num_h l3
  have yy : a.2.2.2 = max c1.2.2.2 (max c2.2.2.2 c3.2.2.2) := by rw [← f]; rfl
  have N1 : ∀ d : Nat, NtN na ca vl M F ma d (na 17 i).toInt ∧ NtN na ca vl M F ma d (ma 18 i).toInt ∧ NtN na ca vl M F ma d (ma 19 i).toInt := fun d => by
    obtain ⟨i', g1, -, -, -, g2, -⟩ := hN (d + 1)
    have ei : i' = i := by omega
    subst ei
    exact g2 h14
  rcases iv_mp_height_0 h with ⟨m', z103, h1, (⟨h2, z105, h3, v107, h4, ev⟩ | ⟨h2, ev⟩ | ⟨h2, z113, h3, (⟨h4, z116, h5, hQ⟩ | ⟨h4, z117, h5, hQ⟩)⟩ | ⟨h2, z118, h3, v120, h4, ev⟩ | ⟨h2, z125, h3, v127, h4, ev⟩ | ⟨h2, z132, h3, v134, h4, z139, h5, z140, h6, hQ⟩ | ⟨h2, z141, h3, v143, h4, z148, h5, v150, h6, z155, h7, v157, h8, (⟨h9, (⟨h10, ev⟩ | ⟨h10, ev⟩)⟩ | ⟨h9, (⟨h10, ev⟩ | ⟨h10, ev⟩)⟩)⟩ | ⟨h2, z168, h3, v170, h4, z175, h5, z176, h6, (⟨h7, ev⟩ | ⟨h7, z179, h8, z180, h9, v182, h10, z187, h11, (⟨h12, z190, h13, ev⟩ | ⟨h12, ev⟩)⟩)⟩)⟩
  · rw [cn_of hp] at h1
    rw [h1] at h2
    exfalso; omega
  · rw [cn_of hp] at h1
    rw [h1] at h2
    exfalso; omega
  · rw [cn_of hp] at h1
    rw [h1] at h2
    exfalso; omega
  · rw [cn_of hp] at h1
    rw [h1] at h2
    exfalso; omega
  · rw [cn_of hp] at h1
    rw [h1] at h2
    exfalso; omega
  · rw [cn_of hp] at h1
    rw [h1] at h2
    exfalso; omega
  · rw [cn_of hp] at h1
    rw [h1] at h2
    exfalso; omega
  · rw [cn_of hp] at h3 h5 h7
    have w1 := HH x z141 v143 lo m1 e1 hq.1 (by omega) (by rw [h3]; exact h5') k1 (fun d => by rw [h3]; exact (N1 d).1) h4
    have w2 := HH y z148 v150 m1 m2 e2 hq.2.1 (by omega) (by rw [h5]; exact h6') k2 (fun d => by rw [h5]; exact (N1 d).2.1) h6
    have w3 := HH z z155 v157 m2 i e3 hq.2.2 (by omega) (by rw [h7]; exact h7') k3 (fun d => by rw [h7]; exact (N1 d).2.2) h8
    rw [ev]; omega
  · rw [cn_of hp] at h3 h5 h7
    have w1 := HH x z141 v143 lo m1 e1 hq.1 (by omega) (by rw [h3]; exact h5') k1 (fun d => by rw [h3]; exact (N1 d).1) h4
    have w2 := HH y z148 v150 m1 m2 e2 hq.2.1 (by omega) (by rw [h5]; exact h6') k2 (fun d => by rw [h5]; exact (N1 d).2.1) h6
    have w3 := HH z z155 v157 m2 i e3 hq.2.2 (by omega) (by rw [h7]; exact h7') k3 (fun d => by rw [h7]; exact (N1 d).2.2) h8
    rw [ev]; omega
  · rw [cn_of hp] at h3 h5 h7
    have w1 := HH x z141 v143 lo m1 e1 hq.1 (by omega) (by rw [h3]; exact h5') k1 (fun d => by rw [h3]; exact (N1 d).1) h4
    have w2 := HH y z148 v150 m1 m2 e2 hq.2.1 (by omega) (by rw [h5]; exact h6') k2 (fun d => by rw [h5]; exact (N1 d).2.1) h6
    have w3 := HH z z155 v157 m2 i e3 hq.2.2 (by omega) (by rw [h7]; exact h7') k3 (fun d => by rw [h7]; exact (N1 d).2.2) h8
    rw [ev]; omega
  · rw [cn_of hp] at h3 h5 h7
    have w1 := HH x z141 v143 lo m1 e1 hq.1 (by omega) (by rw [h3]; exact h5') k1 (fun d => by rw [h3]; exact (N1 d).1) h4
    have w2 := HH y z148 v150 m1 m2 e2 hq.2.1 (by omega) (by rw [h5]; exact h6') k2 (fun d => by rw [h5]; exact (N1 d).2.1) h6
    have w3 := HH z z155 v157 m2 i e3 hq.2.2 (by omega) (by rw [h7]; exact h7') k3 (fun d => by rw [h7]; exact (N1 d).2.2) h8
    rw [ev]; omega
  · rw [cn_of hp] at h1
    rw [h1] at h2
    exfalso; omega
  · rw [cn_of hp] at h1
    rw [h1] at h2
    exfalso; omega
  · rw [cn_of hp] at h1
    rw [h1] at h2
    exfalso; omega
theorem ht_asg (HH : HHt k vl c L F M na ma ca RL) (hM : ma 22 = M) (hh : lo ≤ hi ∧ hi ≤ 100000) (hR : Rep k c na ma (.length (.elem (.arg t) (.elem x y))) false p0.toInt 0 lo hi) (ha : att k vl (lkp L) F (.length (.elem (.arg t) (.elem x y))) [] 0 = some a) (hN : ∀ d : Nat, NtN na ca vl M F ma d p0.toInt) {m : Nat} (h : E_mp_height RL na ma ca p0 v m 0 [] [] [] [] [] ()) : v.toInt = a.2.2.2 := by
  obtain ⟨i, m1, hp, h2', h3', h4', hq, h5', h6'⟩ := hR
  have h14 := h3'.1
  obtain ⟨c1, d1, f⟩ := bnd (att_asg.symm.trans ha)
  obtain ⟨c2, d2, f⟩ := bnd f
  injection f with f
  obtain ⟨e1, k1, l1⟩ := bnd d1
  obtain ⟨e2, k2, l2⟩ := bnd d2
  have y1 := tgt_h l1
  subst y1
  have y2 := num_h l2
  have yy : a.2.2.2 = if c1.1 = 4 then max c1.2.2.2 (c2.2.2.2 + 1) else c2.2.2.2 := by rw [← f]; rfl
  have bd := (att_bd _ _ _ _ _ _ h6' (show m1 ≤ i by omega)).1 hq.2.2.2 e2 k2
  have N1 : ∀ d : Nat, NtN na ca vl M F ma d (na 17 i).toInt ∧ NtN na ca vl M F ma d (ma 18 i).toInt := fun d => by
    obtain ⟨i', g1, -, -, -, -, g2⟩ := hN (d + 1)
    have ei : i' = i := by omega
    subst ei
    exact g2 h14
  obtain ⟨j, hj, p1, p2, p3⟩ := plh _ _ _ _ _ _ h5' rfl hq.2.2.1 c1 k1
  have inn : (na 14 j).toInt = 4 → ∀ (z180 v182 : Int32), z180 = na 17 j → RL na ma ca z180 v182 → v182.toInt = c1.2.2.2 := fun h44 z180 v182 e9 hq2 => by
    rcases rep_sh _ _ _ _ _ _ h5' rfl hq.2.2.1 with ⟨t', q⟩ | ⟨t', q⟩ | ⟨t', as', q⟩ | ⟨t', y', q⟩ | ⟨t', y', q⟩ | ⟨t', y', q⟩ | ⟨x', y', z', q⟩ | ⟨t', x', y', q⟩ | ⟨t', x', y', q⟩
    · subst q
      obtain ⟨i2, g1, g2, g3, -⟩ := h5'
      have g3' := g3.1
      have ei : i2 = j := by omega
      subst ei
      exfalso; omega
    · subst q
      obtain ⟨i2, g1, g2, g3, -⟩ := h5'
      have g3' := g3.1
      have ei : i2 = j := by omega
      subst ei
      exfalso; omega
    · subst q
      obtain ⟨i2, g1, g2, g3, -⟩ := h5'
      have g3' := g3.1
      have ei : i2 = j := by omega
      subst ei
      exfalso; omega
    · subst q
      obtain ⟨i2, g1, g2, g3, g4, g5, g6⟩ := h5'
      have ei : i2 = j := by omega
      subst ei
      obtain ⟨f0, f1, f2⟩ := bnd (att_idx.symm.trans k1)
      obtain ⟨b', b1, b2⟩ := bnd f2
      obtain ⟨b'', b3, b4⟩ := bnd b1
      injection b2 with b2
      have yb : c1.2.2.2 = b''.2.2.2 := by rw [← b2]; show b'.2.2.2 = b''.2.2.2; exact num_h b4
      rw [yb]
      refine HH y' z180 v182 (i2 + 1) m1 b'' g5.2.2 (by omega) (by rw [e9]; exact g6) b3 (fun d => ?_) hq2
      obtain ⟨i3, s1, -, s2, -⟩ := (N1 (d + 1)).1
      have ei : i3 = i2 := by omega
      subst ei
      rw [e9]
      exact s2 (Or.inl h44)
    · subst q
      obtain ⟨i2, j2, g1, g2, g3, -⟩ := h5'
      have g3' := g3.1
      have ei : i2 = j := by omega
      subst ei
      exfalso; omega
    · subst q
      obtain ⟨i2, g1, g2, g3, -⟩ := h5'
      have g3' := g3.1
      have ei : i2 = j := by omega
      subst ei
      exfalso; omega
    · subst q
      obtain ⟨i2, n1, n2, g1, g2, g3, -⟩ := h5'
      have ei : i2 = j := by omega
      subst ei
      exfalso; omega
    · subst q
      obtain ⟨i2, n1, g1, g2, g3, -⟩ := h5'
      have g3' := g3.1
      have ei : i2 = j := by omega
      subst ei
      exfalso; omega
    · subst q
      obtain ⟨i2, g1, g2, g3, -⟩ := chain_r h5'
      have ei : i2 = j := by omega
      subst ei
      exfalso; omega
  rcases iv_mp_height_0 h with ⟨m', z103, h1, (⟨h2, z105, h3, v107, h4, ev⟩ | ⟨h2, ev⟩ | ⟨h2, z113, h3, (⟨h4, z116, h5, hQ⟩ | ⟨h4, z117, h5, hQ⟩)⟩ | ⟨h2, z118, h3, v120, h4, ev⟩ | ⟨h2, z125, h3, v127, h4, ev⟩ | ⟨h2, z132, h3, v134, h4, z139, h5, z140, h6, hQ⟩ | ⟨h2, z141, h3, v143, h4, z148, h5, v150, h6, z155, h7, v157, h8, (⟨h9, (⟨h10, ev⟩ | ⟨h10, ev⟩)⟩ | ⟨h9, (⟨h10, ev⟩ | ⟨h10, ev⟩)⟩)⟩ | ⟨h2, z168, h3, v170, h4, z175, h5, z176, h6, (⟨h7, ev⟩ | ⟨h7, z179, h8, z180, h9, v182, h10, z187, h11, (⟨h12, z190, h13, ev⟩ | ⟨h12, ev⟩)⟩)⟩)⟩
  · rw [cn_of hp] at h1
    rw [h1] at h2
    exfalso; omega
  · rw [cn_of hp] at h1
    rw [h1] at h2
    exfalso; omega
  · rw [cn_of hp] at h1
    rw [h1] at h2
    exfalso; omega
  · rw [cn_of hp] at h1
    rw [h1] at h2
    exfalso; omega
  · rw [cn_of hp] at h1
    rw [h1] at h2
    exfalso; omega
  · rw [cn_of hp] at h1
    rw [h1] at h2
    exfalso; omega
  · rw [cn_of hp] at h1
    rw [h1] at h2
    exfalso; omega
  · rw [cn_of hp] at h1
    rw [h1] at h2
    exfalso; omega
  · rw [cn_of hp] at h1
    rw [h1] at h2
    exfalso; omega
  · rw [cn_of hp] at h1
    rw [h1] at h2
    exfalso; omega
  · rw [cn_of hp] at h1
    rw [h1] at h2
    exfalso; omega
  · rw [cn_of hp] at h3 h5
    have w2 := HH y z168 v170 m1 i e2 hq.2.2.2 (by omega) (by rw [h3]; exact h6') k2 (fun d => by rw [h3]; exact (N1 d).2) h4
    have z5 : z175.toInt = (j : Int) := by rw [h5]; exact hj
    rw [cn_of z5] at h6
    rw [h6] at h7
    rw [ev, yy, if_neg (fun q => h7 (p1.mp q))]; omega
  · rw [cn_of hp] at h3 h5
    have w2 := HH y z168 v170 m1 i e2 hq.2.2.2 (by omega) (by rw [h3]; exact h6') k2 (fun d => by rw [h3]; exact (N1 d).2) h4
    have z5 : z175.toInt = (j : Int) := by rw [h5]; exact hj
    rw [cn_of z5] at h6
    rw [h6] at h7
    rw [cn_of z5] at h9
    have w1 := inn h7 z180 v182 h9 h10
    have y11 := ti_add h11 w2 (show (1 : Int32).toInt = 1 from rfl) (by omega) (by omega)
    have y13 := ti_add h13 w2 (show (1 : Int32).toInt = 1 from rfl) (by omega) (by omega)
    rw [ev, yy, if_pos (p1.mpr h7)]; omega
  · rw [cn_of hp] at h3 h5
    have w2 := HH y z168 v170 m1 i e2 hq.2.2.2 (by omega) (by rw [h3]; exact h6') k2 (fun d => by rw [h3]; exact (N1 d).2) h4
    have z5 : z175.toInt = (j : Int) := by rw [h5]; exact hj
    rw [cn_of z5] at h6
    rw [h6] at h7
    rw [cn_of z5] at h9
    have w1 := inn h7 z180 v182 h9 h10
    have y11 := ti_add h11 w2 (show (1 : Int32).toInt = 1 from rfl) (by omega) (by omega)
    rw [ev, yy, if_pos (p1.mpr h7)]; omega
theorem ht_r (HH : HHt k vl c L F M na ma ca RL) (hM : ma 22 = M) : HHt k vl c L F M na ma ca (R_mp_height RL) := by
  intro e p0 v lo hi a hx hh hR ha hN h
  obtain ⟨m, h⟩ := h
  rcases rep_sh _ _ _ _ _ _ hR rfl hx with ⟨t, q⟩ | ⟨t, q⟩ | ⟨t, as, q⟩ | ⟨t, y, q⟩ | ⟨t, y, q⟩ | ⟨t, y, q⟩ | ⟨x, y, z, q⟩ | ⟨t, x, y, q⟩ | ⟨t, x, y, q⟩
  · subst q; exact ht_num HH hM hh hR ha hN h
  · subst q; exact ht_nam HH hM hh hR ha hN h
  · subst q; exact ht_cal HH hM hh hR ha hN h
  · subst q; exact ht_idx HH hM hh hR ha hN h
  · subst q; exact ht_pre HH hM hh hR ha hN h
  · subst q; exact ht_pst HH hM hh hR ha hN h
  · subst q; exact ht_cnd HH hM hh hR ha hN h
  · subst q; exact ht_asg HH hM hh hR ha hN h
  · subst q; exact ht_bin HH hM hh hR ha hN h
theorem ht_all (hM : ma 22 = M) : ∀ n : Nat, HHt k vl c L F M na ma ca (RL_mp_height n)
  | 0 => fun _ _ _ _ _ _ _ _ _ _ _ h => False.elim h
  | n + 1 => ht_r (ht_all hM n) hM
theorem ht_x (hM : ma 22 = M) : HHt k vl c L F M na ma ca RX_mp_height := fun e p0 v lo hi a h1 h2 h3 h4 h5 h => by
  obtain ⟨n, h⟩ := h
  exact ht_all hM n e p0 v lo hi a h1 h2 h3 h4 h5 h
end RE2
