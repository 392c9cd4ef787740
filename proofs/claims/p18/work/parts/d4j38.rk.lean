/-! THE REFERENCE's checker: reckon (laid by genrk.py) -/
section RF2
variable {k : Nat → Int} {vl : Nat → Int32} {c : Nat} {ta ca na ma : Nat → Nat → Int32} {G : Int32 → Option Ent} {L : Nms} {F : Int32 → Option Fnc}
/-- what is known of an expression -/
def knE (k : Nat → Int) (vl : Nat → Int32) (G : Int32 → Option Ent) (F : Int32 → Option Fnc) (e : Ast) : Int × Int32 := match att k vl G F e [] 0 with
  | none => (3, 0)
  | some a => (a.2.1, a.2.2.1)
theorem knE_s {e : Ast} {a : Atr} (h : att k vl G F e [] 0 = some a) : knE k vl G F e = (a.2.1, a.2.2.1) := by unfold knE; rw [h]
def tkO (o : Option Nat) : Nat := match o with
  | none => 0
  | some t => t
def foK (k : Nat → Int) (vl : Nat → Int32) (G : Int32 → Option Ent) (F : Int32 → Option Fnc) : List (Option Nat × Ast) → Int × Int32 → Int × Int32
  | [], m => m
  | (o, e) :: r, m => foK k vl G F r (aFold (k (tkO o)) m (knE k vl G F e))
def kL (k : Nat → Int) (vl : Nat → Int32) (G : Int32 → Option Ent) (F : Int32 → Option Fnc) : List (Option Nat × Ast) → Int × Int32
  | [] => (3, 0)
  | (_, e) :: r => foK k vl G F r (knE k vl G F e)
theorem foK_ap : ∀ (l : List (Option Nat × Ast)) (o : Option Nat) (y : Ast) (m : Int × Int32), foK k vl G F (l ++ [(o, y)]) m = aFold (k (tkO o)) (foK k vl G F l m) (knE k vl G F y) := by
  intro l
  induction l with
  | nil => intro o y m; rfl
  | cons a l ih =>
    obtain ⟨o', e'⟩ := a
    intro o y m
    exact ih o y _
theorem kL_ap {l : List (Option Nat × Ast)} {o : Option Nat} {y : Ast} (h : ¬ l = []) : kL k vl G F (l ++ [(o, y)]) = aFold (k (tkO o)) (kL k vl G F l) (knE k vl G F y) := by
  cases l with
  | nil => exact absurd rfl h
  | cons a l =>
    obtain ⟨o', e'⟩ := a
    exact foK_ap l o y _
theorem num_k {a b : Atr} (h : aNum a = some b) : (b.2.1, b.2.2.1) = (a.2.1, a.2.2.1) := by rw [num_f h]
theorem att_kL (e : Ast) : isCh k e → ∀ a : Atr, att k vl G F e [] 0 = some a → ¬ opsT k e = [] ∧ (a.2.1, a.2.2.1) = kL k vl G F (opsT k e) := by
  fun_induction opsT k e
  case case1 =>
    rename_i t e ih
    intro h a ha
    obtain ⟨b', b1, b2⟩ := bnd (att_pre.symm.trans ha)
    obtain ⟨i1, i2⟩ := ih h.2 b' b1
    refine ⟨i1, ?_⟩
    rw [← i2]
    have h43 : k t = 43 := h.1
    unfold aPre at b2
    rw [if_neg (by omega)] at b2
    obtain ⟨y, y1, y2⟩ := bnd b2
    injection y2 with y2
    rw [← y2, if_pos h43]
    show (y.2.1, y.2.2.1) = (b'.2.1, b'.2.2.1)
    exact num_k y1
  case case2 =>
    rename_i t x y ih
    intro h a ha
    have h' : rkT k x = rkO (k t) → isCh k x := h
    obtain ⟨c1, d1, f⟩ := bnd (att_bin.symm.trans ha)
    obtain ⟨c2, d2, f⟩ := bnd f
    injection f with f
    obtain ⟨e1, k1, l1⟩ := bnd d1
    obtain ⟨e2, k2, l2⟩ := bnd d2
    have yy : (a.2.1, a.2.2.1) = aFold (k t) (c1.2.1, c1.2.2.1) (c2.2.1, c2.2.2.1) := by rw [← f]; rfl
    have lx : ¬ (if rkT k x = rkO (k t) then opsT k x else [(none, x)]) = [] ∧ (e1.2.1, e1.2.2.1) = kL k vl G F (if rkT k x = rkO (k t) then opsT k x else [(none, x)]) := by
      by_cases q : rkT k x = rkO (k t)
      · rw [if_pos q]
        exact ih (h' q) e1 k1
      · rw [if_neg q]
        exact ⟨by simp, (knE_s k1).symm⟩
    refine ⟨by simp, ?_⟩
    rw [kL_ap lx.1, ← lx.2, knE_s k2, yy, num_k l1, num_k l2]
    rfl
  case case3 =>
    rename_i e h1 h2
    intro h
    exfalso
    unfold isCh at h
    split at h
    · exact h1 _ _ rfl
    · exact h2 _ _ _ rfl
    · exact h
/-- how reckon leaves what is wrong with a constant -/
def RkM (x : Int × Int32) (cf cf' : Nat → Int32) (v : Int32) : Prop := (∀ i : Nat, ¬ i = 46 → cf' i = cf i) ∧ (¬ (cf 46).toInt = 0 → ¬ (cf' 46).toInt = 0) ∧ ((cf 46).toInt = 0 → (x.1 = 0 → (cf' 46).toInt = 0 ∧ v = x.2) ∧ (x.1 = 2 → ¬ (cf' 46).toInt = 0))
abbrev Trk := (Nat → Nat → Int32) → (Nat → Nat → Int32) → (Nat → Nat → Int32) → (Nat → Nat → Int32) → Int32 → (Nat → Int32) → (Nat → Int32) → Int32 → Prop
def HRk (k : Nat → Int) (vl : Nat → Int32) (c : Nat) (L : Nms) (F : Int32 → Option Fnc) (ta na ma ca : Nat → Nat → Int32) (RL : Trk) : Prop := ∀ (e : Ast) (p0 v : Int32) (lo hi : Nat) (a : Atr) (cf cf' : Nat → Int32), isEx e = true → Rep k c na ma e false p0.toInt 0 lo hi → EnvR k vl c cf ca L → att k vl (lkp L) F e [] 0 = some a → ¬ a.2.1 = 3 → RL ta na ma ca p0 cf cf' v → RkM (a.2.1, a.2.2.1) cf cf' v
theorem fold_3 {v : Int} {x y : Int × Int32} (h : ¬ (aFold v x y).1 = 3) : ¬ x.1 = 3 ∧ ¬ y.1 = 3 := by
  by_cases q : x.1 = 3 ∨ y.1 = 3
  · have : (aFold v x y).1 = 3 := by unfold aFold; rw [if_pos q]
    exact absurd this h
  · exact ⟨fun w => q (Or.inl w), fun w => q (Or.inr w)⟩
theorem foK_3 : ∀ (r : List (Option Nat × Ast)) (m : Int × Int32), ¬ (foK k vl G F r m).1 = 3 → ¬ m.1 = 3 := by
  intro r
  induction r with
  | nil => intro m h; exact h
  | cons a r ih =>
    obtain ⟨o, e⟩ := a
    intro m h
    exact (fold_3 (ih _ h)).1
theorem rkO_1 {v : Int} (h : rkO v = 1) : v = 137 := by
  unfold rkO at h
  repeat' (split at h; · first | assumption | omega)
  omega
theorem rkO_2 {v : Int} (h : rkO v = 2) : v = 136 := by
  unfold rkO at h
  repeat' (split at h; · first | assumption | omega)
  omega
theorem log_b {d : Int} {x y : Int × Int32} (hx : x.1 = 0 ∨ x.1 = 2 ∨ x.1 = 3) (hy : y.1 = 0 ∨ y.1 = 2 ∨ y.1 = 3) : (aLog d x y).1 = 0 ∨ (aLog d x y).1 = 2 ∨ (aLog d x y).1 = 3 := by
  unfold aLog
  split
  · split
    · split
      · exact Or.inl rfl
      · exact hy
    · split
      · exact Or.inl rfl
      · exact hy
  · exact hx
theorem fold_b {w : Int} {x y : Int × Int32} (hx : x.1 = 0 ∨ x.1 = 2 ∨ x.1 = 3) (hy : y.1 = 0 ∨ y.1 = 2 ∨ y.1 = 3) : (aFold w x y).1 = 0 ∨ (aFold w x y).1 = 2 ∨ (aFold w x y).1 = 3 := by
  unfold aFold
  split
  · exact Or.inr (Or.inr rfl)
  · split
    · exact log_b hx hy
    · split
      · exact log_b hx hy
      · split
        · exact Or.inr (Or.inl rfl)
        · exact Or.inl rfl
theorem fold_g {w : Int} {x y : Int × Int32} (h1 : ¬ w = 136) (h2 : ¬ w = 137) (hx : ¬ x.1 = 3) (hy : ¬ y.1 = 3) : aFold w x y = if x.1 = 2 ∨ y.1 = 2 ∨ (y.1 = 0 ∧ (w = 47 ∨ w = 37) ∧ y.2.toInt = 0) then (2, x.2) else (0, rck w x.2 y.2) := by
  unfold aFold
  rw [if_neg (fun q => q.elim hx hy), if_neg h1, if_neg h2]
theorem fold_l {x y : Int × Int32} (hx : ¬ x.1 = 3) (hy : ¬ y.1 = 3) : aFold 136 x y = aLog 0 x y ∧ aFold 137 x y = aLog 1 x y := by
  constructor
  · unfold aFold
    rw [if_neg (fun q => q.elim hx hy), if_pos rfl]
  · unfold aFold
    rw [if_neg (fun q => q.elim hx hy), if_neg (show ¬ (137 : Int) = 136 by decide), if_pos rfl]
theorem kn_b (e : Ast) (md : Bool) (n b : Int) (lo hi : Nat) : Rep k c na ma e md n b lo hi → ∀ (ws : List Int) (hd : Int) (a : Atr), att k vl G F e ws hd = some a → a.2.1 = 0 ∨ a.2.1 = 2 ∨ a.2.1 = 3 := by
  have pre : ∀ {w : Int} {a b : Atr}, (a.2.1 = 0 ∨ a.2.1 = 2 ∨ a.2.1 = 3) → aPre w a = some b → (b.2.1 = 0 ∨ b.2.1 = 2 ∨ b.2.1 = 3) := fun {w} {a} {b} hx h => by
    unfold aPre at h
    split at h
    · obtain ⟨y, y1, y2⟩ := bnd h
      injection y2 with y2
      rw [← y2]; exact Or.inr (Or.inr rfl)
    · obtain ⟨y, y1, y2⟩ := bnd h
      injection y2 with y2
      rw [← y2]
      show y.2.1 = 0 ∨ y.2.1 = 2 ∨ y.2.1 = 3
      rw [num_f y1]; exact hx
  fun_induction Rep k c na ma e md n b lo hi
  all_goals intro h ws hd a ha
  case case1 =>
    have q := att_num.symm.trans ha
    injection q with q
    rw [← q]; exact Or.inl rfl
  case case2 =>
    obtain ⟨g, g1, g2⟩ := bnd (att_name.symm.trans ha)
    injection g2 with g2
    rw [← g2]
    unfold aNam
    split
    · exact Or.inl rfl
    · exact Or.inr (Or.inr rfl)
  case case3 =>
    obtain ⟨f, f1, f2⟩ := bnd (att_call.symm.trans ha)
    obtain ⟨b', b1, b2⟩ := bnd f2
    injection b2 with b2
    rw [← b2]; exact Or.inr (Or.inr rfl)
  case case4 =>
    have q := att_nil.symm.trans ha
    split at q
    · injection q with q
      rw [← q]; exact Or.inr (Or.inr rfl)
    · exact absurd q (by simp)
  case case5 =>
    cases ws with
    | nil => exact absurd (att_cons0.symm.trans ha) (by simp)
    | cons w ws =>
      obtain ⟨a1, g1, g2⟩ := bnd (att_cons.symm.trans ha)
      obtain ⟨nn, n1, n2⟩ := bnd g2
      obtain ⟨b', b1, b2⟩ := bnd n2
      injection b2 with b2
      rw [← b2]; exact Or.inr (Or.inr rfl)
  case case6 =>
    obtain ⟨f, f1, f2⟩ := bnd (att_idx.symm.trans ha)
    obtain ⟨b', b1, b2⟩ := bnd f2
    injection b2 with b2
    rw [← b2]; exact Or.inr (Or.inr rfl)
  case case7 =>
    rename_i t e n b lo hi ih
    obtain ⟨i, j, h1, h2, h3, h4, hq, h6, h5⟩ := h
    obtain ⟨b', b1, b2⟩ := bnd (att_pre.symm.trans ha)
    exact pre (ih i j h5 [] 0 b' b1) b2
  case case8 =>
    obtain ⟨b', b1, b2⟩ := bnd (att_post.symm.trans ha)
    injection b2 with b2
    rw [← b2]; exact Or.inr (Or.inr rfl)
  case case9 =>
    rename_i x y z n b lo hi ih3 ih2 ih1
    obtain ⟨i, m1, m2, h1, h2, h3, h4, hq, h5, h6, h7⟩ := h
    obtain ⟨c1, d1, f⟩ := bnd (att_cnd.symm.trans ha)
    obtain ⟨c2, d2, f⟩ := bnd f
    obtain ⟨c3, d3, f⟩ := bnd f
    injection f with f
    obtain ⟨e1, k1, l1⟩ := bnd d1
    obtain ⟨e2, k2, l2⟩ := bnd d2
    obtain ⟨e3, k3, l3⟩ := bnd d3
    have q1 := ih3 i m1 h5 [] 0 e1 k1
    have q2 := ih2 i m1 m2 h6 [] 0 e2 k2
    have q3 := ih1 i m2 h7 [] 0 e3 k3
    have y1 : c1.2.1 = e1.2.1 := by rw [num_f l1]
    have y2 : c2.2.1 = e2.2.1 := by rw [num_f l2]
    have y3 : c3.2.1 = e3.2.1 := by rw [num_f l3]
    have yy : a.2.1 = if c2.2.1 = 3 ∨ c3.2.1 = 3 then 3 else if c1.2.1 = 0 then (if c1.2.2.1.toInt = 0 then c3.2.1 else c2.2.1) else c1.2.1 := by rw [← f]; rfl
    rw [yy]
    split
    · exact Or.inr (Or.inr rfl)
    · split
      · split <;> omega
      · omega
  case case10 =>
    obtain ⟨c1, d1, f⟩ := bnd (att_asg.symm.trans ha)
    obtain ⟨c2, d2, f⟩ := bnd f
    injection f with f
    rw [← f]; exact Or.inr (Or.inr rfl)
  case case11 =>
    rename_i t x y md n b lo hi ih3 ih2 ih1
    obtain ⟨i, j, mid, l2, h2, a1, a2, a3, a4, a5, a6, a7, a8, a9, a10, a11, a12, a13⟩ := h
    obtain ⟨c1, d1, f⟩ := bnd (att_bin.symm.trans ha)
    obtain ⟨c2, d2, f⟩ := bnd f
    injection f with f
    obtain ⟨e1, k1, l1⟩ := bnd d1
    obtain ⟨e2, k2, l2'⟩ := bnd d2
    have q2 := ih3 j l2 h2 a12 [] 0 e2 k2
    have q1 : e1.2.1 = 0 ∨ e1.2.1 = 2 ∨ e1.2.1 = 3 := by
      rcases a13 with ⟨b1, b2, p, b3, b4, b5⟩ | ⟨b1, b2, a, b3, b4, b5, b6⟩
      · exact ih2 mid p b4 [] 0 e1 k1
      · exact ih1 mid a b5 [] 0 e1 k1
    have yy : a.2.1 = (aFold (k t) (c1.2.1, c1.2.2.1) (c2.2.1, c2.2.2.1)).1 := by rw [← f]; rfl
    rw [yy, num_k l1, num_k l2']
    exact fold_b q1 q2
  case case12 =>
    rename_i s e n b lo hi ih
    obtain ⟨b', b1, b2⟩ := bnd (att_pre.symm.trans ha)
    exact pre (ih h.2 [] 0 b' b1) b2
  case case13 => exact h.elim
variable {RL : Trk} {p0 v : Int32} {cf' : Nat → Int32} {q : Int}
theorem rk_222 (hT : RTk ta c) (hk : ∀ i : Nat, i < c → rkd ta i = k i) (HR : HRk k vl c L F ta na ma ca RL) {x4 : Int32} (hx4 : x4.toInt = q) : ∀ (r : List (Option Nat × Ast)) (m : Nat) (x5 x6 : Int32) (lo hi : Nat) (cf cf0 : Nat → Int32) (s : Int × Int32), E_mp_reckon RL ta na ma ca p0 cf' v m 222 [x4, x5, x6] [] [] [] [] cf → OpL k c na ma r x6.toInt lo hi → (∀ oe ∈ r, ∃ t : Nat, oe.1 = some t ∧ rkO (k t) = q) → okL k vl (lkp L) F r = some () → EnvR k vl c cf ca L → (s.1 = 0 ∨ s.1 = 2) → RkM s cf0 cf x5 → ¬ (foK k vl (lkp L) F r s).1 = 3 → RkM (foK k vl (lkp L) F r s) cf0 cf' v := by
  intro r
  induction r with
  | nil =>
    intro m x5 x6 lo hi cf cf0 s h hO _ _ hE hs hM _
    have hneg : x6.toInt < 0 := hO.1
    rcases iv_mp_reckon_222 h with ⟨m', (⟨h1, e0, ev⟩ | ⟨h1, (⟨h2, (⟨h3, z8, h4, cf10, v12, h5, cf21, v23, h6, z31, h7, hQ⟩ | ⟨h3, (⟨h4, z34, h5, hQ⟩ | ⟨h4, cf36, v38, h5, (⟨h6, z48, h7, hQ⟩ | ⟨h6, z49, h7, hQ⟩)⟩)⟩)⟩ | ⟨h2, (⟨h3, z52, h4, hQ⟩ | ⟨h3, cf54, v56, h4, (⟨h5, z66, h6, hQ⟩ | ⟨h5, z67, h6, hQ⟩)⟩)⟩)⟩)⟩
    · rw [e0, ev]; exact hM
    all_goals (exfalso; omega)
  | cons a r ih =>
    obtain ⟨o, e⟩ := a
    intro m x5 x6 lo hi cf cf0 s h hO hops hok hE hs hM h3
    obtain ⟨j, l, h', r1, r2, r3, r4, r5, r6⟩ := hO
    obtain ⟨q0, q1, q2⟩ := bnd (show (((att k vl (lkp L) F e [] 0).bind aNum).bind fun _ => okL k vl (lkp L) F r) = some () from hok)
    obtain ⟨a, g1, g2⟩ := bnd q1
    have r4' : Rep k c na ma e false x6.toInt 0 l h' := by rw [r1]; exact r4
    obtain ⟨t, ht, hrk⟩ := hops (o, e) List.mem_cons_self
    have ht' : o = some t := ht
    have f5 := r5 t ht'
    have hops' : ∀ oe ∈ r, ∃ t : Nat, oe.1 = some t ∧ rkO (k t) = q := fun oe h => hops oe (List.mem_cons_of_mem _ h)
    have kn := knE_s g1
    have n3 := foK_3 r _ (show ¬ (foK k vl (lkp L) F r (aFold (k (tkO o)) s (knE k vl (lkp L) F e))).1 = 3 from h3)
    rw [kn] at n3
    have n3' := fold_3 n3
    have to : tkO o = t := by rw [ht']; rfl
    show RkM (foK k vl (lkp L) F r (aFold (k (tkO o)) s (knE k vl (lkp L) F e))) cf0 cf' v
    have h3' : ¬ (foK k vl (lkp L) F r (aFold (k (tkO o)) s (knE k vl (lkp L) F e))).1 = 3 := h3
    rw [kn, to] at h3' ⊢
    have a3 : ¬ a.2.1 = 3 := n3'.2
    have HA := fun {cf1 : Nat → Int32} {w : Int32} (y : RL ta na ma ca x6 cf cf1 w) => HR e x6 w l h' a cf cf1 r3 r4' hE g1 a3 y
    have EV : ∀ {cf1 : Nat → Int32}, (∀ i : Nat, ¬ i = 46 → cf1 i = cf i) → EnvR k vl c cf1 ca L := fun w => hE.sm (w 33 (by decide))
    have s12 : (aFold (k t) s (a.2.1, a.2.2.1)).1 = 0 ∨ (aFold (k t) s (a.2.1, a.2.2.1)).1 = 2 := by
      rcases fold_b (w := k t) (x := s) (y := (a.2.1, a.2.2.1)) (by omega) (kn_b _ _ _ _ _ _ r4 [] 0 a g1) with w | w | w
      · exact Or.inl w
      · exact Or.inr w
      · exact absurd w (by rw [to] at n3; exact n3)
    have a02 : a.2.1 = 0 ∨ a.2.1 = 2 := by
      rcases kn_b _ _ _ _ _ _ r4 [] 0 a g1 with w | w | w
      · exact Or.inl w
      · exact Or.inr w
      · exact absurd w a3
    have s3 : ¬ s.1 = 3 := by omega
    have go : ∀ {x5' z : Int32} {cf1 : Nat → Int32} {m' : Nat}, z = na 21 x6.toNatClampNeg → RkM (aFold (k t) s (a.2.1, a.2.2.1)) cf0 cf1 x5' → EnvR k vl c cf1 ca L → E_mp_reckon RL ta na ma ca p0 cf' v m' 222 [x4, x5', z] [] [] [] [] cf1 → RkM (foK k vl (lkp L) F r (aFold (k t) s (a.2.1, a.2.2.1))) cf0 cf' v := fun {x5'} {z} {cf1} {m'} ez hM' hE' hQ => by
      rw [cn_of r1] at ez
      exact ih m' x5' z h' hi cf1 cf0 _ hQ (by rw [ez]; exact r6) hops' q2 hE' s12 hM' h3'
    obtain ⟨M1, M2, M3⟩ := hM
    have lg : ∀ {d : Int} {cf1 : Nat → Int32} {w1 x' : Int32}, RL ta na ma ca x6 cf cf1 w1 → (s.1 = 0 → x5 = s.2 → aLog d s (a.2.1, a.2.2.1) = (a.2.1, nz a.2.2.1)) → x' = nz w1 → RkM (aLog d s (a.2.1, a.2.2.1)) cf0 cf1 x' := fun {d} {cf1} {w1} {x'} y hl hx' => by
      obtain ⟨A1, A2, A3⟩ := HA y
      refine ⟨fun i hi => (A1 i hi).trans (M1 i hi), fun w => A2 (M2 w), fun w => ?_⟩
      have B := M3 w
      rcases hs with hs0 | hs2
      · obtain ⟨c1, c2⟩ := B.1 hs0
        rw [hl hs0 c2]
        have A := A3 c1
        refine ⟨fun z => ⟨(A.1 z).1, ?_⟩, A.2⟩
        rw [hx', (A.1 z).2]
      · have y2 : aLog d s (a.2.1, a.2.2.1) = s := by unfold aLog; rw [if_neg (by omega)]
        rw [y2]
        exact ⟨fun z => by exfalso; omega, fun _ => A2 (B.2 hs2)⟩
    rcases iv_mp_reckon_222 h with ⟨m', (⟨h1, e0, ev⟩ | ⟨h1, (⟨h2, (⟨h3, z8, h4, cf10, v12, h5, cf21, v23, h6, z31, h7, hQ⟩ | ⟨h3, (⟨h4, z34, h5, hQ⟩ | ⟨h4, cf36, v38, h5, (⟨h6, z48, h7, hQ⟩ | ⟨h6, z49, h7, hQ⟩)⟩)⟩)⟩ | ⟨h2, (⟨h3, z52, h4, hQ⟩ | ⟨h3, cf54, v56, h4, (⟨h5, z66, h6, hQ⟩ | ⟨h5, z67, h6, hQ⟩)⟩)⟩)⟩)⟩
    · exfalso; omega
    · have w136 : ¬ k t = 136 := fun w => h3 (by rw [hx4, ← hrk, w]; rfl)
      have w137 : ¬ k t = 137 := fun w => h2 (by rw [hx4, ← hrk, w]; rfl)
      rw [cn_of r1] at h4
      obtain ⟨A1, A2, A3⟩ := HA h5
      obtain ⟨T1, T2⟩ := two_f h6
      have hz : z8.toInt = (t : Int) := by rw [h4]; exact f5.1
      have T3 := two_r hT hz f5.2.1 (by rw [hk t f5.2.1]; exact f5.2.2) (by rw [hk t f5.2.1, hrk, ← hx4]; exact h2) (by rw [hk t f5.2.1, hrk, ← hx4]; exact h3) h6
      rw [hk t f5.2.1] at T3
      refine go h7 ⟨fun i hi => (T1 i hi).trans ((A1 i hi).trans (M1 i hi)), fun w => T2 (A2 (M2 w)), fun w => ?_⟩ (EV (fun i hi => (T1 i hi).trans (A1 i hi))) hQ
      rw [fold_g w136 w137 s3 a3]
      have B := M3 w
      rcases hs with hs0 | hs2
      · obtain ⟨c1, c2⟩ := B.1 hs0
        have A := A3 c1
        rcases a02 with a0 | a2
        · obtain ⟨d1, d2⟩ := A.1 a0
          have T := T3 d1
          have d2' : v12 = a.2.2.1 := d2
          rw [c2, d2'] at T
          by_cases z : (k t = 47 ∨ k t = 37) ∧ a.2.2.1.toInt = 0
          · rw [if_pos z] at T
            rw [if_pos (Or.inr (Or.inr ⟨a0, z⟩))]
            exact ⟨fun y => absurd y (show ¬ (2 : Int) = 0 by decide), fun _ => T⟩
          · rw [if_neg z] at T
            have nz' : ¬ (s.1 = 2 ∨ a.2.1 = 2 ∨ (a.2.1 = 0 ∧ (k t = 47 ∨ k t = 37) ∧ a.2.2.1.toInt = 0)) := by
              rintro (y | y | y)
              · omega
              · omega
              · exact z y.2
            rw [if_neg nz']
            exact ⟨fun _ => T, fun y => absurd y (show ¬ (0 : Int) = 2 by decide)⟩
        · rw [if_pos (Or.inr (Or.inl a2))]
          exact ⟨fun y => absurd y (show ¬ (2 : Int) = 0 by decide), fun _ => T2 (A.2 a2)⟩
      · rw [if_pos (Or.inl hs2)]
        exact ⟨fun y => absurd y (show ¬ (2 : Int) = 0 by decide), fun _ => T2 (A2 (B.2 hs2))⟩
    · have k136 : k t = 136 := rkO_2 (by rw [hrk, ← hx4]; exact h3)
      refine go h5 ⟨M1, M2, fun w => ?_⟩ hE hQ
      rw [k136, (fold_l s3 a3).1]
      have B := M3 w
      unfold aLog
      rcases hs with hs0 | hs2
      · obtain ⟨c1, c2⟩ := B.1 hs0
        rw [if_pos hs0, if_pos (by rw [← c2]; exact h4), if_pos rfl]
        exact ⟨fun _ => ⟨c1, rfl⟩, fun y => absurd y (show ¬ (0 : Int) = 2 by decide)⟩
      · rw [if_neg (by omega)]
        exact ⟨fun y => by exfalso; omega, B.2⟩
    · have k136 : k t = 136 := rkO_2 (by rw [hrk, ← hx4]; exact h3)
      refine go h7 ?_ (EV (HA h5).1) hQ
      rw [k136, (fold_l s3 a3).1]
      refine lg h5 (fun y1 y2 => ?_) (by unfold nz; rw [if_pos h6])
      unfold aLog
      rw [if_pos y1, if_neg (by rw [← y2]; exact h4), if_neg (show ¬ (0 : Int) = 1 by decide)]
    · have k136 : k t = 136 := rkO_2 (by rw [hrk, ← hx4]; exact h3)
      refine go h7 ?_ (EV (HA h5).1) hQ
      rw [k136, (fold_l s3 a3).1]
      refine lg h5 (fun y1 y2 => ?_) (by unfold nz; rw [if_neg h6])
      unfold aLog
      rw [if_pos y1, if_neg (by rw [← y2]; exact h4), if_neg (show ¬ (0 : Int) = 1 by decide)]
    · have k137 : k t = 137 := rkO_1 (by rw [hrk, ← hx4]; exact h2)
      refine go h4 ⟨M1, M2, fun w => ?_⟩ hE hQ
      rw [k137, (fold_l s3 a3).2]
      have B := M3 w
      unfold aLog
      rcases hs with hs0 | hs2
      · obtain ⟨c1, c2⟩ := B.1 hs0
        rw [if_pos hs0, if_neg (by rw [← c2]; exact h3), if_pos rfl]
        exact ⟨fun _ => ⟨c1, rfl⟩, fun y => absurd y (show ¬ (0 : Int) = 2 by decide)⟩
      · rw [if_neg (by omega)]
        exact ⟨fun y => by exfalso; omega, B.2⟩
    · have k137 : k t = 137 := rkO_1 (by rw [hrk, ← hx4]; exact h2)
      refine go h6 ?_ (EV (HA h4).1) hQ
      rw [k137, (fold_l s3 a3).2]
      refine lg h4 (fun y1 y2 => ?_) (by unfold nz; rw [if_pos h5])
      unfold aLog
      rw [if_pos y1, if_pos (by rw [← y2]; exact h3), if_neg (show ¬ (1 : Int) = 0 by decide)]
    · have k137 : k t = 137 := rkO_1 (by rw [hrk, ← hx4]; exact h2)
      refine go h6 ?_ (EV (HA h4).1) hQ
      rw [k137, (fold_l s3 a3).2]
      refine lg h4 (fun y1 y2 => ?_) (by unfold nz; rw [if_neg h5])
      unfold aLog
      rw [if_pos y1, if_pos (by rw [← y2]; exact h3), if_neg (show ¬ (1 : Int) = 0 by decide)]
end RF2
