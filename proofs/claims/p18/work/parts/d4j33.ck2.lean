/-! THE REFERENCE's checker: check, a shape at a time (laid by genc2.py) -/
/-- marks before an operand, by their letters -/
def PrL (ta : Nat → Nat → Int32) (k : Nat → Int) (c : Nat) : Prop := ∀ t : Nat, t < c → isPre (k t) → ((ta 8 t).toInt = 2 ↔ (k t = 138 ∨ k t = 139)) ∧ (¬ (k t = 138 ∨ k t = 139) → (ta 4 (ta 7 t).toNatClampNeg).toInt = k t)
theorem bnd {α β : Type} {x : Option α} {f : α → Option β} {b : β} (h : x.bind f = some b) : ∃ a, x = some a ∧ f a = some b := by
  cases x with
  | none => exact absurd h (by simp)
  | some a => exact ⟨a, rfl, h⟩
theorem aNam_4 {g : Ent} : ¬ (aNam g).1 = 4 := by
  unfold aNam
  by_cases h0 : g.1 = 0
  · rw [if_pos h0]
    show ¬ (0 : Int) = 4
    decide
  · rw [if_neg h0]
    show ¬ (if g.1 = 1 then (1 : Int) else if g.1 = 2 then 2 else 5) = 4
    split
    · decide
    · split <;> decide
theorem aPre_0 {w : Int} {a b : Atr} (h : aPre w a = some b) : b.1 = 0 := by
  unfold aPre at h
  split at h
  · obtain ⟨y, -, h⟩ := bnd h
    injection h with h
    rw [← h]
  · obtain ⟨y, -, h⟩ := bnd h
    injection h with h
    rw [← h]
section RB2
variable {tf : Nat → Int32} {ta : Nat → Nat → Int32} {k : Nat → Int} {vl : Nat → Int32} {c t i lo hi : Nat} {cf cf' cf1 cf2 : Nat → Int32} {ca na ma ma' ma1 ma2 : Nat → Nat → Int32} {L : Nms} {F : Int32 → Option Fnc} {n38 : Int32} {M : Nat → Int32} {RL : Tck} {p0 p1 v : Int32} {b : Bool} {e x y z as : Ast} {n : Int}
/-- what kind of node an expression is, by what it is -/
theorem plh (e : Ast) (md : Bool) (n b : Int) (lo hi : Nat) : Rep k c na ma e md n b lo hi → md = false → isEx e = true → ∀ a : Atr, att k vl (lkp L) F e [] 0 = some a → ∃ j : Nat, n = (j : Int) ∧ (a.1 = 4 ↔ (na 14 j).toInt = 4) ∧ (a.1 = 1 → (na 14 j).toInt = 2) ∧ ((na 14 j).toInt = 2 → ∃ t : Nat, ((na 15 j).toInt = (t : Int) ∧ t < c ∧ k t = 16) ∧ ∃ g : Ent, lkp L (vl t) = some g ∧ a.1 = (aNam g).1) := by
  have zero : ∀ {n : Int} {i : Nat} {a : Atr}, n = (i : Int) → (a.1 = 0 ∨ a.1 = 3) → ¬ (na 14 i).toInt = 2 → ¬ (na 14 i).toInt = 4 → ∃ j : Nat, n = (j : Int) ∧ (a.1 = 4 ↔ (na 14 j).toInt = 4) ∧ (a.1 = 1 → (na 14 j).toInt = 2) ∧ ((na 14 j).toInt = 2 → ∃ t : Nat, ((na 15 j).toInt = (t : Int) ∧ t < c ∧ k t = 16) ∧ ∃ g : Ent, lkp L (vl t) = some g ∧ a.1 = (aNam g).1) := fun {n} {i} {a} h1 h2 h3 h4 => ⟨i, h1, ⟨fun q => by exfalso; omega, fun q => by exfalso; omega⟩, fun q => by exfalso; omega, fun q => by exfalso; omega⟩
  fun_induction Rep k c na ma e md n b lo hi
  all_goals intro h hm hx a ha
  case case1 =>
    obtain ⟨i, h1, h2, h3, h4⟩ := h
    have h3' := h3.1
    have q := att_num.symm.trans ha
    injection q with q
    exact zero h1 (Or.inl (by rw [← q])) (by omega) (by omega)
  case case2 =>
    obtain ⟨i, h1, h2, h3, h4, hq⟩ := h
    have h3' := h3.1
    obtain ⟨g, g1, g2⟩ := bnd (att_name.symm.trans ha)
    injection g2 with g2
    have a4 : ¬ a.1 = 4 := by rw [← g2]; exact aNam_4
    exact ⟨i, h1, ⟨fun q => absurd q a4, fun q => by exfalso; omega⟩, fun _ => h3', fun _ => ⟨_, ⟨h3.2, hq⟩, g, g1, by rw [← g2]⟩⟩
  case case3 =>
    obtain ⟨i, h1, h2, h3, h4, hq, h5⟩ := h
    have h3' := h3.1
    obtain ⟨f, f1, f2⟩ := bnd (att_call.symm.trans ha)
    obtain ⟨b', b1, b2⟩ := bnd f2
    injection b2 with b2
    refine zero h1 ?_ (by omega) (by omega)
    rw [← b2]
    show (if f.1 = true then (3 : Int) else 0) = 0 ∨ (if f.1 = true then (3 : Int) else 0) = 3
    split
    · exact Or.inr rfl
    · exact Or.inl rfl
  case case4 => exact absurd hx Bool.false_ne_true
  case case5 => exact absurd hx Bool.false_ne_true
  case case6 =>
    obtain ⟨i, h1, h2, h3, h4, hq, h5⟩ := h
    have h3' := h3.1
    obtain ⟨f, f1, f2⟩ := bnd (att_idx.symm.trans ha)
    obtain ⟨b', b1, b2⟩ := bnd f2
    injection b2 with b2
    have a4 : a.1 = 4 := by rw [← b2]
    exact ⟨i, h1, ⟨fun _ => h3', fun _ => a4⟩, fun q => by exfalso; omega, fun q => by exfalso; omega⟩
  case case7 =>
    obtain ⟨i, j, h1, h2, h3, h4, hq, h6, h5⟩ := h
    have h3' := h3.1
    obtain ⟨b', b1, b2⟩ := bnd (att_pre.symm.trans ha)
    exact zero h1 (Or.inl (aPre_0 b2)) (by omega) (by omega)
  case case8 =>
    obtain ⟨i, h1, h2, h3, h4, hq, h5⟩ := h
    have h3' := h3.1
    obtain ⟨b', b1, b2⟩ := bnd (att_post.symm.trans ha)
    injection b2 with b2
    exact zero h1 (Or.inl (by rw [← b2])) (by omega) (by omega)
  case case9 =>
    obtain ⟨i, m1, m2, h1, h2, h3, h4, hq, h5, h6, h7⟩ := h
    obtain ⟨b1, -, f⟩ := bnd (att_cnd.symm.trans ha)
    obtain ⟨b2, -, f⟩ := bnd f
    obtain ⟨b3, -, f⟩ := bnd f
    injection f with f
    exact zero h1 (Or.inl (by rw [← f]; rfl)) (by omega) (by omega)
  case case10 =>
    obtain ⟨i, m1, h1, h2, h3, h4, hq, h5, h6⟩ := h
    have h3' := h3.1
    obtain ⟨b1, -, f⟩ := bnd (att_asg.symm.trans ha)
    obtain ⟨b2, -, f⟩ := bnd f
    injection f with f
    exact zero h1 (Or.inl (by rw [← f]; rfl)) (by omega) (by omega)
  case case11 =>
    obtain ⟨i, j, mid, l2, h2, a1, a2, a3, a4, a5, a6, a7, a8, a9, a10, a11, a12, a13⟩ := h
    clear a13
    obtain ⟨b1, -, f⟩ := bnd (att_bin.symm.trans ha)
    obtain ⟨b2, -, f⟩ := bnd f
    injection f with f
    exact zero a1 (Or.inl (by rw [← f]; rfl)) (by omega) (by omega)
  case case12 => exact absurd hm (by decide)
  case case13 => exact h.elim
theorem rep_nn (e : Ast) (md : Bool) (n b : Int) (lo hi : Nat) : Rep k c na ma e md n b lo hi → md = false → isEx e = true → ∃ j : Nat, n = (j : Int) := by
  fun_induction Rep k c na ma e md n b lo hi
  all_goals intro h hm hx
  case case4 => exact absurd hx Bool.false_ne_true
  case case5 => exact absurd hx Bool.false_ne_true
  case case7 =>
    obtain ⟨i, j, h1, -⟩ := h
    exact ⟨i, h1⟩
  case case9 =>
    obtain ⟨i, m1, m2, h1, -⟩ := h
    exact ⟨i, h1⟩
  case case10 =>
    obtain ⟨i, m1, h1, -⟩ := h
    exact ⟨i, h1⟩
  case case11 =>
    obtain ⟨i, j, mid, l2, h2, a1, -⟩ := h
    exact ⟨i, a1⟩
  case case12 => exact absurd hm (by decide)
  case case13 => exact h.elim
  all_goals
    obtain ⟨i, h1, -⟩ := h
    exact ⟨i, h1⟩
theorem plc_ac (hs : SmN ta k vl c) {z : Int32} (O : OkC k vl (lkp L) F na ca M e false z.toInt lo hi ma cf ma1 cf1 v.toInt) (hR : Rep k c na ma e false z.toInt 0 lo hi) (hx : isEx e = true) (hE : EnvR k vl c cf1 ca L) (h : R_mp_checkPlace ta na ca z v cf1 cf2) : SmK cf1 cf2 ∧ (Bc cf1 → Bc cf2) ∧ AC cf cf2 ((att k vl (lkp L) F e [] 0).bind aTgt) (fun _ => True) := by
  have U := O.u
  have hz : ∃ j : Nat, z.toInt = (j : Int) := rep_nn _ _ _ _ _ _ hR rfl hx
  cases g : att k vl (lkp L) F e [] 0 with
  | none =>
    obtain ⟨j, hj⟩ := hz
    obtain ⟨c1, c2⟩ := chp_r (a1 := 0) hs hE hj (fun u => absurd u (U.n (uc_of U.1 u) g)) h
    exact ⟨c1, c2.1, AC.of (fun q => c2.1 (U.1 q)) (fun u => Or.inl ⟨rfl, c2.1 (U.n u g)⟩)⟩
  | some a =>
    obtain ⟨j, hj, p1, p2, p3⟩ := plh _ _ _ _ _ _ hR rfl hx a g
    obtain ⟨c1, c2⟩ := chp_r (a1 := a.1) hs hE hj (fun u => ⟨(U.y (uc_of U.1 u) g).2, p1, p2, p3⟩) h
    refine ⟨c1, c2.1, AC.of (fun q => c2.1 (U.1 q)) (fun u => ?_)⟩
    have q := U.y u g
    by_cases w : a.1 = 1 ∨ a.1 = 4
    · have y : aTgt a = some a := by unfold aTgt; rw [if_pos w]
      exact Or.inr ⟨a, y, (c2.y q.1 (if_pos w)).1, trivial⟩
    · have y : aTgt a = none := by unfold aTgt; rw [if_neg w]
      exact Or.inl ⟨y, c2.n q.1 (if_neg w)⟩
theorem OkC.kp (O : OkC k vl (lkp L) F na ca M e b n lo hi ma cf ma1 cf1 v.toInt) (hR : Rep k c na ma e false n 0 lo hi) (hx : isEx e = true) (A : ∀ f i : Nat, lo ≤ i → i < hi → ma2 f i = ma1 f i) (u : Uc cf1) (d : Nat) : NtN na ca vl M F ma2 d n := (nt_kp (szA e) e false n 0 lo hi (Nat.le_refl _) rfl rfl (rep_k2 _ _ _ _ _ _ hR O.2.2.1) A).1 hx d (O.2.2.2.2 u d)
theorem nt_l (hn : n = (i : Int)) (hk : (na 14 i).toInt = 1 ∨ (na 14 i).toInt = 2) (d : Nat) : NtN na ca vl M F ma d n := by
  cases d with
  | zero => trivial
  | succ d => exact ⟨i, hn, fun w => by exfalso; omega, fun w => by exfalso; omega, fun w => by exfalso; omega, fun w => by exfalso; omega, fun w => by exfalso; omega⟩
theorem nt_k (hn : n = (i : Int)) (hk : (na 14 i).toInt = 4 ∨ (na 14 i).toInt = 5 ∨ (na 14 i).toInt = 6) (h : ∀ d : Nat, NtN na ca vl M F ma d (na 17 i).toInt) (d : Nat) : NtN na ca vl M F ma d n := by
  cases d with
  | zero => trivial
  | succ d => exact ⟨i, hn, fun w => by exfalso; omega, fun _ => h d, fun w => by exfalso; omega, fun w => by exfalso; omega, fun w => by exfalso; omega⟩
theorem nt_7 (hn : n = (i : Int)) (hk : (na 14 i).toInt = 7) (h : ∀ d : Nat, AllN na (NtN na ca vl M F ma d) (na 17 i).toInt) (d : Nat) : NtN na ca vl M F ma d n := by
  cases d with
  | zero => trivial
  | succ d => exact ⟨i, hn, fun w => by exfalso; omega, fun w => by exfalso; omega, fun _ => h d, fun w => by exfalso; omega, fun w => by exfalso; omega⟩
theorem nt_8 (hn : n = (i : Int)) (hk : (na 14 i).toInt = 8) (h1 : ∀ d : Nat, NtN na ca vl M F ma d (na 17 i).toInt) (h2 : ∀ d : Nat, NtN na ca vl M F ma d (ma 18 i).toInt) (h3 : ∀ d : Nat, NtN na ca vl M F ma d (ma 19 i).toInt) (d : Nat) : NtN na ca vl M F ma d n := by
  cases d with
  | zero => trivial
  | succ d => exact ⟨i, hn, fun w => by exfalso; omega, fun w => by exfalso; omega, fun w => by exfalso; omega, fun _ => ⟨h1 d, h2 d, h3 d⟩, fun w => by exfalso; omega⟩
theorem nt_9 (hn : n = (i : Int)) (hk : (na 14 i).toInt = 9) (h1 : ∀ d : Nat, NtN na ca vl M F ma d (na 17 i).toInt) (h2 : ∀ d : Nat, NtN na ca vl M F ma d (ma 18 i).toInt) (d : Nat) : NtN na ca vl M F ma d n := by
  cases d with
  | zero => trivial
  | succ d => exact ⟨i, hn, fun w => by exfalso; omega, fun w => by exfalso; omega, fun w => by exfalso; omega, fun w => by exfalso; omega, fun _ => ⟨h1 d, h2 d⟩⟩
theorem bf_ (hp1 : p1.toInt = if b = true then 1 else 0) (h : p1.toInt = 0) : b = false := by
  cases b
  · rfl
  · rw [if_pos rfl] at hp1; exfalso; omega
theorem bt_ (hp1 : p1.toInt = if b = true then 1 else 0) (h : ¬ p1.toInt = 0) : b = true := by
  cases b
  · rw [if_neg (by decide)] at hp1; exact absurd hp1 h
  · rfl
theorem ck_num (hs : SmN ta k vl c) (hF : FunR tf ta na ca k vl c n38 M F) (hP : PrL ta k c) (HC : HCk k vl c L F n38 M tf ta na ca RL) (hh : hi ≤ 100000) (hR : Rep k c na ma (.arg t) false p0.toInt 0 lo hi) (hp1 : p1.toInt = if b = true then 1 else 0) (hc : CtR k vl c ca L n38 M cf ma) {m : Nat} (h : E_mp_check RL tf ta na ca p0 p1 ma' cf' v m 0 [] [] [] [] [] ma cf) : OkC k vl (lkp L) F na ca M (.arg t) b p0.toInt lo hi ma cf ma' cf' v.toInt := by
  obtain ⟨i, hp, h2', h3', h4'⟩ := hR
  have h14 := h3'.1
  have fin : ma' = ma → cf' = cf → v = 1 → OkC k vl (lkp L) F na ca M (.arg t) b p0.toInt lo hi ma cf ma' cf' v.toInt := fun e0 e1 ev => by
    rw [e0, e1, ev, show (1 : Int32).toInt = 1 from rfl]
    exact Ok0.cn ⟨SmK.rf, FrM.rf, AgKr.rf, (show AC cf cf (some (0, 0, vl t, 1)) (fun a : Atr => IsV 1 a.1) from AC.ret (Or.inl ⟨rfl, Or.inl rfl⟩)), fun _ => nt_l hp (Or.inl h14)⟩
  rcases iv_mp_check_0 h with ⟨m', z149, h1, (⟨h2, z151, h3, ma154, cf155, v157, h4, z174, h5, cf176, h6, z189, h7, ma192, cf193, v195, h8, (⟨h9, (⟨h10, e0, e1, ev⟩ | ⟨h10, e0, e1, ev⟩)⟩ | ⟨h9, (⟨h10, e0, e1, ev⟩ | ⟨h10, e0, e1, ev⟩)⟩)⟩ | ⟨h2, (⟨h3, (⟨h4, e0, e1, ev⟩ | ⟨h4, e0, e1, ev⟩)⟩ | ⟨h3, (⟨h4, e0, e1, ev⟩ | ⟨h4, e0, e1, ev⟩)⟩)⟩ | ⟨h2, ma235, cf236, v238, h3, (⟨h4, (⟨h5, e0, e1, ev⟩ | ⟨h5, (⟨h6, e0, e1, ev⟩ | ⟨h6, z260, h7, cf262, h8, e0, e1, ev⟩)⟩)⟩ | ⟨h4, (⟨h5, v288, h6, cf293, h7, e0, e1, ev⟩ | ⟨h5, (⟨h6, (⟨h7, e0, e1, ev⟩ | ⟨h7, (⟨h8, e0, e1, ev⟩ | ⟨h8, z322, h9, cf324, h10, e0, e1, ev⟩)⟩)⟩ | ⟨h6, v348, h7, cf353, h8, e0, e1, ev⟩)⟩)⟩)⟩ | ⟨h2, ma378, cf379, v381, h3, (⟨h4, (⟨h5, e0, e1, ev⟩ | ⟨h5, (⟨h6, e0, e1, ev⟩ | ⟨h6, z402, h7, cf404, h8, e0, e1, ev⟩)⟩)⟩ | ⟨h4, (⟨h5, v430, h6, cf435, h7, e0, e1, ev⟩ | ⟨h5, (⟨h6, (⟨h7, e0, e1, ev⟩ | ⟨h7, (⟨h8, e0, e1, ev⟩ | ⟨h8, z464, h9, cf466, h10, e0, e1, ev⟩)⟩)⟩ | ⟨h6, v490, h7, cf495, h8, e0, e1, ev⟩)⟩)⟩)⟩ | ⟨h2, ma520, cf521, h3, z536, h4, ma539, cf540, v542, h5, (⟨h6, (⟨h7, e0, e1, ev⟩ | ⟨h7, e0, e1, ev⟩)⟩ | ⟨h6, (⟨h7, e0, e1, ev⟩ | ⟨h7, e0, e1, ev⟩)⟩)⟩ | ⟨h2, z569, h3, z570, h4, (⟨h5, z573, h6, ma577, cf578, v580, h7, (⟨h8, (⟨h9, e0, e1, ev⟩ | ⟨h9, e0, e1, ev⟩)⟩ | ⟨h8, (⟨h9, e0, e1, ev⟩ | ⟨h9, e0, e1, ev⟩)⟩)⟩ | ⟨h5, z608, h6, ma612, cf613, v615, h7, z633, h8, cf635, h9, (⟨h10, (⟨h11, e0, e1, ev⟩ | ⟨h11, e0, e1, ev⟩)⟩ | ⟨h10, (⟨h11, e0, e1, ev⟩ | ⟨h11, e0, e1, ev⟩)⟩)⟩)⟩ | ⟨h2, z658, h3, ma661, cf662, v664, h4, z681, h5, cf683, h6, (⟨h7, (⟨h8, e0, e1, ev⟩ | ⟨h8, e0, e1, ev⟩)⟩ | ⟨h7, (⟨h8, e0, e1, ev⟩ | ⟨h8, e0, e1, ev⟩)⟩)⟩ | ⟨h2, z706, h3, hQ⟩ | ⟨h2, z707, h3, ma710, cf711, v713, h4, z730, h5, ma733, cf734, v736, h6, z753, h7, ma756, cf757, v759, h8, (⟨h9, (⟨h10, e0, e1, ev⟩ | ⟨h10, e0, e1, ev⟩)⟩ | ⟨h9, (⟨h10, e0, e1, ev⟩ | ⟨h10, e0, e1, ev⟩)⟩)⟩)⟩
  · rw [cn_of hp] at h1
    rw [h1] at h2
    exfalso; omega
  · rw [cn_of hp] at h1
    rw [h1] at h2
    exfalso; omega
  · rw [cn_of hp] at h1
    rw [h1] at h2
    exfalso; omega
  · rw [cn_of hp] at h1
    rw [h1] at h2
    exfalso; omega
  · exact fin e0 e1 ev
  · exact fin e0 e1 ev
  · exact fin e0 e1 ev
  · exact fin e0 e1 ev
  · rw [cn_of hp] at h1
    rw [h1] at h2
    exfalso; omega
  · rw [cn_of hp] at h1
    rw [h1] at h2
    exfalso; omega
  · rw [cn_of hp] at h1
    rw [h1] at h2
    exfalso; omega
  · rw [cn_of hp] at h1
    rw [h1] at h2
    exfalso; omega
  · rw [cn_of hp] at h1
    rw [h1] at h2
    exfalso; omega
  · rw [cn_of hp] at h1
    rw [h1] at h2
    exfalso; omega
  · rw [cn_of hp] at h1
    rw [h1] at h2
    exfalso; omega
  · rw [cn_of hp] at h1
    rw [h1] at h2
    exfalso; omega
  · rw [cn_of hp] at h1
    rw [h1] at h2
    exfalso; omega
  · rw [cn_of hp] at h1
    rw [h1] at h2
    exfalso; omega
  · rw [cn_of hp] at h1
    rw [h1] at h2
    exfalso; omega
  · rw [cn_of hp] at h1
    rw [h1] at h2
    exfalso; omega
  · rw [cn_of hp] at h1
    rw [h1] at h2
    exfalso; omega
  · rw [cn_of hp] at h1
    rw [h1] at h2
    exfalso; omega
  · rw [cn_of hp] at h1
    rw [h1] at h2
    exfalso; omega
  · rw [cn_of hp] at h1
    rw [h1] at h2
    exfalso; omega
  · rw [cn_of hp] at h1
    rw [h1] at h2
    exfalso; omega
  · rw [cn_of hp] at h1
    rw [h1] at h2
    exfalso; omega
  · rw [cn_of hp] at h1
    rw [h1] at h2
    exfalso; omega
  · rw [cn_of hp] at h1
    rw [h1] at h2
    exfalso; omega
  · rw [cn_of hp] at h1
    rw [h1] at h2
    exfalso; omega
  · rw [cn_of hp] at h1
    rw [h1] at h2
    exfalso; omega
  · rw [cn_of hp] at h1
    rw [h1] at h2
    exfalso; omega
  · rw [cn_of hp] at h1
    rw [h1] at h2
    exfalso; omega
  · rw [cn_of hp] at h1
    rw [h1] at h2
    exfalso; omega
  · rw [cn_of hp] at h1
    rw [h1] at h2
    exfalso; omega
  · rw [cn_of hp] at h1
    rw [h1] at h2
    exfalso; omega
  · rw [cn_of hp] at h1
    rw [h1] at h2
    exfalso; omega
  · rw [cn_of hp] at h1
    rw [h1] at h2
    exfalso; omega
  · rw [cn_of hp] at h1
    rw [h1] at h2
    exfalso; omega
  · rw [cn_of hp] at h1
    rw [h1] at h2
    exfalso; omega
  · rw [cn_of hp] at h1
    rw [h1] at h2
    exfalso; omega
  · rw [cn_of hp] at h1
    rw [h1] at h2
    exfalso; omega
  · rw [cn_of hp] at h1
    rw [h1] at h2
    exfalso; omega
  · rw [cn_of hp] at h1
    rw [h1] at h2
    exfalso; omega
  · rw [cn_of hp] at h1
    rw [h1] at h2
    exfalso; omega
  · rw [cn_of hp] at h1
    rw [h1] at h2
    exfalso; omega
theorem ck_nam (hs : SmN ta k vl c) (hF : FunR tf ta na ca k vl c n38 M F) (hP : PrL ta k c) (HC : HCk k vl c L F n38 M tf ta na ca RL) (hh : hi ≤ 100000) (hR : Rep k c na ma (.index t) false p0.toInt 0 lo hi) (hp1 : p1.toInt = if b = true then 1 else 0) (hc : CtR k vl c ca L n38 M cf ma) {m : Nat} (h : E_mp_check RL tf ta na ca p0 p1 ma' cf' v m 0 [] [] [] [] [] ma cf) : OkC k vl (lkp L) F na ca M (.index t) b p0.toInt lo hi ma cf ma' cf' v.toInt := by
  obtain ⟨i, hp, h2', h3', h4', hq⟩ := hR
  have h14 := h3'.1
  have mk : ∀ {ma1 : Nat → Nat → Int32} {cf1 : Nat → Int32} {v1 : Int32}, R_mp_checkName ta na ca p0 ma cf ma1 cf1 v1 → Ok0 k vl (lkp L) F na ca M (.index t) p0.toInt lo hi ma cf ma1 cf1 v1.toInt := fun q => by
    obtain ⟨c1, c2, c3, -, c5⟩ := chn_rr hs hc.1 hp h14 h3'.2 hq.1 hq.2 q
    exact ⟨c1, c2.le h2'.1 (by omega), c2.al c3, AC.mp c5 (fun y w => w.1), fun _ => nt_l hp (Or.inr h14)⟩
  rcases iv_mp_check_0 h with ⟨m', z149, h1, (⟨h2, z151, h3, ma154, cf155, v157, h4, z174, h5, cf176, h6, z189, h7, ma192, cf193, v195, h8, (⟨h9, (⟨h10, e0, e1, ev⟩ | ⟨h10, e0, e1, ev⟩)⟩ | ⟨h9, (⟨h10, e0, e1, ev⟩ | ⟨h10, e0, e1, ev⟩)⟩)⟩ | ⟨h2, (⟨h3, (⟨h4, e0, e1, ev⟩ | ⟨h4, e0, e1, ev⟩)⟩ | ⟨h3, (⟨h4, e0, e1, ev⟩ | ⟨h4, e0, e1, ev⟩)⟩)⟩ | ⟨h2, ma235, cf236, v238, h3, (⟨h4, (⟨h5, e0, e1, ev⟩ | ⟨h5, (⟨h6, e0, e1, ev⟩ | ⟨h6, z260, h7, cf262, h8, e0, e1, ev⟩)⟩)⟩ | ⟨h4, (⟨h5, v288, h6, cf293, h7, e0, e1, ev⟩ | ⟨h5, (⟨h6, (⟨h7, e0, e1, ev⟩ | ⟨h7, (⟨h8, e0, e1, ev⟩ | ⟨h8, z322, h9, cf324, h10, e0, e1, ev⟩)⟩)⟩ | ⟨h6, v348, h7, cf353, h8, e0, e1, ev⟩)⟩)⟩)⟩ | ⟨h2, ma378, cf379, v381, h3, (⟨h4, (⟨h5, e0, e1, ev⟩ | ⟨h5, (⟨h6, e0, e1, ev⟩ | ⟨h6, z402, h7, cf404, h8, e0, e1, ev⟩)⟩)⟩ | ⟨h4, (⟨h5, v430, h6, cf435, h7, e0, e1, ev⟩ | ⟨h5, (⟨h6, (⟨h7, e0, e1, ev⟩ | ⟨h7, (⟨h8, e0, e1, ev⟩ | ⟨h8, z464, h9, cf466, h10, e0, e1, ev⟩)⟩)⟩ | ⟨h6, v490, h7, cf495, h8, e0, e1, ev⟩)⟩)⟩)⟩ | ⟨h2, ma520, cf521, h3, z536, h4, ma539, cf540, v542, h5, (⟨h6, (⟨h7, e0, e1, ev⟩ | ⟨h7, e0, e1, ev⟩)⟩ | ⟨h6, (⟨h7, e0, e1, ev⟩ | ⟨h7, e0, e1, ev⟩)⟩)⟩ | ⟨h2, z569, h3, z570, h4, (⟨h5, z573, h6, ma577, cf578, v580, h7, (⟨h8, (⟨h9, e0, e1, ev⟩ | ⟨h9, e0, e1, ev⟩)⟩ | ⟨h8, (⟨h9, e0, e1, ev⟩ | ⟨h9, e0, e1, ev⟩)⟩)⟩ | ⟨h5, z608, h6, ma612, cf613, v615, h7, z633, h8, cf635, h9, (⟨h10, (⟨h11, e0, e1, ev⟩ | ⟨h11, e0, e1, ev⟩)⟩ | ⟨h10, (⟨h11, e0, e1, ev⟩ | ⟨h11, e0, e1, ev⟩)⟩)⟩)⟩ | ⟨h2, z658, h3, ma661, cf662, v664, h4, z681, h5, cf683, h6, (⟨h7, (⟨h8, e0, e1, ev⟩ | ⟨h8, e0, e1, ev⟩)⟩ | ⟨h7, (⟨h8, e0, e1, ev⟩ | ⟨h8, e0, e1, ev⟩)⟩)⟩ | ⟨h2, z706, h3, hQ⟩ | ⟨h2, z707, h3, ma710, cf711, v713, h4, z730, h5, ma733, cf734, v736, h6, z753, h7, ma756, cf757, v759, h8, (⟨h9, (⟨h10, e0, e1, ev⟩ | ⟨h10, e0, e1, ev⟩)⟩ | ⟨h9, (⟨h10, e0, e1, ev⟩ | ⟨h10, e0, e1, ev⟩)⟩)⟩)⟩
  · rw [cn_of hp] at h1
    rw [h1] at h2
    exfalso; omega
  · rw [cn_of hp] at h1
    rw [h1] at h2
    exfalso; omega
  · rw [cn_of hp] at h1
    rw [h1] at h2
    exfalso; omega
  · rw [cn_of hp] at h1
    rw [h1] at h2
    exfalso; omega
  · rw [cn_of hp] at h1
    rw [h1] at h2
    exfalso; omega
  · rw [cn_of hp] at h1
    rw [h1] at h2
    exfalso; omega
  · rw [cn_of hp] at h1
    rw [h1] at h2
    exfalso; omega
  · rw [cn_of hp] at h1
    rw [h1] at h2
    exfalso; omega
  · rw [e0, e1, ev, bf_ hp1 h4]
    exact (mk h3).f
  · exact absurd h4 h5
  · exact absurd h4 h5
  · rw [e0, e1, ev, bt_ hp1 h4]
    exact (mk h3).bd h7 (by decide) (Or.inl h5)
  · exact absurd h7 h4
  · rw [e0, e1, ev, bt_ hp1 h4]
    exact (mk h3).y h5 h6 h8
  · rw [e0, e1, ev, bt_ hp1 h4]
    exact (mk h3).bd h10 (by decide) (Or.inr (Or.inr h8))
  · rw [e0, e1, ev, bt_ hp1 h4]
    exact (mk h3).bd h8 (by decide) (Or.inr (Or.inl h6))
  · rw [cn_of hp] at h1
    rw [h1] at h2
    exfalso; omega
  · rw [cn_of hp] at h1
    rw [h1] at h2
    exfalso; omega
  · rw [cn_of hp] at h1
    rw [h1] at h2
    exfalso; omega
  · rw [cn_of hp] at h1
    rw [h1] at h2
    exfalso; omega
  · rw [cn_of hp] at h1
    rw [h1] at h2
    exfalso; omega
  · rw [cn_of hp] at h1
    rw [h1] at h2
    exfalso; omega
  · rw [cn_of hp] at h1
    rw [h1] at h2
    exfalso; omega
  · rw [cn_of hp] at h1
    rw [h1] at h2
    exfalso; omega
  · rw [cn_of hp] at h1
    rw [h1] at h2
    exfalso; omega
  · rw [cn_of hp] at h1
    rw [h1] at h2
    exfalso; omega
  · rw [cn_of hp] at h1
    rw [h1] at h2
    exfalso; omega
  · rw [cn_of hp] at h1
    rw [h1] at h2
    exfalso; omega
  · rw [cn_of hp] at h1
    rw [h1] at h2
    exfalso; omega
  · rw [cn_of hp] at h1
    rw [h1] at h2
    exfalso; omega
  · rw [cn_of hp] at h1
    rw [h1] at h2
    exfalso; omega
  · rw [cn_of hp] at h1
    rw [h1] at h2
    exfalso; omega
  · rw [cn_of hp] at h1
    rw [h1] at h2
    exfalso; omega
  · rw [cn_of hp] at h1
    rw [h1] at h2
    exfalso; omega
  · rw [cn_of hp] at h1
    rw [h1] at h2
    exfalso; omega
  · rw [cn_of hp] at h1
    rw [h1] at h2
    exfalso; omega
  · rw [cn_of hp] at h1
    rw [h1] at h2
    exfalso; omega
  · rw [cn_of hp] at h1
    rw [h1] at h2
    exfalso; omega
  · rw [cn_of hp] at h1
    rw [h1] at h2
    exfalso; omega
  · rw [cn_of hp] at h1
    rw [h1] at h2
    exfalso; omega
  · rw [cn_of hp] at h1
    rw [h1] at h2
    exfalso; omega
  · rw [cn_of hp] at h1
    rw [h1] at h2
    exfalso; omega
  · rw [cn_of hp] at h1
    rw [h1] at h2
    exfalso; omega
  · rw [cn_of hp] at h1
    rw [h1] at h2
    exfalso; omega
  · rw [cn_of hp] at h1
    rw [h1] at h2
    exfalso; omega
theorem ck_cal (hs : SmN ta k vl c) (hF : FunR tf ta na ca k vl c n38 M F) (hP : PrL ta k c) (HC : HCk k vl c L F n38 M tf ta na ca RL) (hh : hi ≤ 100000) (hR : Rep k c na ma (.elem (.arg t) as) false p0.toInt 0 lo hi) (hp1 : p1.toInt = if b = true then 1 else 0) (hc : CtR k vl c ca L n38 M cf ma) {m : Nat} (h : E_mp_check RL tf ta na ca p0 p1 ma' cf' v m 0 [] [] [] [] [] ma cf) : OkC k vl (lkp L) F na ca M (.elem (.arg t) as) b p0.toInt lo hi ma cf ma' cf' v.toInt := by
  obtain ⟨i, hp, h2', h3', h4', hq, h5'⟩ := hR
  have h14 := h3'.1
  have mk : ∀ {ma1 : Nat → Nat → Int32} {cf1 : Nat → Int32} {v1 : Int32}, R_mp_checkCall RL tf ta na ca p0 ma cf ma1 cf1 v1 → Ok0 k vl (lkp L) F na ca M (.elem (.arg t) as) p0.toInt lo hi ma cf ma1 cf1 v1.toInt := fun q => by
    obtain ⟨c1, c2, c3, c4, c5⟩ := cal_r hs hF HC hp h14 h3'.2 hq.1 hq.2.1 hq.2.2 h5' ⟨by omega, hh⟩ hc q
    exact ⟨c1, c2.le h2'.1 (Nat.le_refl _), c2.al c3, c4, c5⟩
  rcases iv_mp_check_0 h with ⟨m', z149, h1, (⟨h2, z151, h3, ma154, cf155, v157, h4, z174, h5, cf176, h6, z189, h7, ma192, cf193, v195, h8, (⟨h9, (⟨h10, e0, e1, ev⟩ | ⟨h10, e0, e1, ev⟩)⟩ | ⟨h9, (⟨h10, e0, e1, ev⟩ | ⟨h10, e0, e1, ev⟩)⟩)⟩ | ⟨h2, (⟨h3, (⟨h4, e0, e1, ev⟩ | ⟨h4, e0, e1, ev⟩)⟩ | ⟨h3, (⟨h4, e0, e1, ev⟩ | ⟨h4, e0, e1, ev⟩)⟩)⟩ | ⟨h2, ma235, cf236, v238, h3, (⟨h4, (⟨h5, e0, e1, ev⟩ | ⟨h5, (⟨h6, e0, e1, ev⟩ | ⟨h6, z260, h7, cf262, h8, e0, e1, ev⟩)⟩)⟩ | ⟨h4, (⟨h5, v288, h6, cf293, h7, e0, e1, ev⟩ | ⟨h5, (⟨h6, (⟨h7, e0, e1, ev⟩ | ⟨h7, (⟨h8, e0, e1, ev⟩ | ⟨h8, z322, h9, cf324, h10, e0, e1, ev⟩)⟩)⟩ | ⟨h6, v348, h7, cf353, h8, e0, e1, ev⟩)⟩)⟩)⟩ | ⟨h2, ma378, cf379, v381, h3, (⟨h4, (⟨h5, e0, e1, ev⟩ | ⟨h5, (⟨h6, e0, e1, ev⟩ | ⟨h6, z402, h7, cf404, h8, e0, e1, ev⟩)⟩)⟩ | ⟨h4, (⟨h5, v430, h6, cf435, h7, e0, e1, ev⟩ | ⟨h5, (⟨h6, (⟨h7, e0, e1, ev⟩ | ⟨h7, (⟨h8, e0, e1, ev⟩ | ⟨h8, z464, h9, cf466, h10, e0, e1, ev⟩)⟩)⟩ | ⟨h6, v490, h7, cf495, h8, e0, e1, ev⟩)⟩)⟩)⟩ | ⟨h2, ma520, cf521, h3, z536, h4, ma539, cf540, v542, h5, (⟨h6, (⟨h7, e0, e1, ev⟩ | ⟨h7, e0, e1, ev⟩)⟩ | ⟨h6, (⟨h7, e0, e1, ev⟩ | ⟨h7, e0, e1, ev⟩)⟩)⟩ | ⟨h2, z569, h3, z570, h4, (⟨h5, z573, h6, ma577, cf578, v580, h7, (⟨h8, (⟨h9, e0, e1, ev⟩ | ⟨h9, e0, e1, ev⟩)⟩ | ⟨h8, (⟨h9, e0, e1, ev⟩ | ⟨h9, e0, e1, ev⟩)⟩)⟩ | ⟨h5, z608, h6, ma612, cf613, v615, h7, z633, h8, cf635, h9, (⟨h10, (⟨h11, e0, e1, ev⟩ | ⟨h11, e0, e1, ev⟩)⟩ | ⟨h10, (⟨h11, e0, e1, ev⟩ | ⟨h11, e0, e1, ev⟩)⟩)⟩)⟩ | ⟨h2, z658, h3, ma661, cf662, v664, h4, z681, h5, cf683, h6, (⟨h7, (⟨h8, e0, e1, ev⟩ | ⟨h8, e0, e1, ev⟩)⟩ | ⟨h7, (⟨h8, e0, e1, ev⟩ | ⟨h8, e0, e1, ev⟩)⟩)⟩ | ⟨h2, z706, h3, hQ⟩ | ⟨h2, z707, h3, ma710, cf711, v713, h4, z730, h5, ma733, cf734, v736, h6, z753, h7, ma756, cf757, v759, h8, (⟨h9, (⟨h10, e0, e1, ev⟩ | ⟨h10, e0, e1, ev⟩)⟩ | ⟨h9, (⟨h10, e0, e1, ev⟩ | ⟨h10, e0, e1, ev⟩)⟩)⟩)⟩
  · rw [cn_of hp] at h1
    rw [h1] at h2
    exfalso; omega
  · rw [cn_of hp] at h1
    rw [h1] at h2
    exfalso; omega
  · rw [cn_of hp] at h1
    rw [h1] at h2
    exfalso; omega
  · rw [cn_of hp] at h1
    rw [h1] at h2
    exfalso; omega
  · rw [cn_of hp] at h1
    rw [h1] at h2
    exfalso; omega
  · rw [cn_of hp] at h1
    rw [h1] at h2
    exfalso; omega
  · rw [cn_of hp] at h1
    rw [h1] at h2
    exfalso; omega
  · rw [cn_of hp] at h1
    rw [h1] at h2
    exfalso; omega
  · rw [cn_of hp] at h1
    rw [h1] at h2
    exfalso; omega
  · rw [cn_of hp] at h1
    rw [h1] at h2
    exfalso; omega
  · rw [cn_of hp] at h1
    rw [h1] at h2
    exfalso; omega
  · rw [cn_of hp] at h1
    rw [h1] at h2
    exfalso; omega
  · rw [cn_of hp] at h1
    rw [h1] at h2
    exfalso; omega
  · rw [cn_of hp] at h1
    rw [h1] at h2
    exfalso; omega
  · rw [cn_of hp] at h1
    rw [h1] at h2
    exfalso; omega
  · rw [cn_of hp] at h1
    rw [h1] at h2
    exfalso; omega
  · rw [e0, e1, ev, bf_ hp1 h4]
    exact (mk h3).f
  · exact absurd h4 h5
  · exact absurd h4 h5
  · rw [e0, e1, ev, bt_ hp1 h4]
    exact (mk h3).bd h7 (by decide) (Or.inl h5)
  · exact absurd h7 h4
  · rw [e0, e1, ev, bt_ hp1 h4]
    exact (mk h3).y h5 h6 h8
  · rw [e0, e1, ev, bt_ hp1 h4]
    exact (mk h3).bd h10 (by decide) (Or.inr (Or.inr h8))
  · rw [e0, e1, ev, bt_ hp1 h4]
    exact (mk h3).bd h8 (by decide) (Or.inr (Or.inl h6))
  · rw [cn_of hp] at h1
    rw [h1] at h2
    exfalso; omega
  · rw [cn_of hp] at h1
    rw [h1] at h2
    exfalso; omega
  · rw [cn_of hp] at h1
    rw [h1] at h2
    exfalso; omega
  · rw [cn_of hp] at h1
    rw [h1] at h2
    exfalso; omega
  · rw [cn_of hp] at h1
    rw [h1] at h2
    exfalso; omega
  · rw [cn_of hp] at h1
    rw [h1] at h2
    exfalso; omega
  · rw [cn_of hp] at h1
    rw [h1] at h2
    exfalso; omega
  · rw [cn_of hp] at h1
    rw [h1] at h2
    exfalso; omega
  · rw [cn_of hp] at h1
    rw [h1] at h2
    exfalso; omega
  · rw [cn_of hp] at h1
    rw [h1] at h2
    exfalso; omega
  · rw [cn_of hp] at h1
    rw [h1] at h2
    exfalso; omega
  · rw [cn_of hp] at h1
    rw [h1] at h2
    exfalso; omega
  · rw [cn_of hp] at h1
    rw [h1] at h2
    exfalso; omega
  · rw [cn_of hp] at h1
    rw [h1] at h2
    exfalso; omega
  · rw [cn_of hp] at h1
    rw [h1] at h2
    exfalso; omega
  · rw [cn_of hp] at h1
    rw [h1] at h2
    exfalso; omega
  · rw [cn_of hp] at h1
    rw [h1] at h2
    exfalso; omega
  · rw [cn_of hp] at h1
    rw [h1] at h2
    exfalso; omega
  · rw [cn_of hp] at h1
    rw [h1] at h2
    exfalso; omega
  · rw [cn_of hp] at h1
    rw [h1] at h2
    exfalso; omega
  · rw [cn_of hp] at h1
    rw [h1] at h2
    exfalso; omega
theorem ck_idx (hs : SmN ta k vl c) (hF : FunR tf ta na ca k vl c n38 M F) (hP : PrL ta k c) (HC : HCk k vl c L F n38 M tf ta na ca RL) (hh : hi ≤ 100000) (hR : Rep k c na ma (.sub (.arg t) e) false p0.toInt 0 lo hi) (hp1 : p1.toInt = if b = true then 1 else 0) (hc : CtR k vl c ca L n38 M cf ma) {m : Nat} (h : E_mp_check RL tf ta na ca p0 p1 ma' cf' v m 0 [] [] [] [] [] ma cf) : OkC k vl (lkp L) F na ca M (.sub (.arg t) e) b p0.toInt lo hi ma cf ma' cf' v.toInt := by
  obtain ⟨i, hp, h2', h3', h4', hq, h5'⟩ := hR
  have h14 := h3'.1
  have fin : ∀ {ma1 ma2 : Nat → Nat → Int32} {cf1 cf2 : Nat → Int32} {z v1 : Int32}, R_mp_checkIndex tf ta na ca p0 ma cf ma1 cf1 → z = na 17 p0.toNatClampNeg → RL tf ta na ca z (1 : Int32) ma1 cf1 ma2 cf2 v1 → ma' = ma2 → cf' = cf2 → v = 1 → OkC k vl (lkp L) F na ca M (.sub (.arg t) e) b p0.toInt lo hi ma cf ma' cf' v.toInt := fun {ma1} {ma2} {cf1} {cf2} {z} {v1} q1 q2 q3 e0 e1 ev => by
    rw [cn_of hp] at q2
    obtain ⟨c1, c2, c3, c4⟩ := chi_r hs hc.1 hp h14 h3'.2 hq.1 hq.2.1 q1
    have O := HC e true z 1 (i + 1) hi ma1 ma2 cf1 cf2 v1 hq.2.2 hh (by rw [q2]; exact rep_k2 _ _ _ _ _ _ h5' (c2.k (Or.inr (Nat.le_refl _)))) rfl (hc.go c1 c2 c3) q3
    rw [e0, e1, ev, show (1 : Int32).toInt = 1 from rfl]
    have AA : AC cf cf2 (att k vl (lkp L) F (.sub (.arg t) e) [] 0) (fun a => IsV 1 a.1) := AC.bind c4 (fun _ _ => AC.mp O.t (fun y _ => Or.inl ⟨rfl, Or.inr (Or.inr rfl)⟩)) O.t.1
    refine Ok0.cn ⟨c1.tr O.1, (c2.le h2'.1 (by omega)).tr (O.2.1.le (by omega) (Nat.le_refl _)), (c2.al c3).tr (O.2.1.al O.2.2.1), AA, fun u => nt_k hp (Or.inl h14) (fun d => ?_)⟩
    rw [← q2]
    exact O.2.2.2.2 u d
  rcases iv_mp_check_0 h with ⟨m', z149, h1, (⟨h2, z151, h3, ma154, cf155, v157, h4, z174, h5, cf176, h6, z189, h7, ma192, cf193, v195, h8, (⟨h9, (⟨h10, e0, e1, ev⟩ | ⟨h10, e0, e1, ev⟩)⟩ | ⟨h9, (⟨h10, e0, e1, ev⟩ | ⟨h10, e0, e1, ev⟩)⟩)⟩ | ⟨h2, (⟨h3, (⟨h4, e0, e1, ev⟩ | ⟨h4, e0, e1, ev⟩)⟩ | ⟨h3, (⟨h4, e0, e1, ev⟩ | ⟨h4, e0, e1, ev⟩)⟩)⟩ | ⟨h2, ma235, cf236, v238, h3, (⟨h4, (⟨h5, e0, e1, ev⟩ | ⟨h5, (⟨h6, e0, e1, ev⟩ | ⟨h6, z260, h7, cf262, h8, e0, e1, ev⟩)⟩)⟩ | ⟨h4, (⟨h5, v288, h6, cf293, h7, e0, e1, ev⟩ | ⟨h5, (⟨h6, (⟨h7, e0, e1, ev⟩ | ⟨h7, (⟨h8, e0, e1, ev⟩ | ⟨h8, z322, h9, cf324, h10, e0, e1, ev⟩)⟩)⟩ | ⟨h6, v348, h7, cf353, h8, e0, e1, ev⟩)⟩)⟩)⟩ | ⟨h2, ma378, cf379, v381, h3, (⟨h4, (⟨h5, e0, e1, ev⟩ | ⟨h5, (⟨h6, e0, e1, ev⟩ | ⟨h6, z402, h7, cf404, h8, e0, e1, ev⟩)⟩)⟩ | ⟨h4, (⟨h5, v430, h6, cf435, h7, e0, e1, ev⟩ | ⟨h5, (⟨h6, (⟨h7, e0, e1, ev⟩ | ⟨h7, (⟨h8, e0, e1, ev⟩ | ⟨h8, z464, h9, cf466, h10, e0, e1, ev⟩)⟩)⟩ | ⟨h6, v490, h7, cf495, h8, e0, e1, ev⟩)⟩)⟩)⟩ | ⟨h2, ma520, cf521, h3, z536, h4, ma539, cf540, v542, h5, (⟨h6, (⟨h7, e0, e1, ev⟩ | ⟨h7, e0, e1, ev⟩)⟩ | ⟨h6, (⟨h7, e0, e1, ev⟩ | ⟨h7, e0, e1, ev⟩)⟩)⟩ | ⟨h2, z569, h3, z570, h4, (⟨h5, z573, h6, ma577, cf578, v580, h7, (⟨h8, (⟨h9, e0, e1, ev⟩ | ⟨h9, e0, e1, ev⟩)⟩ | ⟨h8, (⟨h9, e0, e1, ev⟩ | ⟨h9, e0, e1, ev⟩)⟩)⟩ | ⟨h5, z608, h6, ma612, cf613, v615, h7, z633, h8, cf635, h9, (⟨h10, (⟨h11, e0, e1, ev⟩ | ⟨h11, e0, e1, ev⟩)⟩ | ⟨h10, (⟨h11, e0, e1, ev⟩ | ⟨h11, e0, e1, ev⟩)⟩)⟩)⟩ | ⟨h2, z658, h3, ma661, cf662, v664, h4, z681, h5, cf683, h6, (⟨h7, (⟨h8, e0, e1, ev⟩ | ⟨h8, e0, e1, ev⟩)⟩ | ⟨h7, (⟨h8, e0, e1, ev⟩ | ⟨h8, e0, e1, ev⟩)⟩)⟩ | ⟨h2, z706, h3, hQ⟩ | ⟨h2, z707, h3, ma710, cf711, v713, h4, z730, h5, ma733, cf734, v736, h6, z753, h7, ma756, cf757, v759, h8, (⟨h9, (⟨h10, e0, e1, ev⟩ | ⟨h10, e0, e1, ev⟩)⟩ | ⟨h9, (⟨h10, e0, e1, ev⟩ | ⟨h10, e0, e1, ev⟩)⟩)⟩)⟩
  · rw [cn_of hp] at h1
    rw [h1] at h2
    exfalso; omega
  · rw [cn_of hp] at h1
    rw [h1] at h2
    exfalso; omega
  · rw [cn_of hp] at h1
    rw [h1] at h2
    exfalso; omega
  · rw [cn_of hp] at h1
    rw [h1] at h2
    exfalso; omega
  · rw [cn_of hp] at h1
    rw [h1] at h2
    exfalso; omega
  · rw [cn_of hp] at h1
    rw [h1] at h2
    exfalso; omega
  · rw [cn_of hp] at h1
    rw [h1] at h2
    exfalso; omega
  · rw [cn_of hp] at h1
    rw [h1] at h2
    exfalso; omega
  · rw [cn_of hp] at h1
    rw [h1] at h2
    exfalso; omega
  · rw [cn_of hp] at h1
    rw [h1] at h2
    exfalso; omega
  · rw [cn_of hp] at h1
    rw [h1] at h2
    exfalso; omega
  · rw [cn_of hp] at h1
    rw [h1] at h2
    exfalso; omega
  · rw [cn_of hp] at h1
    rw [h1] at h2
    exfalso; omega
  · rw [cn_of hp] at h1
    rw [h1] at h2
    exfalso; omega
  · rw [cn_of hp] at h1
    rw [h1] at h2
    exfalso; omega
  · rw [cn_of hp] at h1
    rw [h1] at h2
    exfalso; omega
  · rw [cn_of hp] at h1
    rw [h1] at h2
    exfalso; omega
  · rw [cn_of hp] at h1
    rw [h1] at h2
    exfalso; omega
  · rw [cn_of hp] at h1
    rw [h1] at h2
    exfalso; omega
  · rw [cn_of hp] at h1
    rw [h1] at h2
    exfalso; omega
  · rw [cn_of hp] at h1
    rw [h1] at h2
    exfalso; omega
  · rw [cn_of hp] at h1
    rw [h1] at h2
    exfalso; omega
  · rw [cn_of hp] at h1
    rw [h1] at h2
    exfalso; omega
  · rw [cn_of hp] at h1
    rw [h1] at h2
    exfalso; omega
  · exact fin h3 h4 h5 e0 e1 ev
  · exact fin h3 h4 h5 e0 e1 ev
  · exact fin h3 h4 h5 e0 e1 ev
  · exact fin h3 h4 h5 e0 e1 ev
  · rw [cn_of hp] at h1
    rw [h1] at h2
    exfalso; omega
  · rw [cn_of hp] at h1
    rw [h1] at h2
    exfalso; omega
  · rw [cn_of hp] at h1
    rw [h1] at h2
    exfalso; omega
  · rw [cn_of hp] at h1
    rw [h1] at h2
    exfalso; omega
  · rw [cn_of hp] at h1
    rw [h1] at h2
    exfalso; omega
  · rw [cn_of hp] at h1
    rw [h1] at h2
    exfalso; omega
  · rw [cn_of hp] at h1
    rw [h1] at h2
    exfalso; omega
  · rw [cn_of hp] at h1
    rw [h1] at h2
    exfalso; omega
  · rw [cn_of hp] at h1
    rw [h1] at h2
    exfalso; omega
  · rw [cn_of hp] at h1
    rw [h1] at h2
    exfalso; omega
  · rw [cn_of hp] at h1
    rw [h1] at h2
    exfalso; omega
  · rw [cn_of hp] at h1
    rw [h1] at h2
    exfalso; omega
  · rw [cn_of hp] at h1
    rw [h1] at h2
    exfalso; omega
  · rw [cn_of hp] at h1
    rw [h1] at h2
    exfalso; omega
  · rw [cn_of hp] at h1
    rw [h1] at h2
    exfalso; omega
  · rw [cn_of hp] at h1
    rw [h1] at h2
    exfalso; omega
  · rw [cn_of hp] at h1
    rw [h1] at h2
    exfalso; omega
theorem ck_pre (hs : SmN ta k vl c) (hF : FunR tf ta na ca k vl c n38 M F) (hP : PrL ta k c) (HC : HCk k vl c L F n38 M tf ta na ca RL) (hh : hi ≤ 100000) (hR : Rep k c na ma (.mul (.arg t) e) false p0.toInt 0 lo hi) (hp1 : p1.toInt = if b = true then 1 else 0) (hc : CtR k vl c ca L n38 M cf ma) {m : Nat} (h : E_mp_check RL tf ta na ca p0 p1 ma' cf' v m 0 [] [] [] [] [] ma cf) : OkC k vl (lkp L) F na ca M (.mul (.arg t) e) b p0.toInt lo hi ma cf ma' cf' v.toInt := by
  obtain ⟨i, j, hp, h2', h3', h4', hq, h6', h5'⟩ := hR
  have h14 := h3'.1
  have pr := (hP t hq.1 hq.2.1).1
  have e17 := h6'.1
  have fa : ∀ {ma1 : Nat → Nat → Int32} {cf1 : Nat → Int32} {y1 y2 z v1 : Int32}, y1 = na 15 p0.toNatClampNeg → y2 = ta 8 y1.toNatClampNeg → ¬ y2.toInt = 2 → z = na 17 p0.toNatClampNeg → RL tf ta na ca z (1 : Int32) ma cf ma1 cf1 v1 → ma' = ma1 → cf' = cf1 → v = 1 → OkC k vl (lkp L) F na ca M (.mul (.arg t) e) b p0.toInt lo hi ma cf ma' cf' v.toInt := fun {ma1} {cf1} {y1} {y2} {z} {v1} g1 g2 g3 q2 q3 e0 e1 ev => by
    rw [cn_of hp] at q2 g1
    have gt : y1.toNatClampNeg = t := cn_of (by rw [g1]; exact h3'.2)
    rw [gt] at g2
    rw [g2] at g3
    have np : ¬ (k t = 138 ∨ k t = 139) := fun w => g3 (pr.mpr w)
    have O := HC e true z 1 lo i ma ma1 cf cf1 v1 hq.2.2 (by omega) (by rw [q2, e17]; exact h5') rfl hc q3
    rw [e0, e1, ev, show (1 : Int32).toInt = 1 from rfl]
    have EQ : att k vl (lkp L) F (.mul (.arg t) e) [] 0 = ((att k vl (lkp L) F e [] 0).bind aNum).bind fun b => some (0, b.2.1, if k t = 43 then b.2.2.1 else rku (k t) b.2.2.1, b.2.2.2) := by
      refine att_pre.trans ?_
      cases att k vl (lkp L) F e [] 0 with
      | none => rfl
      | some a =>
        show aPre (k t) a = _
        unfold aPre
        rw [if_neg np]
        rfl
    refine Ok0.cn ⟨O.1, O.2.1.le (Nat.le_refl _) (by omega), O.2.1.al O.2.2.1, ?_, fun u => nt_k hp (Or.inr (Or.inl h14)) (fun d => ?_)⟩
    · rw [EQ]
      exact AC.mp O.t (fun y _ => Or.inl ⟨rfl, Or.inl rfl⟩)
    · rw [← q2]
      exact O.2.2.2.2 u d
  have fb : ∀ {ma1 : Nat → Nat → Int32} {cf1 cf2 : Nat → Int32} {y1 y2 z v1 : Int32}, y1 = na 15 p0.toNatClampNeg → y2 = ta 8 y1.toNatClampNeg → y2.toInt = 2 → z = na 17 p0.toNatClampNeg → RL tf ta na ca z (0 : Int32) ma cf ma1 cf1 v1 → R_mp_checkPlace ta na ca z v1 cf1 cf2 → ma' = ma1 → cf' = cf2 → v = 1 → OkC k vl (lkp L) F na ca M (.mul (.arg t) e) b p0.toInt lo hi ma cf ma' cf' v.toInt := fun {ma1} {cf1} {cf2} {y1} {y2} {z} {v1} g1 g2 g3 q2 q3 q4 e0 e1 ev => by
    rw [cn_of hp] at q2 g1
    have gt : y1.toNatClampNeg = t := cn_of (by rw [g1]; exact h3'.2)
    rw [gt] at g2
    rw [g2] at g3
    have np := pr.mp g3
    have hz : Rep k c na ma e false z.toInt 0 lo i := by rw [q2, e17]; exact h5'
    have O := HC e false z 0 lo i ma ma1 cf cf1 v1 hq.2.2 (by omega) hz rfl hc q3
    obtain ⟨s1, s2, s3⟩ := plc_ac hs O hz hq.2.2 (hc.go O.1 O.2.1 O.2.2.1).1 q4
    rw [e0, e1, ev, show (1 : Int32).toInt = 1 from rfl]
    have EQ : att k vl (lkp L) F (.mul (.arg t) e) [] 0 = ((att k vl (lkp L) F e [] 0).bind aTgt).bind fun b => some (0, 3, 0, b.2.2.2) := by
      refine att_pre.trans ?_
      cases att k vl (lkp L) F e [] 0 with
      | none => rfl
      | some a =>
        show aPre (k t) a = _
        unfold aPre
        rw [if_pos np]
        rfl
    refine Ok0.cn ⟨O.1.tr s1, O.2.1.le (Nat.le_refl _) (by omega), O.2.1.al O.2.2.1, ?_, fun u => nt_k hp (Or.inr (Or.inl h14)) (fun d => ?_)⟩
    · rw [EQ]
      exact AC.mp s3 (fun y _ => Or.inl ⟨rfl, Or.inl rfl⟩)
    · rw [← q2]
      exact O.2.2.2.2 (uc_of s2 u) d
  rcases iv_mp_check_0 h with ⟨m', z149, h1, (⟨h2, z151, h3, ma154, cf155, v157, h4, z174, h5, cf176, h6, z189, h7, ma192, cf193, v195, h8, (⟨h9, (⟨h10, e0, e1, ev⟩ | ⟨h10, e0, e1, ev⟩)⟩ | ⟨h9, (⟨h10, e0, e1, ev⟩ | ⟨h10, e0, e1, ev⟩)⟩)⟩ | ⟨h2, (⟨h3, (⟨h4, e0, e1, ev⟩ | ⟨h4, e0, e1, ev⟩)⟩ | ⟨h3, (⟨h4, e0, e1, ev⟩ | ⟨h4, e0, e1, ev⟩)⟩)⟩ | ⟨h2, ma235, cf236, v238, h3, (⟨h4, (⟨h5, e0, e1, ev⟩ | ⟨h5, (⟨h6, e0, e1, ev⟩ | ⟨h6, z260, h7, cf262, h8, e0, e1, ev⟩)⟩)⟩ | ⟨h4, (⟨h5, v288, h6, cf293, h7, e0, e1, ev⟩ | ⟨h5, (⟨h6, (⟨h7, e0, e1, ev⟩ | ⟨h7, (⟨h8, e0, e1, ev⟩ | ⟨h8, z322, h9, cf324, h10, e0, e1, ev⟩)⟩)⟩ | ⟨h6, v348, h7, cf353, h8, e0, e1, ev⟩)⟩)⟩)⟩ | ⟨h2, ma378, cf379, v381, h3, (⟨h4, (⟨h5, e0, e1, ev⟩ | ⟨h5, (⟨h6, e0, e1, ev⟩ | ⟨h6, z402, h7, cf404, h8, e0, e1, ev⟩)⟩)⟩ | ⟨h4, (⟨h5, v430, h6, cf435, h7, e0, e1, ev⟩ | ⟨h5, (⟨h6, (⟨h7, e0, e1, ev⟩ | ⟨h7, (⟨h8, e0, e1, ev⟩ | ⟨h8, z464, h9, cf466, h10, e0, e1, ev⟩)⟩)⟩ | ⟨h6, v490, h7, cf495, h8, e0, e1, ev⟩)⟩)⟩)⟩ | ⟨h2, ma520, cf521, h3, z536, h4, ma539, cf540, v542, h5, (⟨h6, (⟨h7, e0, e1, ev⟩ | ⟨h7, e0, e1, ev⟩)⟩ | ⟨h6, (⟨h7, e0, e1, ev⟩ | ⟨h7, e0, e1, ev⟩)⟩)⟩ | ⟨h2, z569, h3, z570, h4, (⟨h5, z573, h6, ma577, cf578, v580, h7, (⟨h8, (⟨h9, e0, e1, ev⟩ | ⟨h9, e0, e1, ev⟩)⟩ | ⟨h8, (⟨h9, e0, e1, ev⟩ | ⟨h9, e0, e1, ev⟩)⟩)⟩ | ⟨h5, z608, h6, ma612, cf613, v615, h7, z633, h8, cf635, h9, (⟨h10, (⟨h11, e0, e1, ev⟩ | ⟨h11, e0, e1, ev⟩)⟩ | ⟨h10, (⟨h11, e0, e1, ev⟩ | ⟨h11, e0, e1, ev⟩)⟩)⟩)⟩ | ⟨h2, z658, h3, ma661, cf662, v664, h4, z681, h5, cf683, h6, (⟨h7, (⟨h8, e0, e1, ev⟩ | ⟨h8, e0, e1, ev⟩)⟩ | ⟨h7, (⟨h8, e0, e1, ev⟩ | ⟨h8, e0, e1, ev⟩)⟩)⟩ | ⟨h2, z706, h3, hQ⟩ | ⟨h2, z707, h3, ma710, cf711, v713, h4, z730, h5, ma733, cf734, v736, h6, z753, h7, ma756, cf757, v759, h8, (⟨h9, (⟨h10, e0, e1, ev⟩ | ⟨h10, e0, e1, ev⟩)⟩ | ⟨h9, (⟨h10, e0, e1, ev⟩ | ⟨h10, e0, e1, ev⟩)⟩)⟩)⟩
  · rw [cn_of hp] at h1
    rw [h1] at h2
    exfalso; omega
  · rw [cn_of hp] at h1
    rw [h1] at h2
    exfalso; omega
  · rw [cn_of hp] at h1
    rw [h1] at h2
    exfalso; omega
  · rw [cn_of hp] at h1
    rw [h1] at h2
    exfalso; omega
  · rw [cn_of hp] at h1
    rw [h1] at h2
    exfalso; omega
  · rw [cn_of hp] at h1
    rw [h1] at h2
    exfalso; omega
  · rw [cn_of hp] at h1
    rw [h1] at h2
    exfalso; omega
  · rw [cn_of hp] at h1
    rw [h1] at h2
    exfalso; omega
  · rw [cn_of hp] at h1
    rw [h1] at h2
    exfalso; omega
  · rw [cn_of hp] at h1
    rw [h1] at h2
    exfalso; omega
  · rw [cn_of hp] at h1
    rw [h1] at h2
    exfalso; omega
  · rw [cn_of hp] at h1
    rw [h1] at h2
    exfalso; omega
  · rw [cn_of hp] at h1
    rw [h1] at h2
    exfalso; omega
  · rw [cn_of hp] at h1
    rw [h1] at h2
    exfalso; omega
  · rw [cn_of hp] at h1
    rw [h1] at h2
    exfalso; omega
  · rw [cn_of hp] at h1
    rw [h1] at h2
    exfalso; omega
  · rw [cn_of hp] at h1
    rw [h1] at h2
    exfalso; omega
  · rw [cn_of hp] at h1
    rw [h1] at h2
    exfalso; omega
  · rw [cn_of hp] at h1
    rw [h1] at h2
    exfalso; omega
  · rw [cn_of hp] at h1
    rw [h1] at h2
    exfalso; omega
  · rw [cn_of hp] at h1
    rw [h1] at h2
    exfalso; omega
  · rw [cn_of hp] at h1
    rw [h1] at h2
    exfalso; omega
  · rw [cn_of hp] at h1
    rw [h1] at h2
    exfalso; omega
  · rw [cn_of hp] at h1
    rw [h1] at h2
    exfalso; omega
  · rw [cn_of hp] at h1
    rw [h1] at h2
    exfalso; omega
  · rw [cn_of hp] at h1
    rw [h1] at h2
    exfalso; omega
  · rw [cn_of hp] at h1
    rw [h1] at h2
    exfalso; omega
  · rw [cn_of hp] at h1
    rw [h1] at h2
    exfalso; omega
  · exact fa h3 h4 h5 h6 h7 e0 e1 ev
  · exact fa h3 h4 h5 h6 h7 e0 e1 ev
  · exact fa h3 h4 h5 h6 h7 e0 e1 ev
  · exact fa h3 h4 h5 h6 h7 e0 e1 ev
  · exact fb h3 h4 h5 h6 h7 h9 e0 e1 ev
  · exact fb h3 h4 h5 h6 h7 h9 e0 e1 ev
  · exact fb h3 h4 h5 h6 h7 h9 e0 e1 ev
  · exact fb h3 h4 h5 h6 h7 h9 e0 e1 ev
  · rw [cn_of hp] at h1
    rw [h1] at h2
    exfalso; omega
  · rw [cn_of hp] at h1
    rw [h1] at h2
    exfalso; omega
  · rw [cn_of hp] at h1
    rw [h1] at h2
    exfalso; omega
  · rw [cn_of hp] at h1
    rw [h1] at h2
    exfalso; omega
  · rw [cn_of hp] at h1
    rw [h1] at h2
    exfalso; omega
  · rw [cn_of hp] at h1
    rw [h1] at h2
    exfalso; omega
  · rw [cn_of hp] at h1
    rw [h1] at h2
    exfalso; omega
  · rw [cn_of hp] at h1
    rw [h1] at h2
    exfalso; omega
  · rw [cn_of hp] at h1
    rw [h1] at h2
    exfalso; omega
theorem ck_pst (hs : SmN ta k vl c) (hF : FunR tf ta na ca k vl c n38 M F) (hP : PrL ta k c) (HC : HCk k vl c L F n38 M tf ta na ca RL) (hh : hi ≤ 100000) (hR : Rep k c na ma (.div (.arg t) e) false p0.toInt 0 lo hi) (hp1 : p1.toInt = if b = true then 1 else 0) (hc : CtR k vl c ca L n38 M cf ma) {m : Nat} (h : E_mp_check RL tf ta na ca p0 p1 ma' cf' v m 0 [] [] [] [] [] ma cf) : OkC k vl (lkp L) F na ca M (.div (.arg t) e) b p0.toInt lo hi ma cf ma' cf' v.toInt := by
  obtain ⟨i, hp, h2', h3', h4', hq, h5'⟩ := hR
  have h14 := h3'.1
  have fin : ∀ {ma1 : Nat → Nat → Int32} {cf1 cf2 : Nat → Int32} {z v1 : Int32}, z = na 17 p0.toNatClampNeg → RL tf ta na ca z (0 : Int32) ma cf ma1 cf1 v1 → R_mp_checkPlace ta na ca z v1 cf1 cf2 → ma' = ma1 → cf' = cf2 → v = 1 → OkC k vl (lkp L) F na ca M (.div (.arg t) e) b p0.toInt lo hi ma cf ma' cf' v.toInt := fun {ma1} {cf1} {cf2} {z} {v1} q2 q3 q4 e0 e1 ev => by
    rw [cn_of hp] at q2
    have hz : Rep k c na ma e false z.toInt 0 lo i := by rw [q2]; exact h5'
    have O := HC e false z 0 lo i ma ma1 cf cf1 v1 hq.2.2 (by omega) hz rfl hc q3
    obtain ⟨s1, s2, s3⟩ := plc_ac hs O hz hq.2.2 (hc.go O.1 O.2.1 O.2.2.1).1 q4
    rw [e0, e1, ev, show (1 : Int32).toInt = 1 from rfl]
    have AA : AC cf cf2 (att k vl (lkp L) F (.div (.arg t) e) [] 0) (fun a => IsV 1 a.1) := AC.mp s3 (fun y _ => Or.inl ⟨rfl, Or.inl rfl⟩)
    refine Ok0.cn ⟨O.1.tr s1, O.2.1.le (Nat.le_refl _) (by omega), O.2.1.al O.2.2.1, AA, fun u => nt_k hp (Or.inr (Or.inr h14)) (fun d => ?_)⟩
    rw [← q2]
    exact O.2.2.2.2 (uc_of s2 u) d
  rcases iv_mp_check_0 h with ⟨m', z149, h1, (⟨h2, z151, h3, ma154, cf155, v157, h4, z174, h5, cf176, h6, z189, h7, ma192, cf193, v195, h8, (⟨h9, (⟨h10, e0, e1, ev⟩ | ⟨h10, e0, e1, ev⟩)⟩ | ⟨h9, (⟨h10, e0, e1, ev⟩ | ⟨h10, e0, e1, ev⟩)⟩)⟩ | ⟨h2, (⟨h3, (⟨h4, e0, e1, ev⟩ | ⟨h4, e0, e1, ev⟩)⟩ | ⟨h3, (⟨h4, e0, e1, ev⟩ | ⟨h4, e0, e1, ev⟩)⟩)⟩ | ⟨h2, ma235, cf236, v238, h3, (⟨h4, (⟨h5, e0, e1, ev⟩ | ⟨h5, (⟨h6, e0, e1, ev⟩ | ⟨h6, z260, h7, cf262, h8, e0, e1, ev⟩)⟩)⟩ | ⟨h4, (⟨h5, v288, h6, cf293, h7, e0, e1, ev⟩ | ⟨h5, (⟨h6, (⟨h7, e0, e1, ev⟩ | ⟨h7, (⟨h8, e0, e1, ev⟩ | ⟨h8, z322, h9, cf324, h10, e0, e1, ev⟩)⟩)⟩ | ⟨h6, v348, h7, cf353, h8, e0, e1, ev⟩)⟩)⟩)⟩ | ⟨h2, ma378, cf379, v381, h3, (⟨h4, (⟨h5, e0, e1, ev⟩ | ⟨h5, (⟨h6, e0, e1, ev⟩ | ⟨h6, z402, h7, cf404, h8, e0, e1, ev⟩)⟩)⟩ | ⟨h4, (⟨h5, v430, h6, cf435, h7, e0, e1, ev⟩ | ⟨h5, (⟨h6, (⟨h7, e0, e1, ev⟩ | ⟨h7, (⟨h8, e0, e1, ev⟩ | ⟨h8, z464, h9, cf466, h10, e0, e1, ev⟩)⟩)⟩ | ⟨h6, v490, h7, cf495, h8, e0, e1, ev⟩)⟩)⟩)⟩ | ⟨h2, ma520, cf521, h3, z536, h4, ma539, cf540, v542, h5, (⟨h6, (⟨h7, e0, e1, ev⟩ | ⟨h7, e0, e1, ev⟩)⟩ | ⟨h6, (⟨h7, e0, e1, ev⟩ | ⟨h7, e0, e1, ev⟩)⟩)⟩ | ⟨h2, z569, h3, z570, h4, (⟨h5, z573, h6, ma577, cf578, v580, h7, (⟨h8, (⟨h9, e0, e1, ev⟩ | ⟨h9, e0, e1, ev⟩)⟩ | ⟨h8, (⟨h9, e0, e1, ev⟩ | ⟨h9, e0, e1, ev⟩)⟩)⟩ | ⟨h5, z608, h6, ma612, cf613, v615, h7, z633, h8, cf635, h9, (⟨h10, (⟨h11, e0, e1, ev⟩ | ⟨h11, e0, e1, ev⟩)⟩ | ⟨h10, (⟨h11, e0, e1, ev⟩ | ⟨h11, e0, e1, ev⟩)⟩)⟩)⟩ | ⟨h2, z658, h3, ma661, cf662, v664, h4, z681, h5, cf683, h6, (⟨h7, (⟨h8, e0, e1, ev⟩ | ⟨h8, e0, e1, ev⟩)⟩ | ⟨h7, (⟨h8, e0, e1, ev⟩ | ⟨h8, e0, e1, ev⟩)⟩)⟩ | ⟨h2, z706, h3, hQ⟩ | ⟨h2, z707, h3, ma710, cf711, v713, h4, z730, h5, ma733, cf734, v736, h6, z753, h7, ma756, cf757, v759, h8, (⟨h9, (⟨h10, e0, e1, ev⟩ | ⟨h10, e0, e1, ev⟩)⟩ | ⟨h9, (⟨h10, e0, e1, ev⟩ | ⟨h10, e0, e1, ev⟩)⟩)⟩)⟩
  · rw [cn_of hp] at h1
    rw [h1] at h2
    exfalso; omega
  · rw [cn_of hp] at h1
    rw [h1] at h2
    exfalso; omega
  · rw [cn_of hp] at h1
    rw [h1] at h2
    exfalso; omega
  · rw [cn_of hp] at h1
    rw [h1] at h2
    exfalso; omega
  · rw [cn_of hp] at h1
    rw [h1] at h2
    exfalso; omega
  · rw [cn_of hp] at h1
    rw [h1] at h2
    exfalso; omega
  · rw [cn_of hp] at h1
    rw [h1] at h2
    exfalso; omega
  · rw [cn_of hp] at h1
    rw [h1] at h2
    exfalso; omega
  · rw [cn_of hp] at h1
    rw [h1] at h2
    exfalso; omega
  · rw [cn_of hp] at h1
    rw [h1] at h2
    exfalso; omega
  · rw [cn_of hp] at h1
    rw [h1] at h2
    exfalso; omega
  · rw [cn_of hp] at h1
    rw [h1] at h2
    exfalso; omega
  · rw [cn_of hp] at h1
    rw [h1] at h2
    exfalso; omega
  · rw [cn_of hp] at h1
    rw [h1] at h2
    exfalso; omega
  · rw [cn_of hp] at h1
    rw [h1] at h2
    exfalso; omega
  · rw [cn_of hp] at h1
    rw [h1] at h2
    exfalso; omega
  · rw [cn_of hp] at h1
    rw [h1] at h2
    exfalso; omega
  · rw [cn_of hp] at h1
    rw [h1] at h2
    exfalso; omega
  · rw [cn_of hp] at h1
    rw [h1] at h2
    exfalso; omega
  · rw [cn_of hp] at h1
    rw [h1] at h2
    exfalso; omega
  · rw [cn_of hp] at h1
    rw [h1] at h2
    exfalso; omega
  · rw [cn_of hp] at h1
    rw [h1] at h2
    exfalso; omega
  · rw [cn_of hp] at h1
    rw [h1] at h2
    exfalso; omega
  · rw [cn_of hp] at h1
    rw [h1] at h2
    exfalso; omega
  · rw [cn_of hp] at h1
    rw [h1] at h2
    exfalso; omega
  · rw [cn_of hp] at h1
    rw [h1] at h2
    exfalso; omega
  · rw [cn_of hp] at h1
    rw [h1] at h2
    exfalso; omega
  · rw [cn_of hp] at h1
    rw [h1] at h2
    exfalso; omega
  · rw [cn_of hp] at h1
    rw [h1] at h2
    exfalso; omega
  · rw [cn_of hp] at h1
    rw [h1] at h2
    exfalso; omega
  · rw [cn_of hp] at h1
    rw [h1] at h2
    exfalso; omega
  · rw [cn_of hp] at h1
    rw [h1] at h2
    exfalso; omega
  · rw [cn_of hp] at h1
    rw [h1] at h2
    exfalso; omega
  · rw [cn_of hp] at h1
    rw [h1] at h2
    exfalso; omega
  · rw [cn_of hp] at h1
    rw [h1] at h2
    exfalso; omega
  · rw [cn_of hp] at h1
    rw [h1] at h2
    exfalso; omega
  · exact fin h3 h4 h6 e0 e1 ev
  · exact fin h3 h4 h6 e0 e1 ev
  · exact fin h3 h4 h6 e0 e1 ev
  · exact fin h3 h4 h6 e0 e1 ev
  · rw [cn_of hp] at h1
    rw [h1] at h2
    exfalso; omega
  · rw [cn_of hp] at h1
    rw [h1] at h2
    exfalso; omega
  · rw [cn_of hp] at h1
    rw [h1] at h2
    exfalso; omega
  · rw [cn_of hp] at h1
    rw [h1] at h2
    exfalso; omega
  · rw [cn_of hp] at h1
    rw [h1] at h2
    exfalso; omega
theorem ck_cnd (hs : SmN ta k vl c) (hF : FunR tf ta na ca k vl c n38 M F) (hP : PrL ta k c) (HC : HCk k vl c L F n38 M tf ta na ca RL) (hh : hi ≤ 100000) (hR : Rep k c na ma (.old (.elem x (.elem y z))) false p0.toInt 0 lo hi) (hp1 : p1.toInt = if b = true then 1 else 0) (hc : CtR k vl c ca L n38 M cf ma) {m : Nat} (h : E_mp_check RL tf ta na ca p0 p1 ma' cf' v m 0 [] [] [] [] [] ma cf) : OkC k vl (lkp L) F na ca M (.old (.elem x (.elem y z))) b p0.toInt lo hi ma cf ma' cf' v.toInt := by
  obtain ⟨i, m1, m2, hp, h2', h14, h4', hq, h5', h6', h7'⟩ := hR
  have fin : ∀ {ma1 ma2 ma3 : Nat → Nat → Int32} {cf1 cf2 cf3 : Nat → Int32} {z1 z2 z3 v1 v2 v3 : Int32}, z1 = na 17 p0.toNatClampNeg → RL tf ta na ca z1 (1 : Int32) ma cf ma1 cf1 v1 → z2 = ma1 18 p0.toNatClampNeg → RL tf ta na ca z2 (1 : Int32) ma1 cf1 ma2 cf2 v2 → z3 = ma2 19 p0.toNatClampNeg → RL tf ta na ca z3 (1 : Int32) ma2 cf2 ma3 cf3 v3 → ma' = ma3 → cf' = cf3 → v = 1 → OkC k vl (lkp L) F na ca M (.old (.elem x (.elem y z))) b p0.toInt lo hi ma cf ma' cf' v.toInt := fun {ma1} {ma2} {ma3} {cf1} {cf2} {cf3} {z1} {z2} {z3} {v1} {v2} {v3} q1 r1 q2 r2 q3 r3 e0 e1 ev => by
    rw [cn_of hp] at q1 q2 q3
    have hx : Rep k c na ma x false z1.toInt 0 lo m1 := by rw [q1]; exact h5'
    have O1 := HC x true z1 1 lo m1 ma ma1 cf cf1 v1 hq.1 (by omega) hx rfl hc r1
    have c1 := hc.go O1.1 O1.2.1 O1.2.2.1
    have q2' : z2 = ma 18 i := by rw [q2]; exact O1.2.1 18 i (by omega)
    have hy : Rep k c na ma1 y false z2.toInt 0 m1 m2 := by rw [q2']; exact rep_k2 _ _ _ _ _ _ h6' (O1.2.1.k (Or.inr (Nat.le_refl _)))
    have O2 := HC y true z2 1 m1 m2 ma1 ma2 cf1 cf2 v2 hq.2.1 (by omega) hy rfl c1 r2
    have c2 := c1.go O2.1 O2.2.1 O2.2.2.1
    have q3' : z3 = ma 19 i := by rw [q3, O2.2.1 19 i (by omega)]; exact O1.2.1 19 i (by omega)
    have hz : Rep k c na ma2 z false z3.toInt 0 m2 i := by rw [q3']; exact rep_k2 _ _ _ _ _ _ h7' ((O1.2.1.k (Or.inr (by omega))).tr (O2.2.1.k (Or.inr (Nat.le_refl _))))
    have O3 := HC z true z3 1 m2 i ma2 ma3 cf2 cf3 v3 hq.2.2 (by omega) hz rfl c2 r3
    rw [e0, e1, ev, show (1 : Int32).toInt = 1 from rfl]
    have AA : AC cf cf3 (att k vl (lkp L) F (.old (.elem x (.elem y z))) [] 0) (fun a => IsV 1 a.1) := AC.bind O1.t (fun _ _ => AC.bind O2.t (fun _ _ => AC.mp O3.t (fun w _ => Or.inl ⟨rfl, Or.inl rfl⟩)) O3.t.1) (fun w => O3.t.1 (O2.t.1 w))
    refine Ok0.cn ⟨O1.1.tr (O2.1.tr O3.1), (O1.2.1.le (Nat.le_refl _) (by omega)).tr ((O2.2.1.le (by omega) (by omega)).tr (O3.2.1.le (by omega) (by omega))), (O1.2.1.al O1.2.2.1).tr ((O2.2.1.al O2.2.2.1).tr (O3.2.1.al O3.2.2.1)), AA, fun u => nt_8 hp h14 (fun d => ?_) (fun d => ?_) (fun d => ?_)⟩
    · rw [← q1]
      exact O1.kp hx hq.1 (fun f j _ w => (O3.2.1 f j (by omega)).trans (O2.2.1 f j (by omega))) (uc_of (fun w => O3.t.1 (O2.t.1 w)) u) d
    · have g : ma3 18 i = z2 := by rw [O3.2.1 18 i (by omega), O2.2.1 18 i (by omega), O1.2.1 18 i (by omega), ← q2']
      rw [g]
      exact O2.kp hy hq.2.1 (fun f j _ w => O3.2.1 f j (by omega)) (uc_of O3.t.1 u) d
    · have g : ma3 19 i = z3 := by rw [O3.2.1 19 i (by omega), O2.2.1 19 i (by omega), O1.2.1 19 i (by omega), ← q3']
      rw [g]
      exact O3.2.2.2.2 u d
  rcases iv_mp_check_0 h with ⟨m', z149, h1, (⟨h2, z151, h3, ma154, cf155, v157, h4, z174, h5, cf176, h6, z189, h7, ma192, cf193, v195, h8, (⟨h9, (⟨h10, e0, e1, ev⟩ | ⟨h10, e0, e1, ev⟩)⟩ | ⟨h9, (⟨h10, e0, e1, ev⟩ | ⟨h10, e0, e1, ev⟩)⟩)⟩ | ⟨h2, (⟨h3, (⟨h4, e0, e1, ev⟩ | ⟨h4, e0, e1, ev⟩)⟩ | ⟨h3, (⟨h4, e0, e1, ev⟩ | ⟨h4, e0, e1, ev⟩)⟩)⟩ | ⟨h2, ma235, cf236, v238, h3, (⟨h4, (⟨h5, e0, e1, ev⟩ | ⟨h5, (⟨h6, e0, e1, ev⟩ | ⟨h6, z260, h7, cf262, h8, e0, e1, ev⟩)⟩)⟩ | ⟨h4, (⟨h5, v288, h6, cf293, h7, e0, e1, ev⟩ | ⟨h5, (⟨h6, (⟨h7, e0, e1, ev⟩ | ⟨h7, (⟨h8, e0, e1, ev⟩ | ⟨h8, z322, h9, cf324, h10, e0, e1, ev⟩)⟩)⟩ | ⟨h6, v348, h7, cf353, h8, e0, e1, ev⟩)⟩)⟩)⟩ | ⟨h2, ma378, cf379, v381, h3, (⟨h4, (⟨h5, e0, e1, ev⟩ | ⟨h5, (⟨h6, e0, e1, ev⟩ | ⟨h6, z402, h7, cf404, h8, e0, e1, ev⟩)⟩)⟩ | ⟨h4, (⟨h5, v430, h6, cf435, h7, e0, e1, ev⟩ | ⟨h5, (⟨h6, (⟨h7, e0, e1, ev⟩ | ⟨h7, (⟨h8, e0, e1, ev⟩ | ⟨h8, z464, h9, cf466, h10, e0, e1, ev⟩)⟩)⟩ | ⟨h6, v490, h7, cf495, h8, e0, e1, ev⟩)⟩)⟩)⟩ | ⟨h2, ma520, cf521, h3, z536, h4, ma539, cf540, v542, h5, (⟨h6, (⟨h7, e0, e1, ev⟩ | ⟨h7, e0, e1, ev⟩)⟩ | ⟨h6, (⟨h7, e0, e1, ev⟩ | ⟨h7, e0, e1, ev⟩)⟩)⟩ | ⟨h2, z569, h3, z570, h4, (⟨h5, z573, h6, ma577, cf578, v580, h7, (⟨h8, (⟨h9, e0, e1, ev⟩ | ⟨h9, e0, e1, ev⟩)⟩ | ⟨h8, (⟨h9, e0, e1, ev⟩ | ⟨h9, e0, e1, ev⟩)⟩)⟩ | ⟨h5, z608, h6, ma612, cf613, v615, h7, z633, h8, cf635, h9, (⟨h10, (⟨h11, e0, e1, ev⟩ | ⟨h11, e0, e1, ev⟩)⟩ | ⟨h10, (⟨h11, e0, e1, ev⟩ | ⟨h11, e0, e1, ev⟩)⟩)⟩)⟩ | ⟨h2, z658, h3, ma661, cf662, v664, h4, z681, h5, cf683, h6, (⟨h7, (⟨h8, e0, e1, ev⟩ | ⟨h8, e0, e1, ev⟩)⟩ | ⟨h7, (⟨h8, e0, e1, ev⟩ | ⟨h8, e0, e1, ev⟩)⟩)⟩ | ⟨h2, z706, h3, hQ⟩ | ⟨h2, z707, h3, ma710, cf711, v713, h4, z730, h5, ma733, cf734, v736, h6, z753, h7, ma756, cf757, v759, h8, (⟨h9, (⟨h10, e0, e1, ev⟩ | ⟨h10, e0, e1, ev⟩)⟩ | ⟨h9, (⟨h10, e0, e1, ev⟩ | ⟨h10, e0, e1, ev⟩)⟩)⟩)⟩
  · rw [cn_of hp] at h1
    rw [h1] at h2
    exfalso; omega
  · rw [cn_of hp] at h1
    rw [h1] at h2
    exfalso; omega
  · rw [cn_of hp] at h1
    rw [h1] at h2
    exfalso; omega
  · rw [cn_of hp] at h1
    rw [h1] at h2
    exfalso; omega
  · rw [cn_of hp] at h1
    rw [h1] at h2
    exfalso; omega
  · rw [cn_of hp] at h1
    rw [h1] at h2
    exfalso; omega
  · rw [cn_of hp] at h1
    rw [h1] at h2
    exfalso; omega
  · rw [cn_of hp] at h1
    rw [h1] at h2
    exfalso; omega
  · rw [cn_of hp] at h1
    rw [h1] at h2
    exfalso; omega
  · rw [cn_of hp] at h1
    rw [h1] at h2
    exfalso; omega
  · rw [cn_of hp] at h1
    rw [h1] at h2
    exfalso; omega
  · rw [cn_of hp] at h1
    rw [h1] at h2
    exfalso; omega
  · rw [cn_of hp] at h1
    rw [h1] at h2
    exfalso; omega
  · rw [cn_of hp] at h1
    rw [h1] at h2
    exfalso; omega
  · rw [cn_of hp] at h1
    rw [h1] at h2
    exfalso; omega
  · rw [cn_of hp] at h1
    rw [h1] at h2
    exfalso; omega
  · rw [cn_of hp] at h1
    rw [h1] at h2
    exfalso; omega
  · rw [cn_of hp] at h1
    rw [h1] at h2
    exfalso; omega
  · rw [cn_of hp] at h1
    rw [h1] at h2
    exfalso; omega
  · rw [cn_of hp] at h1
    rw [h1] at h2
    exfalso; omega
  · rw [cn_of hp] at h1
    rw [h1] at h2
    exfalso; omega
  · rw [cn_of hp] at h1
    rw [h1] at h2
    exfalso; omega
  · rw [cn_of hp] at h1
    rw [h1] at h2
    exfalso; omega
  · rw [cn_of hp] at h1
    rw [h1] at h2
    exfalso; omega
  · rw [cn_of hp] at h1
    rw [h1] at h2
    exfalso; omega
  · rw [cn_of hp] at h1
    rw [h1] at h2
    exfalso; omega
  · rw [cn_of hp] at h1
    rw [h1] at h2
    exfalso; omega
  · rw [cn_of hp] at h1
    rw [h1] at h2
    exfalso; omega
  · rw [cn_of hp] at h1
    rw [h1] at h2
    exfalso; omega
  · rw [cn_of hp] at h1
    rw [h1] at h2
    exfalso; omega
  · rw [cn_of hp] at h1
    rw [h1] at h2
    exfalso; omega
  · rw [cn_of hp] at h1
    rw [h1] at h2
    exfalso; omega
  · rw [cn_of hp] at h1
    rw [h1] at h2
    exfalso; omega
  · rw [cn_of hp] at h1
    rw [h1] at h2
    exfalso; omega
  · rw [cn_of hp] at h1
    rw [h1] at h2
    exfalso; omega
  · rw [cn_of hp] at h1
    rw [h1] at h2
    exfalso; omega
  · rw [cn_of hp] at h1
    rw [h1] at h2
    exfalso; omega
  · rw [cn_of hp] at h1
    rw [h1] at h2
    exfalso; omega
  · rw [cn_of hp] at h1
    rw [h1] at h2
    exfalso; omega
  · rw [cn_of hp] at h1
    rw [h1] at h2
    exfalso; omega
  · rw [cn_of hp] at h1
    rw [h1] at h2
    exfalso; omega
  · exact fin h3 h4 h5 h6 h7 h8 e0 e1 ev
  · exact fin h3 h4 h5 h6 h7 h8 e0 e1 ev
  · exact fin h3 h4 h5 h6 h7 h8 e0 e1 ev
  · exact fin h3 h4 h5 h6 h7 h8 e0 e1 ev
theorem ck_asg (hs : SmN ta k vl c) (hF : FunR tf ta na ca k vl c n38 M F) (hP : PrL ta k c) (HC : HCk k vl c L F n38 M tf ta na ca RL) (hh : hi ≤ 100000) (hR : Rep k c na ma (.length (.elem (.arg t) (.elem x y))) false p0.toInt 0 lo hi) (hp1 : p1.toInt = if b = true then 1 else 0) (hc : CtR k vl c ca L n38 M cf ma) {m : Nat} (h : E_mp_check RL tf ta na ca p0 p1 ma' cf' v m 0 [] [] [] [] [] ma cf) : OkC k vl (lkp L) F na ca M (.length (.elem (.arg t) (.elem x y))) b p0.toInt lo hi ma cf ma' cf' v.toInt := by
  obtain ⟨i, m1, hp, h2', h3', h4', hq, h5', h6'⟩ := hR
  have h14 := h3'.1
  have fin : ∀ {ma1 ma2 : Nat → Nat → Int32} {cf1 cf2 cf3 : Nat → Int32} {z1 z2 v1 v2 : Int32}, z1 = na 17 p0.toNatClampNeg → RL tf ta na ca z1 (0 : Int32) ma cf ma1 cf1 v1 → R_mp_checkPlace ta na ca z1 v1 cf1 cf2 → z2 = ma1 18 p0.toNatClampNeg → RL tf ta na ca z2 (1 : Int32) ma1 cf2 ma2 cf3 v2 → ma' = ma2 → cf' = cf3 → v = 1 → OkC k vl (lkp L) F na ca M (.length (.elem (.arg t) (.elem x y))) b p0.toInt lo hi ma cf ma' cf' v.toInt := fun {ma1} {ma2} {cf1} {cf2} {cf3} {z1} {z2} {v1} {v2} q1 r1 r4 q2 r2 e0 e1 ev => by
    rw [cn_of hp] at q1 q2
    have hx : Rep k c na ma x false z1.toInt 0 lo m1 := by rw [q1]; exact h5'
    have O1 := HC x false z1 0 lo m1 ma ma1 cf cf1 v1 hq.2.2.1 (by omega) hx rfl hc r1
    have c1 := hc.go O1.1 O1.2.1 O1.2.2.1
    obtain ⟨s1, s2, s3⟩ := plc_ac hs O1 hx hq.2.2.1 c1.1 r4
    have c2 : CtR k vl c ca L n38 M cf2 ma1 := c1.go s1 (FrM.rf (lo := 0) (hi := 0)) (AgKr.rf (na := na))
    have q2' : z2 = ma 18 i := by rw [q2]; exact O1.2.1 18 i (by omega)
    have hy : Rep k c na ma1 y false z2.toInt 0 m1 i := by rw [q2']; exact rep_k2 _ _ _ _ _ _ h6' (O1.2.1.k (Or.inr (Nat.le_refl _)))
    have O2 := HC y true z2 1 m1 i ma1 ma2 cf2 cf3 v2 hq.2.2.2 (by omega) hy rfl c2 r2
    rw [e0, e1, ev, show (1 : Int32).toInt = 1 from rfl]
    have AA : AC cf cf3 (att k vl (lkp L) F (.length (.elem (.arg t) (.elem x y))) [] 0) (fun a => IsV 1 a.1) := AC.bind s3 (fun _ _ => AC.mp O2.t (fun w _ => Or.inl ⟨rfl, Or.inl rfl⟩)) O2.t.1
    refine Ok0.cn ⟨O1.1.tr (s1.tr O2.1), (O1.2.1.le (Nat.le_refl _) (by omega)).tr (O2.2.1.le (by omega) (by omega)), (O1.2.1.al O1.2.2.1).tr (O2.2.1.al O2.2.2.1), AA, fun u => nt_9 hp h14 (fun d => ?_) (fun d => ?_)⟩
    · rw [← q1]
      exact O1.kp hx hq.2.2.1 (fun f j _ w => O2.2.1 f j (by omega)) (uc_of (fun w => O2.t.1 (s2 w)) u) d
    · have g : ma2 18 i = z2 := by rw [O2.2.1 18 i (by omega), O1.2.1 18 i (by omega), ← q2']
      rw [g]
      exact O2.2.2.2.2 u d
  rcases iv_mp_check_0 h with ⟨m', z149, h1, (⟨h2, z151, h3, ma154, cf155, v157, h4, z174, h5, cf176, h6, z189, h7, ma192, cf193, v195, h8, (⟨h9, (⟨h10, e0, e1, ev⟩ | ⟨h10, e0, e1, ev⟩)⟩ | ⟨h9, (⟨h10, e0, e1, ev⟩ | ⟨h10, e0, e1, ev⟩)⟩)⟩ | ⟨h2, (⟨h3, (⟨h4, e0, e1, ev⟩ | ⟨h4, e0, e1, ev⟩)⟩ | ⟨h3, (⟨h4, e0, e1, ev⟩ | ⟨h4, e0, e1, ev⟩)⟩)⟩ | ⟨h2, ma235, cf236, v238, h3, (⟨h4, (⟨h5, e0, e1, ev⟩ | ⟨h5, (⟨h6, e0, e1, ev⟩ | ⟨h6, z260, h7, cf262, h8, e0, e1, ev⟩)⟩)⟩ | ⟨h4, (⟨h5, v288, h6, cf293, h7, e0, e1, ev⟩ | ⟨h5, (⟨h6, (⟨h7, e0, e1, ev⟩ | ⟨h7, (⟨h8, e0, e1, ev⟩ | ⟨h8, z322, h9, cf324, h10, e0, e1, ev⟩)⟩)⟩ | ⟨h6, v348, h7, cf353, h8, e0, e1, ev⟩)⟩)⟩)⟩ | ⟨h2, ma378, cf379, v381, h3, (⟨h4, (⟨h5, e0, e1, ev⟩ | ⟨h5, (⟨h6, e0, e1, ev⟩ | ⟨h6, z402, h7, cf404, h8, e0, e1, ev⟩)⟩)⟩ | ⟨h4, (⟨h5, v430, h6, cf435, h7, e0, e1, ev⟩ | ⟨h5, (⟨h6, (⟨h7, e0, e1, ev⟩ | ⟨h7, (⟨h8, e0, e1, ev⟩ | ⟨h8, z464, h9, cf466, h10, e0, e1, ev⟩)⟩)⟩ | ⟨h6, v490, h7, cf495, h8, e0, e1, ev⟩)⟩)⟩)⟩ | ⟨h2, ma520, cf521, h3, z536, h4, ma539, cf540, v542, h5, (⟨h6, (⟨h7, e0, e1, ev⟩ | ⟨h7, e0, e1, ev⟩)⟩ | ⟨h6, (⟨h7, e0, e1, ev⟩ | ⟨h7, e0, e1, ev⟩)⟩)⟩ | ⟨h2, z569, h3, z570, h4, (⟨h5, z573, h6, ma577, cf578, v580, h7, (⟨h8, (⟨h9, e0, e1, ev⟩ | ⟨h9, e0, e1, ev⟩)⟩ | ⟨h8, (⟨h9, e0, e1, ev⟩ | ⟨h9, e0, e1, ev⟩)⟩)⟩ | ⟨h5, z608, h6, ma612, cf613, v615, h7, z633, h8, cf635, h9, (⟨h10, (⟨h11, e0, e1, ev⟩ | ⟨h11, e0, e1, ev⟩)⟩ | ⟨h10, (⟨h11, e0, e1, ev⟩ | ⟨h11, e0, e1, ev⟩)⟩)⟩)⟩ | ⟨h2, z658, h3, ma661, cf662, v664, h4, z681, h5, cf683, h6, (⟨h7, (⟨h8, e0, e1, ev⟩ | ⟨h8, e0, e1, ev⟩)⟩ | ⟨h7, (⟨h8, e0, e1, ev⟩ | ⟨h8, e0, e1, ev⟩)⟩)⟩ | ⟨h2, z706, h3, hQ⟩ | ⟨h2, z707, h3, ma710, cf711, v713, h4, z730, h5, ma733, cf734, v736, h6, z753, h7, ma756, cf757, v759, h8, (⟨h9, (⟨h10, e0, e1, ev⟩ | ⟨h10, e0, e1, ev⟩)⟩ | ⟨h9, (⟨h10, e0, e1, ev⟩ | ⟨h10, e0, e1, ev⟩)⟩)⟩)⟩
  · exact fin h3 h4 h6 h7 h8 e0 e1 ev
  · exact fin h3 h4 h6 h7 h8 e0 e1 ev
  · exact fin h3 h4 h6 h7 h8 e0 e1 ev
  · exact fin h3 h4 h6 h7 h8 e0 e1 ev
  · rw [cn_of hp] at h1
    rw [h1] at h2
    exfalso; omega
  · rw [cn_of hp] at h1
    rw [h1] at h2
    exfalso; omega
  · rw [cn_of hp] at h1
    rw [h1] at h2
    exfalso; omega
  · rw [cn_of hp] at h1
    rw [h1] at h2
    exfalso; omega
  · rw [cn_of hp] at h1
    rw [h1] at h2
    exfalso; omega
  · rw [cn_of hp] at h1
    rw [h1] at h2
    exfalso; omega
  · rw [cn_of hp] at h1
    rw [h1] at h2
    exfalso; omega
  · rw [cn_of hp] at h1
    rw [h1] at h2
    exfalso; omega
  · rw [cn_of hp] at h1
    rw [h1] at h2
    exfalso; omega
  · rw [cn_of hp] at h1
    rw [h1] at h2
    exfalso; omega
  · rw [cn_of hp] at h1
    rw [h1] at h2
    exfalso; omega
  · rw [cn_of hp] at h1
    rw [h1] at h2
    exfalso; omega
  · rw [cn_of hp] at h1
    rw [h1] at h2
    exfalso; omega
  · rw [cn_of hp] at h1
    rw [h1] at h2
    exfalso; omega
  · rw [cn_of hp] at h1
    rw [h1] at h2
    exfalso; omega
  · rw [cn_of hp] at h1
    rw [h1] at h2
    exfalso; omega
  · rw [cn_of hp] at h1
    rw [h1] at h2
    exfalso; omega
  · rw [cn_of hp] at h1
    rw [h1] at h2
    exfalso; omega
  · rw [cn_of hp] at h1
    rw [h1] at h2
    exfalso; omega
  · rw [cn_of hp] at h1
    rw [h1] at h2
    exfalso; omega
  · rw [cn_of hp] at h1
    rw [h1] at h2
    exfalso; omega
  · rw [cn_of hp] at h1
    rw [h1] at h2
    exfalso; omega
  · rw [cn_of hp] at h1
    rw [h1] at h2
    exfalso; omega
  · rw [cn_of hp] at h1
    rw [h1] at h2
    exfalso; omega
  · rw [cn_of hp] at h1
    rw [h1] at h2
    exfalso; omega
  · rw [cn_of hp] at h1
    rw [h1] at h2
    exfalso; omega
  · rw [cn_of hp] at h1
    rw [h1] at h2
    exfalso; omega
  · rw [cn_of hp] at h1
    rw [h1] at h2
    exfalso; omega
  · rw [cn_of hp] at h1
    rw [h1] at h2
    exfalso; omega
  · rw [cn_of hp] at h1
    rw [h1] at h2
    exfalso; omega
  · rw [cn_of hp] at h1
    rw [h1] at h2
    exfalso; omega
  · rw [cn_of hp] at h1
    rw [h1] at h2
    exfalso; omega
  · rw [cn_of hp] at h1
    rw [h1] at h2
    exfalso; omega
  · rw [cn_of hp] at h1
    rw [h1] at h2
    exfalso; omega
  · rw [cn_of hp] at h1
    rw [h1] at h2
    exfalso; omega
  · rw [cn_of hp] at h1
    rw [h1] at h2
    exfalso; omega
  · rw [cn_of hp] at h1
    rw [h1] at h2
    exfalso; omega
  · rw [cn_of hp] at h1
    rw [h1] at h2
    exfalso; omega
  · rw [cn_of hp] at h1
    rw [h1] at h2
    exfalso; omega
  · rw [cn_of hp] at h1
    rw [h1] at h2
    exfalso; omega
  · rw [cn_of hp] at h1
    rw [h1] at h2
    exfalso; omega
end RB2
