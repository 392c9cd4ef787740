/-! THE REFERENCE's checker: meet of every shape (laid by genm2.py) -/
theorem fold_n {w : Int} {x y : Int × Int32} (hx : ¬ x.1 = 3) (hy : ¬ y.1 = 3) : ¬ (aFold w x y).1 = 3 := by
  have lg : ∀ d : Int, ¬ (aLog d x y).1 = 3 := fun d => by
    unfold aLog
    split
    · split
      · split
        · show ¬ (0 : Int) = 3
          decide
        · exact hy
      · split
        · show ¬ (0 : Int) = 3
          decide
        · exact hy
    · exact hx
  unfold aFold
  rw [if_neg (fun q => q.elim hx hy)]
  split
  · exact lg 0
  · split
    · exact lg 1
    · split
      · show ¬ (2 : Int) = 3
        decide
      · show ¬ (0 : Int) = 3
        decide
theorem num_s {a b : Atr} (h : aNum a = some b) : ¬ (a.1 = 2 ∨ a.1 = 3 ∨ a.1 = 5) := fun w => by
  unfold aNum at h
  rw [if_pos w] at h
  exact absurd h (by simp)
theorem num_y {a : Atr} (h : ¬ (a.1 = 2 ∨ a.1 = 3 ∨ a.1 = 5)) : aNum a = some (0, a.2) := by unfold aNum; rw [if_neg h]
theorem z235 : ¬ ((0 : Int) = 2 ∨ (0 : Int) = 3 ∨ (0 : Int) = 5) := by decide
theorem kx_bin {w : Int} {ax ay : Option Atr} : KnX ((ax.bind aNum).bind fun a => (ay.bind aNum).bind fun b => some (aBin w a b)) ↔ KnX ax ∧ KnX ay := by
  constructor
  · rintro ⟨a, a1, -, a3⟩
    obtain ⟨c1, d1, f⟩ := bnd a1
    obtain ⟨c2, d2, f⟩ := bnd f
    injection f with f
    obtain ⟨e1, k1, l1⟩ := bnd d1
    obtain ⟨e2, k2, l2⟩ := bnd d2
    have yy : a.2.1 = (aFold w (c1.2.1, c1.2.2.1) (c2.2.1, c2.2.2.1)).1 := by rw [← f]; rfl
    rw [yy, num_k l1, num_k l2] at a3
    have q := fold_3 a3
    exact ⟨⟨e1, k1, num_s l1, q.1⟩, ⟨e2, k2, num_s l2, q.2⟩⟩
  · rintro ⟨⟨e1, k1, s1, n1⟩, ⟨e2, k2, s2, n2⟩⟩
    rw [k1, k2]
    refine ⟨aBin w (0, e1.2) (0, e2.2), ?_, z235, ?_⟩
    · show ((aNum e1).bind fun a => (aNum e2).bind fun b => some (aBin w a b)) = _
      rw [num_y s1, num_y s2]
      rfl
    · exact fold_n (w := w) (x := (e1.2.1, e1.2.2.1)) (y := (e2.2.1, e2.2.2.1)) n1 n2
section RI2
variable {tf : Nat → Int32} {ta : Nat → Nat → Int32} {k : Nat → Int} {vl : Nat → Int32} {c : Nat} {ca na : Nat → Nat → Int32} {L : Nms} {G : Int32 → Option Ent} {F : Int32 → Option Fnc} {n38 : Int32} {M : Nat → Int32}
theorem kx_pre {w : Int} {ax : Option Atr} (h : ¬ (w = 138 ∨ w = 139)) : KnX (ax.bind (aPre w)) ↔ KnX ax := by
  have ap : ∀ e1 : Atr, aPre w e1 = (aNum e1).bind (fun b => some (0, b.2.1, if w = 43 then b.2.2.1 else rku w b.2.2.1, b.2.2.2)) := fun e1 => by unfold aPre; rw [if_neg h]
  constructor
  · rintro ⟨a, a1, -, a3⟩
    obtain ⟨e1, k1, l1⟩ := bnd a1
    rw [ap] at l1
    obtain ⟨b, b1, b2⟩ := bnd l1
    injection b2 with b2
    have yb := num_f b1
    exact ⟨e1, k1, num_s b1, fun z => a3 (by rw [← b2, yb]; exact z)⟩
  · rintro ⟨e1, k1, s1, n1⟩
    rw [k1]
    refine ⟨(0, e1.2.1, if w = 43 then e1.2.2.1 else rku w e1.2.2.1, e1.2.2.2), ?_, z235, n1⟩
    show aPre w e1 = _
    rw [ap, num_y s1]
    rfl
theorem kx_ops (e : Ast) : isCh k e → (KnX (att k vl G F e [] 0) ↔ ∀ oe ∈ opsT k e, KnX (att k vl G F oe.2 [] 0)) := by
  fun_induction opsT k e
  case case1 =>
    rename_i t e ih
    intro h
    have h43 : k t = 43 := h.1
    have at1 : att k vl G F (.mul (.arg t) e) [] 0 = (att k vl G F e [] 0).bind (aPre (k t)) := att_pre
    rw [at1]
    exact (kx_pre (by omega)).trans (ih h.2)
  case case2 =>
    rename_i t x y ih
    intro h
    have h' : rkT k x = rkO (k t) → isCh k x := h
    have at1 : att k vl G F (.rem (.arg t) (.elem x y)) [] 0 = ((att k vl G F x [] 0).bind aNum).bind fun a => ((att k vl G F y [] 0).bind aNum).bind fun b => some (aBin (k t) a b) := att_bin
    rw [at1]
    refine kx_bin.trans ?_
    have lx : KnX (att k vl G F x [] 0) ↔ ∀ oe ∈ (if rkT k x = rkO (k t) then opsT k x else [(none, x)]), KnX (att k vl G F oe.2 [] 0) := by
      by_cases q : rkT k x = rkO (k t)
      · rw [if_pos q]; exact ih (h' q)
      · rw [if_neg q]
        exact ⟨fun w oe hm => by rw [List.mem_singleton] at hm; rw [hm]; exact w, fun w => w (none, x) List.mem_cons_self⟩
    rw [lx]
    constructor
    · intro w oe hm
      rcases List.mem_append.mp hm with z | z
      · exact w.1 oe z
      · rw [List.mem_singleton] at z
        rw [z]; exact w.2
    · intro w
      exact ⟨fun oe hm => w oe (List.mem_append.mpr (Or.inl hm)), w (some t, y) (List.mem_append.mpr (Or.inr List.mem_cons_self))⟩
  case case3 =>
    rename_i e h1 h2
    intro h
    exfalso
    unfold isCh at h
    split at h
    · exact h1 _ _ rfl
    · exact h2 _ _ _ rfl
    · exact h
abbrev Tmt := (Nat → Int32) → (Nat → Nat → Int32) → (Nat → Nat → Int32) → (Nat → Nat → Int32) → Int32 → (Nat → Nat → Int32) → (Nat → Int32) → (Nat → Nat → Int32) → (Nat → Int32) → Prop
def HMt (k : Nat → Int) (vl : Nat → Int32) (c : Nat) (L : Nms) (F : Int32 → Option Fnc) (n38 : Int32) (M : Nat → Int32) (tf : Nat → Int32) (ta na ca : Nat → Nat → Int32) (RL : Tmt) : Prop := ∀ (e : Ast) (p0 : Int32) (lo hi : Nat) (ma ma' : Nat → Nat → Int32) (cf cf' : Nat → Int32), isEx e = true → hi ≤ 100000 → Rep k c na ma e false p0.toInt 0 lo hi → CtR k vl c ca L n38 M cf ma → RL tf ta na ca p0 ma cf ma' cf' → OkM k vl (lkp L) F na e lo hi ma cf ma' cf'
variable {RL : Tmt} {p0 : Int32} {ma ma' : Nat → Nat → Int32} {cf cf' : Nat → Int32} {t lo hi : Nat} {e x y z as : Ast}
theorem mt_70 (HM : HMt k vl c L F n38 M tf ta na ca RL) : ∀ (r : List (Option Nat × Ast)) (m : Nat) (x2 : Int32) (lo hi : Nat) (ma : Nat → Nat → Int32) (cf : Nat → Int32), E_mp_meet RL tf ta na ca p0 ma' cf' m 70 [x2] [] [] [] [] ma cf → OpL k c na ma r x2.toInt lo hi → hi ≤ 100000 → CtR k vl c ca L n38 M cf ma → SmM cf cf' ∧ FrM ma ma' lo hi ∧ AgKr na ma ma' lo hi ∧ AC cf cf' (okL k vl (lkp L) F r) (fun _ => True) ∧ (¬ Z2 cf → ¬ Z2 cf') ∧ (Z2 cf → (Z2 cf' ↔ ∀ oe ∈ r, KnX (att k vl (lkp L) F oe.2 [] 0))) ∧ ((cf 47).toInt = 0 → Uc cf' → (cf' 47).toInt = 0) := by
  intro r
  induction r with
  | nil =>
    intro m x2 lo hi ma cf h hO hh hc
    have hneg : x2.toInt < 0 := hO.1
    rcases iv_mp_meet_70 h with ⟨m', (⟨h1, e0, e1⟩ | ⟨h1, ma6, cf7, h2, z27, h3, hQ⟩)⟩
    · rw [e0, e1]
      exact ⟨fun _ _ _ _ _ => rfl, FrM.rf, AgKr.rf, AC.ret trivial, id, fun w => ⟨fun _ oe hm => absurd hm (by simp), fun _ => w⟩, fun w _ => w⟩
    · exfalso; omega
  | cons a r ih =>
    obtain ⟨o, e⟩ := a
    intro m x2 lo hi ma cf h hO hh hc
    obtain ⟨j, l, h', r1, r2, r3, r4, r5, r6⟩ := hO
    rcases iv_mp_meet_70 h with ⟨m', (⟨h1, e0, e1⟩ | ⟨h1, ma6, cf7, h2, z27, h3, hQ⟩)⟩
    · exfalso; omega
    · rw [cn_of r1] at h3
      have r4' : Rep k c na ma e false x2.toInt 0 l h' := by rw [r1]; exact r4
      obtain ⟨o1, o2, o3, o4, o5, o6, o7⟩ := HM e x2 l h' ma ma6 cf cf7 r3 (by omega) r4' hc h2
      obtain ⟨b1, b2, b3, b4, b5, b6, b7⟩ := ih m' z27 h' hi ma6 cf7 hQ (by rw [h3]; exact opl_k _ _ _ _ r6 (o2.k (Or.inr (Nat.le_refl _)))) hh (hc.gm o1 o2 o3)
      refine ⟨o1.tr b1, (o2.le r2.1 (by omega)).tr (b2.le (by omega) (Nat.le_refl _)), (o2.al o3).tr (b2.al b3), AC.bind o4 (fun _ _ => b4) b4.1, fun w => b5 (o5 w), fun w => ?_, fun w u => b7 (o7 w (uc_of b4.1 u)) u⟩
      have q := o6 w
      by_cases kx : KnX (att k vl (lkp L) F e [] 0)
      · refine (b6 (q.mpr kx)).trans ⟨fun z oe hm => ?_, fun z oe hm => z oe (List.mem_cons_of_mem _ hm)⟩
        rcases List.mem_cons.mp hm with u | u
        · rw [u]; exact kx
        · exact z oe u
      · exact ⟨fun z => absurd z (b5 (fun u => kx (q.mp u))), fun z => absurd (z (o, e) List.mem_cons_self) kx⟩
theorem mt_num (hs : SmN ta k vl c) (hF : FunR tf ta na ca k vl c n38 M F) (hP : PrL ta k c) (HM : HMt k vl c L F n38 M tf ta na ca RL) (hh : hi ≤ 100000) (hR : Rep k c na ma (.arg t) false p0.toInt 0 lo hi) (hc : CtR k vl c ca L n38 M cf ma) {m : Nat} (h : E_mp_meet RL tf ta na ca p0 ma' cf' m 0 [] [] [] [] [] ma cf) : OkM k vl (lkp L) F na (.arg t) lo hi ma cf ma' cf' := by
  obtain ⟨i, hp, h2', h3', h4'⟩ := hR
  have h14 := h3'.1
  rcases iv_mp_meet_0 h with ⟨m', z28, h1, (⟨h2, ma32, cf33, v35, h3, e0, e1⟩ | ⟨h2, e0, e1⟩ | ⟨h2, ma55, cf56, h3, e0, e1⟩ | ⟨h2, ma78, cf79, v81, h3, e0, e1⟩ | ⟨h2, z98, h3, z99, h4, (⟨h5, z102, h6, ma105, cf106, h7, e0, e1⟩ | ⟨h5, ma128, cf129, v131, h6, e0, e1⟩)⟩ | ⟨h2, z148, h3, hQ⟩ | ⟨h2, z149, h3, ma152, cf153, h4, z173, h5, ma176, cf177, h6, z197, h7, ma200, cf201, h8, e0, e1⟩)⟩
  · rw [cn_of hp] at h1
    rw [h1] at h2
    exfalso; omega
  · rw [e0, e1]
    exact ⟨fun _ _ _ _ _ => rfl, FrM.rf, AgKr.rf, (show AC cf cf (some (0, 0, vl t, 1)) (fun _ : Atr => True) from AC.ret trivial), id, fun w => ⟨fun _ => ⟨(0, 0, vl t, 1), rfl, z235, (show ¬ (0 : Int) = 3 by decide)⟩, fun _ => w⟩, fun w _ => w⟩
  · rw [cn_of hp] at h1
    rw [h1] at h2
    exfalso; omega
  · rw [cn_of hp] at h1
    rw [h1] at h2
    exfalso; omega
  · rw [cn_of hp] at h1
    rw [h1] at h2
    exfalso; omega
  · rw [cn_of hp] at h1
    rw [h1] at h2
    exfalso; omega
  · rw [cn_of hp] at h1
    rw [h1] at h2
    exfalso; omega
  · rw [cn_of hp] at h1
    rw [h1] at h2
    exfalso; omega
theorem mt_nam (hs : SmN ta k vl c) (hF : FunR tf ta na ca k vl c n38 M F) (hP : PrL ta k c) (HM : HMt k vl c L F n38 M tf ta na ca RL) (hh : hi ≤ 100000) (hR : Rep k c na ma (.index t) false p0.toInt 0 lo hi) (hc : CtR k vl c ca L n38 M cf ma) {m : Nat} (h : E_mp_meet RL tf ta na ca p0 ma' cf' m 0 [] [] [] [] [] ma cf) : OkM k vl (lkp L) F na (.index t) lo hi ma cf ma' cf' := by
  obtain ⟨i, hp, h2', h3', h4', hq⟩ := hR
  have h14 := h3'.1
  rcases iv_mp_meet_0 h with ⟨m', z28, h1, (⟨h2, ma32, cf33, v35, h3, e0, e1⟩ | ⟨h2, e0, e1⟩ | ⟨h2, ma55, cf56, h3, e0, e1⟩ | ⟨h2, ma78, cf79, v81, h3, e0, e1⟩ | ⟨h2, z98, h3, z99, h4, (⟨h5, z102, h6, ma105, cf106, h7, e0, e1⟩ | ⟨h5, ma128, cf129, v131, h6, e0, e1⟩)⟩ | ⟨h2, z148, h3, hQ⟩ | ⟨h2, z149, h3, ma152, cf153, h4, z173, h5, ma176, cf177, h6, z197, h7, ma200, cf201, h8, e0, e1⟩)⟩
  · rw [cn_of hp] at h1
    rw [h1] at h2
    exfalso; omega
  · rw [cn_of hp] at h1
    rw [h1] at h2
    exfalso; omega
  · rw [e0, e1]
    obtain ⟨o1, o2, o3, o4, o5, o6, o7⟩ := mtn_r (F := F) hs hc.1 hp h14 h3'.2 hq.1 hq.2 h3
    exact ⟨o1, o2.le h2'.1 (by omega), o2.al o3, o4, o5, o6, o7⟩
  · rw [cn_of hp] at h1
    rw [h1] at h2
    exfalso; omega
  · rw [cn_of hp] at h1
    rw [h1] at h2
    exfalso; omega
  · rw [cn_of hp] at h1
    rw [h1] at h2
    exfalso; omega
  · rw [cn_of hp] at h1
    rw [h1] at h2
    exfalso; omega
  · rw [cn_of hp] at h1
    rw [h1] at h2
    exfalso; omega
theorem mt_cal (hs : SmN ta k vl c) (hF : FunR tf ta na ca k vl c n38 M F) (hP : PrL ta k c) (HM : HMt k vl c L F n38 M tf ta na ca RL) (hh : hi ≤ 100000) (hR : Rep k c na ma (.elem (.arg t) as) false p0.toInt 0 lo hi) (hc : CtR k vl c ca L n38 M cf ma) {m : Nat} (h : E_mp_meet RL tf ta na ca p0 ma' cf' m 0 [] [] [] [] [] ma cf) : OkM k vl (lkp L) F na (.elem (.arg t) as) lo hi ma cf ma' cf' := by
  have hR' := hR
  obtain ⟨i, hp, h2', h3', -⟩ := hR'
  have h14 := h3'.1
  have h3a : ∀ a : Atr, att k vl (lkp L) F (.elem (.arg t) as) [] 0 = some a → a.2.1 = 3 := fun a ha => by
    obtain ⟨c1, d1, f⟩ := bnd (att_call.symm.trans ha)
    obtain ⟨c2, d2, f⟩ := bnd f
    injection f with f
    rw [← f]
  rcases iv_mp_meet_0 h with ⟨m', z28, h1, (⟨h2, ma32, cf33, v35, h3, e0, e1⟩ | ⟨h2, e0, e1⟩ | ⟨h2, ma55, cf56, h3, e0, e1⟩ | ⟨h2, ma78, cf79, v81, h3, e0, e1⟩ | ⟨h2, z98, h3, z99, h4, (⟨h5, z102, h6, ma105, cf106, h7, e0, e1⟩ | ⟨h5, ma128, cf129, v131, h6, e0, e1⟩)⟩ | ⟨h2, z148, h3, hQ⟩ | ⟨h2, z149, h3, ma152, cf153, h4, z173, h5, ma176, cf177, h6, z197, h7, ma200, cf201, h8, e0, e1⟩)⟩
  · rw [cn_of hp] at h1
    rw [h1] at h2
    exfalso; omega
  · rw [cn_of hp] at h1
    rw [h1] at h2
    exfalso; omega
  · rw [cn_of hp] at h1
    rw [h1] at h2
    exfalso; omega
  · have O := ck_x hs hF hP _ true p0 1 lo hi ma ma78 cf cf79 v81 rfl hh hR rfl hc h3
    rw [e0, e1]
    exact OkM.vr O h3a
  · rw [cn_of hp] at h1
    rw [h1] at h2
    exfalso; omega
  · rw [cn_of hp] at h1
    rw [h1] at h2
    exfalso; omega
  · rw [cn_of hp] at h1
    rw [h1] at h2
    exfalso; omega
  · rw [cn_of hp] at h1
    rw [h1] at h2
    exfalso; omega
theorem mt_idx (hs : SmN ta k vl c) (hF : FunR tf ta na ca k vl c n38 M F) (hP : PrL ta k c) (HM : HMt k vl c L F n38 M tf ta na ca RL) (hh : hi ≤ 100000) (hR : Rep k c na ma (.sub (.arg t) e) false p0.toInt 0 lo hi) (hc : CtR k vl c ca L n38 M cf ma) {m : Nat} (h : E_mp_meet RL tf ta na ca p0 ma' cf' m 0 [] [] [] [] [] ma cf) : OkM k vl (lkp L) F na (.sub (.arg t) e) lo hi ma cf ma' cf' := by
  have hR' := hR
  obtain ⟨i, hp, h2', h3', -⟩ := hR'
  have h14 := h3'.1
  have h3a : ∀ a : Atr, att k vl (lkp L) F (.sub (.arg t) e) [] 0 = some a → a.2.1 = 3 := fun a ha => by
    obtain ⟨c1, d1, f⟩ := bnd (att_idx.symm.trans ha)
    obtain ⟨c2, d2, f⟩ := bnd f
    injection f with f
    rw [← f]
  rcases iv_mp_meet_0 h with ⟨m', z28, h1, (⟨h2, ma32, cf33, v35, h3, e0, e1⟩ | ⟨h2, e0, e1⟩ | ⟨h2, ma55, cf56, h3, e0, e1⟩ | ⟨h2, ma78, cf79, v81, h3, e0, e1⟩ | ⟨h2, z98, h3, z99, h4, (⟨h5, z102, h6, ma105, cf106, h7, e0, e1⟩ | ⟨h5, ma128, cf129, v131, h6, e0, e1⟩)⟩ | ⟨h2, z148, h3, hQ⟩ | ⟨h2, z149, h3, ma152, cf153, h4, z173, h5, ma176, cf177, h6, z197, h7, ma200, cf201, h8, e0, e1⟩)⟩
  · rw [cn_of hp] at h1
    rw [h1] at h2
    exfalso; omega
  · rw [cn_of hp] at h1
    rw [h1] at h2
    exfalso; omega
  · rw [cn_of hp] at h1
    rw [h1] at h2
    exfalso; omega
  · have O := ck_x hs hF hP _ true p0 1 lo hi ma ma78 cf cf79 v81 rfl hh hR rfl hc h3
    rw [e0, e1]
    exact OkM.vr O h3a
  · rw [cn_of hp] at h1
    rw [h1] at h2
    exfalso; omega
  · rw [cn_of hp] at h1
    rw [h1] at h2
    exfalso; omega
  · rw [cn_of hp] at h1
    rw [h1] at h2
    exfalso; omega
  · rw [cn_of hp] at h1
    rw [h1] at h2
    exfalso; omega
theorem mt_pst (hs : SmN ta k vl c) (hF : FunR tf ta na ca k vl c n38 M F) (hP : PrL ta k c) (HM : HMt k vl c L F n38 M tf ta na ca RL) (hh : hi ≤ 100000) (hR : Rep k c na ma (.div (.arg t) e) false p0.toInt 0 lo hi) (hc : CtR k vl c ca L n38 M cf ma) {m : Nat} (h : E_mp_meet RL tf ta na ca p0 ma' cf' m 0 [] [] [] [] [] ma cf) : OkM k vl (lkp L) F na (.div (.arg t) e) lo hi ma cf ma' cf' := by
  have hR' := hR
  obtain ⟨i, hp, h2', h3', -⟩ := hR'
  have h14 := h3'.1
  have h3a : ∀ a : Atr, att k vl (lkp L) F (.div (.arg t) e) [] 0 = some a → a.2.1 = 3 := fun a ha => by
    obtain ⟨c1, d1, f⟩ := bnd (att_post.symm.trans ha)
    injection f with f
    rw [← f]
  rcases iv_mp_meet_0 h with ⟨m', z28, h1, (⟨h2, ma32, cf33, v35, h3, e0, e1⟩ | ⟨h2, e0, e1⟩ | ⟨h2, ma55, cf56, h3, e0, e1⟩ | ⟨h2, ma78, cf79, v81, h3, e0, e1⟩ | ⟨h2, z98, h3, z99, h4, (⟨h5, z102, h6, ma105, cf106, h7, e0, e1⟩ | ⟨h5, ma128, cf129, v131, h6, e0, e1⟩)⟩ | ⟨h2, z148, h3, hQ⟩ | ⟨h2, z149, h3, ma152, cf153, h4, z173, h5, ma176, cf177, h6, z197, h7, ma200, cf201, h8, e0, e1⟩)⟩
  · rw [cn_of hp] at h1
    rw [h1] at h2
    exfalso; omega
  · rw [cn_of hp] at h1
    rw [h1] at h2
    exfalso; omega
  · rw [cn_of hp] at h1
    rw [h1] at h2
    exfalso; omega
  · have O := ck_x hs hF hP _ true p0 1 lo hi ma ma78 cf cf79 v81 rfl hh hR rfl hc h3
    rw [e0, e1]
    exact OkM.vr O h3a
  · rw [cn_of hp] at h1
    rw [h1] at h2
    exfalso; omega
  · rw [cn_of hp] at h1
    rw [h1] at h2
    exfalso; omega
  · rw [cn_of hp] at h1
    rw [h1] at h2
    exfalso; omega
  · rw [cn_of hp] at h1
    rw [h1] at h2
    exfalso; omega
theorem mt_asg (hs : SmN ta k vl c) (hF : FunR tf ta na ca k vl c n38 M F) (hP : PrL ta k c) (HM : HMt k vl c L F n38 M tf ta na ca RL) (hh : hi ≤ 100000) (hR : Rep k c na ma (.length (.elem (.arg t) (.elem x y))) false p0.toInt 0 lo hi) (hc : CtR k vl c ca L n38 M cf ma) {m : Nat} (h : E_mp_meet RL tf ta na ca p0 ma' cf' m 0 [] [] [] [] [] ma cf) : OkM k vl (lkp L) F na (.length (.elem (.arg t) (.elem x y))) lo hi ma cf ma' cf' := by
  have hR' := hR
  obtain ⟨i, m1, hp, h2', h3', -⟩ := hR'
  have h14 := h3'.1
  have h3a : ∀ a : Atr, att k vl (lkp L) F (.length (.elem (.arg t) (.elem x y))) [] 0 = some a → a.2.1 = 3 := fun a ha => by
    obtain ⟨c1, d1, f⟩ := bnd (att_asg.symm.trans ha)
    obtain ⟨c2, d2, f⟩ := bnd f
    injection f with f
    rw [← f]; rfl
  rcases iv_mp_meet_0 h with ⟨m', z28, h1, (⟨h2, ma32, cf33, v35, h3, e0, e1⟩ | ⟨h2, e0, e1⟩ | ⟨h2, ma55, cf56, h3, e0, e1⟩ | ⟨h2, ma78, cf79, v81, h3, e0, e1⟩ | ⟨h2, z98, h3, z99, h4, (⟨h5, z102, h6, ma105, cf106, h7, e0, e1⟩ | ⟨h5, ma128, cf129, v131, h6, e0, e1⟩)⟩ | ⟨h2, z148, h3, hQ⟩ | ⟨h2, z149, h3, ma152, cf153, h4, z173, h5, ma176, cf177, h6, z197, h7, ma200, cf201, h8, e0, e1⟩)⟩
  · have O := ck_x hs hF hP _ true p0 1 lo hi ma ma32 cf cf33 v35 rfl hh hR rfl hc h3
    rw [e0, e1]
    exact OkM.vr O h3a
  · rw [cn_of hp] at h1
    rw [h1] at h2
    exfalso; omega
  · rw [cn_of hp] at h1
    rw [h1] at h2
    exfalso; omega
  · rw [cn_of hp] at h1
    rw [h1] at h2
    exfalso; omega
  · rw [cn_of hp] at h1
    rw [h1] at h2
    exfalso; omega
  · rw [cn_of hp] at h1
    rw [h1] at h2
    exfalso; omega
  · rw [cn_of hp] at h1
    rw [h1] at h2
    exfalso; omega
  · rw [cn_of hp] at h1
    rw [h1] at h2
    exfalso; omega
theorem mt_pre (hs : SmN ta k vl c) (hF : FunR tf ta na ca k vl c n38 M F) (hP : PrL ta k c) (HM : HMt k vl c L F n38 M tf ta na ca RL) (hh : hi ≤ 100000) (hR : Rep k c na ma (.mul (.arg t) e) false p0.toInt 0 lo hi) (hc : CtR k vl c ca L n38 M cf ma) {m : Nat} (h : E_mp_meet RL tf ta na ca p0 ma' cf' m 0 [] [] [] [] [] ma cf) : OkM k vl (lkp L) F na (.mul (.arg t) e) lo hi ma cf ma' cf' := by
  have hR' := hR
  obtain ⟨i, j, hp, h2', h3', h4', hq, h6', h5'⟩ := hR'
  have h14 := h3'.1
  have pr := (hP t hq.1 hq.2.1).1
  rcases iv_mp_meet_0 h with ⟨m', z28, h1, (⟨h2, ma32, cf33, v35, h3, e0, e1⟩ | ⟨h2, e0, e1⟩ | ⟨h2, ma55, cf56, h3, e0, e1⟩ | ⟨h2, ma78, cf79, v81, h3, e0, e1⟩ | ⟨h2, z98, h3, z99, h4, (⟨h5, z102, h6, ma105, cf106, h7, e0, e1⟩ | ⟨h5, ma128, cf129, v131, h6, e0, e1⟩)⟩ | ⟨h2, z148, h3, hQ⟩ | ⟨h2, z149, h3, ma152, cf153, h4, z173, h5, ma176, cf177, h6, z197, h7, ma200, cf201, h8, e0, e1⟩)⟩
  · rw [cn_of hp] at h1
    rw [h1] at h2
    exfalso; omega
  · rw [cn_of hp] at h1
    rw [h1] at h2
    exfalso; omega
  · rw [cn_of hp] at h1
    rw [h1] at h2
    exfalso; omega
  · rw [cn_of hp] at h1
    rw [h1] at h2
    exfalso; omega
  · rw [cn_of hp] at h3 h6
    have gt : z98.toNatClampNeg = t := cn_of (by rw [h3]; exact h3'.2)
    rw [gt] at h4
    rw [h4] at h5
    have np : ¬ (k t = 138 ∨ k t = 139) := fun w => h5 (pr.mpr w)
    obtain ⟨o1, o2, o3, o4, o5, o6, o7⟩ := HM e z102 lo i ma ma105 cf cf106 hq.2.2 (by omega) (by rw [h6, h6'.1]; exact h5') hc h7
    rw [e0, e1]
    have at1 : att k vl (lkp L) F (.mul (.arg t) e) [] 0 = (att k vl (lkp L) F e [] 0).bind (aPre (k t)) := att_pre
    refine ⟨o1, o2.le (Nat.le_refl _) (by omega), o2.al o3, ?_, o5, fun w => (o6 w).trans (by rw [at1]; exact (kx_pre np).symm), o7⟩
    refine AC.of o4.1 (fun u => ?_)
    rw [at1]
    cases g1 : att k vl (lkp L) F e [] 0 with
    | none => exact Or.inl ⟨rfl, o4.n u (by rw [g1]; rfl)⟩
    | some b =>
      have ap : aPre (k t) b = (aNum b).bind (fun b => some (0, b.2.1, if k t = 43 then b.2.2.1 else rku (k t) b.2.2.1, b.2.2.2)) := by unfold aPre; rw [if_neg np]
      show ((aPre (k t) b).bind aNum = none ∧ _) ∨ ∃ y, (aPre (k t) b).bind aNum = some y ∧ _
      rw [ap]
      cases g2 : aNum b with
      | none => exact Or.inl ⟨rfl, o4.n u (by rw [g1]; exact g2)⟩
      | some b' => exact Or.inr ⟨(0, b'.2.1, if k t = 43 then b'.2.2.1 else rku (k t) b'.2.2.1, b'.2.2.2), num_y z235, (o4.y u (y := b') (by rw [g1]; exact g2)).1, trivial⟩
  · rw [cn_of hp] at h3
    have gt : z98.toNatClampNeg = t := cn_of (by rw [h3]; exact h3'.2)
    rw [gt] at h4
    rw [h4] at h5
    have np := pr.mp h5
    have h3a : ∀ a : Atr, att k vl (lkp L) F (.mul (.arg t) e) [] 0 = some a → a.2.1 = 3 := fun a ha => by
      obtain ⟨c1, d1, f⟩ := bnd (att_pre.symm.trans ha)
      unfold aPre at f
      rw [if_pos np] at f
      obtain ⟨c2, d2, f⟩ := bnd f
      injection f with f
      rw [← f]
    have O := ck_x hs hF hP _ true p0 1 lo hi ma ma128 cf cf129 v131 rfl hh hR rfl hc h6
    rw [e0, e1]
    exact OkM.vr O h3a
  · rw [cn_of hp] at h1
    rw [h1] at h2
    exfalso; omega
  · rw [cn_of hp] at h1
    rw [h1] at h2
    exfalso; omega
theorem mt_bin (hs : SmN ta k vl c) (hF : FunR tf ta na ca k vl c n38 M F) (hP : PrL ta k c) (HM : HMt k vl c L F n38 M tf ta na ca RL) (hh : hi ≤ 100000) (hR : Rep k c na ma (.rem (.arg t) (.elem x y)) false p0.toInt 0 lo hi) (hc : CtR k vl c ca L n38 M cf ma) {m : Nat} (h : E_mp_meet RL tf ta na ca p0 ma' cf' m 0 [] [] [] [] [] ma cf) : OkM k vl (lkp L) F na (.rem (.arg t) (.elem x y)) lo hi ma cf ma' cf' := by
  have ch := rep_c2 hR
  obtain ⟨i, hp, h2', h14, h22, hO⟩ := chain_r hR
  clear hR
  have A := att_ops (vl := vl) (G := lkp L) (F := F) _ ch
  have K := kx_ops (vl := vl) (G := lkp L) (F := F) _ ch
  rcases iv_mp_meet_0 h with ⟨m', z28, h1, (⟨h2, ma32, cf33, v35, h3, e0, e1⟩ | ⟨h2, e0, e1⟩ | ⟨h2, ma55, cf56, h3, e0, e1⟩ | ⟨h2, ma78, cf79, v81, h3, e0, e1⟩ | ⟨h2, z98, h3, z99, h4, (⟨h5, z102, h6, ma105, cf106, h7, e0, e1⟩ | ⟨h5, ma128, cf129, v131, h6, e0, e1⟩)⟩ | ⟨h2, z148, h3, hQ⟩ | ⟨h2, z149, h3, ma152, cf153, h4, z173, h5, ma176, cf177, h6, z197, h7, ma200, cf201, h8, e0, e1⟩)⟩
  · rw [cn_of hp] at h1
    rw [h1] at h2
    exfalso; omega
  · rw [cn_of hp] at h1
    rw [h1] at h2
    exfalso; omega
  · rw [cn_of hp] at h1
    rw [h1] at h2
    exfalso; omega
  · rw [cn_of hp] at h1
    rw [h1] at h2
    exfalso; omega
  · rw [cn_of hp] at h1
    rw [h1] at h2
    exfalso; omega
  · rw [cn_of hp] at h1
    rw [h1] at h2
    exfalso; omega
  · rw [cn_of hp] at h3
    obtain ⟨b1, b2, b3, b4, b5, b6, b7⟩ := mt_70 HM _ m' z148 lo hi ma cf hQ (by rw [h3]; exact hO) hh hc
    refine ⟨b1, b2, b3, AC.of b4.1 (fun u => ?_), b5, fun w => (b6 w).trans K.symm, b7⟩
    cases g1 : att k vl (lkp L) F (.rem (.arg t) (.elem x y)) [] 0 with
    | none => exact Or.inl ⟨rfl, b4.n u (by rw [A.1, g1]; rfl)⟩
    | some a => exact Or.inr ⟨(0, a.2), num_0 (A.2 a g1), (b4.y u (y := ()) (by rw [A.1, g1]; rfl)).1, trivial⟩
  · rw [cn_of hp] at h1
    rw [h1] at h2
    exfalso; omega
theorem kx_cnd {ax ay az : Option Atr} : KnX ((ax.bind aNum).bind fun a => (ay.bind aNum).bind fun b => (az.bind aNum).bind fun d => some (aCnd a b d)) ↔ KnX ax ∧ KnX ay ∧ KnX az := by
  constructor
  · rintro ⟨a, a1, -, a3⟩
    obtain ⟨c1, d1, f⟩ := bnd a1
    obtain ⟨c2, d2, f⟩ := bnd f
    obtain ⟨c3, d3, f⟩ := bnd f
    injection f with f
    obtain ⟨e1, k1, l1⟩ := bnd d1
    obtain ⟨e2, k2, l2⟩ := bnd d2
    obtain ⟨e3, k3, l3⟩ := bnd d3
    have yy : a.2.1 = if e2.2.1 = 3 ∨ e3.2.1 = 3 then 3 else if e1.2.1 = 0 then (if e1.2.2.1.toInt = 0 then e3.2.1 else e2.2.1) else e1.2.1 := by rw [← f, num_f l1, num_f l2, num_f l3]; rfl
    have n23 : ¬ (e2.2.1 = 3 ∨ e3.2.1 = 3) := fun w => a3 (by rw [yy, if_pos w])
    rw [if_neg n23] at yy
    have n1 : ¬ e1.2.1 = 3 := fun w => a3 (by rw [yy, if_neg (by omega)]; exact w)
    exact ⟨⟨e1, k1, num_s l1, n1⟩, ⟨e2, k2, num_s l2, fun w => n23 (Or.inl w)⟩, ⟨e3, k3, num_s l3, fun w => n23 (Or.inr w)⟩⟩
  · rintro ⟨⟨e1, k1, s1, n1⟩, ⟨e2, k2, s2, n2⟩, ⟨e3, k3, s3, n3⟩⟩
    rw [k1, k2, k3]
    refine ⟨aCnd (0, e1.2) (0, e2.2) (0, e3.2), ?_, z235, ?_⟩
    · show ((aNum e1).bind fun a => (aNum e2).bind fun b => (aNum e3).bind fun d => some (aCnd a b d)) = _
      rw [num_y s1, num_y s2, num_y s3]
      rfl
    · show ¬ (if e2.2.1 = 3 ∨ e3.2.1 = 3 then (3 : Int) else if e1.2.1 = 0 then (if e1.2.2.1.toInt = 0 then e3.2.1 else e2.2.1) else e1.2.1) = 3
      rw [if_neg (by omega)]
      split
      · split <;> assumption
      · exact n1
theorem mt_cnd (hs : SmN ta k vl c) (hF : FunR tf ta na ca k vl c n38 M F) (hP : PrL ta k c) (HM : HMt k vl c L F n38 M tf ta na ca RL) (hh : hi ≤ 100000) (hR : Rep k c na ma (.old (.elem x (.elem y z))) false p0.toInt 0 lo hi) (hc : CtR k vl c ca L n38 M cf ma) {m : Nat} (h : E_mp_meet RL tf ta na ca p0 ma' cf' m 0 [] [] [] [] [] ma cf) : OkM k vl (lkp L) F na (.old (.elem x (.elem y z))) lo hi ma cf ma' cf' := by
  obtain ⟨i, m1, m2, hp, h2', h14, h4', hq, h5', h6', h7'⟩ := hR
  rcases iv_mp_meet_0 h with ⟨m', z28, h1, (⟨h2, ma32, cf33, v35, h3, e0, e1⟩ | ⟨h2, e0, e1⟩ | ⟨h2, ma55, cf56, h3, e0, e1⟩ | ⟨h2, ma78, cf79, v81, h3, e0, e1⟩ | ⟨h2, z98, h3, z99, h4, (⟨h5, z102, h6, ma105, cf106, h7, e0, e1⟩ | ⟨h5, ma128, cf129, v131, h6, e0, e1⟩)⟩ | ⟨h2, z148, h3, hQ⟩ | ⟨h2, z149, h3, ma152, cf153, h4, z173, h5, ma176, cf177, h6, z197, h7, ma200, cf201, h8, e0, e1⟩)⟩
  · rw [cn_of hp] at h1
    rw [h1] at h2
    exfalso; omega
  · rw [cn_of hp] at h1
    rw [h1] at h2
    exfalso; omega
  · rw [cn_of hp] at h1
    rw [h1] at h2
    exfalso; omega
  · rw [cn_of hp] at h1
    rw [h1] at h2
    exfalso; omega
  · rw [cn_of hp] at h1
    rw [h1] at h2
    exfalso; omega
  · rw [cn_of hp] at h1
    rw [h1] at h2
    exfalso; omega
  · rw [cn_of hp] at h1
    rw [h1] at h2
    exfalso; omega
  · rw [cn_of hp] at h3 h5 h7
    obtain ⟨o1, o2, o3, o4, o5, o6, o7⟩ := HM x z149 lo m1 ma ma152 cf cf153 hq.1 (by omega) (by rw [h3]; exact h5') hc h4
    have c1 := hc.gm o1 o2 o3
    have q2' : z173 = ma 18 i := by rw [h5]; exact o2 18 i (by omega)
    obtain ⟨p1, p2, p3, p4, p5, p6, p7⟩ := HM y z173 m1 m2 ma152 ma176 cf153 cf177 hq.2.1 (by omega) (by rw [q2']; exact rep_k2 _ _ _ _ _ _ h6' (o2.k (Or.inr (Nat.le_refl _)))) c1 h6
    have c2 := c1.gm p1 p2 p3
    have q3' : z197 = ma 19 i := by rw [h7, p2 19 i (by omega)]; exact o2 19 i (by omega)
    obtain ⟨r1, r2, r3, r4, r5, r6, r7⟩ := HM z z197 m2 i ma176 ma200 cf177 cf201 hq.2.2 (by omega) (by rw [q3']; exact rep_k2 _ _ _ _ _ _ h7' ((o2.k (Or.inr (by omega))).tr (p2.k (Or.inr (Nat.le_refl _))))) c2 h8
    rw [e0, e1]
    have at1 : att k vl (lkp L) F (.old (.elem x (.elem y z))) [] 0 = ((att k vl (lkp L) F x [] 0).bind aNum).bind fun a => ((att k vl (lkp L) F y [] 0).bind aNum).bind fun b => ((att k vl (lkp L) F z [] 0).bind aNum).bind fun d => some (aCnd a b d) := att_cnd
    refine ⟨o1.tr (p1.tr r1), (o2.le (Nat.le_refl _) (by omega)).tr ((p2.le (by omega) (by omega)).tr (r2.le (by omega) (by omega))), (o2.al o3).tr ((p2.al p3).tr (r2.al r3)), ?_, fun w => r5 (p5 (o5 w)), fun w => ?_, fun w u => r7 (p7 (o7 w (uc_of (fun q => r4.1 (p4.1 q)) u)) (uc_of r4.1 u)) u⟩
    · have AA : AC cf cf201 (att k vl (lkp L) F (.old (.elem x (.elem y z))) [] 0) (fun a : Atr => a.1 = 0) := AC.bind o4 (fun _ _ => AC.bind p4 (fun _ _ => AC.mp r4 (fun _ _ => rfl)) r4.1) (fun w => r4.1 (p4.1 w))
      refine AC.of AA.1 (fun u => ?_)
      cases g1 : att k vl (lkp L) F (.old (.elem x (.elem y z))) [] 0 with
      | none => exact Or.inl ⟨rfl, AA.n u g1⟩
      | some b =>
        have q := AA.y u g1
        exact Or.inr ⟨(0, b.2), num_0 q.2, q.1, trivial⟩
    · rw [at1]
      refine Iff.trans ?_ kx_cnd.symm
      have q1 := o6 w
      by_cases k1 : KnX (att k vl (lkp L) F x [] 0)
      · have q2 := p6 (q1.mpr k1)
        by_cases k2 : KnX (att k vl (lkp L) F y [] 0)
        · exact (r6 (q2.mpr k2)).trans ⟨fun z => ⟨k1, k2, z⟩, fun z => z.2.2⟩
        · exact ⟨fun z => absurd z (r5 (fun u => k2 (q2.mp u))), fun z => absurd z.2.1 k2⟩
      · exact ⟨fun z => absurd z (r5 (p5 (fun u => k1 (q1.mp u)))), fun z => absurd z.1 k1⟩
theorem mt_r (hs : SmN ta k vl c) (hF : FunR tf ta na ca k vl c n38 M F) (hP : PrL ta k c) (HM : HMt k vl c L F n38 M tf ta na ca RL) : HMt k vl c L F n38 M tf ta na ca (R_mp_meet RL) := by
  intro e p0 lo hi ma ma' cf cf' hx hh hR hc h
  obtain ⟨m, h⟩ := h
  rcases rep_sh _ _ _ _ _ _ hR rfl hx with ⟨t, q⟩ | ⟨t, q⟩ | ⟨t, as, q⟩ | ⟨t, y, q⟩ | ⟨t, y, q⟩ | ⟨t, y, q⟩ | ⟨x, y, z, q⟩ | ⟨t, x, y, q⟩ | ⟨t, x, y, q⟩
  · subst q; exact mt_num hs hF hP HM hh hR hc h
  · subst q; exact mt_nam hs hF hP HM hh hR hc h
  · subst q; exact mt_cal hs hF hP HM hh hR hc h
  · subst q; exact mt_idx hs hF hP HM hh hR hc h
  · subst q; exact mt_pre hs hF hP HM hh hR hc h
  · subst q; exact mt_pst hs hF hP HM hh hR hc h
  · subst q; exact mt_cnd hs hF hP HM hh hR hc h
  · subst q; exact mt_asg hs hF hP HM hh hR hc h
  · subst q; exact mt_bin hs hF hP HM hh hR hc h
theorem mt_all (hs : SmN ta k vl c) (hF : FunR tf ta na ca k vl c n38 M F) (hP : PrL ta k c) : ∀ n : Nat, HMt k vl c L F n38 M tf ta na ca (RL_mp_meet n)
  | 0 => fun _ _ _ _ _ _ _ _ _ _ _ _ h => False.elim h
  | n + 1 => mt_r hs hF hP (mt_all hs hF hP n)
theorem mt_x (hs : SmN ta k vl c) (hF : FunR tf ta na ca k vl c n38 M F) (hP : PrL ta k c) : HMt k vl c L F n38 M tf ta na ca RX_mp_meet := fun e p0 lo hi ma ma' cf cf' h1 h2 h3 h4 h => by
  obtain ⟨n, h⟩ := h
  exact mt_all hs hF hP n e p0 lo hi ma ma' cf cf' h1 h2 h3 h4 h
end RI2
