/-! THE REFERENCE's checker: functions -/
/-- parameters: their names, the words that they take -/
def OkP (k : Nat → Int) (vl : Nat → Int32) (c : Nat) (na ca0 : Nat → Nat → Int32) (n38 : Int32) (M0 : Nat → Int32) (L : Nms) (sc lo hi : Nat) (x : Int → Option (Nms × Int)) (ma : Nat → Nat → Int32) (cf : Nat → Int32) (ma' : Nat → Nat → Int32) (cf' : Nat → Int32) (ca' : Nat → Nat → Int32) : Prop := ∃ X : Nms, CkS k vl c na ca0 n38 M0 (L ++ X) sc cf' ca' ma' ∧ (L ++ X).length ≤ hi ∧ FrM ma ma' lo hi ∧ DfS cf cf' ∧ (0 ≤ (cf' 42).toInt ∧ (cf' 42).toInt ≤ 5000 * (hi : Int)) ∧ ∀ w : Int, AC cf cf' (x w) (fun p => p.1 = L ++ X ∧ p.2 = w + ((cf' 42).toInt - (cf 42).toInt))
section SL
variable {tf : Nat → Int32} {ta na ca ca0 ca1 ca' ma ma' ma1 : Nat → Nat → Int32} {vl M0 : Nat → Int32} {k : Nat → Int} {ql : Nat → Int} {c sc lo hi mid d D : Nat} {n38 : Int32} {F : Int32 → Option Fnc} {cf cf' cf1 : Nat → Int32} {L : Nms} {p0 p1 v : Int32} {e a b s : Ast} {rt : Int}
theorem sp_n {w : Int} : semPars vl F sc .null L w = some (L, w) := by first | rfl | simp [semPars]
theorem sp_a {w : Int} : semPars vl F sc (.add a b) L w = (dcl false F sc L (vl (tokP a)) (entP a)).bind fun L' => semPars vl F sc b L' (w + wdPq a) := by first | rfl | simp [semPars]
theorem new_m (h : R_mp_checkNew tf ta na ca p0 cf cf') : SmK cf cf' := by
  rcases h with ⟨v2, h1, (⟨h2, cf12, h3, e0⟩ | ⟨h2, (⟨h3, e0⟩ | ⟨h3, v39, h4, (⟨h5, e0⟩ | ⟨h5, cf47, h6, e0⟩)⟩)⟩)⟩ | h
  · rw [e0]; exact (bad_r h3 (by decide)).2
  · rw [e0]; exact SmK.rf
  · rw [e0]; exact SmK.rf
  · rw [e0]; exact (bad_r h6 (by decide)).2
  · exact h.elim
theorem new_b {m1 : Nat} (h : R_mp_checkNew tf ta na ca p0 cf cf') (hw : 0 ≤ (cf 42).toInt ∧ (cf 42).toInt ≤ 5000 * (lo : Int)) (hl : lo < m1 ∧ m1 ≤ hi) (hm : hi ≤ 100000) : -2147483648 ≤ (cf' 42).toInt + 1 ∧ (cf' 42).toInt + 1 < 2147483648 ∧ -2147483648 ≤ (cf' 42).toInt + 2 ∧ (cf' 42).toInt + 2 < 2147483648 := by
  rw [new_m h 42 (by decide) (by decide)]
  omega
theorem vu_q {f : Nat → Nat → Int32} {i : Nat} {x : Int32} : va_up f 18 (upd (f 18) i x) 22 = f 22 := va_up_n (by decide)
/-- one parameter -/
theorem p1_t {t : Nat} {g : Ent} {w : Int} {cf7 cf9 : Nat → Int32} {ca9 : Nat → Nat → Int32} {y0 kd z5 z6 z39 v48 : Int32} (H : TxH tf ta na ca0 k vl ql c n38 M0 F) (S : CkS k vl c na ca0 n38 M0 L sc cf ca ma) (hl : lo < mid) (hm : mid ≤ 100000) (hL : L.length ≤ lo) (hw0 : 0 ≤ (cf 42).toInt ∧ (cf 42).toInt ≤ 5000 * (lo : Int)) (h43 : 0 ≤ (cf 43).toInt) (ht : z5.toInt = (t : Int)) (htc : t < c) (h16 : k t = 16) (h3 : R_mp_checkNew tf ta na ca z5 cf cf7) (hz : z39.toInt = (cf7 42).toInt + w) (hw : 0 ≤ w ∧ w ≤ 4096) (hLay : R_mp_lay y0 (1 : Int32) (upd cf7 42 z39) ca cf9 ca9 v48) (hma : ma' = vu ma 18 lo v48) (h6 : z6 = z5) (hkd : 1 ≤ kd.toInt ∧ kd.toInt ≤ 3) (hg : g = (kd.toInt, 0)) (hKn : R_mp_know z6 kd (0 : Int32) v48 cf9 ca9 cf' ca') : SmK cf cf7 ∧ AC cf cf7 (dcl false F sc L (vl t) g) (fun L' => L' = L ++ [(vl t, g)]) ∧ CkS k vl c na ca0 n38 M0 (L ++ [(vl t, g)]) sc cf' ca' ma' ∧ FrM ma ma' lo mid ∧ DfS cf cf' ∧ cf' 30 = cf7 30 ∧ (cf' 42).toInt = (cf 42).toInt + w := by
  obtain ⟨n1, n2⟩ := new_r H S ht htc h16 false ⟨fun q => absurd q (by decide), fun q => by exfalso; omega⟩ g h3
  have S7 : CkS k vl c na ca0 n38 M0 L sc cf7 ca ma := S.sm (n1 33 (by decide) (by decide)) (n1 37 (by decide) (by decide)) (n1 38 (by decide) (by decide)) S.2.2.2.1
  have hM : MgO na M0 (ma' 22) := fun i q => by rw [hma, vu_p (by omega)]; exact S.2.2.2.1 i q
  rw [h6] at hKn
  obtain ⟨b1, b2⟩ := layk S7 hLay (pk_un (by decide)) (pk_un (by decide)) (pk_un (by decide)) hM hKn ht htc h16 ⟨hkd.1, by omega⟩ (by omega)
  rw [if_neg (by omega), ← hg] at b1
  refine ⟨n1, n2, b1, fun f i q => by rw [hma, vu_at (by omega)], fun j h1 h2 h3 h4 h5 h6 h7 h8 => ((b2 j h3 h5 h6).trans (pk_un h4)).trans (n1 j h1 h2), (b2 30 (by decide) (by decide) (by decide)).trans (pk_un (by decide)), ?_⟩
  rw [b2 42 (by decide) (by decide) (by decide), pk_us, hz, n1 42 (by decide) (by decide)]
/-- the parameters, then the body -/
theorem fn_80 {x4 x5 nd : Int32} {P : Nat} (H : TxH tf ta na ca0 k vl ql c n38 M0 F) (hnd : nd.toInt = (P : Int)) : ∀ (ps : Ast) (m : Nat) (x6 : Int32) (lo mid : Nat) (ma : Nat → Nat → Int32) (cf : Nat → Int32) (ca : Nat → Nat → Int32) (L : Nms), E_mp_checkFunction D tf ta na p0 ma' cf' ca' m 80 [x4, x5, x6, nd] [] [] [] [] ma cf ca → RowS na (RepP k c na ma) ps x6.toInt lo mid → mid ≤ 100000 → CkS k vl c na ca0 n38 M0 L sc cf ca ma → L.length ≤ lo → (0 ≤ (cf 42).toInt ∧ (cf 42).toInt ≤ 5000 * (lo : Int)) → 0 ≤ (cf 43).toInt → ∃ (m' : Nat) (y6 : Int32) (ma1 : Nat → Nat → Int32) (cf1 : Nat → Int32) (ca1 : Nat → Nat → Int32), y6.toInt < 0 ∧ E_mp_checkFunction D tf ta na p0 ma' cf' ca' m' 80 [x4, x5, y6, nd] [] [] [] [] ma1 cf1 ca1 ∧ OkP k vl c na ca0 n38 M0 L sc lo mid (fun w => semPars vl F sc ps L w) ma cf ma1 cf1 ca1 := by
  intro ps
  induction ps with
  | null =>
    intro m x6 lo mid ma cf ca L h hR hm S hL hw h43
    have hR' : x6.toInt < 0 ∧ lo ≤ mid := hR
    refine ⟨m, x6, ma, cf, ca, hR'.1, h, [], by rw [List.append_nil]; exact S, by rw [List.append_nil]; omega, FrM.rf, DfS.rf, by omega, fun w => ?_⟩
    show AC cf cf (semPars vl F sc .null L w) _
    rw [sp_n]
    exact AC.ret ⟨by rw [List.append_nil], by show w = _; omega⟩
  | add v r ihv ihr =>
    intro m x6 lo mid ma cf ca L h hR hm S hL hw h43
    obtain ⟨m1, r1, r2, r3, r4⟩ := hR
    obtain ⟨v1, v2, ty, t, v3, v4, v5⟩ := r3
    have hid := fun (_ : True) => v5
    clear v5
    have xi : x6.toNatClampNeg = lo := cn_of r1
    have nxt : ∀ {ma1 : Nat → Nat → Int32} {cf1 cf7 : Nat → Int32} {ca1 : Nat → Nat → Int32} {z : Int32} {m' : Nat} {g : Ent} {w : Int}, (SmK cf cf7 ∧ AC cf cf7 (dcl false F sc L (vl t) g) (fun L' => L' = L ++ [(vl t, g)]) ∧ CkS k vl c na ca0 n38 M0 (L ++ [(vl t, g)]) sc cf1 ca1 ma1 ∧ FrM ma ma1 lo m1 ∧ DfS cf cf1 ∧ cf1 30 = cf7 30 ∧ (cf1 42).toInt = (cf 42).toInt + w) → (0 ≤ w ∧ w ≤ 4096) → tokP v = t → entP v = g → wdPq v = w → z = na 21 lo → E_mp_checkFunction D tf ta na p0 ma' cf' ca' m' 80 [x4, x5, z, nd] [] [] [] [] ma1 cf1 ca1 → ∃ (m' : Nat) (y6 : Int32) (ma1 : Nat → Nat → Int32) (cf1 : Nat → Int32) (ca1 : Nat → Nat → Int32), y6.toInt < 0 ∧ E_mp_checkFunction D tf ta na p0 ma' cf' ca' m' 80 [x4, x5, y6, nd] [] [] [] [] ma1 cf1 ca1 ∧ OkP k vl c na ca0 n38 M0 L sc lo mid (fun w => semPars vl F sc (.add v r) L w) ma cf ma1 cf1 ca1 := by
      intro ma1 cf1 cf7 ca1 z m' g w B hw' e1 e2 e3 hz hE
      obtain ⟨b1, b2, b3, b4, b5, b6, b7⟩ := B
      have e43 : cf1 43 = cf 43 := b5 43 (by decide) (by decide) (by decide) (by decide) (by decide) (by decide) (by decide) (by decide)
      have el : (L ++ [(vl t, g)]).length = L.length + 1 := by rw [List.length_append]; rfl
      obtain ⟨m2, y6, ma2, cf2, ca2, g1, g2, X, a1, a2, a3, a4, a5, a6⟩ := ihr m' z m1 mid ma1 cf1 ca1 (L ++ [(vl t, g)]) hE (by rw [hz]; exact row_kp _ _ _ _ r4 (fun _ _ _ => rfl) (fun s l h q1 q2 q3 => rpp_kp q3 (FrM.ag (r := -1) b4 (Or.inr q1)))) hm b3 (by rw [el]; omega) (by rw [b7]; omega) (by rw [e43]; exact h43)
      have ea : L ++ ((vl t, g) :: X) = L ++ [(vl t, g)] ++ X := by rw [List.append_assoc]; rfl
      refine ⟨m2, y6, ma2, cf2, ca2, g1, g2, (vl t, g) :: X, by rw [ea]; exact a1, by rw [ea]; exact a2, (b4.le (Nat.le_refl _) r2.2).tr (a3.le (by omega) (Nat.le_refl _)), b5.tr a4, a5, fun w0 => ?_⟩
      show AC cf cf2 (semPars vl F sc (.add v r) L w0) _
      rw [sp_a, e1, e2, e3, ea]
      have rest : ∀ L' : Nms, L' = L ++ [(vl t, g)] → AC cf7 cf2 (semPars vl F sc r L' (w0 + w)) (fun p => p.1 = L ++ [(vl t, g)] ++ X ∧ p.2 = w0 + ((cf2 42).toInt - (cf 42).toInt)) := fun L' q => by
        rw [q]
        exact ((a6 (w0 + w)).e30 (a' := cf7) (b' := cf2) b6.symm rfl).imp (fun p y => ⟨y.1, by rw [y.2, b7]; omega⟩)
      exact AC.bind b2 rest (rest _ rfl).1
    have tm : ∀ {y : Ast}, v = .mul (.arg ty) (.arg t) → tokP v = t ∧ entP v = (1, 0) ∧ wdPq v = 1 := fun {y} e => by rw [e]; exact ⟨rfl, rfl, rfl⟩
    have ts : v = .sub (.arg ty) (.arg t) → tokP v = t ∧ entP v = (if ty = 2 then 3 else 2, 0) ∧ wdPq v = 2 := fun e => by rw [e]; exact ⟨rfl, rfl, rfl⟩
    rcases iv_mp_checkFunction_80 h with ⟨m', (⟨h1, z3, h2, z4, h3, ma8, cf9, ca10, h4, (⟨h5, z45, h6, ca46, h7, ca47, h8, cf49, h9, e0, e1, e2⟩ | ⟨h5, z71, h6, z72, h7, cf74, h8, z85, h9, ca86, h10, ca87, h11, cf89, h12, e0, e1, e2⟩)⟩ | ⟨h1, z113, h2, cf115, h3, z137, h4, (⟨h5, z142, h6, z143, h7, (⟨h8, cf149, ca150, v152, h9, ma177, h10, z178, h11, z180, h12, cf183, ca184, h13, z207, h14, hQ⟩ | ⟨h8, cf211, ca212, v214, h9, ma239, h10, z240, h11, z242, h12, cf245, ca246, h13, z269, h14, hQ⟩)⟩ | ⟨h5, z272, h6, z273, h7, (⟨h8, z277, h9, cf280, ca281, v283, h10, ma308, h11, z309, h12, z311, h13, (⟨h14, z314, h15, cf317, ca318, h16, z341, h17, hQ⟩ | ⟨h14, z342, h15, cf345, ca346, h16, z369, h17, hQ⟩)⟩ | ⟨h8, z371, h9, cf374, ca375, v377, h10, ma402, h11, z403, h12, z405, h13, (⟨h14, z408, h15, cf411, ca412, h16, z435, h17, hQ⟩ | ⟨h14, z436, h15, cf439, ca440, h16, z463, h17, hQ⟩)⟩)⟩)⟩)⟩
    · exfalso; omega
    · exfalso; omega
    all_goals rw [xi] at h2 h4
    all_goals rw [h4] at h5
    · rw [xi] at h7 h10 h11 h14
      rcases hid trivial with ⟨a1, a2⟩ | ⟨a1, a2⟩
      · obtain ⟨t1, t2, t3⟩ := tm (y := v) a1
        exact nxt (p1_t (w := 1) (g := (1, 0)) H S v1 (by omega) hL hw h43 (by rw [h2]; exact v3.1) v3.2.1 v3.2.2 h3 (ti_add h6 rfl (show (1 : Int32).toInt = 1 from rfl) (new_b h3 hw r2 hm).1 (new_b h3 hw r2 hm).2.1) (by decide) h9 h10 (by rw [h11, h2]) (by decide) rfl h13) (by decide) t1 t2 t3 h14 hQ
      · exfalso; omega
    · rw [xi] at h7 h10 h11 h14
      rcases hid trivial with ⟨a1, a2⟩ | ⟨a1, a2⟩
      · obtain ⟨t1, t2, t3⟩ := tm (y := v) a1
        exact nxt (p1_t (w := 1) (g := (1, 0)) H S v1 (by omega) hL hw h43 (by rw [h2]; exact v3.1) v3.2.1 v3.2.2 h3 (ti_add h6 rfl (show (1 : Int32).toInt = 1 from rfl) (new_b h3 hw r2 hm).1 (new_b h3 hw r2 hm).2.1) (by decide) h9 h10 (by rw [h11, h2]) (by decide) rfl h13) (by decide) t1 t2 t3 h14 hQ
      · exfalso; omega
    all_goals rw [xi] at h7 h11 h12 h13 h17
    all_goals rw [h7] at h8
    all_goals rw [h13, h11, vu_q] at h14
    · rcases hid trivial with ⟨a1, a2⟩ | ⟨a1, a2⟩
      · exfalso; omega
      · obtain ⟨t1, t2, t3⟩ := ts a1
        have y2 : ¬ ty = 2 := fun q => by have := v4.1; omega
        rw [if_neg y2] at t2
        exact nxt (p1_t (w := 2) (g := (2, 0)) H S v1 (by omega) hL hw h43 (by rw [h2]; exact v3.1) v3.2.1 v3.2.2 h3 (ti_add h6 rfl (show (2 : Int32).toInt = 2 from rfl) (new_b h3 hw r2 hm).2.2.1 (new_b h3 hw r2 hm).2.2.2) (by decide) h10 h11 (by rw [h12, h2]) (by decide) rfl h16) (by decide) t1 t2 t3 h17 hQ
    · exact absurd h14 h8
    · exact absurd h8 h14
    · rcases hid trivial with ⟨a1, a2⟩ | ⟨a1, a2⟩
      · exfalso; omega
      · obtain ⟨t1, t2, t3⟩ := ts a1
        have y2 : ty = 2 := by have := v4.1; omega
        rw [if_pos y2] at t2
        exact nxt (p1_t (w := 2) (g := (3, 0)) H S v1 (by omega) hL hw h43 (by rw [h2]; exact v3.1) v3.2.1 v3.2.2 h3 (ti_add h6 rfl (show (2 : Int32).toInt = 2 from rfl) (new_b h3 hw r2 hm).2.2.1 (new_b h3 hw r2 hm).2.2.2) (by decide) h10 h11 (by rw [h12, h2]) (by decide) rfl h16) (by decide) t1 t2 t3 h17 hQ
  | _ => intro m x6 lo mid ma cf ca L h hR; exact hR.elim
/-- what a function of the text means, but that its frame is not too large -/
def fnA (k : Nat → Int) (vl : Nat → Int32) (ql : Nat → Int) (F : Int32 → Option Fnc) (dup : Bool) (ty : Nat) (ps bd : Ast) (L : Nms) : Option Int := (if dup = true then none else semPars vl F L.length ps L 0).bind fun p => (sem k vl ql F (ty : Int) bd L.length false false (p.1, p.2, 0, [], false)).bind fun s' => some (4 + s'.2.1 + s'.2.2.1)
/-- fields that an item leaves alone -/
def DfI (a b : Nat → Int32) : Prop := ∀ j : Nat, ¬ j = 30 → ¬ j = 31 → ¬ j = 33 → ¬ j = 41 → ¬ j = 42 → ¬ j = 48 → ¬ j = 54 → ¬ j = 55 → ¬ j = 57 → ¬ j = 58 → ¬ j = 59 → b j = a j
/-- a function of the text, at node lo -/
theorem fn_r {f m t ty : Nat} {ps bd : Ast} {dup : Bool} (H : TxH tf ta na ca0 k vl ql c n38 M0 F) (hh : hi ≤ 100000) (hf : p0.toInt = (f : Int)) (h39 : (ca0 39 f).toInt = (lo : Int)) (k14 : (na 14 lo).toInt = 41) (hty : ty = 1 ∨ ty = 2 ∨ ty = 3) (k22 : (ma 22 lo).toInt = (ty : Int) - 1) (k15 : (na 15 lo).toInt = (t : Int) ∧ t < c ∧ k t = 16) (hps : RowS na (RepP k c na ma) ps (na 17 lo).toInt (lo + 1) m) (k18 : (ma 18 lo).toInt = (m : Int)) (hm : m < hi) (hbd : RowS na (RepS k c na ma d) bd (na 17 m).toInt (m + 1) hi) (S : CkS k vl c na ca0 n38 M0 L sc cf ca ma) (hL : L.length ≤ lo) (h44 : (cf 44).toInt = 0) (h45 : (cf 45).toInt = 0) (h43 : cf 43 = -1) (hdup : ∀ z own : Int32, z.toInt = (t : Int) → R_mp_findOwn tf ta z own → (0 ≤ own.toInt ∧ dup = true) ∨ (¬ 0 ≤ own.toInt ∧ ∀ (g : Nat → Int32) (fn : Int32), g 38 = n38 → R_mp_findFunction2 ta na g ca z fn → (fn.toInt = (f : Int) ↔ dup = false))) (h : R_mp_checkFunction D tf ta na p0 ma cf ca ma' cf' ca') : EnvR k vl c cf' ca' L ∧ cf' 38 = n38 ∧ ca' 39 = ca0 39 ∧ MgO na M0 (ma' 22) ∧ (cf' 37).toInt = (sc : Int) ∧ FrM ma ma' lo hi ∧ DfI cf cf' ∧ cf' 41 = cf 41 ∧ cf' 55 = cf 55 ∧ (∀ j : Nat, ¬ j = f → ca' 40 j = ca 40 j) ∧ AC cf cf' (fnA k vl ql F dup ty ps bd L) (fun r => (ca' 40 f).toInt = r) := by
  have lm := row_le hps
  have lb := row_le hbd
  have e39 : (ca 39 p0.toNatClampNeg).toNatClampNeg = lo := by rw [cn_of hf, S.2.2.1]; exact cn_of h39
  -- behind the name
  have go : ∀ {cfs : Nat → Int32} {nd z : Int32} {m' : Nat}, SmK cf cfs → (∃ N : Unit → Prop, AC cf cfs (if dup = true then none else some ()) N) → nd.toInt = (lo : Int) → z = na 17 lo → E_mp_checkFunction D tf ta na p0 ma' cf' ca' m' 80 [cfs 33, cfs 37, z, nd] [] [] [] [] ma (upd (upd (upd (upd cfs 37 (cfs 33)) 42 4) 43 nd) 54 0) ca → EnvR k vl c cf' ca' L ∧ cf' 38 = n38 ∧ ca' 39 = ca0 39 ∧ MgO na M0 (ma' 22) ∧ (cf' 37).toInt = (sc : Int) ∧ FrM ma ma' lo hi ∧ DfI cf cf' ∧ cf' 41 = cf 41 ∧ cf' 55 = cf 55 ∧ (∀ j : Nat, ¬ j = f → ca' 40 j = ca 40 j) ∧ AC cf cf' (fnA k vl ql F dup ty ps bd L) (fun r => (ca' 40 f).toInt = r) := by
    intro cfs nd z m' sm hdp hnd hz hE
    obtain ⟨N, hdp⟩ := hdp
    have q0 : ∀ j : Nat, ¬ j = 37 → ¬ j = 42 → ¬ j = 43 → ¬ j = 54 → (upd (upd (upd (upd cfs 37 (cfs 33)) 42 4) 43 nd) 54 0) j = cfs j := fun j a1 a2 a3 a4 => by rw [pk_un a4, pk_un a3, pk_un a2, pk_un a1]
    have q42 : (upd (upd (upd (upd cfs 37 (cfs 33)) 42 4) 43 nd) 54 0) 42 = 4 := by rw [pk_un (by decide), pk_un (by decide), pk_us]
    have q43 : (upd (upd (upd (upd cfs 37 (cfs 33)) 42 4) 43 nd) 54 0) 43 = nd := by rw [pk_un (by decide), pk_us]
    have q37 : (upd (upd (upd (upd cfs 37 (cfs 33)) 42 4) 43 nd) 54 0) 37 = cfs 33 := by rw [pk_un (by decide), pk_un (by decide), pk_un (by decide), pk_us]
    have s33 : cfs 33 = cf 33 := sm 33 (by decide) (by decide)
    have S0 : CkS k vl c na ca0 n38 M0 L L.length (upd (upd (upd (upd cfs 37 (cfs 33)) 42 4) 43 nd) 54 0) ca ma := ⟨S.1.sm ((q0 33 (by decide) (by decide) (by decide) (by decide)).trans s33), ((q0 38 (by decide) (by decide) (by decide) (by decide)).trans (sm 38 (by decide) (by decide))).trans S.2.1, S.2.2.1, S.2.2.2.1, by rw [q37, s33]; exact S.1.1, Nat.le_refl _, S.2.2.2.2.2.2⟩
    obtain ⟨m1, y6, ma1, cf1, ca1, g1, g2, X, a1, a2, a3, a4, a5, a6⟩ := fn_80 (sc := L.length) H hnd ps m' z (lo + 1) m ma _ ca L hE (by rw [hz]; exact hps) (by omega) S0 (by omega) (by rw [q42]; exact ⟨by decide, by have : (4 : Int32).toInt = 4 := rfl; omega⟩) (by rw [q43]; omega)
    have d43 : cf1 43 = nd := (a4 43 (by decide) (by decide) (by decide) (by decide) (by decide) (by decide) (by decide) (by decide)).trans q43
    have d44 : cf1 44 = cf 44 := (a4 44 (by decide) (by decide) (by decide) (by decide) (by decide) (by decide) (by decide) (by decide)).trans ((q0 44 (by decide) (by decide) (by decide) (by decide)).trans (sm 44 (by decide) (by decide)))
    have d45 : cf1 45 = cf 45 := (a4 45 (by decide) (by decide) (by decide) (by decide) (by decide) (by decide) (by decide) (by decide)).trans ((q0 45 (by decide) (by decide) (by decide) (by decide)).trans (sm 45 (by decide) (by decide)))
    have hC : CtS na M0 (ty : Int) false false (m + 1) cf1 := by
      have mm : M0 lo = ma 22 lo := (S.2.2.2.1 lo (by omega)).symm
      unfold CtS
      rw [d43, d44, d45, cn_of hnd, mm]
      refine ⟨⟨by omega, by omega, ?_⟩, ⟨by omega, by omega, ⟨fun q => absurd q (by decide), fun q => by exfalso; omega⟩⟩, by omega, by omega, ⟨fun q => absurd q (by decide), fun q => by exfalso; omega⟩⟩
      constructor <;> intro q <;> omega
    -- the body is checked
    have body : ∀ {z3 z4 : Int32} {ma8 ca10 : Nat → Nat → Int32} {cf9 : Nat → Int32}, z3 = ma1 18 nd.toNatClampNeg → z4 = na 17 z3.toNatClampNeg → R_mp_statements (RL_mp_checkStatement D) tf ta na z4 ma1 cf1 ca1 ma8 cf9 ca10 → z4 = na 17 m ∧ ∃ Y : Nms, CkS k vl c na ca0 n38 M0 (L ++ X ++ Y) L.length cf9 ca10 ma8 ∧ FrM ma ma8 (lo + 1) hi ∧ ma8 18 lo = ma 18 lo ∧ (∀ j : Nat, ¬ j = 30 → ¬ j = 31 → ¬ j = 33 → ¬ j = 37 → ¬ j = 42 → ¬ j = 43 → ¬ j = 48 → ¬ j = 54 → ¬ j = 57 → ¬ j = 58 → cf9 j = cf j) ∧ (0 ≤ (cf9 42).toInt ∧ (cf9 42).toInt ≤ 5000 * (hi : Int)) ∧ AC cf cf9 (fnA k vl ql F dup ty ps bd L) (fun r => ∃ h : Int, 0 ≤ h ∧ r = (cf9 42).toInt + h ∧ MsR na ca0 M0 (m + 1) hi z4.toInt h ma8) := by
      intro z3 z4 ma8 ca10 cf9 h2 h3 h4
      rw [cn_of hnd, a3 18 lo (by omega)] at h2
      have e3 : z3.toNatClampNeg = m := cn_of (by rw [h2]; exact k18)
      rw [e3] at h3
      obtain ⟨Y, b1, b2, b3, b4, b5, b6⟩ := st_r (d := d) (lp := false) (bk := false) (rt := (ty : Int)) (a := bd) (sc_all H D) (by rw [h3]; exact row_kp _ _ _ _ hbd (fun _ _ _ => rfl) (fun s l h q1 q2 q3 => rps_kp d s l h (-1) q3 (a3.ags (by omega)) (by omega))) hh a1 (by omega) (by omega) hC h4
      refine ⟨h3, Y, b1, (a3.le (Nat.le_refl _) (by omega)).tr (b3.le (by omega) (Nat.le_refl _)), by rw [b3 18 lo (by omega), a3 18 lo (by omega)], fun j j1 j2 j3 j4 j5 j6 j7 j8 j9 j10 => (b4 j j1 j2 j3 j5 j7 j8 j9 j10).trans ((a4 j j1 j2 j3 j5 j7 j8 j9 j10).trans ((q0 j j4 j5 j6 j8).trans (sm j j1 j2))), b5, ?_⟩
      unfold fnA
      have eqn : (if dup = true then none else semPars vl F L.length ps L 0) = (if dup = true then none else some ()).bind fun _ => semPars vl F L.length ps L 0 := by cases dup <;> rfl
      rw [eqn]
      have A1 := (a6 0).e30 (a' := cfs) (b' := cf1) (q0 30 (by decide) (by decide) (by decide) (by decide)).symm rfl
      have A2 := AC.bind hdp (fun _ _ => A1) A1.1
      refine AC.bind A2 (fun p q => ?_) (b6 (L ++ X, 0, 0, [], false) rfl).1
      refine AC.bind (b6 (p.1, p.2, 0, [], false) q.1) (fun s' r => AC.ret ?_) id
      obtain ⟨r1, r2, r3, r4⟩ := r
      obtain ⟨h, y1, y2, y3⟩ := r4 rfl (Int.le_refl _)
      refine ⟨h, y2, ?_, y3⟩
      have y1' : s'.2.2.1 = max 0 h := y1
      have r2' : s'.2.1 = p.2 + ((cf9 42).toInt - (cf1 42).toInt) := r2
      have q2 := q.2
      rw [q42] at q2
      have f4 : (4 : Int32).toInt = 4 := rfl
      omega
    -- what is left
    have fin : ∀ {cfz cf9 : Nat → Int32} {ma8 ca10 : Nat → Nat → Int32} {Y : Nms} {z w : Int32}, CkS k vl c na ca0 n38 M0 (L ++ X ++ Y) L.length cf9 ca10 ma8 → FrM ma ma8 (lo + 1) hi → (∀ j : Nat, ¬ j = 30 → ¬ j = 31 → ¬ j = 33 → ¬ j = 37 → ¬ j = 42 → ¬ j = 43 → ¬ j = 48 → ¬ j = 54 → ¬ j = 57 → ¬ j = 58 → cf9 j = cf j) → (∀ j : Nat, ¬ j = 43 → ¬ j = 59 → cfz j = cf9 j) → cfz 43 = -1 → R_mp_leave (cfs 33) (cfs 37) cfz cf' → ma' = ma8 → ca' = va_up (va_up ca10 40 (upd (ca10 40) p0.toNatClampNeg z)) 56 (upd ((va_up ca10 40 (upd (ca10 40) p0.toNatClampNeg z)) 56) p0.toNatClampNeg w) → (EnvR k vl c cf' ca' L ∧ cf' 38 = n38 ∧ ca' 39 = ca0 39 ∧ MgO na M0 (ma' 22) ∧ (cf' 37).toInt = (sc : Int) ∧ FrM ma ma' lo hi ∧ DfI cf cf' ∧ cf' 41 = cf 41 ∧ cf' 55 = cf 55 ∧ (∀ j : Nat, ¬ j = f → ca' 40 j = ca 40 j)) ∧ ca' 40 f = z ∧ cf' 30 = cf9 30 := by
      intro cfz cf9 ma8 ca10 Y z w b1 b2 b3 hz1 hz2 hlv hma hca
      rcases hlv with e0 | hlv
      · have s37 : cfs 37 = cf 37 := sm 37 (by decide) (by decide)
        have c40 : ca' 40 = upd (ca10 40) f z := by rw [hca, va_up_n (by decide), va_up_s, cn_of hf]
        have co : ∀ i : Nat, ¬ i = 40 → ¬ i = 56 → ca' i = ca10 i := fun i q1 q2 => by rw [hca, va_up_n q2, va_up_n q1]
        have x37 : cf' 37 = cf 37 := by rw [e0, pk_us, s37]
        have x33 : cf' 33 = cf 33 := by rw [e0, pk_un (by decide), pk_us, s33]
        have xo : ∀ j : Nat, ¬ j = 33 → ¬ j = 37 → cf' j = cfz j := fun j q1 q2 => by rw [e0, pk_un q2, pk_un q1]
        have all : ∀ j : Nat, ¬ j = 30 → ¬ j = 31 → ¬ j = 33 → ¬ j = 42 → ¬ j = 48 → ¬ j = 54 → ¬ j = 57 → ¬ j = 58 → ¬ j = 59 → cf' j = cf j := fun j j1 j2 j3 j4 j5 j6 j7 j8 j9 => by
          by_cases q : j = 37
          · rw [q]; exact x37
          · rw [xo j j3 q]
            by_cases q' : j = 43
            · rw [q', hz2, h43]
            · rw [hz1 j q' j9, b3 j j1 j2 j3 q j4 q' j5 j6 j7 j8]
        have E0 : EnvR k vl c cf9 ca' (L ++ X ++ Y) := b1.1.cav rfl (co 34 (by decide) (by decide)) (co 35 (by decide) (by decide)) (co 36 (by decide) (by decide))
        have E := E0.tk (n := L.length) (cf' := cf') (by rw [List.append_assoc, List.length_append]; omega) (by rw [x33]; exact S.1.1)
        rw [List.append_assoc, List.take_left] at E
        refine ⟨⟨E, (all 38 (by decide) (by decide) (by decide) (by decide) (by decide) (by decide) (by decide) (by decide) (by decide)).trans S.2.1, (co 39 (by decide) (by decide)).trans b1.2.2.1, by rw [hma]; exact b1.2.2.2.1, by rw [x37]; exact S.2.2.2.2.1, by rw [hma]; exact b2.le (by omega) (Nat.le_refl _), fun j j1 j2 j3 j4 j5 j6 j7 j8 j9 j10 j11 => all j j1 j2 j3 j5 j6 j7 j9 j10 j11, all 41 (by decide) (by decide) (by decide) (by decide) (by decide) (by decide) (by decide) (by decide) (by decide), all 55 (by decide) (by decide) (by decide) (by decide) (by decide) (by decide) (by decide) (by decide) (by decide), fun j q => by rw [c40, pk_un q, b1.2.2.2.2.2.2, S.2.2.2.2.2.2]⟩, by rw [c40, pk_us], (xo 30 (by decide) (by decide)).trans (hz1 30 (by decide) (by decide))⟩
      · exact hlv.elim
    rcases iv_mp_checkFunction_80 g2 with ⟨m2, (⟨h1, z3, h2, z4, h3, ma8, cf9, ca10, h4, (⟨h5, z45, h6, ca46, h7, ca47, h8, cf49, h9, e0, e1, e2⟩ | ⟨h5, z71, h6, z72, h7, cf74, h8, z85, h9, ca86, h10, ca87, h11, cf89, h12, e0, e1, e2⟩)⟩ | ⟨h1, z113, h2, cf115, h3, z137, h4, (⟨h5, z142, h6, z143, h7, (⟨h8, cf149, ca150, v152, h9, ma177, h10, z178, h11, z180, h12, cf183, ca184, h13, z207, h14, hQ⟩ | ⟨h8, cf211, ca212, v214, h9, ma239, h10, z240, h11, z242, h12, cf245, ca246, h13, z269, h14, hQ⟩)⟩ | ⟨h5, z272, h6, z273, h7, (⟨h8, z277, h9, cf280, ca281, v283, h10, ma308, h11, z309, h12, z311, h13, (⟨h14, z314, h15, cf317, ca318, h16, z341, h17, hQ⟩ | ⟨h14, z342, h15, cf345, ca346, h16, z369, h17, hQ⟩)⟩ | ⟨h8, z371, h9, cf374, ca375, v377, h10, ma402, h11, z403, h12, z405, h13, (⟨h14, z408, h15, cf411, ca412, h16, z435, h17, hQ⟩ | ⟨h14, z436, h15, cf439, ca440, h16, z463, h17, hQ⟩)⟩)⟩)⟩)⟩
    · obtain ⟨z4', Y, b1, b2, b3, b4, b5, base⟩ := body h2 h3 h4
      rw [h7] at h8
      rw [← e1] at h9
      obtain ⟨A, c40, x30⟩ := fin b1 b2 b4 (fun j q1 q2 => by rw [pk_un q2, pk_un q1]) (by rw [pk_un (by decide), pk_us]) h9 e0 (by rw [e2]; exact h8)
      have B : Bc cf' := by unfold Bc; rw [x30]; exact h5
      obtain ⟨A1, A2, A3, A4, A5, A6, A7, A8, A9, A10⟩ := A
      refine ⟨A1, A2, A3, A4, A5, A6, A7, A8, A9, A10, AC.of (fun _ => B) (fun u => Or.inl ⟨?_, B⟩)⟩
      rcases opt_c (fnA k vl ql F dup ty ps bd L) with y | ⟨r, y⟩
      · exact y
      · exact absurd (base.y u y).1 h5
    · obtain ⟨z4', Y, b1, b2, b3, b4, b5, base⟩ := body h2 h3 h4
      have u : Uc cf := by
        by_cases q : Uc cf
        · exact q
        · exact absurd h5 (base.1 q)
      rcases opt_c (fnA k vl ql F dup ty ps bd L) with y | ⟨r, y⟩
      · exact absurd h5 (base.n u y)
      · obtain ⟨-, h, y1, y2, y3⟩ := base.y u y
        rw [cn_of hnd, b3] at h6
        have e6 : z71.toNatClampNeg = m := cn_of (by rw [h6]; exact k18)
        rw [e6] at h7
        have up : Ups h (upd cf9 59 0) cf74 := mr_r (hi := hi) y3 (fun p a b q => ⟨D, q⟩) ⟨b1.2.2.1, b1.2.2.2.1, fun _ _ _ _ => rfl⟩ (by rw [pk_us]; decide) (by rw [h7, z4']) h8
        have t59 : (cf74 59).toInt = h := by
          rw [up.2, pk_us]
          have : (0 : Int32).toInt = 0 := rfl
          omega
        have t42 : cf74 42 = cf9 42 := (up.1 42 (by decide)).trans (pk_un (by decide))
        have hb := y3.1
        have z85' := ti_add h9 (show (cf74 42).toInt = (cf9 42).toInt by rw [t42]) t59 (by omega) (by omega)
        rw [h10] at h11
        rw [← e1] at h12
        obtain ⟨A, c40, x30⟩ := fin b1 b2 b4 (fun j q1 q2 => by rw [pk_un q1, up.1 j q2, pk_un q2]) (by rw [pk_us]) h12 e0 (by rw [e2]; exact h11)
        have U : Uc cf' := by unfold Uc; rw [x30]; exact h5
        obtain ⟨A1, A2, A3, A4, A5, A6, A7, A8, A9, A10⟩ := A
        exact ⟨A1, A2, A3, A4, A5, A6, A7, A8, A9, A10, AC.of (fun q => absurd u q) (fun _ => Or.inr ⟨r, y, U, by rw [c40, z85', y2]⟩)⟩
    all_goals exact absurd g1 h1
  obtain ⟨m0, h⟩ := h
  rcases iv_mp_checkFunction_0 h with ⟨m', z464, h1, nd, h2, z465, h3, v467, h4, (⟨h5, cf474, h6, z497, h7, hQ⟩ | ⟨h5, v499, h6, (⟨h7, z506, h8, hQ⟩ | ⟨h7, cf508, h8, z531, h9, hQ⟩)⟩)⟩
  · have hnd : nd.toInt = (lo : Int) := by rw [← h2, h1, cn_of hf, S.2.2.1]; exact h39
    rw [cn_of hnd] at h3 h7
    rcases hdup z465 v467 (by rw [h3]; exact k15.1) h4 with ⟨-, q⟩ | ⟨q, -⟩
    · have bb := bad_r h6 (by decide)
      exact go bb.2 ⟨fun _ => True, by rw [q]; exact AC.bad h6 (by decide)⟩ hnd h7 hQ
    · exact absurd h5 q
  · have hnd : nd.toInt = (lo : Int) := by rw [← h2, h1, cn_of hf, S.2.2.1]; exact h39
    rw [cn_of hnd] at h3 h8
    rcases hdup z465 v467 (by rw [h3]; exact k15.1) h4 with ⟨q, -⟩ | ⟨-, q⟩
    · exact absurd q h5
    · have q' := (q cf v499 S.2.1 h6).mp (by rw [h7]; exact hf)
      exact go SmK.rf ⟨fun _ => True, by rw [q']; exact AC.ret trivial⟩ hnd h8 hQ
  · have hnd : nd.toInt = (lo : Int) := by rw [← h2, h1, cn_of hf, S.2.2.1]; exact h39
    rw [cn_of hnd] at h3 h9
    rcases hdup z465 v467 (by rw [h3]; exact k15.1) h4 with ⟨q, -⟩ | ⟨-, q⟩
    · exact absurd q h5
    · have q' : dup = true := by
        cases hd : dup with
        | true => rfl
        | false => exact absurd ((q cf v499 S.2.1 h6).mpr hd) (by rw [← hf]; exact h7)
      exact go (bad_r h8 (by decide)).2 ⟨fun _ => True, by rw [q']; exact AC.bad h8 (by decide)⟩ hnd h9 hQ
end SL
