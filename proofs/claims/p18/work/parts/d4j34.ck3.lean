/-! THE REFERENCE's checker: chains; check at every level (laid by genc3.py) -/
theorem opl_k {k : Nat → Int} {c : Nat} {na ma ma' : Nat → Nat → Int32} : ∀ (r : List (Option Nat × Ast)) (n : Int) (lo hi : Nat), OpL k c na ma r n lo hi → AgKr na ma ma' lo hi → OpL k c na ma' r n lo hi := by
  intro r
  induction r with
  | nil => intro n lo hi h _; exact h
  | cons a r ih =>
    obtain ⟨o, e⟩ := a
    intro n lo hi h hK
    obtain ⟨j, l, h', h1, h2, h3, h4, h5, h6⟩ := h
    refine ⟨j, l, h', h1, h2, h3, rep_k2 _ _ _ _ _ _ h4 (hK.le h2.1 h2.2.2.2), fun t q => ?_, ih _ _ _ h6 (hK.le (by omega) (Nat.le_refl _))⟩
    rw [(hK j (by omega) (by omega)).2.1]
    exact h5 t q
section RC2
variable {tf : Nat → Int32} {ta : Nat → Nat → Int32} {k : Nat → Int} {vl : Nat → Int32} {c t lo hi : Nat} {cf cf' : Nat → Int32} {ca na ma ma' : Nat → Nat → Int32} {L : Nms} {F : Int32 → Option Fnc} {n38 : Int32} {M : Nat → Int32} {RL : Tck} {p0 p1 v : Int32} {b : Bool} {x y : Ast}
theorem chk_197 (HC : HCk k vl c L F n38 M tf ta na ca RL) : ∀ (r : List (Option Nat × Ast)) (m : Nat) (x7 : Int32) (lo hi : Nat) (ma : Nat → Nat → Int32) (cf : Nat → Int32), E_mp_check RL tf ta na ca p0 p1 ma' cf' v m 197 [(1 : Int32), x7] [] [] [] [] ma cf → OpL k c na ma r x7.toInt lo hi → hi ≤ 100000 → CtR k vl c ca L n38 M cf ma → SmK cf cf' ∧ FrM ma ma' lo hi ∧ AgKr na ma ma' lo hi ∧ AC cf cf' (okL k vl (lkp L) F r) (fun _ => True) ∧ (Uc cf' → ∀ d : Nat, AllN na (NtN na ca vl M F ma' d) x7.toInt) ∧ v.toInt = 1 := by
  intro r
  induction r with
  | nil =>
    intro m x7 lo hi ma cf h hO hh hc
    have hneg : x7.toInt < 0 := hO.1
    have fin : ma' = ma → cf' = cf → v = 1 → SmK cf cf' ∧ FrM ma ma' lo hi ∧ AgKr na ma ma' lo hi ∧ AC cf cf' (okL k vl (lkp L) F []) (fun _ => True) ∧ (Uc cf' → ∀ d : Nat, AllN na (NtN na ca vl M F ma' d) x7.toInt) ∧ v.toInt = 1 := fun e0 e1 ev => by
      rw [e0, e1, ev]
      exact ⟨SmK.rf, FrM.rf, AgKr.rf, AC.ret trivial, fun _ _ => AllN.nil hneg, rfl⟩
    rcases iv_mp_check_197 h with ⟨m', (⟨h1, (⟨h2, (⟨h3, e0, e1, ev⟩ | ⟨h3, (⟨h4, e0, e1, ev⟩ | ⟨h4, z9, h5, cf11, h6, e0, e1, ev⟩)⟩)⟩ | ⟨h2, (⟨h3, v37, h4, cf42, h5, e0, e1, ev⟩ | ⟨h3, (⟨h4, (⟨h5, e0, e1, ev⟩ | ⟨h5, (⟨h6, e0, e1, ev⟩ | ⟨h6, z71, h7, cf73, h8, e0, e1, ev⟩)⟩)⟩ | ⟨h4, v97, h5, cf102, h6, e0, e1, ev⟩)⟩)⟩)⟩ | ⟨h1, ma128, cf129, v131, h2, z148, h3, hQ⟩)⟩
    · exact fin e0 e1 ev
    · exact absurd h2 h3
    · exact absurd h2 h3
    · exact absurd h3 (by decide)
    · exact fin e0 e1 ev
    · exact fin e0 e1 ev
    · exact absurd h6 (by decide)
    · exact absurd h4 (by decide)
    · exfalso; omega
  | cons a r ih =>
    obtain ⟨o, e⟩ := a
    intro m x7 lo hi ma cf h hO hh hc
    obtain ⟨j, l, h', r1, r2, r3, r4, r5, r6⟩ := hO
    rcases iv_mp_check_197 h with ⟨m', (⟨h1, (⟨h2, (⟨h3, e0, e1, ev⟩ | ⟨h3, (⟨h4, e0, e1, ev⟩ | ⟨h4, z9, h5, cf11, h6, e0, e1, ev⟩)⟩)⟩ | ⟨h2, (⟨h3, v37, h4, cf42, h5, e0, e1, ev⟩ | ⟨h3, (⟨h4, (⟨h5, e0, e1, ev⟩ | ⟨h5, (⟨h6, e0, e1, ev⟩ | ⟨h6, z71, h7, cf73, h8, e0, e1, ev⟩)⟩)⟩ | ⟨h4, v97, h5, cf102, h6, e0, e1, ev⟩)⟩)⟩)⟩ | ⟨h1, ma128, cf129, v131, h2, z148, h3, hQ⟩)⟩
    · exfalso; omega
    · exfalso; omega
    · exfalso; omega
    · exfalso; omega
    · exfalso; omega
    · exfalso; omega
    · exfalso; omega
    · exfalso; omega
    · rw [cn_of r1] at h3
      have r4' : Rep k c na ma e false x7.toInt 0 l h' := by rw [r1]; exact r4
      have O := HC e true x7 1 l h' ma ma128 cf cf129 v131 r3 (by omega) r4' rfl hc h2
      obtain ⟨b1, b2, b3, b4, b5, b6⟩ := ih m' z148 h' hi ma128 cf129 hQ (by rw [h3]; exact opl_k _ _ _ _ r6 (O.2.1.k (Or.inr (Nat.le_refl _)))) hh (hc.go O.1 O.2.1 O.2.2.1)
      refine ⟨O.1.tr b1, (O.2.1.le r2.1 (by omega)).tr (b2.le (by omega) (Nat.le_refl _)), (O.2.1.al O.2.2.1).tr (b2.al b3), AC.bind O.t (fun _ _ => b4) b4.1, fun u d => ?_, b6⟩
      exact AllN.cons r1 (O.kp r4' r3 (fun f i _ w => b2 f i (Or.inl w)) (uc_of b4.1 u) d) (by rw [← h3]; exact b5 u d)
theorem ck_bin (HC : HCk k vl c L F n38 M tf ta na ca RL) (hh : hi ≤ 100000) (hR : Rep k c na ma (.rem (.arg t) (.elem x y)) false p0.toInt 0 lo hi) (hc : CtR k vl c ca L n38 M cf ma) {m : Nat} (h : E_mp_check RL tf ta na ca p0 p1 ma' cf' v m 0 [] [] [] [] [] ma cf) : OkC k vl (lkp L) F na ca M (.rem (.arg t) (.elem x y)) b p0.toInt lo hi ma cf ma' cf' v.toInt := by
  obtain ⟨i, hp, h2', h14, -, hO⟩ := chain_r hR
  have A := att_ops (vl := vl) (G := lkp L) (F := F) _ (rep_c2 hR)
  clear hR
  rcases iv_mp_check_0 h with ⟨m', z149, h1, (⟨h2, z151, h3, ma154, cf155, v157, h4, z174, h5, cf176, h6, z189, h7, ma192, cf193, v195, h8, (⟨h9, (⟨h10, e0, e1, ev⟩ | ⟨h10, e0, e1, ev⟩)⟩ | ⟨h9, (⟨h10, e0, e1, ev⟩ | ⟨h10, e0, e1, ev⟩)⟩)⟩ | ⟨h2, (⟨h3, (⟨h4, e0, e1, ev⟩ | ⟨h4, e0, e1, ev⟩)⟩ | ⟨h3, (⟨h4, e0, e1, ev⟩ | ⟨h4, e0, e1, ev⟩)⟩)⟩ | ⟨h2, ma235, cf236, v238, h3, (⟨h4, (⟨h5, e0, e1, ev⟩ | ⟨h5, (⟨h6, e0, e1, ev⟩ | ⟨h6, z260, h7, cf262, h8, e0, e1, ev⟩)⟩)⟩ | ⟨h4, (⟨h5, v288, h6, cf293, h7, e0, e1, ev⟩ | ⟨h5, (⟨h6, (⟨h7, e0, e1, ev⟩ | ⟨h7, (⟨h8, e0, e1, ev⟩ | ⟨h8, z322, h9, cf324, h10, e0, e1, ev⟩)⟩)⟩ | ⟨h6, v348, h7, cf353, h8, e0, e1, ev⟩)⟩)⟩)⟩ | ⟨h2, ma378, cf379, v381, h3, (⟨h4, (⟨h5, e0, e1, ev⟩ | ⟨h5, (⟨h6, e0, e1, ev⟩ | ⟨h6, z402, h7, cf404, h8, e0, e1, ev⟩)⟩)⟩ | ⟨h4, (⟨h5, v430, h6, cf435, h7, e0, e1, ev⟩ | ⟨h5, (⟨h6, (⟨h7, e0, e1, ev⟩ | ⟨h7, (⟨h8, e0, e1, ev⟩ | ⟨h8, z464, h9, cf466, h10, e0, e1, ev⟩)⟩)⟩ | ⟨h6, v490, h7, cf495, h8, e0, e1, ev⟩)⟩)⟩)⟩ | ⟨h2, ma520, cf521, h3, z536, h4, ma539, cf540, v542, h5, (⟨h6, (⟨h7, e0, e1, ev⟩ | ⟨h7, e0, e1, ev⟩)⟩ | ⟨h6, (⟨h7, e0, e1, ev⟩ | ⟨h7, e0, e1, ev⟩)⟩)⟩ | ⟨h2, z569, h3, z570, h4, (⟨h5, z573, h6, ma577, cf578, v580, h7, (⟨h8, (⟨h9, e0, e1, ev⟩ | ⟨h9, e0, e1, ev⟩)⟩ | ⟨h8, (⟨h9, e0, e1, ev⟩ | ⟨h9, e0, e1, ev⟩)⟩)⟩ | ⟨h5, z608, h6, ma612, cf613, v615, h7, z633, h8, cf635, h9, (⟨h10, (⟨h11, e0, e1, ev⟩ | ⟨h11, e0, e1, ev⟩)⟩ | ⟨h10, (⟨h11, e0, e1, ev⟩ | ⟨h11, e0, e1, ev⟩)⟩)⟩)⟩ | ⟨h2, z658, h3, ma661, cf662, v664, h4, z681, h5, cf683, h6, (⟨h7, (⟨h8, e0, e1, ev⟩ | ⟨h8, e0, e1, ev⟩)⟩ | ⟨h7, (⟨h8, e0, e1, ev⟩ | ⟨h8, e0, e1, ev⟩)⟩)⟩ | ⟨h2, z706, h3, hQ⟩ | ⟨h2, z707, h3, ma710, cf711, v713, h4, z730, h5, ma733, cf734, v736, h6, z753, h7, ma756, cf757, v759, h8, (⟨h9, (⟨h10, e0, e1, ev⟩ | ⟨h10, e0, e1, ev⟩)⟩ | ⟨h9, (⟨h10, e0, e1, ev⟩ | ⟨h10, e0, e1, ev⟩)⟩)⟩)⟩
  · rw [cn_of hp] at h1
    rw [h1] at h2
    exfalso; omega
  · rw [cn_of hp] at h1
    rw [h1] at h2
    exfalso; omega
  · rw [cn_of hp] at h1
    rw [h1] at h2
    exfalso; omega
  · rw [cn_of hp] at h1
    rw [h1] at h2
    exfalso; omega
  · rw [cn_of hp] at h1
    rw [h1] at h2
    exfalso; omega
  · rw [cn_of hp] at h1
    rw [h1] at h2
    exfalso; omega
  · rw [cn_of hp] at h1
    rw [h1] at h2
    exfalso; omega
  · rw [cn_of hp] at h1
    rw [h1] at h2
    exfalso; omega
  · rw [cn_of hp] at h1
    rw [h1] at h2
    exfalso; omega
  · rw [cn_of hp] at h1
    rw [h1] at h2
    exfalso; omega
  · rw [cn_of hp] at h1
    rw [h1] at h2
    exfalso; omega
  · rw [cn_of hp] at h1
    rw [h1] at h2
    exfalso; omega
  · rw [cn_of hp] at h1
    rw [h1] at h2
    exfalso; omega
  · rw [cn_of hp] at h1
    rw [h1] at h2
    exfalso; omega
  · rw [cn_of hp] at h1
    rw [h1] at h2
    exfalso; omega
  · rw [cn_of hp] at h1
    rw [h1] at h2
    exfalso; omega
  · rw [cn_of hp] at h1
    rw [h1] at h2
    exfalso; omega
  · rw [cn_of hp] at h1
    rw [h1] at h2
    exfalso; omega
  · rw [cn_of hp] at h1
    rw [h1] at h2
    exfalso; omega
  · rw [cn_of hp] at h1
    rw [h1] at h2
    exfalso; omega
  · rw [cn_of hp] at h1
    rw [h1] at h2
    exfalso; omega
  · rw [cn_of hp] at h1
    rw [h1] at h2
    exfalso; omega
  · rw [cn_of hp] at h1
    rw [h1] at h2
    exfalso; omega
  · rw [cn_of hp] at h1
    rw [h1] at h2
    exfalso; omega
  · rw [cn_of hp] at h1
    rw [h1] at h2
    exfalso; omega
  · rw [cn_of hp] at h1
    rw [h1] at h2
    exfalso; omega
  · rw [cn_of hp] at h1
    rw [h1] at h2
    exfalso; omega
  · rw [cn_of hp] at h1
    rw [h1] at h2
    exfalso; omega
  · rw [cn_of hp] at h1
    rw [h1] at h2
    exfalso; omega
  · rw [cn_of hp] at h1
    rw [h1] at h2
    exfalso; omega
  · rw [cn_of hp] at h1
    rw [h1] at h2
    exfalso; omega
  · rw [cn_of hp] at h1
    rw [h1] at h2
    exfalso; omega
  · rw [cn_of hp] at h1
    rw [h1] at h2
    exfalso; omega
  · rw [cn_of hp] at h1
    rw [h1] at h2
    exfalso; omega
  · rw [cn_of hp] at h1
    rw [h1] at h2
    exfalso; omega
  · rw [cn_of hp] at h1
    rw [h1] at h2
    exfalso; omega
  · rw [cn_of hp] at h1
    rw [h1] at h2
    exfalso; omega
  · rw [cn_of hp] at h1
    rw [h1] at h2
    exfalso; omega
  · rw [cn_of hp] at h1
    rw [h1] at h2
    exfalso; omega
  · rw [cn_of hp] at h1
    rw [h1] at h2
    exfalso; omega
  · rw [cn_of hp] at h3
    obtain ⟨b1, b2, b3, b4, b5, b6⟩ := chk_197 HC _ m' z706 lo hi ma cf hQ (by rw [h3]; exact hO) hh hc
    rw [b6]
    refine Ok0.cn ⟨b1, b2, b3, AC.of b4.1 (fun u => ?_), fun u => nt_7 hp h14 (fun d => ?_)⟩
    · cases g : att k vl (lkp L) F (.rem (.arg t) (.elem x y)) [] 0 with
      | none => exact Or.inl ⟨rfl, b4.n u (by rw [A.1, g]; rfl)⟩
      | some a => exact Or.inr ⟨a, rfl, (b4.y u (y := ()) (by rw [A.1, g]; rfl)).1, Or.inl ⟨rfl, Or.inl (A.2 a g)⟩⟩
    · rw [← h3]
      exact b5 u d
  · rw [cn_of hp] at h1
    rw [h1] at h2
    exfalso; omega
  · rw [cn_of hp] at h1
    rw [h1] at h2
    exfalso; omega
  · rw [cn_of hp] at h1
    rw [h1] at h2
    exfalso; omega
  · rw [cn_of hp] at h1
    rw [h1] at h2
    exfalso; omega
theorem rep_sh (e : Ast) (md : Bool) (n b : Int) (lo hi : Nat) : Rep k c na ma e md n b lo hi → md = false → isEx e = true → (∃ t : Nat, e = .arg t) ∨ (∃ t : Nat, e = .index t) ∨ (∃ (t : Nat) (as : Ast), e = .elem (.arg t) as) ∨ (∃ (t : Nat) (y : Ast), e = .sub (.arg t) y) ∨ (∃ (t : Nat) (y : Ast), e = .mul (.arg t) y) ∨ (∃ (t : Nat) (y : Ast), e = .div (.arg t) y) ∨ (∃ x y z : Ast, e = .old (.elem x (.elem y z))) ∨ (∃ (t : Nat) (x y : Ast), e = .length (.elem (.arg t) (.elem x y))) ∨ ∃ (t : Nat) (x y : Ast), e = .rem (.arg t) (.elem x y) := by
  fun_induction Rep k c na ma e md n b lo hi
  all_goals intro h hm hx
  case case1 => exact Or.inl ⟨_, rfl⟩
  case case2 => exact Or.inr (Or.inl ⟨_, rfl⟩)
  case case3 => exact Or.inr (Or.inr (Or.inl ⟨_, _, rfl⟩))
  case case4 => exact absurd hx Bool.false_ne_true
  case case5 => exact absurd hx Bool.false_ne_true
  case case6 => exact Or.inr (Or.inr (Or.inr (Or.inl ⟨_, _, rfl⟩)))
  case case7 => exact Or.inr (Or.inr (Or.inr (Or.inr (Or.inl ⟨_, _, rfl⟩))))
  case case8 => exact Or.inr (Or.inr (Or.inr (Or.inr (Or.inr (Or.inl ⟨_, _, rfl⟩)))))
  case case9 => exact Or.inr (Or.inr (Or.inr (Or.inr (Or.inr (Or.inr (Or.inl ⟨_, _, _, rfl⟩))))))
  case case10 => exact Or.inr (Or.inr (Or.inr (Or.inr (Or.inr (Or.inr (Or.inr (Or.inl ⟨_, _, _, rfl⟩)))))))
  case case11 => exact Or.inr (Or.inr (Or.inr (Or.inr (Or.inr (Or.inr (Or.inr (Or.inr ⟨_, _, _, rfl⟩)))))))
  case case12 => exact absurd hm (by decide)
  case case13 => exact h.elim
/-- one level of check above another -/
theorem chk_r (hs : SmN ta k vl c) (hF : FunR tf ta na ca k vl c n38 M F) (hP : PrL ta k c) (HC : HCk k vl c L F n38 M tf ta na ca RL) : HCk k vl c L F n38 M tf ta na ca (R_mp_check RL) := by
  intro e b p0 p1 lo hi ma ma' cf cf' v hx hh hR hp1 hc h
  obtain ⟨m, h⟩ := h
  rcases rep_sh _ _ _ _ _ _ hR rfl hx with ⟨t, q⟩ | ⟨t, q⟩ | ⟨t, as, q⟩ | ⟨t, y, q⟩ | ⟨t, y, q⟩ | ⟨t, y, q⟩ | ⟨x, y, z, q⟩ | ⟨t, x, y, q⟩ | ⟨t, x, y, q⟩
  · subst q; exact ck_num hs hF hP HC hh hR hp1 hc h
  · subst q; exact ck_nam hs hF hP HC hh hR hp1 hc h
  · subst q; exact ck_cal hs hF hP HC hh hR hp1 hc h
  · subst q; exact ck_idx hs hF hP HC hh hR hp1 hc h
  · subst q; exact ck_pre hs hF hP HC hh hR hp1 hc h
  · subst q; exact ck_pst hs hF hP HC hh hR hp1 hc h
  · subst q; exact ck_cnd hs hF hP HC hh hR hp1 hc h
  · subst q; exact ck_asg hs hF hP HC hh hR hp1 hc h
  · subst q; exact ck_bin HC hh hR hc h
theorem ck_all (hs : SmN ta k vl c) (hF : FunR tf ta na ca k vl c n38 M F) (hP : PrL ta k c) : ∀ n : Nat, HCk k vl c L F n38 M tf ta na ca (RL_mp_check n)
  | 0 => fun _ _ _ _ _ _ _ _ _ _ _ _ _ _ _ _ h => False.elim h
  | n + 1 => chk_r hs hF hP (ck_all hs hF hP n)
/-- check at whatever level -/
theorem ck_x (hs : SmN ta k vl c) (hF : FunR tf ta na ca k vl c n38 M F) (hP : PrL ta k c) : HCk k vl c L F n38 M tf ta na ca RX_mp_check := fun e b p0 p1 lo hi ma ma' cf cf' v h1 h2 h3 h4 h5 h => by
  obtain ⟨n, h⟩ := h
  exact ck_all hs hF hP n e b p0 p1 lo hi ma ma' cf cf' v h1 h2 h3 h4 h5 h
end RC2
