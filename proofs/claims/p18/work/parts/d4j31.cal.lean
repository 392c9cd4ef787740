/-! THE REFERENCE's checker: calls (laid by gencl.py) -/
theorem FrM.al {na ma ma' : Nat → Nat → Int32} {lo hi l h : Nat} (f : FrM ma ma' lo hi) (g : AgKr na ma ma' lo hi) : AgKr na ma ma' l h := fun i a b => by
  by_cases q : lo ≤ i ∧ i < hi
  · exact g i q.1 q.2
  · exact ⟨fun _ => ⟨f 18 i (by omega), f 19 i (by omega)⟩, f 20 i (by omega), f 22 i (by omega)⟩
theorem uc_of {a b : Nat → Int32} (h : Bc a → Bc b) (u : Uc b) : Uc a := Classical.byContradiction fun q => h q u
theorem wnr_n {ws : List Int} {v : Int} (h : WnRr ws v) : v = 32 ↔ ws = [] := by
  unfold WnRr at h
  cases ws with
  | nil => exact ⟨fun _ => rfl, fun _ => h⟩
  | cons w ws =>
    have h' : (w = 1 ∧ v = 105) ∨ (w = 17 ∧ v = 115) ∨ (w = 18 ∧ v = 99) ∨ (w = 16 ∧ ¬ v = 32 ∧ ¬ v = 105 ∧ ¬ v = 107 ∧ ¬ v = 115 ∧ ¬ v = 99) := h
    exact ⟨fun q => by exfalso; omega, fun q => absurd q (by simp)⟩
section RZ
variable {tf : Nat → Int32} {ta : Nat → Nat → Int32} {k : Nat → Int} {vl : Nat → Int32} {c : Nat} {cf' : Nat → Int32} {ca na ma' : Nat → Nat → Int32} {L : Nms} {F : Int32 → Option Fnc} {n38 : Int32} {M : Nat → Int32} {RL : Tck} {p0 v : Int32}
/-- the arguments of a function that is none -/
theorem ck_94b {own fn x2 : Int32} (HC : HCk k vl c L F n38 M tf ta na ca RL) : ∀ (as : Ast) (m : Nat) (x6 x7 : Int32) (lo hi : Nat) (ma : Nat → Nat → Int32) (cf : Nat → Int32), E_mp_checkCall RL tf ta na ca p0 ma' cf' v m 94 [x2, own, fn, (0 : Int32), x6, x7] [] [] [] [] ma cf → isRw as = true → Rep k c na ma as false x7.toInt 0 lo hi → hi ≤ 100000 → CtR k vl c ca L n38 M cf ma → SmK cf cf' ∧ FrM ma ma' lo hi ∧ AgKr na ma ma' lo hi ∧ (Bc cf → Bc cf') := by
  intro as
  induction as with
  | null =>
    intro m x6 x7 lo hi ma cf h _ hR hh hc
    have hneg : x7.toInt < 0 := by unfold Rep at hR; exact hR
    rcases iv_mp_checkCall_94 h with ⟨m', (⟨h1, (⟨h2, (⟨h3, z7, h4, v9, h5, (⟨h6, cf15, h7, (⟨h8, z40, h9, z41, h10, (⟨h11, e0, e1, ev⟩ | ⟨h11, e0, e1, ev⟩)⟩ | ⟨h8, v49, h9, (⟨h10, e0, e1, ev⟩ | ⟨h10, e0, e1, ev⟩)⟩)⟩ | ⟨h6, v57, h7, (⟨h8, (⟨h9, z64, h10, z65, h11, (⟨h12, e0, e1, ev⟩ | ⟨h12, e0, e1, ev⟩)⟩ | ⟨h9, v73, h10, (⟨h11, e0, e1, ev⟩ | ⟨h11, e0, e1, ev⟩)⟩)⟩ | ⟨h8, cf81, h9, (⟨h10, z106, h11, z107, h12, (⟨h13, e0, e1, ev⟩ | ⟨h13, e0, e1, ev⟩)⟩ | ⟨h10, v115, h11, (⟨h12, e0, e1, ev⟩ | ⟨h12, e0, e1, ev⟩)⟩)⟩)⟩)⟩ | ⟨h3, v123, h4, (⟨h5, (⟨h6, z130, h7, z131, h8, (⟨h9, e0, e1, ev⟩ | ⟨h9, e0, e1, ev⟩)⟩ | ⟨h6, v139, h7, (⟨h8, e0, e1, ev⟩ | ⟨h8, e0, e1, ev⟩)⟩)⟩ | ⟨h5, cf147, h6, (⟨h7, z172, h8, z173, h9, (⟨h10, e0, e1, ev⟩ | ⟨h10, e0, e1, ev⟩)⟩ | ⟨h7, v181, h8, (⟨h9, e0, e1, ev⟩ | ⟨h9, e0, e1, ev⟩)⟩)⟩)⟩)⟩ | ⟨h2, e0, e1, ev⟩)⟩ | ⟨h1, (⟨h2, ma193, cf194, h3, z209, h4, z210, h5, hQ⟩ | ⟨h2, v212, h3, ma217, cf218, h4, z233, h5, z234, h6, hQ⟩)⟩)⟩
    · exact absurd rfl h2
    · exact absurd rfl h2
    · exact absurd rfl h2
    · exact absurd rfl h2
    · exact absurd rfl h2
    · exact absurd rfl h2
    · exact absurd rfl h2
    · exact absurd rfl h2
    · exact absurd rfl h2
    · exact absurd rfl h2
    · exact absurd rfl h2
    · exact absurd rfl h2
    · exact absurd rfl h2
    · exact absurd rfl h2
    · exact absurd rfl h2
    · exact absurd rfl h2
    · exact absurd rfl h2
    · exact absurd rfl h2
    · exact absurd rfl h2
    · exact absurd rfl h2
    · rw [e0, e1]; exact ⟨SmK.rf, FrM.rf, AgKr.rf, id⟩
    · exfalso; omega
    · exfalso; omega
  | add e r ihe ihr =>
    intro m x6 x7 lo hi ma cf h _ hR hh hc
    unfold Rep at hR
    obtain ⟨i, mid, r1, r2, rq, r3, r4⟩ := hR
    rcases iv_mp_checkCall_94 h with ⟨m', (⟨h1, (⟨h2, (⟨h3, z7, h4, v9, h5, (⟨h6, cf15, h7, (⟨h8, z40, h9, z41, h10, (⟨h11, e0, e1, ev⟩ | ⟨h11, e0, e1, ev⟩)⟩ | ⟨h8, v49, h9, (⟨h10, e0, e1, ev⟩ | ⟨h10, e0, e1, ev⟩)⟩)⟩ | ⟨h6, v57, h7, (⟨h8, (⟨h9, z64, h10, z65, h11, (⟨h12, e0, e1, ev⟩ | ⟨h12, e0, e1, ev⟩)⟩ | ⟨h9, v73, h10, (⟨h11, e0, e1, ev⟩ | ⟨h11, e0, e1, ev⟩)⟩)⟩ | ⟨h8, cf81, h9, (⟨h10, z106, h11, z107, h12, (⟨h13, e0, e1, ev⟩ | ⟨h13, e0, e1, ev⟩)⟩ | ⟨h10, v115, h11, (⟨h12, e0, e1, ev⟩ | ⟨h12, e0, e1, ev⟩)⟩)⟩)⟩)⟩ | ⟨h3, v123, h4, (⟨h5, (⟨h6, z130, h7, z131, h8, (⟨h9, e0, e1, ev⟩ | ⟨h9, e0, e1, ev⟩)⟩ | ⟨h6, v139, h7, (⟨h8, e0, e1, ev⟩ | ⟨h8, e0, e1, ev⟩)⟩)⟩ | ⟨h5, cf147, h6, (⟨h7, z172, h8, z173, h9, (⟨h10, e0, e1, ev⟩ | ⟨h10, e0, e1, ev⟩)⟩ | ⟨h7, v181, h8, (⟨h9, e0, e1, ev⟩ | ⟨h9, e0, e1, ev⟩)⟩)⟩)⟩)⟩ | ⟨h2, e0, e1, ev⟩)⟩ | ⟨h1, (⟨h2, ma193, cf194, h3, z209, h4, z210, h5, hQ⟩ | ⟨h2, v212, h3, ma217, cf218, h4, z233, h5, z234, h6, hQ⟩)⟩)⟩
    · exfalso; omega
    · exfalso; omega
    · exfalso; omega
    · exfalso; omega
    · exfalso; omega
    · exfalso; omega
    · exfalso; omega
    · exfalso; omega
    · exfalso; omega
    · exfalso; omega
    · exfalso; omega
    · exfalso; omega
    · exfalso; omega
    · exfalso; omega
    · exfalso; omega
    · exfalso; omega
    · exfalso; omega
    · exfalso; omega
    · exfalso; omega
    · exfalso; omega
    · exfalso; omega
    · rw [cn_of r1] at h5
      obtain ⟨a1, a2, a3, a4⟩ := arg_n HC rq.1 (show mid ≤ 100000 by omega) r3 rfl hc h3
      obtain ⟨b1, b2, b3, b4⟩ := ihr m' _ _ mid hi ma193 cf194 hQ rq.2 (by rw [h5]; exact rep_k2 _ _ _ _ _ _ r4 (a2.k (Or.inr (Nat.le_refl _)))) hh (hc.go a1 a2 a3)
      exact ⟨a1.tr b1, (a2.le (Nat.le_refl _) r2.2.2).tr (b2.le (by omega) (Nat.le_refl _)), (a2.al a3).tr (b2.al b3), fun q => b4 (a4 q)⟩
    · exact absurd rfl h2
  | _ => intro m x6 x7 lo hi ma cf _ hx; exact absurd hx (by simp [isRw])
/-- the arguments of a function -/
theorem ck_94 {f : Fnc} {own fn x2 : Int32} (HC : HCk k vl c L F n38 M tf ta na ca RL) (hT : TkFr na ca M own fn f) : ∀ (as : Ast) (n m : Nat) (x6 x7 : Int32) (lo hi : Nat) (ma : Nat → Nat → Int32) (cf : Nat → Int32) (hd : Int), E_mp_checkCall RL tf ta na ca p0 ma' cf' v m 94 [x2, own, fn, (1 : Int32), x6, x7] [] [] [] [] ma cf → isRw as = true → Rep k c na ma as false x7.toInt 0 lo hi → lo ≤ hi ∧ hi ≤ 100000 → x6.toInt = (n : Int) → n < lo → CtR k vl c ca L n38 M cf ma → SmK cf cf' ∧ FrM ma ma' lo hi ∧ AgKr na ma ma' lo hi ∧ AC cf cf' (if n ≤ f.2.length then att k vl (lkp L) F as (f.2.drop n) hd else none) (fun _ => v.toInt = if f.1 = true then 4 else 1) ∧ (Uc cf' → ∀ d : Nat, AllN na (NtN na ca vl M F ma' d) x7.toInt) := by
  intro as
  induction as with
  | null =>
    intro n m x6 x7 lo hi ma cf hd h _ hR hh hx6 hnl hc
    have hneg : x7.toInt < 0 := by unfold Rep at hR; exact hR
    have wn := fun (j : Nat) (q w : Int32) (hj : q.toInt = (j : Int)) (hl : j < 100000) (y : R_mp_taken na ma ca fn own q w) => (wnr_n (hT.1 ma j q w hc.2.2 hj hl y)).trans List.drop_eq_nil_iff
    have vt : own.toInt < 0 → ∀ z40 z41 : Int32, z40 = ca 39 fn.toNatClampNeg → z41 = ma 22 z40.toNatClampNeg → (z41.toInt = 2 ↔ f.1 = true) := fun q z40 z41 y1 y2 => by
      rw [y2, hc.2.2, y1]
      exact hT.2.1 q
    have fb : ∀ {x y : Int32} {cf1 : Nat → Int32}, R_mp_bad x y cf cf1 → ¬ x.toInt = 0 → ¬ n = f.2.length → ma' = ma → cf' = cf1 → SmK cf cf' ∧ FrM ma ma' lo hi ∧ AgKr na ma ma' lo hi ∧ AC cf cf' (if n ≤ f.2.length then att k vl (lkp L) F .null (f.2.drop n) hd else none) (fun _ => v.toInt = if f.1 = true then 4 else 1) ∧ (Uc cf' → ∀ d : Nat, AllN na (NtN na ca vl M F ma' d) x7.toInt) := fun hb hx hn e0 e1 => by
      have y : (if n ≤ f.2.length then att k vl (lkp L) F .null (f.2.drop n) hd else none) = none := by
        by_cases q : n ≤ f.2.length
        · rw [if_pos q]
          have := att_nil (k := k) (vl := vl) (G := lkp L) (F := F) (ws := f.2.drop n) (hd := hd)
          rw [if_neg (by rw [List.drop_eq_nil_iff]; omega)] at this
          exact this
        · exact if_neg q
      rw [y, e0, e1]
      exact ⟨(bad_r hb hx).2, FrM.rf, AgKr.rf, AC.bad hb hx, fun _ _ => AllN.nil hneg⟩
    have fo : n = f.2.length → ma' = ma → cf' = cf → (v.toInt = if f.1 = true then 4 else 1) → SmK cf cf' ∧ FrM ma ma' lo hi ∧ AgKr na ma ma' lo hi ∧ AC cf cf' (if n ≤ f.2.length then att k vl (lkp L) F .null (f.2.drop n) hd else none) (fun _ => v.toInt = if f.1 = true then 4 else 1) ∧ (Uc cf' → ∀ d : Nat, AllN na (NtN na ca vl M F ma' d) x7.toInt) := fun hn e0 e1 hv => by
      have y : (if n ≤ f.2.length then att k vl (lkp L) F .null (f.2.drop n) hd else none) = some (0, 3, 0, 1) := by
        rw [if_pos (by omega)]
        have := att_nil (k := k) (vl := vl) (G := lkp L) (F := F) (ws := f.2.drop n) (hd := hd)
        rw [if_pos (by rw [List.drop_eq_nil_iff]; omega)] at this
        exact this
      rw [y, e0, e1]
      exact ⟨SmK.rf, FrM.rf, AgKr.rf, AC.ret hv, fun _ _ => AllN.nil hneg⟩
    rcases iv_mp_checkCall_94 h with ⟨m', (⟨h1, (⟨h2, (⟨h3, z7, h4, v9, h5, (⟨h6, cf15, h7, (⟨h8, z40, h9, z41, h10, (⟨h11, e0, e1, ev⟩ | ⟨h11, e0, e1, ev⟩)⟩ | ⟨h8, v49, h9, (⟨h10, e0, e1, ev⟩ | ⟨h10, e0, e1, ev⟩)⟩)⟩ | ⟨h6, v57, h7, (⟨h8, (⟨h9, z64, h10, z65, h11, (⟨h12, e0, e1, ev⟩ | ⟨h12, e0, e1, ev⟩)⟩ | ⟨h9, v73, h10, (⟨h11, e0, e1, ev⟩ | ⟨h11, e0, e1, ev⟩)⟩)⟩ | ⟨h8, cf81, h9, (⟨h10, z106, h11, z107, h12, (⟨h13, e0, e1, ev⟩ | ⟨h13, e0, e1, ev⟩)⟩ | ⟨h10, v115, h11, (⟨h12, e0, e1, ev⟩ | ⟨h12, e0, e1, ev⟩)⟩)⟩)⟩)⟩ | ⟨h3, v123, h4, (⟨h5, (⟨h6, z130, h7, z131, h8, (⟨h9, e0, e1, ev⟩ | ⟨h9, e0, e1, ev⟩)⟩ | ⟨h6, v139, h7, (⟨h8, e0, e1, ev⟩ | ⟨h8, e0, e1, ev⟩)⟩)⟩ | ⟨h5, cf147, h6, (⟨h7, z172, h8, z173, h9, (⟨h10, e0, e1, ev⟩ | ⟨h10, e0, e1, ev⟩)⟩ | ⟨h7, v181, h8, (⟨h9, e0, e1, ev⟩ | ⟨h9, e0, e1, ev⟩)⟩)⟩)⟩)⟩ | ⟨h2, e0, e1, ev⟩)⟩ | ⟨h1, (⟨h2, ma193, cf194, h3, z209, h4, z210, h5, hQ⟩ | ⟨h2, v212, h3, ma217, cf218, h4, z233, h5, z234, h6, hQ⟩)⟩)⟩
    · have y4 := ti_sub h4 hx6 (show (1 : Int32).toInt = 1 from rfl) (by omega) (by omega)
      have y9 := wn (n - 1) z7 v9 (by omega) (by omega) h5
      exact fb h7 (by decide) (by omega) e0 e1
    · have y4 := ti_sub h4 hx6 (show (1 : Int32).toInt = 1 from rfl) (by omega) (by omega)
      have y9 := wn (n - 1) z7 v9 (by omega) (by omega) h5
      exact fb h7 (by decide) (by omega) e0 e1
    · have y4 := ti_sub h4 hx6 (show (1 : Int32).toInt = 1 from rfl) (by omega) (by omega)
      have y9 := wn (n - 1) z7 v9 (by omega) (by omega) h5
      exact fb h7 (by decide) (by omega) e0 e1
    · have y4 := ti_sub h4 hx6 (show (1 : Int32).toInt = 1 from rfl) (by omega) (by omega)
      have y9 := wn (n - 1) z7 v9 (by omega) (by omega) h5
      exact fb h7 (by decide) (by omega) e0 e1
    · have y4 := ti_sub h4 hx6 (show (1 : Int32).toInt = 1 from rfl) (by omega) (by omega)
      have y9 := wn (n - 1) z7 v9 (by omega) (by omega) h5
      have y5 := wn n x6 v57 hx6 (by omega) h7
      exact fo (by omega) e0 e1 (by rw [ev, if_neg (fun q => h12 ((vt h9 _ _ h10 h11).mpr q))]; rfl)
    · have y4 := ti_sub h4 hx6 (show (1 : Int32).toInt = 1 from rfl) (by omega) (by omega)
      have y9 := wn (n - 1) z7 v9 (by omega) (by omega) h5
      have y5 := wn n x6 v57 hx6 (by omega) h7
      exact fo (by omega) e0 e1 (by rw [ev, if_pos ((vt h9 _ _ h10 h11).mp h12)]; rfl)
    · have y4 := ti_sub h4 hx6 (show (1 : Int32).toInt = 1 from rfl) (by omega) (by omega)
      have y9 := wn (n - 1) z7 v9 (by omega) (by omega) h5
      have y5 := wn n x6 v57 hx6 (by omega) h7
      exact fo (by omega) e0 e1 (by rw [ev, if_neg (fun q => h11 ((hT.2.2 (by omega) _ h10).mpr q))]; rfl)
    · have y4 := ti_sub h4 hx6 (show (1 : Int32).toInt = 1 from rfl) (by omega) (by omega)
      have y9 := wn (n - 1) z7 v9 (by omega) (by omega) h5
      have y5 := wn n x6 v57 hx6 (by omega) h7
      exact fo (by omega) e0 e1 (by rw [ev, if_pos ((hT.2.2 (by omega) _ h10).mp h11)]; rfl)
    · have y5 := wn n x6 v57 hx6 (by omega) h7
      exact fb h9 (by decide) (by omega) e0 e1
    · have y5 := wn n x6 v57 hx6 (by omega) h7
      exact fb h9 (by decide) (by omega) e0 e1
    · have y5 := wn n x6 v57 hx6 (by omega) h7
      exact fb h9 (by decide) (by omega) e0 e1
    · have y5 := wn n x6 v57 hx6 (by omega) h7
      exact fb h9 (by decide) (by omega) e0 e1
    · have y5 := wn 0 (0 : Int32) v123 rfl (by omega) h4
      exact fo (by omega) e0 e1 (by rw [ev, if_neg (fun q => h9 ((vt h6 _ _ h7 h8).mpr q))]; rfl)
    · have y5 := wn 0 (0 : Int32) v123 rfl (by omega) h4
      exact fo (by omega) e0 e1 (by rw [ev, if_pos ((vt h6 _ _ h7 h8).mp h9)]; rfl)
    · have y5 := wn 0 (0 : Int32) v123 rfl (by omega) h4
      exact fo (by omega) e0 e1 (by rw [ev, if_neg (fun q => h8 ((hT.2.2 (by omega) _ h7).mpr q))]; rfl)
    · have y5 := wn 0 (0 : Int32) v123 rfl (by omega) h4
      exact fo (by omega) e0 e1 (by rw [ev, if_pos ((hT.2.2 (by omega) _ h7).mp h8)]; rfl)
    · have y5 := wn 0 (0 : Int32) v123 rfl (by omega) h4
      exact fb h6 (by decide) (by omega) e0 e1
    · have y5 := wn 0 (0 : Int32) v123 rfl (by omega) h4
      exact fb h6 (by decide) (by omega) e0 e1
    · have y5 := wn 0 (0 : Int32) v123 rfl (by omega) h4
      exact fb h6 (by decide) (by omega) e0 e1
    · have y5 := wn 0 (0 : Int32) v123 rfl (by omega) h4
      exact fb h6 (by decide) (by omega) e0 e1
    · exact absurd h2 (by decide)
    · exfalso; omega
    · exfalso; omega
  | add e r ihe ihr =>
    intro n m x6 x7 lo hi ma cf hd h _ hR hh hx6 hnl hc
    unfold Rep at hR
    obtain ⟨i, mid, r1, r2, rq, r3, r4⟩ := hR
    rcases iv_mp_checkCall_94 h with ⟨m', (⟨h1, (⟨h2, (⟨h3, z7, h4, v9, h5, (⟨h6, cf15, h7, (⟨h8, z40, h9, z41, h10, (⟨h11, e0, e1, ev⟩ | ⟨h11, e0, e1, ev⟩)⟩ | ⟨h8, v49, h9, (⟨h10, e0, e1, ev⟩ | ⟨h10, e0, e1, ev⟩)⟩)⟩ | ⟨h6, v57, h7, (⟨h8, (⟨h9, z64, h10, z65, h11, (⟨h12, e0, e1, ev⟩ | ⟨h12, e0, e1, ev⟩)⟩ | ⟨h9, v73, h10, (⟨h11, e0, e1, ev⟩ | ⟨h11, e0, e1, ev⟩)⟩)⟩ | ⟨h8, cf81, h9, (⟨h10, z106, h11, z107, h12, (⟨h13, e0, e1, ev⟩ | ⟨h13, e0, e1, ev⟩)⟩ | ⟨h10, v115, h11, (⟨h12, e0, e1, ev⟩ | ⟨h12, e0, e1, ev⟩)⟩)⟩)⟩)⟩ | ⟨h3, v123, h4, (⟨h5, (⟨h6, z130, h7, z131, h8, (⟨h9, e0, e1, ev⟩ | ⟨h9, e0, e1, ev⟩)⟩ | ⟨h6, v139, h7, (⟨h8, e0, e1, ev⟩ | ⟨h8, e0, e1, ev⟩)⟩)⟩ | ⟨h5, cf147, h6, (⟨h7, z172, h8, z173, h9, (⟨h10, e0, e1, ev⟩ | ⟨h10, e0, e1, ev⟩)⟩ | ⟨h7, v181, h8, (⟨h9, e0, e1, ev⟩ | ⟨h9, e0, e1, ev⟩)⟩)⟩)⟩)⟩ | ⟨h2, e0, e1, ev⟩)⟩ | ⟨h1, (⟨h2, ma193, cf194, h3, z209, h4, z210, h5, hQ⟩ | ⟨h2, v212, h3, ma217, cf218, h4, z233, h5, z234, h6, hQ⟩)⟩)⟩
    · exfalso; omega
    · exfalso; omega
    · exfalso; omega
    · exfalso; omega
    · exfalso; omega
    · exfalso; omega
    · exfalso; omega
    · exfalso; omega
    · exfalso; omega
    · exfalso; omega
    · exfalso; omega
    · exfalso; omega
    · exfalso; omega
    · exfalso; omega
    · exfalso; omega
    · exfalso; omega
    · exfalso; omega
    · exfalso; omega
    · exfalso; omega
    · exfalso; omega
    · exfalso; omega
    · exact absurd h2 (by decide)
    · rw [cn_of r1] at h6
      have W := hT.1 ma n x6 v212 hc.2.2 hx6 (by omega) h3
      have y6 := ti_add h5 hx6 (show (1 : Int32).toInt = 1 from rfl) (by omega) (by omega)
      by_cases hn : n < f.2.length
      · have hdw : f.2.drop n = f.2[n] :: f.2.drop (n + 1) := List.drop_eq_getElem_cons hn
        rw [hdw] at W
        obtain ⟨a1, a2, a3, a4, a5⟩ := arg_r HC rq.1 (show mid ≤ 100000 by omega) r3 W hc h4
        have ih := fun hd' => ihr (n + 1) m' _ _ mid hi ma217 cf218 hd' hQ rq.2 (by rw [h6]; exact rep_k2 _ _ _ _ _ _ r4 (a2.k (Or.inr (Nat.le_refl _)))) (by omega) (by omega) (by omega) (hc.go a1 a2 a3)
        obtain ⟨b1, b2, b3, b4, b5⟩ := ih 0
        have EQ : (if n ≤ f.2.length then att k vl (lkp L) F (.add e r) (f.2.drop n) hd else none) = (att k vl (lkp L) F e [] 0).bind fun a => (aArg f.2[n] a).bind fun n' => (att k vl (lkp L) F r (f.2.drop (n + 1)) (hd + n')).bind fun b => some ((0, 3, 0, max (hd + (if n' = 2 then 2 else a.2.2.2)) b.2.2.2) : Atr) := by
          rw [if_pos (show n ≤ f.2.length by omega), hdw]
          exact att_cons
        rw [EQ]
        refine ⟨a1.tr b1, (a2.le (Nat.le_refl _) r2.2.2).tr (b2.le (by omega) (Nat.le_refl _)), (a2.al a3).tr (b2.al b3), AC.of (fun q => b4.1 (a4.1 q)) (fun u => ?_), fun u d => ?_⟩
        · cases g1 : att k vl (lkp L) F e [] 0 with
          | none => exact Or.inl ⟨rfl, b4.1 (a4.n u (by rw [g1]; rfl))⟩
          | some a =>
            cases g2 : aArg f.2[n] a with
            | none => exact Or.inl ⟨by simp [g2], b4.1 (a4.n u (by rw [g1]; exact g2))⟩
            | some nn =>
              have q := a4.y u (y := nn) (by rw [g1]; exact g2)
              have rr := (ih (hd + nn)).2.2.2.1
              rw [if_pos (show n + 1 ≤ f.2.length by omega)] at rr
              cases g3 : att k vl (lkp L) F r (f.2.drop (n + 1)) (hd + nn) with
              | none => exact Or.inl ⟨by simp [g2, g3], rr.n q.1 g3⟩
              | some b => exact Or.inr ⟨_, by simp [g2, g3]; rfl, rr.y q.1 g3⟩
        · have uq := uc_of b4.1 u
          refine AllN.cons r1 ?_ (by rw [← h6]; exact b5 u d)
          exact (nt_kp (szA e) e false x7.toInt 0 lo mid (Nat.le_refl _) rfl rfl (rep_k2 _ _ _ _ _ _ r3 a3) (fun f j _ b => b2 f j (Or.inl b))).1 rq.1 d (a5 uq d)
      · have w32 := (wnr_n W).mpr (by rw [List.drop_eq_nil_iff]; omega)
        obtain ⟨a1, a2, a3, a4⟩ := arg_n HC rq.1 (show mid ≤ 100000 by omega) r3 w32 hc h4
        obtain ⟨b1, b2, b3, b4, b5⟩ := ihr (n + 1) m' _ _ mid hi ma217 cf218 0 hQ rq.2 (by rw [h6]; exact rep_k2 _ _ _ _ _ _ r4 (a2.k (Or.inr (Nat.le_refl _)))) (by omega) (by omega) (by omega) (hc.go a1 a2 a3)
        rw [if_neg (show ¬ n + 1 ≤ f.2.length by omega)] at b4
        have bc : Bc cf' := by
          by_cases q : Uc cf218
          · exact b4.2 q
          · exact b4.1 q
        have y : (if n ≤ f.2.length then att k vl (lkp L) F (.add e r) (f.2.drop n) hd else none) = none := by
          by_cases q : n ≤ f.2.length
          · rw [if_pos q, List.drop_eq_nil_iff.mpr (show f.2.length ≤ n by omega)]
            exact att_cons0
          · exact if_neg q
        rw [y]
        exact ⟨a1.tr b1, (a2.le (Nat.le_refl _) r2.2.2).tr (b2.le (by omega) (Nat.le_refl _)), (a2.al a3).tr (b2.al b3), ⟨fun _ => bc, fun _ => bc⟩, fun u => absurd u bc⟩
  | _ => intro n m x6 x7 lo hi ma cf hd _ hx; exact absurd hx (by simp [isRw])
end RZ
section RZ2
variable {tf : Nat → Int32} {ta : Nat → Nat → Int32} {k : Nat → Int} {vl : Nat → Int32} {c t i hi : Nat} {cf cf' : Nat → Int32} {ca na ma ma' : Nat → Nat → Int32} {L : Nms} {F : Int32 → Option Fnc} {n38 : Int32} {M : Nat → Int32} {RL : Tck} {p0 v : Int32} {as : Ast}
/-- a call -/
theorem cal_r (hs : SmN ta k vl c) (hF : FunR tf ta na ca k vl c n38 M F) (HC : HCk k vl c L F n38 M tf ta na ca RL) (hp : p0.toInt = (i : Int)) (h14 : (na 14 i).toInt = 3) (h15 : (na 15 i).toInt = (t : Int)) (htc : t < c) (h16 : k t = 16) (hrw : isRw as = true) (hR : Rep k c na ma as false (na 17 i).toInt 0 (i + 1) hi) (hh : i + 1 ≤ hi ∧ hi ≤ 100000) (hc : CtR k vl c ca L n38 M cf ma) (h : R_mp_checkCall RL tf ta na ca p0 ma cf ma' cf' v) : SmK cf cf' ∧ FrM ma ma' i hi ∧ AgKr na ma ma' i hi ∧ AC cf cf' (att k vl (lkp L) F (.elem (.arg t) as) [] 0) (fun a => IsV v.toInt a.1) ∧ (Uc cf' → ∀ d : Nat, NtN na ca vl M F ma' d p0.toInt) := by
  have ac := att_call (k := k) (vl := vl) (G := lkp L) (F := F) (t := t) (e := as) (ws := []) (hd := 0)
  unfold eCall at ac
  have kv : ∀ x : Int32, FrM ma (vu ma 18 i x) i (i + 1) := fun x f j q => by rw [vu_at (by omega)]
  have ka : ∀ (x : Int32) (l h : Nat), AgKr na ma (vu ma 18 i x) l h := fun x l h => k_at1 (Or.inr (Or.inl h14))
  have hE := hc.1
  have pb : ∀ {x y z own fn x2 x7 : Int32} {cf1 : Nat → Int32} {ma1 : Nat → Nat → Int32} {m : Nat}, R_mp_bad z y cf cf1 → ¬ z.toInt = 0 → ma1 = vu ma 18 i x → x7 = na 17 i → E_mp_checkCall RL tf ta na ca p0 ma' cf' v m 94 [x2, own, fn, (0 : Int32), (0 : Int32), x7] [] [] [] [] ma1 cf1 → aFun (lkp L (vl t)) (F (vl t)) = none → SmK cf cf' ∧ FrM ma ma' i hi ∧ AgKr na ma ma' i hi ∧ AC cf cf' (att k vl (lkp L) F (.elem (.arg t) as) [] 0) (fun a => IsV v.toInt a.1) ∧ (Uc cf' → ∀ d : Nat, NtN na ca vl M F ma' d p0.toInt) := by
    intro x y z own fn x2 x7 cf1 ma1 m hb hz e1 e2 hQ hn
    rw [ac, hn]
    have b := bad_r hb hz
    rw [e1, e2] at hQ
    obtain ⟨b1, b2, b3, b4⟩ := ck_94b HC as m _ _ (i + 1) hi _ cf1 hQ hrw (rep_k2 _ _ _ _ _ _ hR (ka x _ _)) hh.2 (hc.go b.2 (kv x) (ka x _ _))
    exact ⟨b.2.tr b1, ((kv x).le (Nat.le_refl _) hh.1).tr (b2.le (by omega) (Nat.le_refl _)), (ka x _ _).tr (b2.al b3), ⟨fun _ => b4 b.1, fun _ => b4 b.1⟩, fun u => absurd u (b4 b.1)⟩
  have pg : ∀ {x own fn x2 x7 : Int32} {ma1 : Nat → Nat → Int32} {m : Nat} {f : Fnc}, lkp L (vl t) = none → F (vl t) = some f → TkFr na ca M own fn f → NtC na ca vl M F i x → ma1 = vu ma 18 i x → x7 = na 17 i → E_mp_checkCall RL tf ta na ca p0 ma' cf' v m 94 [x2, own, fn, (1 : Int32), (0 : Int32), x7] [] [] [] [] ma1 cf → SmK cf cf' ∧ FrM ma ma' i hi ∧ AgKr na ma ma' i hi ∧ AC cf cf' (att k vl (lkp L) F (.elem (.arg t) as) [] 0) (fun a => IsV v.toInt a.1) ∧ (Uc cf' → ∀ d : Nat, NtN na ca vl M F ma' d p0.toInt) := by
    intro x own fn x2 x7 ma1 m f g1 g2 hT hN e1 e2 hQ
    have y : aFun (lkp L (vl t)) (F (vl t)) = some f := by rw [g1, g2]; rfl
    rw [ac, y]
    rw [e1, e2] at hQ
    obtain ⟨b1, b2, b3, b4, b5⟩ := ck_94 HC hT as 0 m _ _ (i + 1) hi _ cf 0 hQ hrw (rep_k2 _ _ _ _ _ _ hR (ka x _ _)) hh rfl (by omega) (hc.go SmK.rf (kv x) (ka x _ _))
    rw [if_pos (Nat.zero_le _), List.drop_zero] at b4
    refine ⟨b1, ((kv x).le (Nat.le_refl _) hh.1).tr (b2.le (by omega) (Nat.le_refl _)), (ka x _ _).tr (b2.al b3), AC.of b4.1 (fun u => ?_), fun u d => ?_⟩
    · cases g3 : att k vl (lkp L) F as f.2 0 with
      | none => exact Or.inl ⟨by simp [g3], b4.n u g3⟩
      | some b =>
        have q := b4.y u g3
        refine Or.inr ⟨(if f.1 then 3 else 0, 3, 0, max 1 b.2.2.2), by simp [g3], q.1, ?_⟩
        have qv := q.2
        show IsV v.toInt (if f.1 then (3 : Int) else 0)
        unfold IsV
        cases hf : f.1 with
        | true => rw [hf] at qv; exact Or.inr (Or.inr (Or.inr ⟨qv, rfl⟩))
        | false => rw [hf] at qv; exact Or.inl ⟨qv, Or.inl rfl⟩
    · cases d with
      | zero => trivial
      | succ d =>
        refine ⟨i, hp, fun _ => ⟨?_, b5 u d⟩, fun w => by exfalso; omega, fun w => by exfalso; omega, fun w => by exfalso; omega, fun w => by exfalso; omega⟩
        have y18 : ma' 18 i = x := by rw [b2 18 i (Or.inl (Nat.lt_succ_self i))]; exact vu_s
        rw [y18]
        exact hN
  obtain ⟨m, h⟩ := h
  rcases iv_mp_checkCall_0 h with ⟨m', z235, h1, v237, h2, (⟨h3, v244, h4, v249, h5, (⟨h6, cf259, h7, (⟨h8, z284, h9, ma285, h10, z286, h11, hQ⟩ | ⟨h8, ma287, h9, z288, h10, hQ⟩)⟩ | ⟨h6, (⟨h7, (⟨h8, z294, h9, ma295, h10, z296, h11, hQ⟩ | ⟨h8, ma297, h9, z298, h10, hQ⟩)⟩ | ⟨h7, (⟨h8, cf303, h9, (⟨h10, z328, h11, ma329, h12, z330, h13, hQ⟩ | ⟨h10, ma331, h11, z332, h12, hQ⟩)⟩ | ⟨h8, (⟨h9, z336, h10, ma337, h11, z338, h12, hQ⟩ | ⟨h9, ma339, h10, z340, h11, hQ⟩)⟩)⟩)⟩)⟩ | ⟨h3, v342, h4, (⟨h5, cf352, h6, (⟨h7, z377, h8, ma378, h9, z379, h10, hQ⟩ | ⟨h7, ma380, h8, z381, h9, hQ⟩)⟩ | ⟨h5, (⟨h6, (⟨h7, z387, h8, ma388, h9, z389, h10, hQ⟩ | ⟨h7, ma390, h8, z391, h9, hQ⟩)⟩ | ⟨h6, cf395, h7, (⟨h8, z420, h9, ma421, h10, z422, h11, hQ⟩ | ⟨h8, ma423, h9, z424, h10, hQ⟩)⟩)⟩)⟩)⟩
  · rw [cn_of hp] at h1 h10 h11
    have hz : z235.toInt = (t : Int) := by rw [h1]; exact h15
    rcases find_0 hs hE hz htc h16 h5 with ⟨q1, q2⟩ | ⟨j, e, q1, q2, q3, q4⟩
    · exfalso; omega
    · exact pb h7 (by decide) h10 h11 hQ (by rw [q2]; rfl)
  · exfalso; omega
  · exfalso; omega
  · exfalso; omega
  · rw [cn_of hp] at h1 h12 h13
    have hz : z235.toInt = (t : Int) := by rw [h1]; exact h15
    rcases hF t z235 v237 htc h16 hz h2 with ⟨g1, -⟩ | ⟨g1, g2⟩
    · exfalso; omega
    · rcases g2 cf v244 hc.2.1 h4 with ⟨g3, g4⟩ | ⟨g3, -⟩
      · exact pb h9 (by decide) h12 h13 hQ (by
          rw [g4]
          cases lkp L (vl t) <;> rfl)
      · exfalso; omega
  · exfalso; omega
  · rw [cn_of hp] at h1 h11 h12
    have hz : z235.toInt = (t : Int) := by rw [h1]; exact h15
    rcases find_0 hs hE hz htc h16 h5 with ⟨q1, q2⟩ | ⟨j, e, q1, -⟩
    · rcases hF t z235 v237 htc h16 hz h2 with ⟨g1, -⟩ | ⟨g1, g2⟩
      · exfalso; omega
      · rcases g2 cf v244 hc.2.1 h4 with ⟨g3, -⟩ | ⟨g3, f, g4, g5⟩
        · exfalso; omega
        · have yx := ti_add h10 (show (100 : Int32).toInt = 100 from rfl) (rfl : v244.toInt = v244.toInt) (by omega) (by omega)
          rw [← g1] at g5
          exact pg q2 g4 g5 ⟨t, f, h15, g4, Or.inr ⟨v244, yx, g3, by rw [← g1]; exact g5⟩⟩ h11 h12 hQ
    · exfalso; omega
  · exfalso; omega
  · exfalso; omega
  · rw [cn_of hp] at h1 h8 h9
    have hz : z235.toInt = (t : Int) := by rw [h1]; exact h15
    rcases find_0 hs hE hz htc h16 h4 with ⟨q1, q2⟩ | ⟨j, e, q1, q2, q3, q4⟩
    · exfalso; omega
    · exact pb h6 (by decide) h8 h9 hQ (by rw [q2]; rfl)
  · exfalso; omega
  · rw [cn_of hp] at h1 h8 h9
    have hz : z235.toInt = (t : Int) := by rw [h1]; exact h15
    rcases find_0 hs hE hz htc h16 h4 with ⟨q1, q2⟩ | ⟨j, e, q1, -⟩
    · rcases hF t z235 v237 htc h16 hz h2 with ⟨g1, f, g4, g5⟩ | ⟨g1, -⟩
      · exact pg q2 g4 g5 ⟨t, f, h15, g4, Or.inl ⟨g1, g5⟩⟩ h8 h9 hQ
      · rw [g1] at h3
        exact absurd (show (-1 : Int32).toInt < 0 by decide) h3
    · exfalso; omega
  · exfalso; omega
  · exfalso; omega
end RZ2
