/-! items whole -/
def pItem (k : Nat → Int) (t : Nat) (o : Int) : Option (Ast × Nat) :=
  if k t = 4 then pEnum k t o
  else if k t = 1 ∨ k t = 2 ∨ k t = 3 then
    (if k (t + 1) = 16 ∧ k (t + 2) = 40 then (match pHead k (t + 1) o with
      | none => none
      | some (ps, t1) => if k t1 = 123 ∧ o < 60 then (match pSts (pSt k 61) k (o + 1) 2049 (t1 + 1) with
        | none => none
        | some (b, t2) => if k t2 = 125 then some (sNd 22 (.elem (.arg (k t).toNat) (.arg (t + 1))) (.elem ps b), t2 + 1) else none) else none)
     else if k t = 3 then none
     else (match pVars k o 2048 (t + 1) with
      | none => none
      | some (vs, t1) => if k t1 = 59 then some (sNd 21 (.arg (k t).toNat) vs, t1 + 1) else none))
  else none
/-- a function, if it is one -/
def fnO (vl : Nat → Int32) : Ast → List FnE
  | .elem (.arg g) (.elem a b) => if g = 22 then (match a, b with
      | .elem (.arg ty) (.arg t), .elem ps _ => [(vl t, (ty : Int), wnX ps)]
      | _, _ => []) else []
  | _ => []
/-- names, words, functions so far -/
abbrev Tg := Nms × Int × Nat
def semFn (k : Nat → Int) (vl : Nat → Int32) (ql : Nat → Int) (LX : List FnE) (ty t : Nat) (ps bd : Ast) (s : Tg) : Option Tg := (if dupF (vl t) (LX.take s.2.2) = true then none else semPars vl (fun v => flk v (LX.map fnT)) s.1.length ps s.1 0).bind fun p => (sem k vl ql (fun v => flk v (LX.map fnT)) (ty : Int) bd s.1.length false false (p.1, p.2, 0, [], false)).bind fun s' => if 4 + s'.2.1 + s'.2.2.1 ≤ 8192 then some (s.1, s.2.1, s.2.2 + 1) else none
def semItem (k : Nat → Int) (vl : Nat → Int32) (ql : Nat → Int) (LX : List FnE) : Ast → Tg → Option Tg
  | .elem (.arg g) (.elem a b), s =>
    if g = 20 then (semEns k vl (fun v => flk v (LX.map fnT)) 0 a s.1 0).bind fun L => some (L, s.2)
    else if g = 21 then (semVars k vl ql (fun v => flk v (LX.map fnT)) true (isChr a) 0 b (s.1, s.2.1, 0, [], false)).bind fun s' => some (s'.1, s'.2.1, s.2.2)
    else if g = 22 then (match a, b with
      | .elem (.arg ty) (.arg t), .elem ps bd => semFn k vl ql LX ty t ps bd s
      | _, _ => none)
    else none
  | _, _ => none
theorem last_r {tf : Nat → Int32} {v : Int32} {c t : Nat} {o : Int} (h : R_tk_last tf v) (hc : Cur tf c t o) : v.toInt < (tf 10).toInt := by
  have h10 := hc.1
  have c1 := hc.2.2.2.2.1
  have c2 := hc.2.2.2.2.2.1
  rcases h with ⟨z2, h1, ev⟩ | h
  · have := ti_sub h1 h10 (show (1 : Int32).toInt = 1 from rfl) (by omega) (by omega)
    rw [ev, h10]; omega
  · exact h.elim
theorem end_ok {cn fn : Nat} {own : Bool} {p0 p1 : Int32} {cf tf fp cd ft nf lf cf' tf' fp' cd' ft' nf' lf' : Nat → Int32} {fo fo' : Option Nat} {lg lg' : Nat → Option Nat} {P : va_W} {L X : Nms} {c t : Nat} {o : Int} (hc : Cur tf c t o) (h : R_tc_endFunction cn fn own p0 p1 cf fo tf fp cd ft nf lf lg cf' fo' tf' fp' cd' ft' nf' lf' lg') (hL : EnvL own P lf lg (L ++ X)) (hs4 : (nf 4).toInt = (L.length : Int)) (hb : (L ++ X).length ≤ 100000) :
    SmB tf tf' ∧ cf' = cf ∧ fo' = none ∧ nf' = upd nf 4 0 ∧ EnvL own P lf' lg' L ∧ ∀ w h : Int, (cf 12).toInt = w → (cf 13).toInt = h → 0 ≤ w → w ≤ 10000000 → 0 ≤ h → h ≤ 5000 → AT tf tf' (if 4 + w + h ≤ 8192 then some () else none) (fun _ => True) := by
  obtain ⟨k, h⟩ := h
  have fin : ∀ {k : Nat} {x : Int32} {tfx fpx cdx : Nat → Int32}, E_tc_endFunction cn fn own p0 p1 cf' fo' tf' fp' cd' ft' nf' lf' lg' k 60 [x] [] [] [] [] cf fo tfx fpx cdx ft nf lf lg → tf' = tfx ∧ cf' = cf ∧ fo' = none ∧ nf' = upd nf 4 0 ∧ EnvL own P lf' lg' L := by
    intro k x tfx fpx cdx hE
    obtain ⟨k, z2, g1, ft4, g2, nf12, lf13, lg14, g3, e0, e1, e2, e3, e4, e5, e6, e7, e8⟩ := iv_tc_endFunction_60 hE
    obtain ⟨q1, q2⟩ := leave_env (sc := L.length) hs4 (by rw [List.length_append]; omega) hL g3 hb
    rw [e0, e1, e2, e6, e7, e8]
    rw [List.take_left] at q1
    exact ⟨rfl, rfl, rfl, q2, q1⟩
  have num : ∀ {z40 z42 : Int32} {w h : Int}, z40 = (4 : Int32) + cf 12 → z42 = z40 + cf 13 → (cf 12).toInt = w → (cf 13).toInt = h → 0 ≤ w → w ≤ 10000000 → 0 ≤ h → h ≤ 5000 → z42.toInt = 4 + w + h := by
    intro z40 z42 w h g1 g2 w1 w2 b1 b2 b3 b4
    have y1 := ti_add g1 (show (4 : Int32).toInt = 4 from rfl) w1 (by omega) (by omega)
    exact ti_add g2 y1 w2 (by omega) (by omega)
  rcases iv_tc_endFunction_0 h with ⟨k, fp25, cd26, v28, h1, fp33, cd34, v36, h2, z40, h3, z42, h4, (⟨h5, hE⟩ | ⟨h5, v46, h6, tf49, h7, hE⟩)⟩
  · obtain ⟨q1, q2, q3, q4, q5⟩ := fin hE
    rw [q1]
    refine ⟨SmB.rf, q2, q3, q4, q5, fun w h w1 w2 b1 b2 b3 b4 => ?_⟩
    have := num h3 h4 w1 w2 b1 b2 b3 b4
    rw [if_pos (by omega)]
    exact AT.ret trivial
  · obtain ⟨q1, q2, q3, q4, q5⟩ := fin hE
    rw [q1]
    refine ⟨blame_b h7, q2, q3, q4, q5, fun w h w1 w2 b1 b2 b3 b4 => ?_⟩
    have := num h3 h4 w1 w2 b1 b2 b3 b4
    rw [if_neg (by omega)]
    exact AT.bad h7 (by decide) (last_r h6 hc)
theorem OkHe.sm {ta : Nat → Nat → Int32} {c t m : Nat} {o : Int} {p0 : Int32} {L : Nms} {F : Int32 → Option Fnc} {W : Nat} {LX : List FnE} {r : Option (Ast × Nat)} {cf tf tf2 nf cf' : Nat → Int32} {fo' : Option Nat} {tf' nf' : Nat → Int32} {na' : Nat → Nat → Int32} {own' : Bool} {lf' : Nat → Int32} {lg' : Nat → Option Nat} {ff' : Nat → Int32} {fg' : Nat → Option Nat} {P' : va_W} (hs : SmC tf tf2) (h : OkHe ta c t m o p0 L F W LX r cf tf2 nf cf' fo' tf' nf' na' own' lf' lg' ff' fg' P') : OkHe ta c t m o p0 L F W LX r cf tf nf cf' fo' tf' nf' na' own' lf' lg' ff' fg' P' := by
  cases r with
  | none => exact h
  | some r =>
    obtain ⟨ps, t1⟩ := r
    obtain ⟨h1, h2, h3, h4, h5, h6, q0, X, h7, h8, h9, h10, h11, h12⟩ := h
    exact ⟨h1, h2, h3, h4, h5, h6, q0, X, h7, h8, h9, h10, fun q => ⟨(h11 q).1, (h11 q).2.1, AT.sm hs (h11 q).2.2⟩, h12⟩
/-- between items -/
def TopI (c cn t : Nat) (L : Nms) (LX : List FnE) (W m : Nat) (cf : Nat → Int32) (fo : Option Nat) (tf fp nf : Nat → Int32) (na : Nat → Nat → Int32) (own : Bool) (lf : Nat → Int32) (lg : Nat → Option Nat) (ff : Nat → Int32) (fg : Nat → Option Nat) (P : va_W) : Prop :=
  Cur tf c t 0 ∧ EnvL own P lf lg L ∧ FunX na P ff fg W LX ∧ (nf 3).toInt = (W : Int) ∧ (¬ (cf 8).toInt = 0 → 2 * W ≤ 2000 + t ∧ LX.length ≤ 50000 + t) ∧ (nf 4).toInt = 0 ∧ L.length ≤ t ∧ LX.length ≤ 60000 ∧ NN cn fp ∧ (cf 7).toInt = 0 ∧ (cf 14).toInt = 0 ∧ (cf 15).toInt = 0 ∧ fo = none ∧ (cf 10).toInt = (m : Int) ∧ m ≤ t
section SO
variable {ta : Nat → Nat → Int32} {cn sn : Nat} {na na' : Nat → Nat → Int32} {own own' : Bool} {P P' : va_W} {nf lf nf' lf' ff ff' : Nat → Int32} {lg lg' fg fg' : Nat → Option Nat} {lq lc lq' lc' fq fc fq' fc' : Nat} {fo' : Option Nat} {v : Int32}
variable {tf fp cd cf fs sd tf' fp' cd' cf' fs' sd' : Nat → Int32} {c t W m : Nat} {L : Nms} {LX : List FnE}
theorem it_ok (hl : Lst0 ta c) (hN : ND P') (hT : TopI c cn t L LX W m cf none tf fp nf na own lf lg ff fg P) (hp : (cf 8).toInt = 0 → ∃ (it : Ast) (t1 : Nat) (rest : List FnE), pItem (kd ta) t 0 = some (it, t1) ∧ LX.drop (10 + m) = fnO (vd ta) it ++ rest) (h : R_tc_item ta cn sn cf none tf fp cd nf na own lq lc lf lg fq fc ff fg P fs sd cf' fo' tf' fp' cd' nf' na' own' lq' lc' lf' lg' fq' fc' ff' fg' P' fs' sd' v) :
    (pItem (kd ta) t 0 = none ∧ Flq tf') ∨ (v.toInt = 0 ∧ ∃ (it : Ast) (t1 : Nat) (X : Nms), pItem (kd ta) t 0 = some (it, t1) ∧ fo' = none ∧ Cur tf' c t1 0 ∧ t < t1 ∧ (∀ i : Nat, i ≠ 11 → i ≠ 13 → cf' i = cf i) ∧ (nf' = nf ∧ na' = na ∧ ff' = ff ∧ fg' = fg) ∧ PX P P' ∧ EnvL own' P' lf' lg' (L ++ X) ∧ X.length ≤ t1 - t ∧ fnO (vd ta) it = [] ∧ ∀ (g : Int) (b : Nat), (cf 11).toInt = g → 0 ≤ g → g ≤ 4096 * (t : Int) → AT tf tf' (semItem (kd ta) (vd ta) (qlS ta) LX it (L, g, b)) (fun s => s.1 = L ++ X ∧ (cf' 11).toInt = s.2.1 ∧ 0 ≤ s.2.1 ∧ s.2.1 ≤ 4096 * (t1 : Int) ∧ s.2.2 = b)) ∨ (¬ v.toInt = 0 ∧ (kd ta t = 1 ∨ kd ta t = 2 ∨ kd ta t = 3) ∧ kd ta (t + 1) = 16 ∧ kd ta (t + 2) = 40 ∧ ∃ (ps : Ast) (t1 : Nat) (p : Int32), pHead (kd ta) (t + 1) 0 = some (ps, t1) ∧ p.toInt = kd ta t ∧ OkHe ta c (t + 1) m 0 p L (fun v => flk v (LX.map fnT)) W LX (some (ps, t1)) cf tf nf cf' fo' tf' nf' na' own' lf' lg' ff' fg' P') := by
  obtain ⟨k, h⟩ := h
  obtain ⟨hc, hL, hX, hn3, hW, hn4, hLt, hLX, hNN, h7, h14, h15, -, h10, hm⟩ := hT
  have c1 := hc.2.2.2.2.1
  have c2 := hc.2.2.2.2.2.1
  have hNP : ND P := hN.pa (pae_tc_item _ _ _ _ _ _ _ _ _ _ _ _ _ _ _ _ _ _ _ _ _ _ _ _ _ _ h)
  have hFL := hX.l
  have tk : ∀ {k : Nat} {ls : List Int32} {tfa : Nat → Int32}, E_tc_item ta cn sn cf' fo' tf' fp' cd' nf' na' own' lq' lc' lf' lg' fq' fc' ff' fg' P' fs' sd' v k 102 ls [] [] [] [] cf none tfa fp cd nf na own lq lc lf lg fq fc ff fg P fs sd → Flq tfa → Flq tf' := by
    intro k ls tfa q f
    exact (tke_tc_item _ _ _ _ _ _ _ _ _ _ _ _ _ _ _ _ _ _ _ _ _ _ _ _ _ _ q).2 f
  have lst : (kd ta t = 1 ∨ kd ta t = 2 ∨ kd ta t = 3) → t + 1 < c := by
    intro q
    rcases q with q | q | q
    · exact lst_lt (p0 := 1) hc hl (by decide) (by decide) q
    · exact lst_lt (p0 := 2) hc hl (by decide) (by decide) q
    · exact lst_lt (p0 := 3) hc hl (by decide) (by decide) q
  /- variables -/
  have vz : ∀ {k : Nat} {x : Int32} {tfa : Nat → Int32}, E_tc_item ta cn sn cf' fo' tf' fp' cd' nf' na' own' lq' lc' lf' lg' fq' fc' ff' fg' P' fs' sd' v k 102 [x] [] [] [] [] cf none tfa fp cd nf na own lq lc lf lg fq fc ff fg P fs sd → x.toInt = kd ta t → (kd ta t = 1 ∨ kd ta t = 2) → Cur tfa c (t + 1) 0 → SmC tf tfa → ¬ (kd ta (t + 1) = 16 ∧ kd ta (t + 2) = 40) →
      (pItem (kd ta) t 0 = none ∧ Flq tf') ∨ (v.toInt = 0 ∧ ∃ (it : Ast) (t1 : Nat) (X : Nms), pItem (kd ta) t 0 = some (it, t1) ∧ fo' = none ∧ Cur tf' c t1 0 ∧ t < t1 ∧ (∀ i : Nat, i ≠ 11 → i ≠ 13 → cf' i = cf i) ∧ (nf' = nf ∧ na' = na ∧ ff' = ff ∧ fg' = fg) ∧ PX P P' ∧ EnvL own' P' lf' lg' (L ++ X) ∧ X.length ≤ t1 - t ∧ fnO (vd ta) it = [] ∧ ∀ (g : Int) (b : Nat), (cf 11).toInt = g → 0 ≤ g → g ≤ 4096 * (t : Int) → AT tf tf' (semItem (kd ta) (vd ta) (qlS ta) LX it (L, g, b)) (fun s => s.1 = L ++ X ∧ (cf' 11).toInt = s.2.1 ∧ 0 ≤ s.2.1 ∧ s.2.1 ≤ 4096 * (t1 : Int) ∧ s.2.2 = b)) ∨ (¬ v.toInt = 0 ∧ (kd ta t = 1 ∨ kd ta t = 2 ∨ kd ta t = 3) ∧ kd ta (t + 1) = 16 ∧ kd ta (t + 2) = 40 ∧ ∃ (ps : Ast) (t1 : Nat) (p : Int32), pHead (kd ta) (t + 1) 0 = some (ps, t1) ∧ p.toInt = kd ta t ∧ OkHe ta c (t + 1) m 0 p L (fun v => flk v (LX.map fnT)) W LX (some (ps, t1)) cf tf nf cf' fo' tf' nf' na' own' lf' lg' ff' fg' P') := by
    intro k x tfa hE hx hk hca hsm hno
    have e : pItem (kd ta) t 0 = (match pVars (kd ta) 0 2048 (t + 1) with
      | none => none
      | some (vs, t1) => if kd ta t1 = 59 then some (sNd 21 (.arg (kd ta t).toNat) vs, t1 + 1) else none) := by
      unfold pItem
      rw [if_neg (by omega), if_pos (by omega), if_neg hno, if_neg (by omega)]
    obtain ⟨k, cf13, tf14, fp15, cd16, own17, lq18, lc19, lf20, lg21, P22, fs23, sd24, g1, tf59, g2, e0, e1, e2, e3, e4, e5, e6, e7, e8, e9, e10, e11, e12, e13, e14, e15, e16, e17, e18, ev⟩ := iv_tc_item_102 hE
    subst e0 e1 e2 e3 e4 e5 e6 e7 e8 e9 e10 e11 e12 e13 e14 e15 e16 e17 e18 ev
    have ov := vars_ok (sc := 0) hl hN hn4 g1 hca hL hFL
    cases hr : pVars (kd ta) 0 2048 (t + 1) with
    | none =>
      rw [hr] at ov e
      exact Or.inl ⟨e, (tkr_tk_expect g2).2 ov⟩
    | some r =>
      obtain ⟨vs, t1⟩ := r
      rw [hr] at ov e
      have e' : pItem (kd ta) t 0 = if kd ta t1 = 59 then some (sNd 21 (.arg (kd ta t).toNat) vs, t1 + 1) else none := e
      obtain ⟨a1, a2, a3, X, a4, a5, a6⟩ := ov
      have ex := expect_cur (p0 := 59) g2 a2 hl (by decide) (by decide)
      rcases ex.1 with ⟨q1, q2⟩ | ⟨q1, q2⟩
      · have hk1 : kd ta t1 = 59 := by unfold kd; rw [q1]; rfl
        rw [if_pos hk1] at e'
        refine Or.inr (Or.inl ⟨by rfl, _, _, X, e', rfl, q2, by omega, a1, ⟨rfl, rfl, rfl, rfl⟩, pxr_tc_variables g1, a4, by omega, rfl, fun g b w1 w2 w3 => ?_⟩)
        show AT tf tf' ((semVars (kd ta) (vd ta) (qlS ta) (fun v => flk v (LX.map fnT)) true (isChr (.arg (kd ta t).toNat)) 0 vs (L, g, 0, [], false)).bind fun s' => some (s'.1, s'.2.1, b)) _
        have a6' := a6 g 0 ([], false) w1 w2 (by omega) (Or.inl rfl)
        rw [hx, ← chr_eq hk] at a6'
        refine AT.bind (AT.ms (AT.sm hsm a6') ex.2) (fun s hs => AT.ret ?_) BK.rf
        obtain ⟨b1, b2, b3, b4, b5, -⟩ := hs
        exact ⟨b1, b2, b4, by show s.2.1 ≤ 4096 * ((t1 + 1 : Nat) : Int); omega, rfl⟩
      · have hk1 : ¬ kd ta t1 = 59 := fun q => q1 (i_eq.mpr q)
        rw [if_neg hk1] at e'
        exact Or.inl ⟨e', q2⟩
  have fz : ∀ {k : Nat} {ls : List Int32} {tfa : Nat → Int32}, E_tc_item ta cn sn cf' fo' tf' fp' cd' nf' na' own' lq' lc' lf' lg' fq' fc' ff' fg' P' fs' sd' v k 102 ls [] [] [] [] cf none tfa fp cd nf na own lq lc lf lg fq fc ff fg P fs sd → Flq tfa → kd ta t = 3 → ¬ (kd ta (t + 1) = 16 ∧ kd ta (t + 2) = 40) →
      (pItem (kd ta) t 0 = none ∧ Flq tf') ∨ (v.toInt = 0 ∧ ∃ (it : Ast) (t1 : Nat) (X : Nms), pItem (kd ta) t 0 = some (it, t1) ∧ fo' = none ∧ Cur tf' c t1 0 ∧ t < t1 ∧ (∀ i : Nat, i ≠ 11 → i ≠ 13 → cf' i = cf i) ∧ (nf' = nf ∧ na' = na ∧ ff' = ff ∧ fg' = fg) ∧ PX P P' ∧ EnvL own' P' lf' lg' (L ++ X) ∧ X.length ≤ t1 - t ∧ fnO (vd ta) it = [] ∧ ∀ (g : Int) (b : Nat), (cf 11).toInt = g → 0 ≤ g → g ≤ 4096 * (t : Int) → AT tf tf' (semItem (kd ta) (vd ta) (qlS ta) LX it (L, g, b)) (fun s => s.1 = L ++ X ∧ (cf' 11).toInt = s.2.1 ∧ 0 ≤ s.2.1 ∧ s.2.1 ≤ 4096 * (t1 : Int) ∧ s.2.2 = b)) ∨ (¬ v.toInt = 0 ∧ (kd ta t = 1 ∨ kd ta t = 2 ∨ kd ta t = 3) ∧ kd ta (t + 1) = 16 ∧ kd ta (t + 2) = 40 ∧ ∃ (ps : Ast) (t1 : Nat) (p : Int32), pHead (kd ta) (t + 1) 0 = some (ps, t1) ∧ p.toInt = kd ta t ∧ OkHe ta c (t + 1) m 0 p L (fun v => flk v (LX.map fnT)) W LX (some (ps, t1)) cf tf nf cf' fo' tf' nf' na' own' lf' lg' ff' fg' P') := by
    intro k ls tfa hE hf hk hno
    have e : pItem (kd ta) t 0 = none := by
      unfold pItem
      rw [if_neg (by omega), if_pos (by omega), if_neg hno, if_pos hk]
    exact Or.inl ⟨e, tk hE hf⟩
  have hz : ∀ {x : Int32} {tfa : Nat → Int32}, R_tc_header ta x cf none tfa nf na own lq lc lf lg fq fc ff fg P cf' fo' tf' nf' na' own' lq' lc' lf' lg' fq' fc' ff' fg' P' → x.toInt = kd ta t → (kd ta t = 1 ∨ kd ta t = 2 ∨ kd ta t = 3) → Cur tfa c (t + 1) 0 → SmC tf tfa → kd ta (t + 1) = 16 → kd ta (t + 2) = 40 → v = 1 →
      (pItem (kd ta) t 0 = none ∧ Flq tf') ∨ (v.toInt = 0 ∧ ∃ (it : Ast) (t1 : Nat) (X : Nms), pItem (kd ta) t 0 = some (it, t1) ∧ fo' = none ∧ Cur tf' c t1 0 ∧ t < t1 ∧ (∀ i : Nat, i ≠ 11 → i ≠ 13 → cf' i = cf i) ∧ (nf' = nf ∧ na' = na ∧ ff' = ff ∧ fg' = fg) ∧ PX P P' ∧ EnvL own' P' lf' lg' (L ++ X) ∧ X.length ≤ t1 - t ∧ fnO (vd ta) it = [] ∧ ∀ (g : Int) (b : Nat), (cf 11).toInt = g → 0 ≤ g → g ≤ 4096 * (t : Int) → AT tf tf' (semItem (kd ta) (vd ta) (qlS ta) LX it (L, g, b)) (fun s => s.1 = L ++ X ∧ (cf' 11).toInt = s.2.1 ∧ 0 ≤ s.2.1 ∧ s.2.1 ≤ 4096 * (t1 : Int) ∧ s.2.2 = b)) ∨ (¬ v.toInt = 0 ∧ (kd ta t = 1 ∨ kd ta t = 2 ∨ kd ta t = 3) ∧ kd ta (t + 1) = 16 ∧ kd ta (t + 2) = 40 ∧ ∃ (ps : Ast) (t1 : Nat) (p : Int32), pHead (kd ta) (t + 1) 0 = some (ps, t1) ∧ p.toInt = kd ta t ∧ OkHe ta c (t + 1) m 0 p L (fun v => flk v (LX.map fnT)) W LX (some (ps, t1)) cf tf nf cf' fo' tf' nf' na' own' lf' lg' ff' fg' P') := by
    intro x tfa hH hx hk hca hsm hk1 hk2 hv
    have e : pItem (kd ta) t 0 = (match pHead (kd ta) (t + 1) 0 with
      | none => none
      | some (ps, t1) => if kd ta t1 = 123 ∧ (0 : Int) < 60 then (match pSts (pSt (kd ta) 61) (kd ta) (0 + 1) 2049 (t1 + 1) with
        | none => none
        | some (b, t2) => if kd ta t2 = 125 then some (sNd 22 (.elem (.arg (kd ta t).toNat) (.arg (t + 1))) (.elem ps b), t2 + 1) else none) else none) := by
      unfold pItem
      rw [if_neg (by omega), if_pos hk, if_pos ⟨hk1, hk2⟩]
    have hp' : (cf 8).toInt = 0 → ∃ ws : List Int, LX[10 + m]? = some (vd ta (t + 1), x.toInt, ws) := by
      intro h8
      obtain ⟨it, t1, rest, p1, p2⟩ := hp h8
      rw [p1] at e
      cases hh : pHead (kd ta) (t + 1) 0 with
      | none => rw [hh] at e; exact absurd e (by simp)
      | some r =>
        obtain ⟨ps, t2⟩ := r
        rw [hh] at e
        have e1 : some (it, t1) = if kd ta t2 = 123 ∧ (0 : Int) < 60 then (match pSts (pSt (kd ta) 61) (kd ta) (0 + 1) 2049 (t2 + 1) with
          | none => none
          | some (b, t3) => if kd ta t3 = 125 then some (sNd 22 (.elem (.arg (kd ta t).toNat) (.arg (t + 1))) (.elem ps b), t3 + 1) else none) else none := e
        by_cases y1 : kd ta t2 = 123 ∧ (0 : Int) < 60
        · rw [if_pos y1] at e1
          cases hs : pSts (pSt (kd ta) 61) (kd ta) (0 + 1) 2049 (t2 + 1) with
          | none => rw [hs] at e1; exact absurd e1 (by simp)
          | some r2 =>
            obtain ⟨b, t3⟩ := r2
            rw [hs] at e1
            have e2 : some (it, t1) = if kd ta t3 = 125 then some (sNd 22 (.elem (.arg (kd ta t).toNat) (.arg (t + 1))) (.elem ps b), t3 + 1) else none := e1
            by_cases y2 : kd ta t3 = 125
            · rw [if_pos y2] at e2
              have e3 : it = sNd 22 (.elem (.arg (kd ta t).toNat) (.arg (t + 1))) (.elem ps b) := congrArg Prod.fst (Option.some.inj e2)
              have e4 : fnO (vd ta) it = [(vd ta (t + 1), (((kd ta t).toNat : Nat) : Int), wnX ps)] := by rw [e3]; rfl
              have e5 : (((kd ta t).toNat : Nat) : Int) = x.toInt := by omega
              rw [e4, e5] at p2
              refine ⟨wnX ps, ?_⟩
              have e6 : (LX.drop (10 + m))[0]? = LX[10 + m + 0]? := List.getElem?_drop
              rw [p2] at e6
              exact e6.symm
            · rw [if_neg y2] at e2; exact absurd e2 (by simp)
        · rw [if_neg y1] at e1; exact absurd e1 (by simp)
    have oh := hd_ok (fun v => flk v (LX.map fnT)) hl hN hL hX hn3 (fun q => by have := (hW q).1; omega) (by omega) hca hk1 hk2 h10 (by omega) hp' hH
    cases hh : pHead (kd ta) (t + 1) 0 with
    | none =>
      rw [hh] at oh e
      exact Or.inl ⟨e, oh⟩
    | some r =>
      obtain ⟨ps, t1⟩ := r
      rw [hh] at oh
      exact Or.inr (Or.inr ⟨by rw [hv]; decide, hk, hk1, hk2, ps, t1, x, rfl, hx, oh.sm hsm⟩)
  rcases iv_tc_item_0 h with ⟨k, v69, h1, (⟨h2, (⟨h3, tf77, h4, v89, h5, (⟨h6, (⟨h7, hE⟩ | ⟨h7, tf97, h8, tf106, h9, hE⟩)⟩ | ⟨h6, v116, h7, (⟨h8, (⟨h9, hE⟩ | ⟨h9, tf122, h10, tf131, h11, hE⟩)⟩ | ⟨h8, cf155, fo156, tf157, nf158, na159, own160, lq161, lc162, lf163, lg164, fq165, fc166, ff167, fg168, P169, h9, e0, e1, e2, e3, e4, e5, e6, e7, e8, e9, e10, e11, e12, e13, e14, e15, e16, e17, e18, ev⟩)⟩)⟩ | ⟨h3, (⟨h4, tf199, h5, v211, h6, (⟨h7, (⟨h8, hE⟩ | ⟨h8, tf219, h9, tf228, h10, hE⟩)⟩ | ⟨h7, v238, h8, (⟨h9, (⟨h10, hE⟩ | ⟨h10, tf244, h11, tf253, h12, hE⟩)⟩ | ⟨h9, cf277, fo278, tf279, nf280, na281, own282, lq283, lc284, lf285, lg286, fq287, fc288, ff289, fg290, P291, h10, e0, e1, e2, e3, e4, e5, e6, e7, e8, e9, e10, e11, e12, e13, e14, e15, e16, e17, e18, ev⟩)⟩)⟩ | ⟨h4, (⟨h5, tf321, h6, v333, h7, (⟨h8, (⟨h9, hE⟩ | ⟨h9, tf341, h10, tf350, h11, hE⟩)⟩ | ⟨h8, v360, h9, (⟨h10, (⟨h11, hE⟩ | ⟨h11, tf366, h12, tf375, h13, hE⟩)⟩ | ⟨h10, cf399, fo400, tf401, nf402, na403, own404, lq405, lc406, lf407, lg408, fq409, fc410, ff411, fg412, P413, h11, e0, e1, e2, e3, e4, e5, e6, e7, e8, e9, e10, e11, e12, e13, e14, e15, e16, e17, e18, ev⟩)⟩)⟩ | ⟨h5, tf441, h6, e0, e1, e2, e3, e4, e5, e6, e7, e8, e9, e10, e11, e12, e13, e14, e15, e16, e17, e18, ev⟩)⟩)⟩)⟩ | ⟨h2, cf460, tf461, fp462, cd463, own464, lq465, lc466, lf467, lg468, P469, h3, e0, e1, e2, e3, e4, e5, e6, e7, e8, e9, e10, e11, e12, e13, e14, e15, e16, e17, e18, ev⟩)⟩
  · have ek := kind_cur h1 hc
    subst ek
    have hk0 : kd ta t = 1 := h3
    have hlt := lst (by omega)
    have hs := step_cur h4 hc hlt
    have ek1 := kind_cur h5 hs.1
    subst ek1
    exact vz hE rfl (by omega) hs.1 hs.2 (fun z => h6 z.1)
  · exfalso; omega
  · have ek := kind_cur h1 hc
    subst ek
    have hk0 : kd ta t = 1 := h3
    have hlt := lst (by omega)
    have hs := step_cur h4 hc hlt
    have ek1 := kind_cur h5 hs.1
    subst ek1
    have hlt2 : t + 1 + 1 < c := lst_lt (p0 := 16) hs.1 hl (by decide) (by decide) h6
    have eb := behind_cur h7 hs.1 hlt2
    subst eb
    exact vz hE rfl (by omega) hs.1 hs.2 (fun z => h8 z.2)
  · exfalso; omega
  · have ek := kind_cur h1 hc
    subst ek
    have hk0 : kd ta t = 1 := h3
    have hlt := lst (by omega)
    have hs := step_cur h4 hc hlt
    have ek1 := kind_cur h5 hs.1
    subst ek1
    have hlt2 : t + 1 + 1 < c := lst_lt (p0 := 16) hs.1 hl (by decide) (by decide) h6
    have eb := behind_cur h7 hs.1 hlt2
    subst eb
    subst e0 e1 e2 e3 e4 e5 e6 e7 e8 e9 e10 e11 e12 e13 e14 e15 e16 e17 e18
    exact hz h9 rfl (by omega) hs.1 hs.2 h6 h8 ev
  · have ek := kind_cur h1 hc
    subst ek
    have hk0 : kd ta t = 2 := h4
    have hlt := lst (by omega)
    have hs := step_cur h5 hc hlt
    have ek1 := kind_cur h6 hs.1
    subst ek1
    exact vz hE rfl (by omega) hs.1 hs.2 (fun z => h7 z.1)
  · exfalso; omega
  · have ek := kind_cur h1 hc
    subst ek
    have hk0 : kd ta t = 2 := h4
    have hlt := lst (by omega)
    have hs := step_cur h5 hc hlt
    have ek1 := kind_cur h6 hs.1
    subst ek1
    have hlt2 : t + 1 + 1 < c := lst_lt (p0 := 16) hs.1 hl (by decide) (by decide) h7
    have eb := behind_cur h8 hs.1 hlt2
    subst eb
    exact vz hE rfl (by omega) hs.1 hs.2 (fun z => h9 z.2)
  · exfalso; omega
  · have ek := kind_cur h1 hc
    subst ek
    have hk0 : kd ta t = 2 := h4
    have hlt := lst (by omega)
    have hs := step_cur h5 hc hlt
    have ek1 := kind_cur h6 hs.1
    subst ek1
    have hlt2 : t + 1 + 1 < c := lst_lt (p0 := 16) hs.1 hl (by decide) (by decide) h7
    have eb := behind_cur h8 hs.1 hlt2
    subst eb
    subst e0 e1 e2 e3 e4 e5 e6 e7 e8 e9 e10 e11 e12 e13 e14 e15 e16 e17 e18
    exact hz h10 rfl (by omega) hs.1 hs.2 h7 h9 ev
  · exact absurd h5 h9
  · have ek := kind_cur h1 hc
    subst ek
    have hk0 : kd ta t = 3 := h5
    have hlt := lst (by omega)
    have hs := step_cur h6 hc hlt
    have ek1 := kind_cur h7 hs.1
    subst ek1
    have ex := expect_cur (p0 := 16) h10 hs.1 hl (by decide) (by decide)
    have f2 : Flq _ := (fail_r h11 (ex.1.elim (fun z => Or.inl z.2.2.2.2.1) (fun z => Or.inr z.2))).1
    exact fz hE f2 hk0 (fun z => h8 z.1)
  · exact absurd h5 h11
  · have ek := kind_cur h1 hc
    subst ek
    have hk0 : kd ta t = 3 := h5
    have hlt := lst (by omega)
    have hs := step_cur h6 hc hlt
    have ek1 := kind_cur h7 hs.1
    subst ek1
    have hlt2 : t + 1 + 1 < c := lst_lt (p0 := 16) hs.1 hl (by decide) (by decide) h8
    have eb := behind_cur h9 hs.1 hlt2
    subst eb
    have ex := expect_cur (p0 := 16) h12 hs.1 hl (by decide) (by decide)
    have f2 : Flq _ := (fail_r h13 (ex.1.elim (fun z => Or.inl z.2.2.2.2.1) (fun z => Or.inr z.2))).1
    exact fz hE f2 hk0 (fun z => h10 z.2)
  · have ek := kind_cur h1 hc
    subst ek
    have hk0 : kd ta t = 3 := h5
    have hlt := lst (by omega)
    have hs := step_cur h6 hc hlt
    have ek1 := kind_cur h7 hs.1
    subst ek1
    have hlt2 : t + 1 + 1 < c := lst_lt (p0 := 16) hs.1 hl (by decide) (by decide) h8
    have eb := behind_cur h9 hs.1 hlt2
    subst eb
    subst e0 e1 e2 e3 e4 e5 e6 e7 e8 e9 e10 e11 e12 e13 e14 e15 e16 e17 e18
    exact hz h11 rfl (by omega) hs.1 hs.2 h8 h10 ev
  · have ek := kind_cur h1 hc
    subst ek
    have g1 : ¬ kd ta t = 4 := h2
    have g2 : ¬ kd ta t = 1 := h3
    have g3 : ¬ kd ta t = 2 := h4
    have g4 : ¬ kd ta t = 3 := h5
    have e : pItem (kd ta) t 0 = none := by
      unfold pItem
      rw [if_neg g1, if_neg (by omega)]
    rw [e2]
    exact Or.inl ⟨e, (fail_r h6 (Or.inl hc.2.2.2.1)).1⟩
  · have ek := kind_cur h1 hc
    subst ek
    have hk : kd ta t = 4 := h2
    subst e0 e1 e2 e3 e4 e5 e6 e7 e8 e9 e10 e11 e12 e13 e14 e15 e16 e17 e18
    have oe := enum_ok (sc := 0) hl hN hn4 hL hFL hc hk h3
    have e : pItem (kd ta) t 0 = pEnum (kd ta) t 0 := by
      unfold pItem
      rw [if_pos hk]
    cases hr : pEnum (kd ta) t 0 with
    | none =>
      rw [hr] at oe e
      exact Or.inl ⟨e, oe⟩
    | some r =>
      obtain ⟨it, t1⟩ := r
      rw [hr] at oe e
      obtain ⟨a1, a2, a3, vs, X, a4, a5, a6, a7⟩ := oe
      subst a4
      refine Or.inr (Or.inl ⟨by rw [ev]; rfl, _, _, X, e, rfl, a1, by omega, fun i _ _ => by rw [a3], ⟨rfl, rfl, rfl, rfl⟩, pxr_tc_enumeration h3, a5, a6, rfl, fun g b w1 w2 w3 => ?_⟩)
      show AT tf tf' ((semEns (kd ta) (vd ta) (fun v => flk v (LX.map fnT)) 0 vs L 0).bind fun L' => some (L', g, b)) _
      refine AT.bind a7 (fun L' hL' => AT.ret ?_) BK.rf
      exact ⟨hL', by rw [a3]; exact w1, w2, by show g ≤ _; omega, rfl⟩
end SO
