/-- a symbol that is made for a variable -/
def nSy (v z : Int32) : Nat → Int32 := upd (upd (upd (upd (upd (upd (upd (fun _ => 0) 0 v) 1 1) 2 z) 3 0) 4 0) 5 0) 6 0
theorem nSy_m {v z : Int32} : nSy v z 0 = v ∧ nSy v z 1 = 1 ∧ nSy v z 2 = z := by
  refine ⟨?_, ?_, ?_⟩ <;> simp [nSy, upd]
/-- what a variable needs before it is declared: words and height -/
def semPre (k : Nat → Int) (vl : Nat → Int32) (ql : Nat → Int) (G : Int32 → Option Ent) (F : Int32 → Option Fnc) (tp ch : Bool) (v : Ast) (w h : Int) : Option (Int × Int) := match v with
  | .arg _ => some (w + 1, h)
  | .mul (.arg _) e => ((att k vl G F e [] 0).bind (if tp = true then aKon else aNum)).bind fun a => some (w + 1, if tp = true then h else max h a.2.2.2)
  | .sub (.arg _) e => (semSz k vl G F e).bind fun n => some (w + wds ch n, h)
  | .rem (.arg _) (.elem e l) => (semSz k vl G F e).bind fun n => ((semKs k vl G F l).bind fun m => if m ≤ n then some () else none).bind fun _ => some (w + wds ch n, h)
  | .div (.arg _) (.elem e (.arg u)) => (semSz k vl G F e).bind fun n => (if ch = true ∧ ql u < n then some () else none).bind fun _ => some (w + wds ch n, h)
  | _ => none
def entV (ch : Bool) (v : Ast) : Ent := match v with
  | .arg _ => (1, 0)
  | .mul (.arg _) _ => (1, 0)
  | _ => (if ch = true then 3 else 2, 0)
def tokV (v : Ast) : Nat := match v with
  | .arg t => t
  | .mul (.arg t) _ => t
  | .sub (.arg t) _ => t
  | .rem (.arg t) (.elem _ _) => t
  | .div (.arg t) (.elem _ (.arg _)) => t
  | _ => 0
def shV (v : Ast) : Prop := (∃ t, v = vSing t) ∨ (∃ t e, v = vInit t e) ∨ (∃ t e, v = vRow t e) ∨ (∃ t e l, v = vList t e l) ∨ (∃ t e u, v = vStr t e u)
theorem semVar_eq {k : Nat → Int} {vl : Nat → Int32} {ql : Nat → Int} {F : Int32 → Option Fnc} {tp ch : Bool} {sc : Nat} {v : Ast} {L : Nms} {w h : Int} {q : List Int32 × Bool} (hv : shV v) :
    semVar k vl ql F tp ch sc v (L, w, h, q) = (semPre k vl ql (lkp L) F tp ch v w h).bind fun p => (dcl tp F sc L (vl (tokV v)) (entV ch v)).bind fun L' => some (L', p.1, p.2, q) := by
  rcases hv with ⟨t, rfl⟩ | ⟨t, e, rfl⟩ | ⟨t, e, rfl⟩ | ⟨t, e, l, rfl⟩ | ⟨t, e, u, rfl⟩
  · rfl
  · show ((att k vl (lkp L) F e [] 0).bind _).bind _ = (((att k vl (lkp L) F e [] 0).bind _).bind _).bind _
    cases (att k vl (lkp L) F e [] 0).bind (if tp = true then aKon else aNum) with
    | none => rfl
    | some a => rfl
  · show (semSz k vl (lkp L) F e).bind _ = ((semSz k vl (lkp L) F e).bind _).bind _
    cases semSz k vl (lkp L) F e with
    | none => rfl
    | some n => rfl
  · show (semSz k vl (lkp L) F e).bind _ = ((semSz k vl (lkp L) F e).bind _).bind _
    cases semSz k vl (lkp L) F e with
    | none => rfl
    | some n =>
      show (semKs k vl (lkp L) F l).bind _ = (((semKs k vl (lkp L) F l).bind _).bind _).bind _
      cases semKs k vl (lkp L) F l with
      | none => rfl
      | some m =>
        show (if m ≤ n then _ else none) = ((if m ≤ n then some () else none : Option Unit).bind _).bind _
        by_cases z : m ≤ n
        · rw [if_pos z, if_pos z]; rfl
        · rw [if_neg z, if_neg z]; rfl
  · show (semSz k vl (lkp L) F e).bind _ = ((semSz k vl (lkp L) F e).bind _).bind _
    cases semSz k vl (lkp L) F e with
    | none => rfl
    | some n =>
      show (if ch = true ∧ ql u < n then _ else none) = ((if ch = true ∧ ql u < n then some () else none : Option Unit).bind _).bind _
      by_cases z : ch = true ∧ ql u < n
      · rw [if_pos z, if_pos z]
        show (dcl tp F sc L (vl t) (3, 0)).bind _ = (dcl tp F sc L (vl t) (if ch = true then 3 else 2, 0)).bind _
        rw [if_pos z.1]
      · rw [if_neg z, if_neg z]; rfl
theorem chs_nSy {v z : Int32} : chS (nSy v z) = if (z &&& 2).toInt = 0 then false else true := by
  unfold chS
  rw [nSy_m.2.2]
theorem ent_sing {v z : Int32} {b : Int32} (hz : z = 0 ∨ z = 1 ∨ z = 2 ∨ z = 3) : EntM (upd (nSy v z) 3 b) (1, 0) ∧ ¬ (upd (nSy v z) 3 b 1).toInt = 2 := by
  obtain ⟨n0, n1, n2⟩ := @nSy_m v z
  have m := (m4_2q hz).2.2
  have e1 : upd (nSy v z) 3 b 1 = 1 := by rw [pk_un (by decide), n1]
  have e2 : upd (nSy v z) 3 b 2 = z := by rw [pk_un (by decide), n2]
  unfold EntM entC
  rw [e1, e2, if_neg (by decide), if_pos m]
  exact ⟨⟨rfl, fun q => absurd q (by decide)⟩, by decide⟩
theorem ent_row {v z s b : Int32} (hz : z = 0 ∨ z = 1 ∨ z = 2 ∨ z = 3) : EntM (upd (upd (upd (nSy v z) 2 (nSy v z 2 ||| 4)) 4 s) 3 b) (if chS (nSy v z) = true then 3 else 2, 0) ∧ ¬ (upd (upd (upd (nSy v z) 2 (nSy v z 2 ||| 4)) 4 s) 3 b 1).toInt = 2 := by
  obtain ⟨n0, n1, n2⟩ := @nSy_m v z
  obtain ⟨m1, m2, m3⟩ := m4_2q hz
  have e1 : upd (upd (upd (nSy v z) 2 (nSy v z 2 ||| 4)) 4 s) 3 b 1 = 1 := by rw [pk_un (by decide), pk_un (by decide), pk_un (by decide), n1]
  have e2 : upd (upd (upd (nSy v z) 2 (nSy v z 2 ||| 4)) 4 s) 3 b 2 = z ||| 4 := by rw [pk_un (by decide), pk_un (by decide), pk_us, n2]
  unfold EntM entC chS
  rw [e1, e2, n2, if_neg (by decide), if_neg m2, m1]
  refine ⟨⟨?_, fun q => absurd q (by decide)⟩, by decide⟩
  by_cases q : (z &&& 2).toInt = 0
  · rw [if_pos q, if_pos q, if_neg (by decide)]
  · rw [if_neg q, if_neg q, if_pos rfl]
theorem AT.bm {α β γ : Type} {a b : Nat → Int32} {x : Option α} {g : α → β} {g' : α → γ} {N : β → Prop} {N' : γ → Prop} (h : AT a b (x.bind fun y => some (g y)) N) (k : ∀ y, N (g y) → N' (g' y)) : AT a b (x.bind fun y => some (g' y)) N' := by
  intro u
  have q := h u
  cases x with
  | none => exact q
  | some y => exact ⟨q.1, k y q.2⟩
/-- what a row begins with: its string or its list, and where that ends -/
def pVal (k : Nat → Int) (t1 : Nat) (e : Ast) (t : Nat) (o : Int) : Option (Ast × Nat) := if k t = 18 then some (vStr t1 e t, t + 1) else (match pKsB k t o with
  | none => none
  | some (l, t3) => some (vList t1 e l, t3))
def semVal (k : Nat → Int) (vl : Nat → Int32) (ql : Nat → Int) (G : Int32 → Option Ent) (F : Int32 → Option Fnc) (ch : Bool) (n : Int) (v : Ast) : Option Unit := match v with
  | .rem (.arg _) (.elem _ l) => (semKs k vl G F l).bind fun m => if m ≤ n then some () else none
  | .div (.arg _) (.elem _ (.arg u)) => if ch = true ∧ ql u < n then some () else none
  | _ => none
theorem pvar_row {k : Nat → Int} {o : Int} {t : Nat} (h16 : k t = 16) (h91 : k (t + 1) = 91) : pVar k o t = (match pRw k (t + 1) o with
    | none => none
    | some (e, b, t2) => if b = true then pVal k t e t2 o else some (vRow t e, t2)) := by
  unfold pVar pRw pVal pKsB
  rw [if_pos h16, if_pos h91]
  by_cases ho : o < 60
  · rw [if_pos ho, if_pos ⟨h91, ho⟩]
    cases pE k 0 (t + 1 + 1) (o + 1) with
    | none => rfl
    | some r =>
      obtain ⟨e, t1⟩ := r
      by_cases h93 : k t1 = 93
      · simp only [h93, if_true]
        by_cases h256 : k (t1 + 1) = 256
        · simp only [h256, if_true]
          by_cases h18 : k (t1 + 2) = 18
          · simp only [h18, if_true]
          · simp only [h18, if_false]
            by_cases hb : k (t1 + 2) = 123 ∧ o < 60
            · simp only [hb, and_self, if_true]
              cases pKs k (o + 1) 2048 (t1 + 2 + 1) with
              | none => rfl
              | some r2 =>
                obtain ⟨l, t2⟩ := r2
                by_cases h125 : k t2 = 125
                · simp only [h125, if_true]
                · simp only [h125, if_false]
            · simp only [hb, if_false]
        · simp only [h256, if_false]
          simp
      · simp only [h93, if_false]
  · rw [if_neg ho, if_neg (fun q => ho q.2)]
theorem pvar_sin {k : Nat → Int} {o : Int} {t : Nat} (h16 : k t = 16) (h91 : ¬ k (t + 1) = 91) : pVar k o t = (match pSin k (t + 1) o with
    | none => none
    | some (none, t2) => some (vSing t, t2)
    | some (some e, t2) => some (vInit t e, t2)) := by
  unfold pVar pSin
  rw [if_pos h16, if_neg h91]
  by_cases h256 : k (t + 1) = 256
  · rw [if_pos h256, if_pos h256]
    cases pE k (-1) (t + 1 + 1) o with
    | none => rfl
    | some r => rfl
  · rw [if_neg h256, if_neg h256]
section S5
variable {ta : Nat → Nat → Int32} {cn sn : Nat} {na : Nat → Nat → Int32} {own' : Bool} {P' : va_W} {nf lf' : Nat → Int32} {lg' : Nat → Option Nat} {ff : Nat → Int32} {fg : Nat → Option Nat} {lq' lc' : Nat}
variable {tf' fp' cd' cf' fs' sd' : Nat → Int32} {fo : Option Nat} {c sc : Nat} {o : Int} {p0 : Int32}
variable {owna : Bool} {lqa lca : Nat} {lfa : Nat → Int32} {lga : Nat → Option Nat} {Pa : va_W} {cfa tfa fpa cda fsa sda sfa : Nat → Int32} {G : Int32 → Option Ent} {F : Int32 → Option Fnc}
theorem var_146 {x3 xt x6 x7 : Int32} {k q : Nat} (h : E_tc_variables fo ta cn nf na ff fg sn p0 cf' tf' fp' cd' own' lq' lc' lf' lg' P' fs' sd' k 146 [x3, xt, x6, x7] [] [] [sfa] [q] cfa tfa fpa cda owna lqa lca lfa lga Pa fsa sda) (hc : x6.toInt < (tfa 10).toInt) :
    ∃ (k : Nat) (tfx : Nat → Int32), E_tc_variables fo ta cn nf na ff fg sn p0 cf' tf' fp' cd' own' lq' lc' lf' lg' P' fs' sd' k 162 [x3, xt] [] [] [sfa] [q] cfa tfx fpa cda owna lqa lca lfa lga Pa fsa sda ∧ SmB tfa tfx ∧ BK tfa tfx ∧ (¬ x7.toInt = 0 → tfx = tfa) ∧ (x7.toInt = 0 → Un tfa → Bd tfx) := by
  rcases iv_tc_variables_146 h with ⟨k, (⟨h1, hE⟩ | ⟨h1, tf46, h2, hE⟩)⟩
  · exact ⟨k, tfa, hE, SmB.rf, BK.rf, fun _ => rfl, fun q => absurd q h1⟩
  · exact ⟨k, tf46, hE, blame_b h2, bkr_tk_blame (by decide) h2, fun q => absurd h1 q, fun _ u => blame_un h2 (by decide) hc u⟩
theorem var_108 (hG : EnvC owna Pa lfa lga G) (hF : FunC na Pa ff fg F) (hl : Lst0 ta c) {x3 xt : Int32} {k q t1 t : Nat} {e : Ast} (h : E_tc_variables fo ta cn nf na ff fg sn p0 cf' tf' fp' cd' own' lq' lc' lf' lg' P' fs' sd' k 108 [x3, xt] [] [] [sfa] [q] cfa tfa fpa cda owna lqa lca lfa lga Pa fsa sda) (hc : Cur tfa c t o) :
    (pVal (kd ta) t1 e t o = none ∧ Flq tf') ∨ ∃ (v : Ast) (t3 k : Nat) (tfx fpx cdx fsx sdx : Nat → Int32), pVal (kd ta) t1 e t o = some (v, t3) ∧ E_tc_variables fo ta cn nf na ff fg sn p0 cf' tf' fp' cd' own' lq' lc' lf' lg' P' fs' sd' k 162 [x3, xt] [] [] [sfa] [q] cfa tfx fpx cdx owna lqa lca lfa lga Pa fsx sdx ∧ BK tfa tfx ∧ Cur tfx c t3 o ∧ t < t3 ∧ ((∃ l, v = vList t1 e l) ∨ (∃ u, v = vStr t1 e u)) ∧ AT tfa tfx (semVal (kd ta) (vd ta) (qlS ta) G F (chS sfa) (sfa 4).toInt v) (fun _ => True) := by
  have h13 : (tfa 13).toInt < (tfa 10).toInt := by rw [hc.2.1, hc.1]; have := hc.2.2.2.2.1; omega
  unfold pVal
  rcases iv_tc_variables_108 h with ⟨k, v56, h1, (⟨h2, tf67, fp68, cd69, fs70, sd71, v73, h3, hE⟩ | ⟨h2, tf99, fp100, cd101, fs102, sd103, v105, h3, hE⟩)⟩
  · rw [kind_cur h1 hc] at h2
    rw [if_neg (show ¬ kd ta t = 18 from h2)]
    have lo := lst_ok hG hF hl h3 hc
    have t10 : (tf67 10) = (tfa 10) := (tkr_tc_list h3).1 10 (by decide) (by decide) (by decide) (by decide) (by decide) (by decide)
    cases hr : pKsB (kd ta) t o with
    | none =>
      rw [hr] at lo
      exact Or.inl ⟨rfl, (tke_tc_variables _ _ _ _ _ _ _ _ _ _ _ _ _ _ _ _ _ _ _ hE).2 lo⟩
    | some r =>
      obtain ⟨l, t3⟩ := r
      rw [hr] at lo
      obtain ⟨a1, a2, a3⟩ := lo
      obtain ⟨k, tfx, hE, s1, s2, s3, s4⟩ := var_146 hE (by rw [t10]; exact h13)
      refine Or.inr ⟨vList t1 e l, t3, k, tfx, _, _, _, _, rfl, hE, BK.tr (bkr_tc_list h3) s2, s1.cur a1, a2, Or.inl ⟨l, rfl⟩, ?_⟩
      show AT tfa tfx ((semKs (kd ta) (vd ta) G F l).bind fun m => if m ≤ (sfa 4).toInt then some () else none) _
      refine AT.bind a3 (fun m hm => ?_) s2
      by_cases z : m ≤ (sfa 4).toInt
      · rw [if_pos z]
        rw [if_neg (by omega)] at hm
        rw [s3 (by omega)]
        exact AT.ret trivial
      · rw [if_neg z]
        rw [if_pos (by omega)] at hm
        exact fun u => s4 hm u
  · rw [kind_cur h1 hc] at h2
    rw [if_pos (show kd ta t = 18 from h2)]
    obtain ⟨a1, a2, a3⟩ := str_ok hl h3 hc h2
    have t10 : (tf99 10) = (tfa 10) := a2 10 (by decide) (by decide) (by decide) (by decide)
    obtain ⟨k, tfx, hE, s1, s2, s3, s4⟩ := var_146 hE (by rw [t10]; exact h13)
    refine Or.inr ⟨vStr t1 e t, t + 1, k, tfx, _, _, _, _, rfl, hE, BK.tr (fun x => SmC.bd a2 x) s2, s1.cur a1, Nat.lt_succ_self _, Or.inr ⟨t, rfl⟩, ?_⟩
    show AT tfa tfx (if chS sfa = true ∧ qlS ta t < (sfa 4).toInt then some () else none) _
    refine AT.sm a2 ?_
    by_cases z : chS sfa = true ∧ qlS ta t < (sfa 4).toInt
    · rw [if_pos z]
      rw [if_pos z] at a3
      rw [s3 (by omega)]
      exact AT.ret trivial
    · rw [if_neg z]
      rw [if_neg z] at a3
      exact fun u => s4 a3 u
/-- the height counts in a function alone -/
def HB (fo : Option Nat) (cf : Nat → Int32) (h : Int) : Prop := fo = none ∨ ((cf 13).toInt = h ∧ 0 ≤ h ∧ h ≤ 5000)
theorem HB.co {fo : Option Nat} {cf cf' : Nat → Int32} {h : Int} (q : HB fo cf h) (e : (cf' 13).toInt = (cf 13).toInt) : HB fo cf' h := q.imp id (fun z => ⟨e.trans z.1, z.2⟩)
/-- one variable, up to where it is declared -/
def OkV1 (ta : Nat → Nat → Int32) (c : Nat) (o : Int) (fo : Option Nat) (G : Int32 → Option Ent) (F : Int32 → Option Fnc) (ch : Bool) (t1 : Nat) (v : Ast) (t2 : Nat) (cfa tfa cfx tfx sfx : Nat → Int32) : Prop :=
  (shV v ∧ tokV v = t1) ∧ (sfx 0 = vd ta t1 ∧ EntM sfx (entV ch v) ∧ ¬ (sfx 1).toInt = 2) ∧ Cur tfx c t2 o ∧ t1 < t2 ∧ (∀ i : Nat, i ≠ wc fo → i ≠ 13 → cfx i = cfa i) ∧ ∀ w h : Int, (cfa (wc fo)).toInt = w → 0 ≤ w → w ≤ 4096 * (t1 : Int) → HB fo cfa h → AT tfa tfx (semPre (kd ta) (vd ta) (qlS ta) G F (tpF fo) ch v w h) (fun p => (cfx (wc fo)).toInt = p.1 ∧ 0 ≤ p.1 ∧ p.1 ≤ 4096 * (t2 : Int) ∧ HB fo cfx p.2)
theorem var_69 (hG : EnvC owna Pa lfa lga G) (hF : FunC na Pa ff fg F) (hl : Lst0 ta c) {x3 xt v z : Int32} {k q t1 : Nat} {ch : Bool} (hme : R_tk_meaning ta tfa v) (hz : z = 0 ∨ z = 1 ∨ z = 2 ∨ z = 3) (hch : chS (nSy v z) = ch) (h : E_tc_variables fo ta cn nf na ff fg sn p0 cf' tf' fp' cd' own' lq' lc' lf' lg' P' fs' sd' k 69 [x3, xt] [] [] [nSy v z] [q] cfa tfa fpa cda owna lqa lca lfa lga Pa fsa sda) (hc : Cur tfa c t1 o) :
    (pVar (kd ta) o t1 = none ∧ Flq tf') ∨ ∃ (v : Ast) (t2 k : Nat) (sfx cfx tfx fpx cdx fsx sdx : Nat → Int32), pVar (kd ta) o t1 = some (v, t2) ∧ E_tc_variables fo ta cn nf na ff fg sn p0 cf' tf' fp' cd' own' lq' lc' lf' lg' P' fs' sd' k 162 [x3, xt] [] [] [sfx] [q] cfx tfx fpx cdx owna lqa lca lfa lga Pa fsx sdx ∧ BK tfa tfx ∧ OkV1 ta c o fo G F ch t1 v t2 cfa tfa cfx tfx sfx := by
  have em := mean_cur hme hc
  subst em
  have c1 := hc.2.2.2.2.1
  have c2 := hc.2.2.2.2.2.1
  obtain ⟨n0, n1, n2⟩ := @nSy_m (ta 2 t1) z
  have hz2 : nSy (ta 2 t1) z 2 = 0 ∨ nSy (ta 2 t1) z 2 = 1 ∨ nSy (ta 2 t1) z 2 = 2 ∨ nSy (ta 2 t1) z 2 = 3 := by rw [n2]; exact hz
  have w13 : wc fo ≠ 13 := by
    cases fo with
    | none => exact (by decide : (11 : Nat) ≠ 13)
    | some _ => exact (by decide : (12 : Nat) ≠ 13)
  have wdb : ∀ n : Int, 1 ≤ n → n ≤ 4096 → 0 ≤ wds ch n ∧ wds ch n ≤ 4096 := by
    intro n a b
    unfold wds
    by_cases q : ch = true
    · rw [if_pos q]; omega
    · rw [if_neg q]; omega
  rcases iv_tc_variables_69 h with ⟨k, tf121, h1, v131, h2, (⟨h3, cf144, tf145, fp146, cd147, fs148, sd149, sf150, v152, h4, (⟨h5, hE⟩ | ⟨h5, hE⟩)⟩ | ⟨h3, cf191, tf192, fp193, cd194, fs195, sd196, sf197, h4, hE⟩)⟩
  · have ex := expect_cur (p0 := 16) h1 hc hl (by decide) (by decide)
    rcases ex.1 with ⟨q1, q2⟩ | ⟨q1, q2⟩
    · have hk : kd ta t1 = 16 := by unfold kd; rw [q1]; rfl
      have ek := kind_cur h2 q2
      subst ek
      have pv := pvar_row (k := kd ta) (o := o) hk h3
      obtain ⟨⟨s, b, r1⟩, r2, r3⟩ := row_ok hG hF hl h4 q2 hz2
      cases hr : pRw (kd ta) (t1 + 1) o with
      | none =>
        rw [hr] at r3 pv
        exact Or.inl ⟨pv, (tke_tc_variables _ _ _ _ _ _ _ _ _ _ _ _ _ _ _ _ _ _ _ hE).2 r3⟩
      | some r =>
        obtain ⟨e, bb, t2⟩ := r
        rw [hr] at r3 pv
        obtain ⟨r4, r5, r6, r7⟩ := r3
        cases bb with
        | true => rw [h5] at r6; exact absurd r6 (by decide)
        | false =>
          obtain ⟨t1e, t1n⟩ := ent_row (v := ta 2 t1) (s := s) (b := b) hz
          refine Or.inr ⟨vRow t1 e, t2, k, sf150, cf144, tf145, _, _, _, _, pv, hE, BK.tr (bkr_tk_expect h1) (bkr_tc_row h4), ⟨Or.inr (Or.inr (Or.inl ⟨t1, e, rfl⟩)), rfl⟩, ⟨?_, ?_, ?_⟩, r4, by omega, fun i hi _ => r2 i hi, fun w h hw b1 b2 b3 => ?_⟩
          · rw [r1, pk_un (by decide), pk_un (by decide), pk_un (by decide), n0]; rfl
          · rw [r1, ← hch]; exact t1e
          · rw [r1]; exact t1n
          · show AT tfa tf145 ((semSz (kd ta) (vd ta) G F e).bind fun n => some (w + wds ch n, h)) _
            refine AT.bind (AT.sm ex.2 r7) (fun n hn => AT.ret ?_) BK.rf
            obtain ⟨hn1, hn2, hn3, hn4⟩ := hn
            have hw2 := hn4 (by omega) (by omega)
            rw [hch, hw] at hw2
            have := wdb n hn2 hn3
            exact ⟨hw2, by omega, by omega, b3.co (by rw [r2 13 (Ne.symm w13)])⟩
    · have hk : ¬ kd ta t1 = 16 := fun z => q1 (i_eq.mpr z)
      exact Or.inl ⟨by unfold pVar; rw [if_neg hk], (tke_tc_variables _ _ _ _ _ _ _ _ _ _ _ _ _ _ _ _ _ _ _ hE).2 ((tkr_tc_row h4).2 q2)⟩
  · have ex := expect_cur (p0 := 16) h1 hc hl (by decide) (by decide)
    rcases ex.1 with ⟨q1, q2⟩ | ⟨q1, q2⟩
    · have hk : kd ta t1 = 16 := by unfold kd; rw [q1]; rfl
      have ek := kind_cur h2 q2
      subst ek
      have pv := pvar_row (k := kd ta) (o := o) hk h3
      obtain ⟨⟨s, b, r1⟩, r2, r3⟩ := row_ok hG hF hl h4 q2 hz2
      cases hr : pRw (kd ta) (t1 + 1) o with
      | none =>
        rw [hr] at r3 pv
        exact Or.inl ⟨pv, (tke_tc_variables _ _ _ _ _ _ _ _ _ _ _ _ _ _ _ _ _ _ _ hE).2 r3⟩
      | some r =>
        obtain ⟨e, bb, t2⟩ := r
        rw [hr] at r3 pv
        obtain ⟨r4, r5, r6, r7⟩ := r3
        cases bb with
        | false => exact absurd r6 h5
        | true =>
          have pv' : pVar (kd ta) o t1 = pVal (kd ta) t1 e t2 o := pv
          have chE : chS sf150 = ch := by
            rw [← hch, r1]
            unfold chS
            rw [pk_un (by decide), pk_un (by decide), pk_us, (m4_2q hz2).1]
          obtain ⟨t1e, t1n⟩ := ent_row (v := ta 2 t1) (s := s) (b := b) hz
          rcases var_108 (t1 := t1) (e := e) hG hF hl hE r4 with ⟨p1, p2⟩ | ⟨v, t3, k, tfx, fpx, cdx, fsx, sdx, p1, p2, p3, p4, p5, p6, p7⟩
          · exact Or.inl ⟨by rw [pv', p1], p2⟩
          · rw [chE] at p7
            have hent : entV ch v = (if ch = true then 3 else 2, 0) := by rcases p6 with ⟨l, rfl⟩ | ⟨u, rfl⟩ <;> rfl
            have hsp : ∀ w h : Int, semPre (kd ta) (vd ta) (qlS ta) G F (tpF fo) ch v w h = (semSz (kd ta) (vd ta) G F e).bind fun n => (semVal (kd ta) (vd ta) (qlS ta) G F ch n v).bind fun _ => some (w + wds ch n, h) := by
              intro w h
              rcases p6 with ⟨l, rfl⟩ | ⟨u, rfl⟩ <;> rfl
            refine Or.inr ⟨v, t3, k, sf150, cf144, tfx, fpx, cdx, fsx, sdx, by rw [pv', p1], p2, BK.tr (bkr_tk_expect h1) (BK.tr (bkr_tc_row h4) p3), ⟨?_, ?_⟩, ⟨?_, ?_, ?_⟩, p4, by omega, fun i hi _ => r2 i hi, fun w h hw b1 b2 b3 => ?_⟩
            · rcases p6 with ⟨l, rfl⟩ | ⟨u, rfl⟩
              · exact Or.inr (Or.inr (Or.inr (Or.inl ⟨t1, e, l, rfl⟩)))
              · exact Or.inr (Or.inr (Or.inr (Or.inr ⟨t1, e, u, rfl⟩)))
            · rcases p6 with ⟨l, rfl⟩ | ⟨u, rfl⟩ <;> rfl
            · rw [r1, pk_un (by decide), pk_un (by decide), pk_un (by decide), n0]; rfl
            · rw [hent, r1, ← hch]; exact t1e
            · rw [r1]; exact t1n
            · rw [hsp]
              refine AT.bind (AT.sm ex.2 r7) (fun n hn => ?_) p3
              obtain ⟨hn1, hn2, hn3, hn4⟩ := hn
              rw [hn1] at p7
              refine AT.bind p7 (fun _ _ => AT.ret ?_) BK.rf
              have hw2 := hn4 (by omega) (by omega)
              rw [hch, hw] at hw2
              have := wdb n hn2 hn3
              exact ⟨hw2, by omega, by omega, b3.co (by rw [r2 13 (Ne.symm w13)])⟩
    · have hk : ¬ kd ta t1 = 16 := fun z => q1 (i_eq.mpr z)
      exact Or.inl ⟨by unfold pVar; rw [if_neg hk], (tke_tc_variables _ _ _ _ _ _ _ _ _ _ _ _ _ _ _ _ _ _ _ hE).2 ((tkr_tc_row h4).2 q2)⟩
  · have ex := expect_cur (p0 := 16) h1 hc hl (by decide) (by decide)
    rcases ex.1 with ⟨q1, q2⟩ | ⟨q1, q2⟩
    · have hk : kd ta t1 = 16 := by unfold kd; rw [q1]; rfl
      have ek := kind_cur h2 q2
      subst ek
      have pv := pvar_sin (k := kd ta) (o := o) hk h3
      obtain ⟨⟨b, r1⟩, r2, ⟨zz, r8, r9⟩, r3⟩ := sin_ok hG hF hl h4 q2
      obtain ⟨t1e, t1n⟩ := ent_sing (v := ta 2 t1) (b := b) hz
      cases hr : pSin (kd ta) (t1 + 1) o with
      | none =>
        rw [hr] at r3 pv
        exact Or.inl ⟨pv, (tke_tc_variables _ _ _ _ _ _ _ _ _ _ _ _ _ _ _ _ _ _ _ hE).2 r3⟩
      | some r =>
        obtain ⟨me, t2⟩ := r
        rw [hr] at r3 pv
        obtain ⟨r4, r5, r6⟩ := r3
        have rw2 : ∀ w : Int, (cfa (wc fo)).toInt = w → 0 ≤ w → w ≤ 4096 * (t1 : Int) → (cf191 (wc fo)).toInt = w + 1 := by
          intro w hw b1 b2
          rw [r9]
          exact ti_add r8 hw (show (1 : Int32).toInt = 1 from rfl) (by omega) (by omega)
        cases me with
        | none =>
          refine Or.inr ⟨vSing t1, t2, k, sf197, cf191, tf192, _, _, _, _, pv, hE, BK.tr (bkr_tk_expect h1) (bkr_tc_single h4), ⟨Or.inl ⟨t1, rfl⟩, rfl⟩, ⟨?_, ?_, ?_⟩, r4, by omega, r2, fun w h hw b1 b2 b3 => ?_⟩
          · rw [r1, pk_un (by decide), n0]; rfl
          · rw [r1]; exact t1e
          · rw [r1]; exact t1n
          · show AT tfa tf192 (some (w + 1, h)) _
            refine AT.sm ex.2 (fun u => ?_)
            have z := r6 u
            exact ⟨z.1, rw2 w hw b1 b2, by omega, by omega, b3.co z.2.1⟩
        | some e =>
          refine Or.inr ⟨vInit t1 e, t2, k, sf197, cf191, tf192, _, _, _, _, pv, hE, BK.tr (bkr_tk_expect h1) (bkr_tc_single h4), ⟨Or.inr (Or.inl ⟨t1, e, rfl⟩), rfl⟩, ⟨?_, ?_, ?_⟩, r4, by omega, r2, fun w h hw b1 b2 b3 => ?_⟩
          · rw [r1, pk_un (by decide), n0]; rfl
          · rw [r1]; exact t1e
          · rw [r1]; exact t1n
          · show AT tfa tf192 (((att (kd ta) (vd ta) G F e [] 0).bind (if tpF fo = true then aKon else aNum)).bind fun a => some (w + 1, if tpF fo = true then h else max h a.2.2.2)) _
            have z := r6
            refine AT.sm ex.2 (AT.bm (g := fun (a : Atr) => if tpF fo = true then (cfa 13).toInt else max (cfa 13).toInt a.2.2.2) (show AT tf121 tf192 (((att (kd ta) (vd ta) G F e [] 0).bind (if tpF fo = true then aKon else aNum)).bind fun (a : Atr) => some (if tpF fo = true then (cfa 13).toInt else max (cfa 13).toInt a.2.2.2)) (fun x => (cf191 13).toInt = x ∧ x ≤ max (cfa 13).toInt (2 * ((t2 : Int) - ((t1 + 1 : Nat) : Int)))) from z) (fun a za => ?_))
            obtain ⟨z2, z3⟩ := za
            have r4' := r4.2.2.2.2.1
            refine ⟨rw2 w hw b1 b2, by show 0 ≤ w + 1; omega, by show w + 1 ≤ _; omega, ?_⟩
            show HB fo cf191 (if tpF fo = true then h else max h a.2.2.2)
            rcases b3 with b3 | ⟨hh, b3, b4⟩
            · exact Or.inl b3
            · rw [hh] at z2 z3
              refine Or.inr ⟨z2, ?_, ?_⟩
              · show 0 ≤ if tpF fo = true then h else max h a.2.2.2
                by_cases y : tpF fo = true
                · rw [if_pos y]; omega
                · rw [if_neg y]; omega
              · show (if tpF fo = true then h else max h a.2.2.2) ≤ 5000
                have z3' : (if tpF fo = true then h else max h a.2.2.2) ≤ max h (2 * ((t2 : Int) - ((t1 + 1 : Nat) : Int))) := z3
                omega
    · have hk : ¬ kd ta t1 = 16 := fun z => q1 (i_eq.mpr z)
      exact Or.inl ⟨by unfold pVar; rw [if_neg hk], (tke_tc_variables _ _ _ _ _ _ _ _ _ _ _ _ _ _ _ _ _ _ _ hE).2 ((tkr_tc_single h4).2 q2)⟩
end S5
/-- what variables have done -/
def OkV (ta : Nat → Nat → Int32) (c sc : Nat) (o : Int) (fo : Option Nat) (Flq' : List (Int32 × Fnc)) (ch : Bool) (t1 : Nat) (L : Nms) (r : Option (Ast × Nat)) (cfa tfa : Nat → Int32) (cf' tf' : Nat → Int32) (own' : Bool) (P' : va_W) (lf' : Nat → Int32) (lg' : Nat → Option Nat) : Prop := match r with
  | none => Flq tf'
  | some (vs, t2) => (∀ i : Nat, i ≠ wc fo → i ≠ 13 → cf' i = cfa i) ∧ Cur tf' c t2 o ∧ t1 < t2 ∧ ∃ X : Nms, EnvL own' P' lf' lg' (L ++ X) ∧ X.length ≤ t2 - t1 ∧ ∀ (w h : Int) (q : List Int32 × Bool), (cfa (wc fo)).toInt = w → 0 ≤ w → w ≤ 4096 * (t1 : Int) → HB fo cfa h → AT tfa tf' (semVars (kd ta) (vd ta) (qlS ta) (fun v => flk v Flq') (tpF fo) ch sc vs (L, w, h, q)) (fun s => s.1 = L ++ X ∧ (cf' (wc fo)).toInt = s.2.1 ∧ s.2.2.2 = q ∧ 0 ≤ s.2.1 ∧ s.2.1 ≤ 4096 * (t2 : Int) ∧ HB fo cf' s.2.2.1)
theorem e3_bind {β : Type} {x : Option (Int × Int)} {y : Option Nms} {q : List Int32 × Bool} {f : Sg → Option β} : (x.bind fun p => y.bind fun L' => some ((L', p.1, p.2, q) : Sg)).bind f = x.bind fun p => y.bind fun L' => f (L', p.1, p.2, q) := by
  cases x with
  | none => rfl
  | some p =>
    cases y with
    | none => rfl
    | some l => rfl
section S6
variable {ta : Nat → Nat → Int32} {cn sn : Nat} {na : Nat → Nat → Int32} {own own' : Bool} {P P' : va_W} {nf lf lf' : Nat → Int32} {lg lg' : Nat → Option Nat} {ff : Nat → Int32} {fg : Nat → Option Nat} {lq lc lq' lc' : Nat}
variable {tf fp cd cf fs sd tf' fp' cd' cf' fs' sd' : Nat → Int32} {fo : Option Nat} {c sc : Nat} {o : Int} {Flq' : List (Int32 × Fnc)} {p0 : Int32}
theorem vars_loop (hl : Lst0 ta c) (hN : ND P') (hs4 : (nf 4).toInt = (sc : Int)) {ch : Bool} (hch : ch = decide (p0.toInt = 2)) :
    ∀ (n k i : Nat) (x2 x3 : Int32) (cfa tfa fpa cda : Nat → Int32) (owna : Bool) (lqa lca : Nat) (lfa : Nat → Int32) (lga : Nat → Option Nat) (Pa : va_W) (fsa sda : Nat → Int32) (t1 : Nat) (L : Nms), E_tc_variables fo ta cn nf na ff fg sn p0 cf' tf' fp' cd' own' lq' lc' lf' lg' P' fs' sd' k 4 [x2, x3] [] [] [] [] cfa tfa fpa cda owna lqa lca lfa lga Pa fsa sda → x2.toInt = 1 → x3.toInt = (i : Int) → i + n = 2048 → 2 * i ≤ t1 → Cur tfa c t1 o → EnvL owna Pa lfa lga L → FunL na Pa ff fg Flq' →
      OkV ta c sc o fo Flq' ch t1 L (pVars (kd ta) o n t1) cfa tfa cf' tf' own' P' lf' lg' := by
  intro n
  induction n with
  | zero =>
    intro k i x2 x3 cfa tfa fpa cda owna lqa lca lfa lga Pa fsa sda t1 L h hx2 hx3 hin ht hc hL hF
    have c1 := hc.2.2.2.2.1
    have c2 := hc.2.2.2.2.2.1
    exfalso; omega
  | succ n ih =>
    intro k i x2 x3 cfa tfa fpa cda owna lqa lca lfa lga Pa fsa sda t1 L h hx2 hx3 hin ht hc hL hF
    have c1 := hc.2.2.2.2.1
    have c2 := hc.2.2.2.2.2.1
    have hNa : ND Pa := by
      obtain ⟨X, e⟩ := pxe_tc_variables _ _ _ _ _ _ _ _ _ _ _ _ _ _ _ _ _ _ _ h
      have hN' := hN
      rw [e] at hN'
      exact hN'.ap
    have hG := find_all hNa hL
    have hFC := fun_all hNa hF
    have un : pVars (kd ta) o (n + 1) t1 = (match pVar (kd ta) o t1 with
      | none => none
      | some (v, t2) => if kd ta t2 = 44 then (match pVars (kd ta) o n (t2 + 1) with
          | none => none
          | some (r, t3) => some (.add v r, t3)) else some (.add v .null, t2)) := by first | rfl | simp [pVars]
    have main : ∀ {k q : Nat} {v z : Int32}, R_tk_meaning ta tfa v → (z = 0 ∨ z = 1 ∨ z = 2 ∨ z = 3) → chS (nSy v z) = ch → E_tc_variables fo ta cn nf na ff fg sn p0 cf' tf' fp' cd' own' lq' lc' lf' lg' P' fs' sd' k 69 [x3, tfa 13] [] [] [nSy v z] [q] cfa tfa fpa cda owna lqa lca lfa lga Pa fsa sda → OkV ta c sc o fo Flq' ch t1 L (pVars (kd ta) o (n + 1) t1) cfa tfa cf' tf' own' P' lf' lg' := by
      intro k q v z hme hz hch' hE
      rcases var_69 hG hFC hl hme hz hch' hE hc with ⟨p1, p2⟩ | ⟨v, t2, k, sfx, cfx, tfx, fpx, cdx, fsx, sdx, hv, hE, bka, ⟨hsh, htok⟩, ⟨hs0, hse, hs1⟩, hcx, ht12, hco, hA⟩
      · unfold OkV
        rw [un, p1]
        exact p2
      · have d1 := hcx.2.2.2.2.1
        obtain ⟨k, P1, g1, tf8, own9, lq10, lc11, lf12, lg13, g2, tf32, v34, g3, z43, g4, hE⟩ := iv_tc_variables_162 hE
        have hN1 : ND P1 := by
          obtain ⟨X, e⟩ := pxe_tc_variables _ _ _ _ _ _ _ _ _ _ _ _ _ _ _ _ _ _ _ hE
          have hN' := hN
          rw [e] at hN'
          exact hN'.ap
        have hL1 : EnvL owna P1 lfa lga L := by rw [g1]; exact hL.ap
        have hF1 : FunL na P1 ff fg Flq' := by rw [g1]; exact hF.ap
        have hS1 : SymAt P1 q sfx := by rw [g1]; exact SymAt.new
        obtain ⟨r1, r2, r3⟩ := dec_ok hN1 hL1 hs4 hF1 g2 hcx (by rw [hc.2.1]; omega) hS1 hse hs1
        have hc8 := r1.cur hcx
        have hz43 := ti_add g4 hx3 (show (1 : Int32).toInt = 1 from rfl) (by omega) (by omega)
        rw [hs0] at r2 r3
        have bk8 : BK tf8 tf' := fun x => bke_tc_variables _ _ _ _ _ _ _ _ _ _ _ _ _ _ _ _ _ _ _ hE (bkr_tk_accept g3 x)
        have bkx : BK tfx tf' := fun x => bk8 (bkr_tc_declare g2 x)
        have glue : ∀ {r : Ast} {N : List Int32 × Bool → Sg → Prop}, (∀ (w h : Int) (q : List Int32 × Bool), (cfx (wc fo)).toInt = w → 0 ≤ w → w ≤ 4096 * (t2 : Int) → HB fo cfx h → AT tf8 tf' (semVars (kd ta) (vd ta) (qlS ta) (fun v => flk v Flq') (tpF fo) ch sc r (L ++ [(vd ta t1, entV ch v)], w, h, q)) (N q)) →
          ∀ (w h : Int) (q : List Int32 × Bool), (cfa (wc fo)).toInt = w → 0 ≤ w → w ≤ 4096 * (t1 : Int) → HB fo cfa h → AT tfa tf' (semVars (kd ta) (vd ta) (qlS ta) (fun v => flk v Flq') (tpF fo) ch sc (.add v r) (L, w, h, q)) (N q) := by
          intro r N hR w h q hw b1 b2 b3
          show AT tfa tf' ((semVar (kd ta) (vd ta) (qlS ta) (fun v => flk v Flq') (tpF fo) ch sc v (L, w, h, q)).bind _) _
          rw [semVar_eq hsh, htok, e3_bind]
          refine AT.bind (hA w h hw b1 b2 b3) (fun p hp => AT.bind r3 (fun L' hL' => ?_) bk8) bkx
          rw [hL']
          exact hR p.1 p.2 q hp.1 hp.2.1 hp.2.2.1 hp.2.2.2
        unfold OkV
        rw [un, hv]
        rcases accept_cur (p0 := 44) g3 hc8 hl (by decide) (by decide) with ⟨q1, q2, q3, q4⟩ | ⟨q1, q2, q3⟩
        · have hk44 : kd ta t2 = 44 := by unfold kd; rw [q1]; rfl
          simp only [hk44, if_true]
          have i1 := ih k (i + 1) v34 z43 cfx tf32 _ _ own9 lq10 lc11 lf12 lg13 P1 _ _ (t2 + 1) (L ++ [(vd ta t1, entV ch v)]) hE (by rw [q2]; rfl) (by omega) (by omega) (by omega) q3 r2 hF1
          unfold OkV at i1
          cases hr2 : pVars (kd ta) o n (t2 + 1) with
          | none =>
            rw [hr2] at i1
            exact i1
          | some r2' =>
            obtain ⟨r, t3⟩ := r2'
            rw [hr2] at i1
            obtain ⟨i0, j1, j2, X', j3, j4, j5⟩ := i1
            have ap : L ++ [(vd ta t1, entV ch v)] ++ X' = L ++ ((vd ta t1, entV ch v) :: X') := by rw [List.append_assoc]; rfl
            rw [ap] at j3
            refine ⟨fun j a b => (i0 j a b).trans (hco j a b), j1, by omega, (vd ta t1, entV ch v) :: X', j3, by rw [List.length_cons]; omega, glue (N := (fun q s => s.1 = L ++ ((vd ta t1, entV ch v) :: X') ∧ (cf' (wc fo)).toInt = s.2.1 ∧ s.2.2.2 = q ∧ 0 ≤ s.2.1 ∧ s.2.1 ≤ 4096 * (t3 : Int) ∧ HB fo cf' s.2.2.1)) (fun w h q w1 w3 w4 w5 => AT.sm q4 ((j5 w h q w1 w3 (by omega) w5).imp (fun s hs => ⟨by rw [hs.1, ap], hs.2⟩)))⟩
        · have hk44 : ¬ kd ta t2 = 44 := fun q => q1 (i_eq.mpr q)
          simp only [hk44, if_false]
          have done : cf' = cfx ∧ tf' = tf32 ∧ own' = own9 ∧ lf' = lf12 ∧ lg' = lg13 ∧ P' = P1 := by
            rcases iv_tc_variables_4 hE with ⟨k, (⟨h1, e0, e1, e2, e3, e4, e5, e6, e7, e8, e9, e10, e11⟩ | ⟨h1, (⟨h2, e0, e1, e2, e3, e4, e5, e6, e7, e8, e9, e10, e11⟩ | ⟨h2, q229, v231, h3, (⟨h4, (⟨h5, z244, h6, hE2⟩ | ⟨h5, z245, h6, hE2⟩)⟩ | ⟨q236, h4, (⟨h5, z240, h6, hE2⟩ | ⟨h5, z241, h6, hE2⟩)⟩)⟩)⟩)⟩
            · exact ⟨e0, e1, e4, e7, e8, e9⟩
            · exact ⟨e0, e1, e4, e7, e8, e9⟩
            all_goals exact absurd (by rw [q2]; rfl) h2
          obtain ⟨d0, d1', d4, d7, d8, d9⟩ := done
          refine ⟨by rw [d0]; exact hco, by rw [d1', q3]; exact hc8, ht12, [(vd ta t1, entV ch v)], by rw [d4, d7, d8, d9]; exact r2, by simp; omega, glue (N := (fun q s => s.1 = L ++ [(vd ta t1, entV ch v)] ∧ (cf' (wc fo)).toInt = s.2.1 ∧ s.2.2.2 = q ∧ 0 ≤ s.2.1 ∧ s.2.1 ≤ 4096 * (t2 : Int) ∧ HB fo cf' s.2.2.1)) (fun w h q w1 w3 w4 w5 => ?_)⟩
          show AT tf8 tf' (some (L ++ [(vd ta t1, entV ch v)], w, h, q)) _
          have d1'' : tf' = tf8 := by rw [d1', q3]
          intro u
          refine ⟨by rw [d1'']; exact u, rfl, by rw [d0]; exact w1, rfl, w3, w4, by rw [d0]; exact w5⟩
    rcases iv_tc_variables_4 h with ⟨k, (⟨h1, e0, e1, e2, e3, e4, e5, e6, e7, e8, e9, e10, e11⟩ | ⟨h1, (⟨h2, e0, e1, e2, e3, e4, e5, e6, e7, e8, e9, e10, e11⟩ | ⟨h2, q229, v231, h3, (⟨h4, (⟨h5, z244, h6, hE⟩ | ⟨h5, z245, h6, hE⟩)⟩ | ⟨q236, h4, (⟨h5, z240, h6, hE⟩ | ⟨h5, z241, h6, hE⟩)⟩)⟩)⟩)⟩
    · exfalso; omega
    · exfalso; omega
    · exact main h3 (Or.inl (by rw [h6]; rfl)) (by rw [chs_nSy, h6, hch, decide_eq_false h5]; rfl) hE
    · exact main h3 (Or.inr (Or.inr (Or.inl (by rw [h6]; rfl)))) (by rw [chs_nSy, h6, hch, decide_eq_true h5]; rfl) hE
    · exact main h3 (Or.inr (Or.inl (by rw [h6]; rfl))) (by rw [chs_nSy, h6, hch, decide_eq_false h5]; rfl) hE
    · exact main h3 (Or.inr (Or.inr (Or.inr (by rw [h6]; rfl)))) (by rw [chs_nSy, h6, hch, decide_eq_true h5]; rfl) hE
theorem vars_ok (hl : Lst0 ta c) (hN : ND P') (hs4 : (nf 4).toInt = (sc : Int)) {L : Nms} {t : Nat} (h : R_tc_variables fo ta cn nf na ff fg sn p0 cf tf fp cd own lq lc lf lg P fs sd cf' tf' fp' cd' own' lq' lc' lf' lg' P' fs' sd') (hc : Cur tf c t o) (hL : EnvL own P lf lg L) (hF : FunL na P ff fg Flq') :
    OkV ta c sc o fo Flq' (decide (p0.toInt = 2)) t L (pVars (kd ta) o 2048 t) cf tf cf' tf' own' P' lf' lg' := by
  obtain ⟨k, h⟩ := h
  obtain ⟨k, h⟩ := iv_tc_variables_0 h
  exact vars_loop hl hN hs4 rfl 2048 k 0 _ _ cf tf _ _ own _ _ lf lg P _ _ t L h (by rfl) (by rfl) (by omega) (by omega) hc hL hF
end S6
