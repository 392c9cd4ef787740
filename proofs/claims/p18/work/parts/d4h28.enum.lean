/-! enumerations -/
def pEn (k : Nat → Int) (o : Int) (t : Nat) : Option (Ast × Nat) := if k t = 16 then (if k (t + 1) = 256 then (match pE k 0 (t + 2) o with
    | none => none
    | some (e, t1) => some (vInit t e, t1)) else some (vSing t, t + 1)) else none
/-- with their } and ; -/
def pEns (k : Nat → Int) (o : Int) : Nat → Nat → Option (Ast × Nat)
  | 0, _ => none
  | n + 1, t => match pEn k o t with
    | none => none
    | some (v, t1) => if k t1 = 44 then (match pEns k o n (t1 + 1) with
        | none => none
        | some (r, t2) => some (.add v r, t2)) else if k t1 = 125 ∧ k (t1 + 1) = 59 then some (.add v .null, t1 + 2) else none
def semEn (k : Nat → Int) (vl : Nat → Int32) (G : Int32 → Option Ent) (F : Int32 → Option Fnc) (v : Ast) (n : Int32) : Option Int32 := match v with
  | .arg _ => some n
  | .mul (.arg _) e => ((att k vl G F e [] 0).bind aKon).bind fun a => some a.2.2.1
  | _ => none
def semEns (k : Nat → Int) (vl : Nat → Int32) (F : Int32 → Option Fnc) (sc : Nat) : Ast → Nms → Int32 → Option Nms
  | .null, L, _ => some L
  | .add v r, L, n => (semEn k vl (lkp L) F v n).bind fun x => (dcl true F sc L (vl (tokV v)) (0, x)).bind fun L' => semEns k vl F sc r L' (x + 1)
  | _, _, _ => none
def eSy (v : Int32) : Nat → Int32 := upd (upd (upd (upd (upd (upd (upd (fun _ => 0) 0 v) 1 0) 2 0) 3 0) 4 0) 5 0) 6 0
theorem eSy_m {v x : Int32} : upd (eSy v) 5 x 0 = v ∧ upd (eSy v) 5 x 1 = 0 ∧ upd (eSy v) 5 x 2 = 0 ∧ upd (eSy v) 5 x 5 = x := by
  refine ⟨?_, ?_, ?_, ?_⟩ <;> simp [eSy, upd]
theorem eSy_ent {v x : Int32} : EntM (upd (eSy v) 5 x) (0, x) ∧ ¬ (upd (eSy v) 5 x 1).toInt = 2 := by
  obtain ⟨n0, n1, n2, n5⟩ := @eSy_m v x
  unfold EntM entC
  rw [n1, n2, n5, if_pos (by decide)]
  exact ⟨⟨rfl, fun _ => by decide⟩, by decide⟩
def OkEn (ta : Nat → Nat → Int32) (c sc : Nat) (o : Int) (Flq' : List (Int32 × Fnc)) (t : Nat) (L : Nms) (x1 : Int32) (r : Option (Ast × Nat)) (cf tf cf' tf' : Nat → Int32) (own' : Bool) (lf' : Nat → Int32) (lg' : Nat → Option Nat) (P' : va_W) : Prop := match r with
  | none => Flq tf'
  | some (vs, t1) => Cur tf' c t1 (o - 1) ∧ t + 2 ≤ t1 ∧ cf' = cf ∧ ∃ X : Nms, EnvL own' P' lf' lg' (L ++ X) ∧ X.length ≤ t1 - t ∧ AT tf tf' (semEns (kd ta) (vd ta) (fun v => flk v Flq') sc vs L x1) (fun L' => L' = L ++ X)
section SM
variable {ta : Nat → Nat → Int32} {cn : Nat} {na : Nat → Nat → Int32} {own own' : Bool} {P P' : va_W} {nf lf lf' ff : Nat → Int32} {lg lg' fg : Nat → Option Nat} {lq lc lq' lc' : Nat}
variable {tf fp cd cf tf' fp' cd' cf' : Nat → Int32} {c t sc : Nat} {o : Int} {L : Nms} {Flq' : List (Int32 × Fnc)} {G : Int32 → Option Ent} {F : Int32 → Option Fnc}
theorem en_22 (hG : EnvC own P lf lg G) (hF : FunC na P ff fg F) (hl : Lst0 ta c) {x1 x2 x3 : Int32} {k : Nat} (h : E_tc_enumeration none ta cn nf na ff fg cf' tf' fp' cd' own' lq' lc' lf' lg' P' k 22 [x1, x2, x3] [] [] [] [] cf tf fp cd own lq lc lf lg P) (hx2 : x2.toInt = 1) (hx3 : x3.toInt < 2048) (hc : Cur tf c t o) :
    (pEn (kd ta) o t = none ∧ Flq tf') ∨ ∃ (v : Ast) (t1 k q : Nat) (tfx fpx cdx : Nat → Int32) (x xt : Int32), pEn (kd ta) o t = some (v, t1) ∧ E_tc_enumeration none ta cn nf na ff fg cf' tf' fp' cd' own' lq' lc' lf' lg' P' k 107 [x, x3, xt] [] [] [eSy (vd ta t)] [q] cf tfx fpx cdx own lq lc lf lg P ∧ Cur tfx c t1 o ∧ t + 1 ≤ t1 ∧ xt.toInt = (t : Int) ∧ tokV v = t ∧ AT tf tfx (semEn (kd ta) (vd ta) G F v x1) (fun y => y = x) := by
  have tkE : ∀ {k : Nat} {ls : List Int32} {fs : List (Nat → Int32)} {ad : List Nat} {tfa fpa cda : Nat → Int32}, E_tc_enumeration none ta cn nf na ff fg cf' tf' fp' cd' own' lq' lc' lf' lg' P' k 107 ls [] [] fs ad cf tfa fpa cda own lq lc lf lg P → Flq tfa → Flq tf' := by
    intro k ls fs ad tfa fpa cda q f
    exact (tke_tc_enumeration _ _ _ _ _ _ _ _ _ _ _ _ _ _ _ _ _ q).2 f
  have no16 : ¬ kd ta t = 16 → pEn (kd ta) o t = none := by
    intro q
    unfold pEn
    rw [if_neg q]
  rcases iv_tc_enumeration_22 h with ⟨k, (⟨h1, tf47, h2, tf56, h3, e0, e1, e2, e3, e4, e5, e6, e7, e8, e9⟩ | ⟨h1, (⟨h2, tf67, h3, tf76, h4, e0, e1, e2, e3, e4, e5, e6, e7, e8, e9⟩ | ⟨h2, q85, v87, h3, tf91, h4, tf100, v102, h5, (⟨h6, hE⟩ | ⟨h6, tf116, fp117, cd118, hx119, ox120, fx121, h7, tf152, fp153, cd154, fx155, h8, hE⟩)⟩)⟩)⟩
  · exfalso; omega
  · exfalso; omega
  · have em := mean_cur h3 hc
    subst em
    have ex := expect_cur (p0 := 16) h4 hc hl (by decide) (by decide)
    rcases ex.1 with ⟨q1, q2⟩ | ⟨q1, q2⟩
    · have hk : kd ta t = 16 := by unfold kd; rw [q1]; rfl
      rcases accept_cur (p0 := 256) h5 q2 hl (by decide) (by decide) with ⟨a1, a2, a3, a4⟩ | ⟨a1, a2, a3⟩
      · rw [a2] at h6; exact absurd h6 (by decide)
      · have hk1 : ¬ kd ta (t + 1) = 256 := fun z => a1 (i_eq.mpr z)
        rw [a3] at hE
        refine Or.inr ⟨vSing t, t + 1, k, q85, tf91, _, _, x1, _, ?_, hE, q2, Nat.le_refl _, hc.2.1, rfl, ?_⟩
        · unfold pEn
          rw [if_pos hk, if_neg hk1]
        · show AT tf tf91 (some x1) _
          exact AT.sm ex.2 (AT.ret rfl)
    · exact Or.inl ⟨no16 (fun z => q1 (i_eq.mpr z)), tkE hE ((tkr_tk_accept h5).2 q2)⟩
  · have em := mean_cur h3 hc
    subst em
    have ex := expect_cur (p0 := 16) h4 hc hl (by decide) (by decide)
    rcases ex.1 with ⟨q1, q2⟩ | ⟨q1, q2⟩
    · have hk : kd ta t = 16 := by unfold kd; rw [q1]; rfl
      rcases accept_cur (p0 := 256) h5 q2 hl (by decide) (by decide) with ⟨a1, a2, a3, a4⟩ | ⟨a1, a2, a3⟩
      · have hk1 : kd ta (t + 1) = 256 := by unfold kd; rw [a1]; rfl
        have h7' := exP_ok hG hF hl h7 a3
        rw [show ((0 : Int32)).toInt = 0 from rfl] at h7'
        have e : pEn (kd ta) o t = (match pE (kd ta) 0 (t + 2) o with
            | none => none
            | some (e, t1) => some (vInit t e, t1)) := by
          unfold pEn
          rw [if_pos hk, if_pos hk1]
        have h7'' : OkX ta c P G F (t + 2) o (pE (kd ta) 0 (t + 2) o) tf100 tf116 ox120 fx121 := h7'
        cases hr : pE (kd ta) 0 (t + 2) o with
        | none =>
          rw [hr] at h7'' e
          exact Or.inl ⟨e, tkE hE ((set_r h8).1.fl h7'')⟩
        | some r =>
          obtain ⟨ee, t1⟩ := r
          rw [hr] at h7'' e
          obtain ⟨b1, b2, b3, b4⟩ := h7''
          refine Or.inr ⟨vInit t ee, t1, k, q85, tf152, _, _, fx155 8, _, e, hE, (set_r h8).1.cur b1, by omega, hc.2.1, rfl, ?_⟩
          show AT tf tf152 (((att (kd ta) (vd ta) G F ee [] 0).bind aKon).bind fun a => some a.2.2.1) _
          refine AT.bind (AT.bind (AT.sm (ex.2.tr a4) b4) (fun a ha => set_at h8 b1 ha) (set_bk h8)) (fun b hb => AT.ret ?_) BK.rf
          exact (hb.1.2.2.2.2.2.1 hb.2).symm
      · rw [a2] at h6; exact absurd (by rfl) h6
    · exact Or.inl ⟨no16 (fun z => q1 (i_eq.mpr z)), tkE hE ((set_r h8).1.fl ((exP_tk h7).2 ((tkr_tk_accept h5).2 q2)))⟩
theorem en_done (hl : Lst0 ta c) (ho : 1 ≤ o) {x1 x2 x3 : Int32} {k : Nat} (h : E_tc_enumeration none ta cn nf na ff fg cf' tf' fp' cd' own' lq' lc' lf' lg' P' k 22 [x1, x2, x3] [] [] [] [] cf tf fp cd own lq lc lf lg P) (hx2 : x2.toInt = 0) (hc : Cur tf c t o) :
    ((kd ta t = 125 ∧ kd ta (t + 1) = 59) ∧ Cur tf' c (t + 2) (o - 1) ∧ SmC tf tf' ∧ cf' = cf ∧ own' = own ∧ lf' = lf ∧ lg' = lg ∧ P' = P) ∨ (¬ (kd ta t = 125 ∧ kd ta (t + 1) = 59) ∧ Flq tf') := by
  have fin : ∀ {tfa tfb : Nat → Int32}, R_tk_close ta 125 tf tfa → R_tk_expect ta 59 tfa tfb → tf' = tfb → ((kd ta t = 125 ∧ kd ta (t + 1) = 59) ∧ Cur tf' c (t + 2) (o - 1) ∧ SmC tf tf') ∨ (¬ (kd ta t = 125 ∧ kd ta (t + 1) = 59) ∧ Flq tf') := by
    intro tfa tfb g1 g2 e
    rw [e]
    rcases close_cur (p0 := 125) g1 hc ho hl (by decide) (by decide) with ⟨p1, p2⟩ | ⟨p1, p2⟩
    · have hk : kd ta t = 125 := by unfold kd; rw [p1]; rfl
      have ex := expect_cur (p0 := 59) g2 p2 hl (by decide) (by decide)
      rcases ex.1 with ⟨q1, q2⟩ | ⟨q1, q2⟩
      · exact Or.inl ⟨⟨hk, by unfold kd; rw [q1]; rfl⟩, q2, (smr_tk_close g1).tr ex.2⟩
      · exact Or.inr ⟨fun z => q1 (i_eq.mpr z.2), q2⟩
    · exact Or.inr ⟨fun z => p1 (i_eq.mpr z.1), (tkr_tk_expect g2).2 p2⟩
  rcases iv_tc_enumeration_22 h with ⟨k, (⟨h1, tf47, h2, tf56, h3, e0, e1, e2, e3, e4, e5, e6, e7, e8, e9⟩ | ⟨h1, (⟨h2, tf67, h3, tf76, h4, e0, e1, e2, e3, e4, e5, e6, e7, e8, e9⟩ | ⟨h2, q85, v87, h3, tf91, h4, tf100, v102, h5, (⟨h6, hE⟩ | ⟨h6, tf116, fp117, cd118, hx119, ox120, fx121, h7, tf152, fp153, cd154, fx155, h8, hE⟩)⟩)⟩)⟩
  · rcases fin h2 h3 e1 with ⟨q1, q2, q3⟩ | q
    · exact Or.inl ⟨q1, q2, q3, e0, e4, e7, e8, e9⟩
    · exact Or.inr q
  · rcases fin h3 h4 e1 with ⟨q1, q2, q3⟩ | q
    · exact Or.inl ⟨q1, q2, q3, e0, e4, e7, e8, e9⟩
    · exact Or.inr q
  · exact absurd hx2 h2
  · exact absurd hx2 h2
theorem en_loop (hl : Lst0 ta c) (hN : ND P') (hs4 : (nf 4).toInt = (sc : Int)) (ho : 1 ≤ o) :
    ∀ (n k i : Nat) (x1 x2 x3 : Int32) (cfa tfa fpa cda : Nat → Int32) (owna : Bool) (lqa lca : Nat) (lfa : Nat → Int32) (lga : Nat → Option Nat) (Pa : va_W) (t : Nat) (L : Nms), E_tc_enumeration none ta cn nf na ff fg cf' tf' fp' cd' own' lq' lc' lf' lg' P' k 22 [x1, x2, x3] [] [] [] [] cfa tfa fpa cda owna lqa lca lfa lga Pa → x2.toInt = 1 → x3.toInt = (i : Int) → i + n = 2048 → 2 * i ≤ t → Cur tfa c t o → EnvL owna Pa lfa lga L → FunL na Pa ff fg Flq' →
      OkEn ta c sc o Flq' t L x1 (pEns (kd ta) o n t) cfa tfa cf' tf' own' lf' lg' P' := by
  intro n
  induction n with
  | zero =>
    intro k i x1 x2 x3 cfa tfa fpa cda owna lqa lca lfa lga Pa t L h hx2 hx3 hi ht hc hL hF
    have c1 := hc.2.2.2.2.1
    have c2 := hc.2.2.2.2.2.1
    exfalso; omega
  | succ n ih =>
    intro k i x1 x2 x3 cfa tfa fpa cda owna lqa lca lfa lga Pa t L h hx2 hx3 hi ht hc hL hF
    have c1 := hc.2.2.2.2.1
    have c2 := hc.2.2.2.2.2.1
    have un : pEns (kd ta) o (n + 1) t = (match pEn (kd ta) o t with
      | none => none
      | some (v, t1) => if kd ta t1 = 44 then (match pEns (kd ta) o n (t1 + 1) with
          | none => none
          | some (r, t2) => some (.add v r, t2)) else if kd ta t1 = 125 ∧ kd ta (t1 + 1) = 59 then some (.add v .null, t1 + 2) else none) := by first | rfl | simp [pEns]
    rw [un]
    have hNa : ND Pa := hN.pa (PX.pa (pxe_tc_enumeration _ _ _ _ _ _ _ _ _ _ _ _ _ _ _ _ _ h))
    rcases en_22 (find_all hNa hL) (fun_all hNa hF) hl h hx2 (by omega) hc with ⟨p1, p2⟩ | ⟨v, t1, k, q, tfx, fpx, cdx, x, xt, p1, hE, p2, p3, p4, p5, p6⟩
    · rw [p1]; exact p2
    · rw [p1]
      dsimp only
      have d1 := p2.2.2.2.2.1
      obtain ⟨k, P1, g1, tf8, own9, lq10, lc11, lf12, lg13, g2, z32, g3, tf33, v35, g4, z44, g5, hE⟩ := iv_tc_enumeration_107 hE
      have hN1 : ND P1 := hN.pa (PX.pa (pxe_tc_enumeration _ _ _ _ _ _ _ _ _ _ _ _ _ _ _ _ _ hE))
      have hS1 : SymAt P1 q (upd (eSy (vd ta t)) 5 x) := by rw [g1]; exact SymAt.new
      have hL1 : EnvL owna P1 lfa lga L := by rw [g1]; exact hL.ap
      have hF1 : FunL na P1 ff fg Flq' := by rw [g1]; exact hF.ap
      obtain ⟨r1, r2, r3⟩ := dec_ok hN1 hL1 hs4 hF1 g2 p2 (by rw [p4]; omega) hS1 eSy_ent.1 eSy_ent.2
      rw [eSy_m.1] at r2 r3
      have r3' : AT tfx tf8 (dcl true (fun v => flk v Flq') sc L (vd ta (tokV v)) (0, x)) (fun L' => L' = L ++ [(vd ta t, (0, x))]) := by rw [p5]; exact r3
      have hc8 := r1.cur p2
      have hz44 := ti_add g5 hx3 (show (1 : Int32).toInt = 1 from rfl) (by omega) (by omega)
      have bk8 : BK tf8 tf' := fun y => bke_tc_enumeration _ _ _ _ _ _ _ _ _ _ _ _ _ _ _ _ _ hE (bkr_tk_accept g4 y)
      have bkx : BK tfx tf' := fun y => bk8 (bkr_tc_declare g2 y)
      have glue : ∀ {r : Ast} {X : Nms}, AT tf8 tf' (semEns (kd ta) (vd ta) (fun v => flk v Flq') sc r (L ++ [(vd ta t, (0, x))]) (x + 1)) (fun L' => L' = L ++ [(vd ta t, (0, x))] ++ X) → AT tfa tf' (semEns (kd ta) (vd ta) (fun v => flk v Flq') sc (.add v r) L x1) (fun L' => L' = L ++ ((vd ta t, (0, x)) :: X)) := by
        intro r X ha
        show AT tfa tf' ((semEn (kd ta) (vd ta) (lkp L) (fun v => flk v Flq') v x1).bind fun y => (dcl true (fun v => flk v Flq') sc L (vd ta (tokV v)) (0, y)).bind fun L' => semEns (kd ta) (vd ta) (fun v => flk v Flq') sc r L' (y + 1)) _
        refine AT.bind p6 (fun y hy => ?_) bkx
        subst hy
        refine AT.bind r3' (fun L' hL' => ?_) bk8
        rw [hL']
        exact ha.imp (fun L'' h'' => by rw [h'', List.append_assoc]; rfl)
      rcases accept_cur (p0 := 44) g4 hc8 hl (by decide) (by decide) with ⟨q1, q2, q3, q4⟩ | ⟨q1, q2, q3⟩
      · have hk : kd ta t1 = 44 := by unfold kd; rw [q1]; rfl
        rw [if_pos hk]
        have i1 := ih k (i + 1) z32 v35 z44 cfa tf33 _ _ own9 lq10 lc11 lf12 lg13 P1 (t1 + 1) (L ++ [(vd ta t, (0, x))]) hE (by rw [q2]; rfl) (by omega) (by omega) (by omega) q3 r2 hF1
        cases hr2 : pEns (kd ta) o n (t1 + 1) with
        | none =>
          rw [hr2] at i1
          exact i1
        | some r2' =>
          obtain ⟨r, t2⟩ := r2'
          rw [hr2] at i1
          obtain ⟨j1, j2, j3, X, j4, j5, j6⟩ := i1
          have ap : L ++ [(vd ta t, (0, x))] ++ X = L ++ ((vd ta t, (0, x)) :: X) := by rw [List.append_assoc]; rfl
          rw [ap] at j4
          refine ⟨j1, by omega, j3, (vd ta t, (0, x)) :: X, j4, by rw [List.length_cons]; omega, glue ?_⟩
          rw [← g3]
          exact AT.sm q4 j6
      · have hk : ¬ kd ta t1 = 44 := fun z => q1 (i_eq.mpr z)
        rw [if_neg hk]
        rw [q3] at hE
        rcases en_done hl ho hE (by rw [q2]; rfl) hc8 with ⟨y1, y2, y3, y4, y5, y6, y7, y8⟩ | ⟨y1, y2⟩
        · rw [if_pos y1]
          refine ⟨y2, by omega, y4, [(vd ta t, (0, x))], by rw [y5, y6, y7, y8]; exact r2, by simp; omega, glue ?_⟩
          show AT tf8 tf' (some (L ++ [(vd ta t, (0, x))])) _
          exact AT.ms (AT.ret (by rw [List.append_nil])) y3
        · rw [if_neg y1]
          exact y2
/-- from the enum on -/
def pEnum (k : Nat → Int) (t : Nat) (o : Int) : Option (Ast × Nat) := if k (t + 1) = 123 ∧ o < 60 then (match pEns k (o + 1) 2048 (t + 2) with
    | none => none
    | some (vs, t1) => some (sNd 20 vs .null, t1)) else none
theorem enum_ok (hl : Lst0 ta c) (hN : ND P') (hs4 : (nf 4).toInt = (sc : Int)) (hL : EnvL own P lf lg L) (hF : FunL na P ff fg Flq') (hc : Cur tf c t o) (hk : kd ta t = 4) (h : R_tc_enumeration none ta cn nf na ff fg cf tf fp cd own lq lc lf lg P cf' tf' fp' cd' own' lq' lc' lf' lg' P') :
    match pEnum (kd ta) t o with
    | none => Flq tf'
    | some (e, t1) => Cur tf' c t1 o ∧ t + 1 ≤ t1 ∧ cf' = cf ∧ ∃ (vs : Ast) (X : Nms), e = sNd 20 vs .null ∧ EnvL own' P' lf' lg' (L ++ X) ∧ X.length ≤ t1 - t ∧ AT tf tf' (semEns (kd ta) (vd ta) (fun v => flk v Flq') sc vs L 0) (fun L' => L' = L ++ X) := by
  obtain ⟨k, h⟩ := h
  have h0o := hc.2.2.2.2.2.2.1
  have hlt : t + 1 < c := lst_lt (p0 := 4) hc hl (by decide) (by decide) hk
  obtain ⟨k, tf171, h1, tf182, h2, hE⟩ := iv_tc_enumeration_0 h
  have hs := step_cur h1 hc hlt
  unfold pEnum
  rcases open_cur (p0 := 123) h2 hs.1 hl (by decide) (by decide) with ⟨q1, q2, q3⟩ | ⟨q1, q2⟩
  · have hk1 : kd ta (t + 1) = 123 := by unfold kd; rw [q1]; rfl
    rw [if_pos ⟨hk1, q2⟩]
    have o1 := en_loop (Flq' := Flq') hl hN hs4 (by omega) 2048 k 0 _ _ _ cf tf182 _ _ own _ _ lf lg P (t + 2) L hE (by rfl) (by rfl) (by omega) (by omega) q3 hL hF
    cases hr : pEns (kd ta) (o + 1) 2048 (t + 2) with
    | none =>
      rw [hr] at o1
      exact o1
    | some r =>
      obtain ⟨vs, t1⟩ := r
      rw [hr] at o1
      obtain ⟨j1, j2, j3, X, j4, j5, j6⟩ := o1
      exact ⟨by rw [show o = o + 1 - 1 by omega]; exact j1, by omega, j3, vs, X, rfl, j4, by omega, AT.sm (hs.2.tr (smr_tk_open h2)) j6⟩
  · have hk1 : ¬ (kd ta (t + 1) = 123 ∧ o < 60) := fun z => q1 ⟨i_eq.mpr z.1, z.2⟩
    rw [if_neg hk1]
    exact (tke_tc_enumeration _ _ _ _ _ _ _ _ _ _ _ _ _ _ _ _ _ hE).2 q2
end SM
