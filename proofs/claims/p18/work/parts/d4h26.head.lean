def OkHd (ta : Nat → Nat → Int32) (c t : Nat) (o : Int) (q0 sc : Nat) (L : Nms) (F : Int32 → Option Fnc) (n W b : Nat) (nm : Int32) (ty : Int) (ws : List Int) (Lf : List FnE) (ff : Nat → Int32) (fg : Nat → Option Nat) (r : Option (Ast × Nat)) (cf tf nf : Nat → Int32) (na : Nat → Nat → Int32) (P : va_W) (cf' : Nat → Int32) (fo' : Option Nat) (tf' nf' : Nat → Int32) (na' : Nat → Nat → Int32) (own' : Bool) (lf' : Nat → Int32) (lg' : Nat → Option Nat) (ff' : Nat → Int32) (fg' : Nat → Option Nat) (P' : va_W) : Prop := match r with
  | none => Flq tf'
  | some (ps, t1) => Cur tf' c t1 (o - 1) ∧ t + 1 ≤ t1 ∧ (∀ i : Nat, i ≠ 12 → cf' i = cf i) ∧ nf' 4 = nf 4 ∧ (fo' = some q0 ∧ ff' = ff ∧ fg' = fg) ∧ ∃ X : Nms, EnvL own' P' lf' lg' (L ++ X) ∧ X.length + 1 ≤ t1 - t ∧ (∀ w : Int, (cf 12).toInt = w → 0 ≤ w → w ≤ 4096 * (t : Int) → AT tf tf' (semPars (vd ta) F sc ps L w) (fun p => p.1 = L ++ X ∧ (cf' 12).toInt = p.2 ∧ 0 ≤ p.2 ∧ p.2 ≤ 4096 * (t1 : Int))) ∧ ((cf 8).toInt = 0 → na' = na ∧ nf' = nf ∧ PX P P') ∧ (¬ (cf 8).toInt = 0 → PmI na' P' fg nf' q0 n W b nm ty (ws ++ wnX ps) Lf) ∧ 2 * (wnX ps).length + 1 ≤ t1 - t
section SK
variable {ta : Nat → Nat → Int32} {na' : Nat → Nat → Int32} {own' : Bool} {P' : va_W} {nf' lf' ff ff' : Nat → Int32} {lg' fg fg' : Nat → Option Nat} {lq' lc' fq fc fq' fc' : Nat} {fo' : Option Nat}
variable {tf' cf' : Nat → Int32} {c sc q0 : Nat} {o : Int} {p0 : Int32}
theorem hd_done {cf tf nf : Nat → Int32} {na : Nat → Nat → Int32} {own : Bool} {lq lc t : Nat} {lf : Nat → Int32} {lg : Nat → Option Nat} {P : va_W} {L : Nms} {F : Int32 → Option Fnc} {n W b : Nat} {nm : Int32} {ty : Int} {ws : List Int} {Lf : List FnE} {x4 : Int32} {k : Nat} (hl : Lst0 ta c) (ho : 1 ≤ o) (hI : ¬ (cf 8).toInt = 0 → PmI na P fg nf q0 n W b nm ty ws Lf) (hL : EnvL own P lf lg L) (hc : Cur tf c t o) {x3 : Int32} (hx : x3.toInt = 0) (h : E_tc_header ta p0 cf' fo' tf' nf' na' own' lq' lc' lf' lg' fq' fc' ff' fg' P' k 151 [x3, x4] [] [] [] [] cf (some q0) tf nf na own lq lc lf lg fq fc ff fg P) :
    OkHd ta c t o q0 sc L F n W b nm ty ws Lf ff fg (if kd ta t = 41 then some (.null, t + 1) else none) cf tf nf na P cf' fo' tf' nf' na' own' lf' lg' ff' fg' P' := by
  have fin : ∀ {tfx : Nat → Int32}, R_tk_close ta 41 tf tfx → cf' = cf → fo' = some q0 → tf' = tfx → nf' = nf → na' = na → own' = own → lf' = lf → lg' = lg → ff' = ff → fg' = fg → P' = P → OkHd ta c t o q0 sc L F n W b nm ty ws Lf ff fg (if kd ta t = 41 then some (.null, t + 1) else none) cf tf nf na P cf' fo' tf' nf' na' own' lf' lg' ff' fg' P' := by
    intro tfx g a0 a1 a2 a3 a4 a5 a7 a8 a9 a10 a11
    rcases close_cur (p0 := 41) g hc ho hl (by decide) (by decide) with ⟨p1, p2⟩ | ⟨p1, p2⟩
    · have hk : kd ta t = 41 := by unfold kd; rw [p1]; rfl
      rw [if_pos hk, a0, a2, a3, a4, a5, a7, a8, a11]
      refine ⟨p2, Nat.le_refl _, fun _ _ => rfl, rfl, ⟨a1, a9, a10⟩, [], by rw [List.append_nil]; exact hL, by simp, fun w w1 w2 w3 => ?_, fun _ => ⟨rfl, rfl, PX.rf⟩, fun q => ?_, by first | (show 2 * 0 + 1 ≤ t + 1 - t; omega) | simp [wnX]⟩
      · show AT tf tfx (some (L, w)) _
        refine AT.ms (AT.ret ⟨?_, w1, w2, ?_⟩) (smr_tk_close g)
        · show L = L ++ []
          rw [List.append_nil]
        · show w ≤ 4096 * ((t + 1 : Nat) : Int)
          omega
      · show PmI na P fg nf q0 n W b nm ty (ws ++ []) Lf
        rw [List.append_nil]
        exact hI q
    · have hk : ¬ kd ta t = 41 := fun q => p1 (i_eq.mpr q)
      rw [if_neg hk, a2]
      exact p2
  rcases iv_tc_header_151 h with ⟨k, (⟨h1, tf3, h2, e0, e1, e2, e3, e4, e5, e6, e7, e8, e9, e10, e11, e12, e13, e14⟩ | ⟨h1, (⟨h2, tf14, h3, e0, e1, e2, e3, e4, e5, e6, e7, e8, e9, e10, e11, e12, e13, e14⟩ | ⟨h2, cf33, tf34, nf35, na36, own37, lq38, lc39, lf40, lg41, P42, h3, tf69, v71, h4, z80, h5, hE⟩)⟩)⟩
  · exact fin h2 e0 e1 e2 e3 e4 e5 e8 e9 e12 e13 e14
  · exact fin h3 e0 e1 e2 e3 e4 e5 e8 e9 e12 e13 e14
  · exact absurd hx h2
theorem hd_loop (F : Int32 → Option Fnc) (hl : Lst0 ta c) (hN : ND P') (ho : 1 ≤ o) {n W b : Nat} {nm : Int32} {ty : Int} {Lf : List FnE} :
    ∀ (m k i : Nat) (x3 x4 : Int32) (cfa tfa nfa : Nat → Int32) (naa : Nat → Nat → Int32) (owna : Bool) (lqa lca : Nat) (lfa : Nat → Int32) (lga : Nat → Option Nat) (Pa : va_W) (t : Nat) (L : Nms) (ws : List Int), E_tc_header ta p0 cf' fo' tf' nf' na' own' lq' lc' lf' lg' fq' fc' ff' fg' P' k 151 [x3, x4] [] [] [] [] cfa (some q0) tfa nfa naa owna lqa lca lfa lga fq fc ff fg Pa → x3.toInt = 1 → x4.toInt = (i : Int) → i + m = 2048 → 2 * i ≤ t → Cur tfa c t o → EnvL owna Pa lfa lga L → (nfa 4).toInt = (sc : Int) → (¬ (cfa 8).toInt = 0 → PmI naa Pa fg nfa q0 n W b nm ty ws Lf ∧ 2 * (b + ws.length) ≤ 2000 + t) →
      OkHd ta c t o q0 sc L F n W b nm ty ws Lf ff fg (pPars (kd ta) o m t) cfa tfa nfa naa Pa cf' fo' tf' nf' na' own' lf' lg' ff' fg' P' := by
  intro m
  induction m with
  | zero =>
    intro k i x3 x4 cfa tfa nfa naa owna lqa lca lfa lga Pa t L ws h hx3 hx4 hi ht hc hL hs4 hI
    have c1 := hc.2.2.2.2.1
    have c2 := hc.2.2.2.2.2.1
    exfalso; omega
  | succ m ih =>
    intro k i x3 x4 cfa tfa nfa naa owna lqa lca lfa lga Pa t L ws h hx3 hx4 hi ht hc hL hs4 hI
    have c1 := hc.2.2.2.2.1
    have c2 := hc.2.2.2.2.2.1
    have un : pPars (kd ta) o (m + 1) t = (match pPar (kd ta) o t with
      | none => none
      | some (v, t1) => if kd ta t1 = 44 then (match pPars (kd ta) o m (t1 + 1) with
          | none => none
          | some (r, t2) => some (.add v r, t2)) else if kd ta t1 = 41 then some (.add v .null, t1 + 1) else none) := by first | rfl | simp [pPars]
    rw [un]
    rcases iv_tc_header_151 h with ⟨k, (⟨h1, tf3, h2, e0, e1, e2, e3, e4, e5, e6, e7, e8, e9, e10, e11, e12, e13, e14⟩ | ⟨h1, (⟨h2, tf14, h3, e0, e1, e2, e3, e4, e5, e6, e7, e8, e9, e10, e11, e12, e13, e14⟩ | ⟨h2, cf33, tf34, nf35, na36, own37, lq38, lc39, lf40, lg41, P42, h3, tf69, v71, h4, z80, h5, hE⟩)⟩)⟩
    · exfalso; omega
    · exfalso; omega
    · have hN4 : ND P42 := hN.pa (pae_tc_header _ _ _ _ _ _ _ _ _ _ _ _ _ _ _ _ _ _ _ _ _ _ hE)
      have o1 := pm_ok F hl hN4 hs4 hL (fun q => ⟨(hI q).1, by have := (hI q).2; omega⟩) h3 hc
      cases hr : pPar (kd ta) o t with
      | none =>
        rw [hr] at o1
        exact (tke_tc_header _ _ _ _ _ _ _ _ _ _ _ _ _ _ _ _ _ _ _ _ _ _ hE).2 ((tkr_tk_accept h4).2 o1)
      | some r =>
        obtain ⟨v, t1⟩ := r
        rw [hr] at o1
        dsimp only
        obtain ⟨a1, a2, a3, ⟨z, az, a4⟩, a5, a6, a7, a8, a9, a10⟩ := o1
        have d1 := a1.2.2.2.2.1
        have hz5 := ti_add h5 hx4 (show (1 : Int32).toInt = 1 from rfl) (by omega) (by omega)
        have e8 : cf33 8 = cfa 8 := a3 8 (by decide)
        have hs4' : (nf35 4).toInt = (sc : Int) := by rw [a5]; exact hs4
        have w12 : ∀ w : Int, (cfa 12).toInt = w → 0 ≤ w → w ≤ 4096 * (t : Int) → (cf33 12).toInt = w + wdPq v := by
          intro w w1 w2 w3
          rw [a4]
          rcases a10 with q | q
          · rw [q, if_neg (by decide)] at az
            rw [q]
            exact ti_add az w1 (show (1 : Int32).toInt = 1 from rfl) (by omega) (by omega)
          · rw [q, if_pos rfl] at az
            rw [q]
            exact ti_add az w1 (show (2 : Int32).toInt = 2 from rfl) (by omega) (by omega)
        have wb : 1 ≤ wdPq v ∧ wdPq v ≤ 2 := by omega
        rcases accept_cur (p0 := 44) h4 a1 hl (by decide) (by decide) with ⟨q1, q2, q3, q4⟩ | ⟨q1, q2, q3⟩
        · have hk : kd ta t1 = 44 := by unfold kd; rw [q1]; rfl
          rw [if_pos hk]
          have i1 := ih k (i + 1) v71 z80 cf33 tf69 nf35 na36 own37 lq38 lc39 lf40 lg41 P42 (t1 + 1) (L ++ [(vd ta (tokP v), entP v)]) (ws ++ [wnV v]) hE (by rw [q2]; rfl) (by omega) (by omega) (by omega) q3 a6 hs4' (fun q => ⟨a9 (by rw [← e8]; exact q), by rw [e8] at q; have := (hI q).2; rw [List.length_append, List.length_cons, List.length_nil]; omega⟩)
          have bk : BK tf34 tf' := fun x => bke_tc_header _ _ _ _ _ _ _ _ _ _ _ _ _ _ _ _ _ _ _ _ _ _ hE (bkr_tk_accept h4 x)
          cases hr2 : pPars (kd ta) o m (t1 + 1) with
          | none =>
            rw [hr2] at i1
            exact i1
          | some r2 =>
            obtain ⟨r, t2⟩ := r2
            rw [hr2] at i1
            obtain ⟨j1, j2, j3, j4, j5, X, j6, j7, j8, j9, j10, j11⟩ := i1
            have ap : L ++ [(vd ta (tokP v), entP v)] ++ X = L ++ ((vd ta (tokP v), entP v) :: X) := by rw [List.append_assoc]; rfl
            rw [ap] at j6
            refine ⟨j1, by omega, fun i hi => (j3 i hi).trans (a3 i hi), j4.trans a5, j5, (vd ta (tokP v), entP v) :: X, j6, by rw [List.length_cons]; omega, fun w w1 w2 w3 => ?_, fun q => ?_, fun q => ?_, ?_⟩
            · show AT tfa tf' ((dcl false F sc L (vd ta (tokP v)) (entP v)).bind fun L' => semPars (vd ta) F sc r L' (w + wdPq v)) _
              refine AT.bind a7 (fun L' hL' => ?_) bk
              rw [hL']
              have := w12 w w1 w2 w3
              exact AT.sm q4 ((j8 (w + wdPq v) this (by omega) (by omega)).imp (fun p hp => ⟨by rw [hp.1, ap], hp.2⟩))
            · obtain ⟨y1, y2, y3⟩ := a8 q
              obtain ⟨u1, u2, u3⟩ := j9 (by rw [e8]; exact q)
              exact ⟨u1.trans y1, u2.trans y2, y3.tr u3⟩
            · have := j10 (by rw [e8]; exact q)
              rw [List.append_assoc] at this
              exact this
            · show 2 * (wnV v :: wnX r).length + 1 ≤ t2 - t
              rw [List.length_cons]; omega
        · have hk : ¬ kd ta t1 = 44 := fun z => q1 (i_eq.mpr z)
          rw [if_neg hk]
          rw [q3] at hE
          have i1 := hd_done (sc := sc) (F := F) (n := n) (W := W) (b := b) (nm := nm) (ty := ty) (ws := ws ++ [wnV v]) (Lf := Lf) hl ho (fun q => a9 (by rw [← e8]; exact q)) a6 a1 (by rw [q2]; rfl) hE
          by_cases h41 : kd ta t1 = 41
          · rw [if_pos h41] at i1 ⊢
            obtain ⟨j1, j2, j3, j4, j5, X, j6, j7, j8, j9, j10, j11⟩ := i1
            have bk : BK tf34 tf' := fun x => bke_tc_header _ _ _ _ _ _ _ _ _ _ _ _ _ _ _ _ _ _ _ _ _ _ hE x
            have ap : L ++ [(vd ta (tokP v), entP v)] ++ X = L ++ ((vd ta (tokP v), entP v) :: X) := by rw [List.append_assoc]; rfl
            rw [ap] at j6
            refine ⟨j1, by omega, fun i hi => (j3 i hi).trans (a3 i hi), j4.trans a5, j5, (vd ta (tokP v), entP v) :: X, j6, by rw [List.length_cons]; omega, fun w w1 w2 w3 => ?_, fun q => ?_, fun q => ?_, ?_⟩
            · show AT tfa tf' ((dcl false F sc L (vd ta (tokP v)) (entP v)).bind fun L' => semPars (vd ta) F sc .null L' (w + wdPq v)) _
              refine AT.bind a7 (fun L' hL' => ?_) bk
              rw [hL']
              have := w12 w w1 w2 w3
              exact (j8 (w + wdPq v) this (by omega) (by omega)).imp (fun p hp => ⟨by rw [hp.1, ap], hp.2⟩)
            · obtain ⟨y1, y2, y3⟩ := a8 q
              obtain ⟨u1, u2, u3⟩ := j9 (by rw [e8]; exact q)
              exact ⟨u1.trans y1, u2.trans y2, y3.tr u3⟩
            · have := j10 (by rw [e8]; exact q)
              rw [List.append_assoc] at this
              exact this
            · show 2 * (wnV v :: wnX .null).length + 1 ≤ t1 + 1 - t
              rw [List.length_cons]
              show 2 * (0 + 1) + 1 ≤ _
              omega
          · rw [if_neg h41] at i1 ⊢
            exact i1
end SK
