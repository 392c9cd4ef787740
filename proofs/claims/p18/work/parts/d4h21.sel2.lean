section SG
variable {ta : Nat → Nat → Int32} {cn sn : Nat} {na : Nat → Nat → Int32} {ff : Nat → Int32} {fg : Nat → Option Nat} {c sc q0 : Nat} {o rt : Int} {Flq' : List (Int32 × Fnc)} {RLs : T_tc_statement} {S : POT}
variable {cf' : Nat → Int32} {ca' : Nat → Nat → Int32} {tf' fp' cd' nf' : Nat → Int32} {own' : Bool} {lq' lc' : Nat} {lf' : Nat → Int32} {lg' : Nat → Option Nat} {P' : va_W} {fs' sd' : Nat → Int32}
variable {cfa : Nat → Int32} {caa : Nat → Nat → Int32} {tfa fpa cda nfa : Nat → Int32} {owna : Bool} {lqa lca : Nat} {lfa : Nat → Int32} {lga : Nat → Option Nat} {Pa : va_W} {fsa sda : Nat → Int32} {t : Nat} {L : Nms}
theorem sel_ok (hl : Lst0 ta c) (hS : HSx RLs ta cn na ff fg sn c Flq' q0 rt S) (hTS : TK_tc_statement RLs) (hBS : BK_tc_statement RLs) (hXS : PX_tc_statement RLs) (hNS : NF_tc_statement RLs) (hN : ND P') (h : R_tc_selection RLs (some q0) ta cn na ff fg sn cfa caa tfa fpa cda nfa owna lqa lca lfa lga Pa fsa sda cf' ca' tf' fp' cd' nf' own' lq' lc' lf' lg' P' fs' sd') (hst : StI ta c na ff fg Flq' q0 rt cn t o sc L cfa tfa fpa nfa owna lfa lga Pa) (hk : kd ta t = 10) :
    OkS ta c o t L (fun s => sem (kd ta) (vd ta) (qlS ta) (fun v => flk v Flq') rt s sc (lpB cfa) (bkB cfa)) (if o < 60 then (match pCo (kd ta) (t + 1) (o + 1) with
      | none => none
      | some (e, t1) => if kd ta t1 = 123 ∧ o < 59 then (match pSw S (kd ta) (o + 2) 2049 false (t1 + 1) with
          | none => none
          | some (l, t2) => if kd ta t2 = 125 then some (sNd 9 e l, t2 + 1) else none) else none) else none) cfa caa tfa nfa cf' ca' tf' nf' own' lf' lg' P' := by
  obtain ⟨k, h⟩ := h
  obtain ⟨hc, hL, hF, ⟨hs1, hs2, hs3⟩, hR, hnn, h7, h14, h15⟩ := hst
  have h0o := hc.2.2.2.2.2.2.1
  have c1 := hc.2.2.2.2.1
  have c2 := hc.2.2.2.2.2.1
  obtain ⟨k, nf222, v224, h1, tf230, h2, cf243, tf244, fp245, cd246, h3, fp275, cd276, v278, h4, z282, h5, tf283, h6, hE⟩ := iv_tc_selection_0 h
  obtain ⟨n1, n2⟩ := enter_r h1
  have hNa : ND Pa := by
    obtain ⟨Y, e⟩ := pxe_tc_selection hXS _ _ _ _ _ _ _ _ _ _ _ _ _ _ _ _ _ _ _ _ _ hE
    have hN' := hN
    rw [e] at hN'
    exact hN'.ap
  have hG := find_all hNa hL
  have hFC := fun_all hNa hF
  have tke := tke_tc_selection hTS _ _ _ _ _ _ _ _ _ _ _ _ _ _ _ _ _ _ _ _ _ hE
  have bke := bke_tc_selection hBS _ _ _ _ _ _ _ _ _ _ _ _ _ _ _ _ _ _ _ _ _ hE
  rcases open_cur (p0 := 10) h2 hc hl (by decide) (by decide) with ⟨p1, p2, p3⟩ | ⟨p1, p2⟩
  · rw [if_pos p2]
    have co := con_ok hG hFC hl h3 p3
    have co' := co
    obtain ⟨w0, w1⟩ := co
    have ck : CFK cfa cf243 := OkH.cf co'
    cases hr : pCo (kd ta) (t + 1) (o + 1) with
    | none =>
      rw [hr] at w1
      exact tke.2 ((tkr_tk_open h6).2 w1)
    | some r =>
      obtain ⟨e, t1⟩ := r
      rw [hr] at w1 co'
      dsimp only
      obtain ⟨a1, a2, a3⟩ := w1
      have a1' := a1.2.2.2.2.1
      have d7 := ck 7 (by decide) (by decide) (by decide) (by decide)
      have d14 := ck 14 (by decide) (by decide) (by decide) (by decide)
      have d15 := ck 15 (by decide) (by decide) (by decide) (by decide)
      have hz := ti_add h5 (rfl : (cf243 15).toInt = (cf243 15).toInt) (show (1 : Int32).toInt = 1 from rfl) (by rw [d15]; omega) (by rw [d15]; omega)
      rw [d15] at hz
      rcases open_cur (p0 := 123) h6 a1 hl (by decide) (by decide) with ⟨b1, b2, b3⟩ | ⟨b1, b2⟩
      · have hk1 : kd ta t1 = 123 := by unfold kd; rw [b1]; rfl
        rw [if_pos ⟨hk1, by omega⟩]
        have hst2 : StI ta c na ff fg Flq' q0 rt cn (t1 + 1) (o + 2) L.length (L ++ []) (upd (upd cf243 15 z282) 16 (-1)) tf283 fp275 nf222 owna lfa lga Pa := by
          rw [List.append_nil]
          refine ⟨by rw [show o + 2 = o + 1 + 1 by omega]; exact b3, hL, hF, ⟨by rw [n1, pk_us]; exact hL.1, Nat.le_refl _, by omega⟩, hR, NFq.tr (nfr_tc_condition h3) (nfr_pe_emit h4) hnn, ?_, ?_, ?_⟩
          · rw [pk_un (by decide), pk_un (by decide), d7]; exact ⟨h7.1, by have := h7.2; omega⟩
          · rw [pk_un (by decide), pk_un (by decide), d14]; exact ⟨h14.1, by have := h14.2; omega⟩
          · rw [pk_un (by decide), pk_us]; omega
        have fcn : (cfa 7).toInt = (((cfa 7).toInt.toNat : Nat) : Int) := by omega
        have o1 := sel_loop (o := o) hl hS hTS hBS hXS hNS hN fcn h0o 2049 k 0 _ _ _ _ _ _ _ _ _ _ _ _ _ _ _ _ _ (t1 + 1) [] false hE (by rfl) (by omega) ⟨fun q => (by cases q), fun q => absurd rfl q⟩ hst2 (by rw [pk_un (by decide), pk_un (by decide), d7]; omega)
        cases hr2 : pSw S (kd ta) (o + 2) 2049 false (t1 + 1) with
        | none =>
          rw [hr2] at o1
          exact o1
        | some r2 =>
          obtain ⟨l, t2⟩ := r2
          rw [hr2] at o1
          dsimp only
          rcases o1 with ⟨j0, j1, j2, j3, j4, j5, j6, j7, ⟨z, j8, j9⟩, j10⟩ | ⟨j0, j1⟩
          · rw [if_pos j0]
            have hz2 : z = cfa 15 := by
              rw [pk_un (by decide), pk_us] at j8
              have := ti_sub j8 hz (show (1 : Int32).toInt = 1 from rfl) (by omega) (by omega)
              exact i_eq.mpr (by omega)
            refine ⟨j1, by omega, fun i i1 i2 i3 i4 => ?_, j5, by rw [j4, n2], [], by rw [List.append_nil]; exact j3, by simp, ?_⟩
            · by_cases e7 : i = 7
              · rw [e7, j7]
              · by_cases e15 : i = 15
                · rw [e15, j9, hz2]
                · rw [j6 i e7 i1 i2 e15 i3 i4, pk_un i3, pk_un e15]; exact ck i i1 i2 i3 i4
            · rw [List.append_nil]
              intro w h q z1 z2 z3 z4 z5 z6
              have lb : lpB (upd (upd cf243 15 z282) 16 (-1)) = lpB cfa ∧ bkB (upd (upd cf243 15 z282) 16 (-1)) = true := by
                unfold lpB bkB
                rw [pk_un (by decide), pk_un (by decide), d14, pk_un (by decide), pk_us, decide_eq_true_iff]
                exact ⟨rfl, by omega⟩
              show AT tfa tf' ((semE (kd ta) (vd ta) (fun v => flk v Flq') aNum e (L, w, h, q)).bind fun s' => (sem (kd ta) (vd ta) (qlS ta) (fun v => flk v Flq') rt l L.length (lpB cfa) true (s'.1, s'.2.1, s'.2.2.1, [], false)).bind fun s'' => some (s''.1.take L.length, s''.2.1, s''.2.2.1, q)) _
              refine AT.sm (smr_tk_open h2) (AT.bind (AT.ms (SP.e co' (by omega) w h q z1 z2 z3 (by omega) z5 z6) (smr_tk_open h6)) (fun y hy => ?_) bke)
              obtain ⟨v1, v2, v3, v4, v5, v6, v7, v8⟩ := hy
              obtain ⟨y1, y2, y3, y4⟩ := y
              have v1' : y1 = L := v1
              subst v1'
              have v6' : y2 ≤ 4096 * (t1 : Int) := v6
              have g := j10 y2 y3 [] false ⟨by rw [pk_un (by decide), pk_un (by decide), d7]; show (cfa 7).toInt = _ + ((0 : Nat) : Int); omega, fun i v hi => by simp at hi⟩ ⟨fun _ => rfl, fun _ => rfl⟩ (by rw [pk_un (by decide), pk_un (by decide)]; exact v2) (by rw [pk_un (by decide), pk_un (by decide)]; exact v3) v5 (by omega) v7 v8
              rw [lb.1, lb.2, List.append_nil] at g
              refine AT.bind g (fun x hx => ?_) BK.rf
              obtain ⟨x1, x2, x3, x4, x5, x6, x7⟩ := hx
              refine AT.ret ⟨x1, x2, x3, rfl, x4, ?_, x6, x7⟩
              show x.2.1 ≤ _
              omega
          · rw [if_neg j0]
            exact j1
      · rw [if_neg (fun q => b1 ⟨i_eq.mpr q.1, by omega⟩)]
        exact tke.2 b2
  · rw [if_neg (fun q => p1 ⟨i_eq.mpr hk, q⟩)]
    refine tke.2 ((tkr_tk_open h6).2 ((tkr_tc_condition h3).2 p2))
end SG
