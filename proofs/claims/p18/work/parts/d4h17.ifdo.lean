section SC
variable {ta : Nat → Nat → Int32} {cn sn : Nat} {na : Nat → Nat → Int32} {ff : Nat → Int32} {fg : Nat → Option Nat} {c sc q0 : Nat} {o rt : Int} {Flq' : List (Int32 × Fnc)} {RLs : T_tc_statement} {S : POT}
variable {cf' : Nat → Int32} {ca' : Nat → Nat → Int32} {tf' fp' cd' nf' : Nat → Int32} {own' : Bool} {lq' lc' : Nat} {lf' : Nat → Int32} {lg' : Nat → Option Nat} {P' : va_W} {fs' sd' : Nat → Int32}
variable {cfa : Nat → Int32} {caa : Nat → Nat → Int32} {tfa fpa cda nfa : Nat → Int32} {owna : Bool} {lqa lca : Nat} {lfa : Nat → Int32} {lga : Nat → Option Nat} {Pa : va_W} {fsa sda : Nat → Int32} {t : Nat} {L : Nms}
theorem SP.one {g : Ast → Sg → Option Sg} {s : Ast} {a b : Nat → Int32} {L L' : Nms} {cf cf' : Nat → Int32} {t t1 : Nat} (k : SP (g s) a b L L' cf cf' t t1) (e : ∀ x, g (sRow1 s) x = (g s x).bind some) : SP (g (sRow1 s)) a b L L' cf cf' t t1 := k.co (fun w h q => by rw [e]; cases g s (L, w, h, q) <;> rfl)
theorem do_ok (hl : Lst0 ta c) (hS : HSx RLs ta cn na ff fg sn c Flq' q0 rt S) (hTS : TK_tc_statement RLs) (hBS : BK_tc_statement RLs) (hXS : PX_tc_statement RLs) (hNS : NF_tc_statement RLs) (hN : ND P') (h : R_tc_doLoop RLs (some q0) ta cn na ff fg sn cfa caa tfa fpa cda nfa owna lqa lca lfa lga Pa fsa sda cf' ca' tf' fp' cd' nf' own' lq' lc' lf' lg' P' fs' sd') (hst : StI ta c na ff fg Flq' q0 rt cn t o sc L cfa tfa fpa nfa owna lfa lga Pa) (hk : kd ta t = 8) :
    OkS ta c o t L (fun s => sem (kd ta) (vd ta) (qlS ta) (fun v => flk v Flq') rt s sc (lpB cfa) (bkB cfa)) (if o < 60 then (match S (t + 1) (o + 1) with
      | none => none
      | some (s, t1) => if kd ta t1 = 7 then (match pCo (kd ta) (t1 + 1) (o + 1) with
          | none => none
          | some (e, t2) => if kd ta t2 = 59 then some (sNd 6 (sRow1 s) e, t2 + 1) else none) else none) else none) cfa caa tfa nfa cf' ca' tf' nf' own' lf' lg' P' := by
  obtain ⟨k, h⟩ := h
  have hst' := hst
  obtain ⟨hc, hL, hF, hs, hR, hnn, h7, h14, h15⟩ := hst'
  have h0o := hc.2.2.2.2.2.2.1
  have c1 := hc.2.2.2.2.1
  have c2 := hc.2.2.2.2.2.1
  obtain ⟨k, tf78, h1, cf102, ca103, tf104, fp105, cd106, nf107, own108, lq109, lc110, lf111, lg112, P113, fs114, sd115, h2, hE⟩ := iv_tc_doLoop_0 h
  obtain ⟨k, cd2, g1, tf5, g2, cf18, tf19, fp20, cd21, g3, tf48, g4, fp59, cd60, v62, g5, cd66, g6, tf69, g7, e0, e1, e2, e3, e4, e5, e6, e7, e8, e9, e10, e11, e12, e13⟩ := iv_tc_doLoop_41 hE
  have hN5 : ND P113 := by rw [← e11]; exact hN
  rcases open_cur (p0 := 8) h1 hc hl (by decide) (by decide) with ⟨p1, p2, p3⟩ | ⟨p1, p2⟩
  · rw [if_pos p2]
    have c0 : CFK cfa (upd (upd cfa 16 (-1)) 17 (-1)) := (CFK.up CFK.rf (by decide)).up (by decide)
    have hst2 := hst.cu (t1 := t + 1) (o' := o + 1) NFq.rf c0 (by omega) (by omega) p3
    have d14 := c0 14 (by decide) (by decide) (by decide) (by decide)
    have d15 := c0 15 (by decide) (by decide) (by decide) (by decide)
    have d7 := c0 7 (by decide) (by decide) (by decide) (by decide)
    have o1 := bod_ok hl hS hTS hBS hXS hNS hN5 h2 hst2 (by rw [d14]; have := h14.2; omega) (by rw [d15]; have := h15.2; omega)
    cases hr : S (t + 1) (o + 1) with
    | none =>
      rw [hr] at o1
      rw [e2]
      exact (tkr_tk_shut g7).2 ((tkr_tk_expect g4).2 ((tkr_tc_condition g3).2 ((tkr_tk_expect g2).2 o1)))
    | some r =>
      obtain ⟨s, t1⟩ := r
      rw [hr] at o1
      obtain ⟨u1, u2, u3, u4, u5, X, u6, u7, u8⟩ := o1
      rw [d7] at u4
      have hst3 := hst2.nx (pxr_tc_loopBody hXS h2) (nfr_tc_loopBody hNS h2) u3 u5 u6 u7 u2 (Int.le_refl _) u1
      obtain ⟨-, hL3, hF3, -⟩ := hst3
      have hG := find_all hN5 hL3
      have hFC := fun_all hN5 hF3
      have ex := expect_cur (p0 := 7) g2 u1 hl (by decide) (by decide)
      rcases ex.1 with ⟨q1, q2⟩ | ⟨q1, q2⟩
      · have hk7 : kd ta t1 = 7 := by unfold kd; rw [q1]; rfl
        simp only [hk7, if_true]
        have co := con_ok hG hFC hl g3 q2
        have co' := co
        obtain ⟨w0, w1⟩ := co
        cases hr2 : pCo (kd ta) (t1 + 1) (o + 1) with
        | none =>
          rw [hr2] at w1
          rw [e2]
          exact (tkr_tk_shut g7).2 ((tkr_tk_expect g4).2 w1)
        | some r2 =>
          obtain ⟨e, t2⟩ := r2
          rw [hr2] at w1 co'
          obtain ⟨a1, a2, a3⟩ := w1
          have a1' := a1.2.2.2.2.1
          have ex2 := expect_cur (p0 := 59) g4 a1 hl (by decide) (by decide)
          rcases ex2.1 with ⟨y1, y2⟩ | ⟨y1, y2⟩
          · have hk59 : kd ta t2 = 59 := by unfold kd; rw [y1]; rfl
            simp only [hk59, if_true]
            have s1 := shut_cur g7 y2 (by omega)
            rw [e0, e1, e2, e5, e6, e9, e10, e11]
            refine ⟨by rw [show o = o + 1 - 1 by omega]; exact s1, by omega, (((c0.tr u3).tr (OkH.cf co')).up (by decide)).up (by decide), u4, u5, X, u6, by omega, ?_⟩
            have e1' : SP (fun s' => (sem (kd ta) (vd ta) (qlS ta) (fun v => flk v Flq') rt s sc true true s').bind (fun s'' => semE (kd ta) (vd ta) (fun v => flk v Flq') aNum e s'')) tf78 tf19 L (L ++ X) (upd (upd cfa 16 (-1)) 17 (-1)) cf18 (t + 1) t2 :=
              SP.seq u8 ((SP.sm ex.2 (SP.e co' (by omega))).ts (by omega) (Nat.le_refl _)) (fun x => bkr_tc_condition g3 (SmC.bd ex.2 x))
            refine (((((SP.sm (smr_tk_open h1) e1').ms (ex2.2.tr (smr_tk_shut g7))).cl (by rw [pk_un (by decide), pk_un (by decide)]) (by rw [pk_un (by decide), pk_un (by decide)])).cr (by rw [pk_un (by decide), pk_un (by decide)]) (by rw [pk_un (by decide), pk_un (by decide)])).ts (by omega) (by omega)).co (fun w h q => ?_)
            show ((sem (kd ta) (vd ta) (qlS ta) (fun v => flk v Flq') rt s sc true true (L, w, h, q)).bind some).bind _ = (sem (kd ta) (vd ta) (qlS ta) (fun v => flk v Flq') rt s sc true true (L, w, h, q)).bind _
            cases sem (kd ta) (vd ta) (qlS ta) (fun v => flk v Flq') rt s sc true true (L, w, h, q) <;> rfl
          · have hk59 : ¬ kd ta t2 = 59 := fun q => y1 (i_eq.mpr q)
            simp only [hk59, if_false]
            rw [e2]
            exact (tkr_tk_shut g7).2 y2
      · have hk7 : ¬ kd ta t1 = 7 := fun q => q1 (i_eq.mpr q)
        simp only [hk7, if_false]
        rw [e2]
        exact (tkr_tk_shut g7).2 ((tkr_tk_expect g4).2 ((tkr_tc_condition g3).2 q2))
  · rw [if_neg (fun q => p1 ⟨i_eq.mpr hk, q⟩), e2]
    exact (tkr_tk_shut g7).2 ((tkr_tk_expect g4).2 ((tkr_tc_condition g3).2 ((tkr_tk_expect g2).2 ((tkr_tc_loopBody hTS h2).2 p2))))
theorem cho2_ok (hl : Lst0 ta c) (hS : HSx RLs ta cn na ff fg sn c Flq' q0 rt S) (hTS : TK_tc_statement RLs) (hBS : BK_tc_statement RLs) (hXS : PX_tc_statement RLs) (hNS : NF_tc_statement RLs) (hN : ND P') (h : R_tc_choice RLs (some q0) ta cn na ff fg sn cfa caa tfa fpa cda nfa owna lqa lca lfa lga Pa fsa sda cf' ca' tf' fp' cd' nf' own' lq' lc' lf' lg' P' fs' sd') (hst : StI ta c na ff fg Flq' q0 rt cn t o sc L cfa tfa fpa nfa owna lfa lga Pa) (hk : kd ta t = 5) :
    OkS ta c o t L (fun s => sem (kd ta) (vd ta) (qlS ta) (fun v => flk v Flq') rt s sc (lpB cfa) (bkB cfa)) (if o < 60 then (match pCo (kd ta) (t + 1) (o + 1) with
      | none => none
      | some (e, t1) => (match S t1 (o + 1) with
        | none => none
        | some (s, t2) => if kd ta t2 = 6 then (match S (t2 + 1) (o + 1) with
            | none => none
            | some (s', t3) => some (sNd 4 e (sRow2 s s'), t3)) else some (sNd 4 e (sRow1 s), t2))) else none) cfa caa tfa nfa cf' ca' tf' nf' own' lf' lg' P' := by
  obtain ⟨k, h⟩ := h
  have hst' := hst
  obtain ⟨hc, hL, hF, hs, hR, hnn, h7, h14, h15⟩ := hst'
  have h0o := hc.2.2.2.2.2.2.1
  have c1 := hc.2.2.2.2.1
  have c2 := hc.2.2.2.2.2.1
  obtain ⟨k, tf122, h1, cf135, tf136, fp137, cd138, h2, fp167, cd168, v170, h3, cf188, ca189, tf190, fp191, cd192, nf193, own194, lq195, lc196, lf197, lg198, P199, fs200, sd201, h4, hE⟩ := iv_tc_choice_0 h
  have hN5 : ND P199 := by
    obtain ⟨Y, e⟩ := pxe_tc_choice hXS _ _ _ _ _ _ _ _ _ _ _ _ _ _ _ _ _ _ _ _ _ hE
    have hN' := hN
    rw [e] at hN'
    exact hN'.ap
  have hNa : ND Pa := by
    obtain ⟨Y, e⟩ := hXS _ _ _ _ _ _ _ _ _ _ _ _ _ _ _ _ _ _ _ _ _ _ _ _ _ _ _ _ _ _ _ _ _ _ _ h4
    have hN' := hN5
    rw [e] at hN'
    exact hN'.ap
  have hG := find_all hNa hL
  have hFC := fun_all hNa hF
  rcases open_cur (p0 := 5) h1 hc hl (by decide) (by decide) with ⟨p1, p2, p3⟩ | ⟨p1, p2⟩
  · rw [if_pos p2]
    have co := con_ok hG hFC hl h2 p3
    have co' := co
    obtain ⟨w0, w1⟩ := co
    have c39 : CFK cfa cf135 := OkH.cf co'
    cases hr : pCo (kd ta) (t + 1) (o + 1) with
    | none =>
      rw [hr] at w1
      exact (tke_tc_choice hTS _ _ _ _ _ _ _ _ _ _ _ _ _ _ _ _ _ _ _ _ _ hE).2 ((hTS _ _ _ _ _ _ _ _ _ _ _ _ _ _ _ _ _ _ _ _ _ _ _ _ _ _ _ _ _ _ _ _ _ _ _ h4).2 w1)
    | some r =>
      obtain ⟨e, t1⟩ := r
      rw [hr] at w1 co'
      dsimp only
      obtain ⟨a1, a2, a3⟩ := w1
      have a1' := a1.2.2.2.2.1
      have hst2 := hst.cu (t1 := t1) (o' := o + 1) (NFq.tr (nfr_tc_condition h2) (nfr_pe_emit h3)) c39 (by omega) (by omega) a1
      have o1 := hS _ _ _ _ _ _ _ _ _ _ _ _ _ _ _ _ _ _ _ _ _ _ _ _ _ _ _ _ t1 (o + 1) sc L h4 hN5 hst2
      have d7 : cf135 7 = cfa 7 := c39 7 (by decide) (by decide) (by decide) (by decide)
      have lb := c39.lb
      rw [lb.1, lb.2] at o1
      cases hr2 : S t1 (o + 1) with
      | none =>
        rw [hr2] at o1
        exact (tke_tc_choice hTS _ _ _ _ _ _ _ _ _ _ _ _ _ _ _ _ _ _ _ _ _ hE).2 o1
      | some r2 =>
        obtain ⟨s, t2⟩ := r2
        rw [hr2] at o1
        obtain ⟨u1, u2, u3, u4, u5, X, u6, u7, u8⟩ := o1
        rw [d7] at u4
        have e1' : SP (fun s' => (semE (kd ta) (vd ta) (fun v => flk v Flq') aNum e s').bind (fun s'' => sem (kd ta) (vd ta) (qlS ta) (fun v => flk v Flq') rt s sc (lpB cfa) (bkB cfa) s'')) tf122 tf190 L (L ++ X) cfa cf188 (t + 1) t2 := SP.seq (SP.e co' (by omega)) u8 (hBS _ _ _ _ _ _ _ _ _ _ _ _ _ _ _ _ _ _ _ _ _ _ _ _ _ _ _ _ _ _ _ _ _ _ _ h4)
        rcases iv_tc_choice_29 hE with ⟨k, tf15, v17, k1, (⟨k2, cd30, k3, tf33, k4, e0, e1, e2, e3, e4, e5, e6, e7, e8, e9, e10, e11, e12, e13⟩ | ⟨k2, fp44, cd45, v47, k3, cd52, k4, cf70, ca71, tf72, fp73, cd74, nf75, own76, lq77, lc78, lf79, lg80, P81, fs82, sd83, k5, hE2⟩)⟩
        · rcases accept_cur (p0 := 6) k1 u1 hl (by decide) (by decide) with ⟨y1, y2, y3, y4⟩ | ⟨y1, y2, y3⟩
          · rw [y2] at k2; exact absurd k2 (by decide)
          · have hk6 : ¬ kd ta t2 = 6 := fun q => y1 (i_eq.mpr q)
            simp only [hk6, if_false]
            rw [y3] at k4
            have s1 := shut_cur k4 u1 (by omega)
            rw [e0, e1, e2, e5, e6, e9, e10, e11]
            refine ⟨by rw [show o = o + 1 - 1 by omega]; exact s1, by omega, c39.tr u3, u4, u5, X, u6, by omega, ?_⟩
            refine (((SP.sm (smr_tk_open h1) e1').ms (smr_tk_shut k4)).ts (by omega) (by omega)).co (fun w h q => ?_)
            show (semE (kd ta) (vd ta) (fun v => flk v Flq') aNum e (L, w, h, q)).bind _ = (semE (kd ta) (vd ta) (fun v => flk v Flq') aNum e (L, w, h, q)).bind _
            cases semE (kd ta) (vd ta) (fun v => flk v Flq') aNum e (L, w, h, q) with
            | none => rfl
            | some x =>
              show (sem (kd ta) (vd ta) (qlS ta) (fun v => flk v Flq') rt s sc (lpB cfa) (bkB cfa) x).bind _ = sem (kd ta) (vd ta) (qlS ta) (fun v => flk v Flq') rt s sc (lpB cfa) (bkB cfa) x
              cases sem (kd ta) (vd ta) (qlS ta) (fun v => flk v Flq') rt s sc (lpB cfa) (bkB cfa) x <;> rfl
        · rcases accept_cur (p0 := 6) k1 u1 hl (by decide) (by decide) with ⟨y1, y2, y3, y4⟩ | ⟨y1, y2, y3⟩
          · have hk6 : kd ta t2 = 6 := by unfold kd; rw [y1]; rfl
            simp only [hk6, if_true]
            obtain ⟨k, cd3, g1, tf6, g2, e0, e1, e2, e3, e4, e5, e6, e7, e8, e9, e10, e11, e12, e13⟩ := iv_tc_choice_73 hE2
            have hN6 : ND P81 := by rw [← e11]; exact hN
            have hst3 := hst2.nx (hXS _ _ _ _ _ _ _ _ _ _ _ _ _ _ _ _ _ _ _ _ _ _ _ _ _ _ _ _ _ _ _ _ _ _ _ h4) (hNS _ _ _ _ _ _ _ _ _ _ _ _ _ _ _ _ _ _ _ _ _ _ _ _ _ _ _ _ _ _ _ _ _ _ _ h4) u3 u5 u6 u7 u2 (Int.le_refl _) u1
            have hst4 := hst3.cu (t1 := t2 + 1) (o' := o + 1) (nfr_pe_emit k3) CFK.rf (by omega) (Int.le_refl _) y3
            have o2 := hS _ _ _ _ _ _ _ _ _ _ _ _ _ _ _ _ _ _ _ _ _ _ _ _ _ _ _ _ (t2 + 1) (o + 1) sc (L ++ X) k5 hN6 hst4
            have lb2 := u3.lb
            rw [lb2.1, lb2.2, lb.1, lb.2] at o2
            cases hr3 : S (t2 + 1) (o + 1) with
            | none =>
              rw [hr3] at o2
              rw [e2]
              exact (tkr_tk_shut g2).2 o2
            | some r3 =>
              obtain ⟨s', t3⟩ := r3
              rw [hr3] at o2
              obtain ⟨v1, v2, v3, v4, v5, X2, v6, v7, v8⟩ := o2
              have s1 := shut_cur g2 v1 (by omega)
              rw [List.append_assoc] at v6 v8
              have d7' : cf188 7 = cfa 7 := (c39.tr u3) 7 (by decide) (by decide) (by decide) (by decide)
              rw [d7'] at v4
              rw [e0, e1, e2, e5, e6, e9, e10, e11]
              refine ⟨by rw [show o = o + 1 - 1 by omega]; exact s1, by omega, (c39.tr u3).tr v3, u4.tr v4 (Int.le_refl _), v5.trans u5, X ++ X2, v6, by rw [List.length_append]; omega, ?_⟩
              refine (((SP.sm (smr_tk_open h1) (SP.seq e1' ((SP.sm y4 v8).ts (by omega) (Nat.le_refl _)) (fun x => hBS _ _ _ _ _ _ _ _ _ _ _ _ _ _ _ _ _ _ _ _ _ _ _ _ _ _ _ _ _ _ _ _ _ _ _ k5 (SmC.bd y4 x)))).ms (smr_tk_shut g2)).ts (by omega) (by omega)).co (fun w h q => ?_)
              show (semE (kd ta) (vd ta) (fun v => flk v Flq') aNum e (L, w, h, q)).bind _ = ((semE (kd ta) (vd ta) (fun v => flk v Flq') aNum e (L, w, h, q)).bind _).bind _
              cases semE (kd ta) (vd ta) (fun v => flk v Flq') aNum e (L, w, h, q) with
              | none => rfl
              | some x =>
                show (sem (kd ta) (vd ta) (qlS ta) (fun v => flk v Flq') rt s sc (lpB cfa) (bkB cfa) x).bind _ = (sem (kd ta) (vd ta) (qlS ta) (fun v => flk v Flq') rt s sc (lpB cfa) (bkB cfa) x).bind _
                cases sem (kd ta) (vd ta) (qlS ta) (fun v => flk v Flq') rt s sc (lpB cfa) (bkB cfa) x with
                | none => rfl
                | some x2 =>
                  show (sem (kd ta) (vd ta) (qlS ta) (fun v => flk v Flq') rt s' sc (lpB cfa) (bkB cfa) x2).bind _ = sem (kd ta) (vd ta) (qlS ta) (fun v => flk v Flq') rt s' sc (lpB cfa) (bkB cfa) x2
                  cases sem (kd ta) (vd ta) (qlS ta) (fun v => flk v Flq') rt s' sc (lpB cfa) (bkB cfa) x2 <;> rfl
          · rw [y2] at k2; exact absurd (by rfl) k2
  · rw [if_neg (fun q => p1 ⟨i_eq.mpr hk, q⟩)]
    exact (tke_tc_choice hTS _ _ _ _ _ _ _ _ _ _ _ _ _ _ _ _ _ _ _ _ _ hE).2 ((hTS _ _ _ _ _ _ _ _ _ _ _ _ _ _ _ _ _ _ _ _ _ _ _ _ _ _ _ _ _ _ _ _ _ _ _ h4).2 ((tkr_tc_condition h2).2 p2))
end SC
