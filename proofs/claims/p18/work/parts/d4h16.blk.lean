theorem SP.tk {f : Sg → Option Sg} {a b : Nat → Int32} {L X : Nms} {cf cf' : Nat → Int32} {t t1 : Nat} (k : SP f a b L (L ++ X) cf cf' t t1) : SP (fun s => (f s).bind fun s' => some (s'.1.take L.length, s'.2)) a b L L cf cf' t t1 := by
  intro w h' q e1 e2 e3 e4 e5 e6
  refine AT.bind (k w h' q e1 e2 e3 e4 e5 e6) (fun s hs => AT.ret ⟨?_, hs.2⟩) BK.rf
  show s.1.take L.length = L
  rw [hs.1]
  simp
theorem i_incdec {x y z : Int32} (h : y = x + 1) (k : z = y - 1) : z = x := by
  rw [k, h]
  apply i_eq.mpr
  rw [i_sub, i_add]
  have := Int32.le_toInt x
  have := Int32.toInt_lt x
  rw [show (1 : Int32).toInt = 1 from rfl]
  omega
section SB
variable {ta : Nat → Nat → Int32} {cn sn : Nat} {na : Nat → Nat → Int32} {ff : Nat → Int32} {fg : Nat → Option Nat} {c sc q0 : Nat} {o rt : Int} {Flq' : List (Int32 × Fnc)} {RLs : T_tc_statement} {S : POT}
variable {cf' : Nat → Int32} {ca' : Nat → Nat → Int32} {tf' fp' cd' nf' : Nat → Int32} {own' : Bool} {lq' lc' : Nat} {lf' : Nat → Int32} {lg' : Nat → Option Nat} {P' : va_W} {fs' sd' : Nat → Int32}
variable {cfa : Nat → Int32} {caa : Nat → Nat → Int32} {tfa fpa cda nfa : Nat → Int32} {owna : Bool} {lqa lca : Nat} {lfa : Nat → Int32} {lga : Nat → Option Nat} {Pa : va_W} {fsa sda : Nat → Int32} {t : Nat} {L : Nms}
theorem blk_ok (hl : Lst0 ta c) (hS : HSx RLs ta cn na ff fg sn c Flq' q0 rt S) (hTS : TK_tc_statement RLs) (hBS : BK_tc_statement RLs) (hXS : PX_tc_statement RLs) (hNS : NF_tc_statement RLs) (hN : ND P') (h : R_tc_block RLs (some q0) ta cn na ff fg sn cfa caa tfa fpa cda nfa owna lqa lca lfa lga Pa fsa sda cf' ca' tf' fp' cd' nf' own' lq' lc' lf' lg' P' fs' sd') (hst : StI ta c na ff fg Flq' q0 rt cn t o sc L cfa tfa fpa nfa owna lfa lga Pa) (hk : kd ta t = 123) :
    OkS ta c o t L (fun s => sem (kd ta) (vd ta) (qlS ta) (fun v => flk v Flq') rt s sc (lpB cfa) (bkB cfa)) (if o < 60 then (match pSts S (kd ta) (o + 1) 2049 (t + 1) with
      | none => none
      | some (l, t1) => if kd ta t1 = 125 then some (sNd 0 l .null, t1 + 1) else none) else none) cfa caa tfa nfa cf' ca' tf' nf' own' lf' lg' P' := by
  obtain ⟨hc, hL, hF, ⟨hs1, hs2, hs3⟩, hR, hnn, h7, h14, h15⟩ := hst
  have h0o := hc.2.2.2.2.2.2.1
  have c1 := hc.2.2.2.2.1
  have c2 := hc.2.2.2.2.2.1
  rcases h with ⟨nf2, v4, h1, tf10, h2, cf34, ca35, tf36, fp37, cd38, nf39, own40, lq41, lc42, lf43, lg44, P45, fs46, sd47, h3, tf85, h4, nf97, lf98, lg99, h5, e0, e1, e2, e3, e4, e5, e6, e7, e8, e9, e10, e11, e12, e13⟩ | h
  · obtain ⟨n1, n2⟩ := enter_r h1
    have hN5 : ND P45 := by rw [← e11]; exact hN
    rcases open_cur (p0 := 123) h2 hc hl (by decide) (by decide) with ⟨p1, p2, p3⟩ | ⟨p1, p2⟩
    · rw [if_pos p2]
      have hst2 : StI ta c na ff fg Flq' q0 rt cn (t + 1) (o + 1) L.length L cfa tf10 fpa nf2 owna lfa lga Pa := ⟨p3, hL, hF, ⟨by rw [n1, pk_us]; exact hL.1, Nat.le_refl _, by omega⟩, hR, hnn, ⟨h7.1, by have := h7.2; omega⟩, ⟨h14.1, by have := h14.2; omega⟩, ⟨h15.1, by have := h15.2; omega⟩⟩
      have o1 := sts_ok hl hS hTS hBS hXS hNS hN5 h3 hst2
      cases hr : pSts S (kd ta) (o + 1) 2049 (t + 1) with
      | none =>
        rw [hr] at o1
        rw [e2]
        exact (tkr_tk_close h4).2 o1
      | some r =>
        obtain ⟨l, t1⟩ := r
        rw [hr] at o1
        obtain ⟨u1, u2, u3, u4, u5, X, u6, u7, u8⟩ := o1
        have u1' := u1.2.2.2.2.1
        rcases close_cur (p0 := 125) h4 u1 (by omega) hl (by decide) (by decide) with ⟨b1, b2⟩ | ⟨b1, b2⟩
        · have hk1 : kd ta t1 = 125 := by unfold kd; rw [b1]; rfl
          simp only [hk1, if_true]
          obtain ⟨lv1, lv2⟩ := leave_env (sc := L.length) (by rw [u5, n1, pk_us]; exact hL.1) (by rw [List.length_append]; omega) u6 h5 (by rw [List.length_append]; omega)
          have tl : (L ++ X).take L.length = L := by simp
          rw [tl] at lv1
          rw [e0, e1, e2, e5, e6, e9, e10, e11]
          refine ⟨by rw [show o = o + 1 - 1 by omega]; exact b2, by omega, u3, u4, by rw [lv2, pk_us, n2], [], by rw [List.append_nil]; exact lv1, by simp, ?_⟩
          rw [List.append_nil]
          exact (((SP.sm (smr_tk_open h2) (SP.tk u8)).ms (smr_tk_close h4)).ts (by omega) (by omega)).co (fun w h q => rfl)
        · have hk1 : ¬ kd ta t1 = 125 := fun q => b1 (i_eq.mpr q)
          simp only [hk1, if_false]
          rw [e2]
          exact b2
    · rw [if_neg (fun q => p1 ⟨i_eq.mpr hk, q⟩), e2]
      exact (tkr_tk_close h4).2 ((tkr_tc_statements hTS h3).2 p2)
  · exact h.elim
theorem bod_ok (hl : Lst0 ta c) (hS : HSx RLs ta cn na ff fg sn c Flq' q0 rt S) (hTS : TK_tc_statement RLs) (hBS : BK_tc_statement RLs) (hXS : PX_tc_statement RLs) (hNS : NF_tc_statement RLs) (hN : ND P') (h : R_tc_loopBody RLs (some q0) ta cn na ff fg sn cfa caa tfa fpa cda nfa owna lqa lca lfa lga Pa fsa sda cf' ca' tf' fp' cd' nf' own' lq' lc' lf' lg' P' fs' sd') (hst : StI ta c na ff fg Flq' q0 rt cn t o sc L cfa tfa fpa nfa owna lfa lga Pa) (g14 : (cfa 14).toInt + 1 ≤ o) (g15 : (cfa 15).toInt + 1 ≤ o) : OkS ta c o t L (fun s => sem (kd ta) (vd ta) (qlS ta) (fun v => flk v Flq') rt s sc true true) (S t o) cfa caa tfa nfa cf' ca' tf' nf' own' lf' lg' P' := by
  obtain ⟨hc, hL, hF, hs, hR, hnn, h7, h14, h15⟩ := hst
  have ho := hc.2.2.2.2.2.2.2
  rcases h with ⟨z2, k1, z4, k2, fp7, cd8, v10, k3, cf28, ca29, tf30, fp31, cd32, nf33, own34, lq35, lc36, lf37, lg38, P39, fs40, sd41, k4, z81, k5, z83, k6, e0, e1, e2, e3, e4, e5, e6, e7, e8, e9, e10, e11, e12, e13⟩ | h
  · have z1 := ti_add k1 (rfl : (cfa 14).toInt = (cfa 14).toInt) (show (1 : Int32).toInt = 1 from rfl) (by omega) (by omega)
    have z2' := ti_add k2 (rfl : (cfa 15).toInt = (cfa 15).toInt) (show (1 : Int32).toInt = 1 from rfl) (by omega) (by omega)
    have hN5 : ND P39 := by rw [← e11]; exact hN
    have q14 : upd (upd cfa 14 z2) 15 z4 14 = z2 := by rw [pk_un (by decide), pk_us]
    have q15 : upd (upd cfa 14 z2) 15 z4 15 = z4 := by rw [pk_us]
    have q7 : upd (upd cfa 14 z2) 15 z4 7 = cfa 7 := by rw [pk_un (by decide), pk_un (by decide)]
    have hst2 : StI ta c na ff fg Flq' q0 rt cn t o sc L (upd (upd cfa 14 z2) 15 z4) tfa fp7 nfa owna lfa lga Pa := ⟨hc, hL, hF, hs, hR, nfr_pe_emit k3 hnn, by rw [q7]; exact h7, by rw [q14, z1]; omega, by rw [q15, z2']; omega⟩
    have o1 := hS _ _ _ _ _ _ _ _ _ _ _ _ _ _ _ _ _ _ _ _ _ _ _ _ _ _ _ _ t o sc L k4 hN5 hst2
    have lb : lpB (upd (upd cfa 14 z2) 15 z4) = true ∧ bkB (upd (upd cfa 14 z2) 15 z4) = true := by
      unfold lpB bkB
      rw [q14, q15, z1, z2']
      exact ⟨decide_eq_true (by omega), decide_eq_true (by omega)⟩
    rw [lb.1, lb.2] at o1
    rw [e0, e1, e2, e5, e6, e9, e10, e11]
    cases hr : S t o with
    | none =>
      rw [hr] at o1
      exact o1
    | some r =>
      obtain ⟨s, t1⟩ := r
      rw [hr] at o1
      obtain ⟨u1, u2, u3, u4, u5, X, u6, u7, u8⟩ := o1
      have w14 : z81 = cfa 14 := i_incdec k1 (by rw [k5, u3 14 (by decide) (by decide) (by decide) (by decide), q14])
      have w15 : z83 = cfa 15 := i_incdec k2 (by rw [k6, u3 15 (by decide) (by decide) (by decide) (by decide), q15])
      refine ⟨u1, u2, ?_, by rw [q7] at u4; exact u4, u5, X, u6, u7, ?_⟩
      · intro i a1 a2 a3 a4
        by_cases i15 : i = 15
        · rw [i15, pk_us, w15]
        · rw [pk_un i15]
          by_cases i14 : i = 14
          · rw [i14, pk_us, w14]
          · rw [pk_un i14, u3 i a1 a2 a3 a4, pk_un i15, pk_un i14]
      · exact (u8.cl (by rw [pk_un (by decide), pk_un (by decide)]) (by rw [pk_un (by decide), pk_un (by decide)])).cr (by rw [pk_un (by decide), pk_un (by decide)]) (by rw [pk_un (by decide), pk_un (by decide)])
  · exact h.elim
theorem whi_ok (hl : Lst0 ta c) (hS : HSx RLs ta cn na ff fg sn c Flq' q0 rt S) (hTS : TK_tc_statement RLs) (hBS : BK_tc_statement RLs) (hXS : PX_tc_statement RLs) (hNS : NF_tc_statement RLs) (hN : ND P') (h : R_tc_whileLoop RLs (some q0) ta cn na ff fg sn cfa caa tfa fpa cda nfa owna lqa lca lfa lga Pa fsa sda cf' ca' tf' fp' cd' nf' own' lq' lc' lf' lg' P' fs' sd') (hst : StI ta c na ff fg Flq' q0 rt cn t o sc L cfa tfa fpa nfa owna lfa lga Pa) (hk : kd ta t = 7) :
    OkS ta c o t L (fun s => sem (kd ta) (vd ta) (qlS ta) (fun v => flk v Flq') rt s sc (lpB cfa) (bkB cfa)) (if o < 60 then (match pCo (kd ta) (t + 1) (o + 1) with
      | none => none
      | some (e, t1) => (match S t1 (o + 1) with
        | none => none
        | some (s, t2) => some (sNd 5 e (sRow1 s), t2))) else none) cfa caa tfa nfa cf' ca' tf' nf' own' lf' lg' P' := by
  obtain ⟨k, h⟩ := h
  have hst' := hst
  obtain ⟨hc, hL, hF, hs, hR, hnn, h7, h14, h15⟩ := hst'
  have h0o := hc.2.2.2.2.2.2.1
  have c1 := hc.2.2.2.2.1
  have c2 := hc.2.2.2.2.2.1
  obtain ⟨k, tf26, h1, cf39, tf40, fp41, cd42, h2, fp71, cd72, v74, h3, cf93, ca94, tf95, fp96, cd97, nf98, own99, lq100, lc101, lf102, lg103, P104, fs105, sd106, h4, hE⟩ := iv_tc_whileLoop_0 h
  obtain ⟨k, fp3, cd4, v6, g1, cd10, g2, cd14, g3, tf17, g4, e0, e1, e2, e3, e4, e5, e6, e7, e8, e9, e10, e11, e12, e13⟩ := iv_tc_whileLoop_56 hE
  have hN5 : ND P104 := by rw [← e11]; exact hN
  have hpx := pxr_tc_loopBody hXS h4
  have hNa : ND Pa := by
    obtain ⟨Y, e⟩ := hpx
    have hN' := hN5
    rw [e] at hN'
    exact hN'.ap
  have hG := find_all hNa hL
  have hFC := fun_all hNa hF
  rcases open_cur (p0 := 7) h1 hc hl (by decide) (by decide) with ⟨p1, p2, p3⟩ | ⟨p1, p2⟩
  · rw [if_pos p2]
    have co := con_ok hG hFC hl h2 p3
    have co' := co
    obtain ⟨w0, w1⟩ := co
    have c39 : CFK cfa (upd cf39 16 v74) := ((CFK.up CFK.rf (by decide)).tr (OkH.cf co')).up (by decide)
    cases hr : pCo (kd ta) (t + 1) (o + 1) with
    | none =>
      rw [hr] at w1
      rw [e2]
      exact (tkr_tk_shut g4).2 ((tkr_tc_loopBody hTS h4).2 w1)
    | some r =>
      obtain ⟨e, t1⟩ := r
      rw [hr] at w1 co'
      dsimp only
      obtain ⟨a1, a2, a3⟩ := w1
      have a1' := a1.2.2.2.2.1
      have hst2 := hst.cu (t1 := t1) (o' := o + 1) (NFq.tr (nfr_tc_condition h2) (nfr_pe_emitc h3)) c39 (by omega) (by omega) a1
      have d14 : (upd cf39 16 v74 14) = cfa 14 := c39 14 (by decide) (by decide) (by decide) (by decide)
      have d15 : (upd cf39 16 v74 15) = cfa 15 := c39 15 (by decide) (by decide) (by decide) (by decide)
      have o1 := bod_ok hl hS hTS hBS hXS hNS hN5 h4 hst2 (by rw [d14]; have := h14.2; omega) (by rw [d15]; have := h15.2; omega)
      cases hr2 : S t1 (o + 1) with
      | none =>
        rw [hr2] at o1
        rw [e2]
        exact (tkr_tk_shut g4).2 o1
      | some r2 =>
        obtain ⟨s, t2⟩ := r2
        rw [hr2] at o1
        obtain ⟨u1, u2, u3, u4, u5, X, u6, u7, u8⟩ := o1
        have s1 := shut_cur g4 u1 (by omega)
        rw [e0, e1, e2, e5, e6, e9, e10, e11]
        have d7 : (upd cf39 16 v74 7) = cfa 7 := c39 7 (by decide) (by decide) (by decide) (by decide)
        rw [d7] at u4
        refine ⟨by rw [show o = o + 1 - 1 by omega]; exact s1, by omega, ((c39.tr u3).up (by decide)).up (by decide), u4, u5, X, u6, by omega, ?_⟩
        have e1' : SP (fun s' => (semE (kd ta) (vd ta) (fun v => flk v Flq') aNum e s').bind (fun s'' => sem (kd ta) (vd ta) (qlS ta) (fun v => flk v Flq') rt s sc true true s'')) tf26 tf95 L (L ++ X) (upd cfa 17 (-1)) cf93 (t + 1) t2 :=
          SP.seq ((SP.e co' (by omega)).cr (by rw [pk_un (by decide)]) (by rw [pk_un (by decide)])) (u8) (bkr_tc_loopBody hBS h4)
        exact ((((SP.sm (smr_tk_open h1) e1').ms (smr_tk_shut g4)).cl (by rw [pk_un (by decide)]) (by rw [pk_un (by decide)])).cr (by rw [pk_un (by decide), pk_un (by decide)]) (by rw [pk_un (by decide), pk_un (by decide)])).ts (by omega) (by omega) |>.co (fun w h q => by
          show (semE (kd ta) (vd ta) (fun v => flk v Flq') aNum e (L, w, h, q)).bind _ = (semE (kd ta) (vd ta) (fun v => flk v Flq') aNum e (L, w, h, q)).bind _
          cases semE (kd ta) (vd ta) (fun v => flk v Flq') aNum e (L, w, h, q) with
          | none => rfl
          | some x =>
            show (sem (kd ta) (vd ta) (qlS ta) (fun v => flk v Flq') rt s sc true true x).bind _ = sem (kd ta) (vd ta) (qlS ta) (fun v => flk v Flq') rt s sc true true x
            cases sem (kd ta) (vd ta) (qlS ta) (fun v => flk v Flq') rt s sc true true x <;> rfl)
  · rw [if_neg (fun q => p1 ⟨i_eq.mpr hk, q⟩), e2]
    exact (tkr_tk_shut g4).2 ((tkr_tc_loopBody hTS h4).2 ((tkr_tc_condition h2).2 p2))
end SB
