section SD
variable {ta : Nat → Nat → Int32} {cn sn : Nat} {na : Nat → Nat → Int32} {ff : Nat → Int32} {fg : Nat → Option Nat} {c sc q0 : Nat} {o rt : Int} {Flq' : List (Int32 × Fnc)} {RLs : T_tc_statement} {S : POT}
variable {cf' : Nat → Int32} {ca' : Nat → Nat → Int32} {tf' fp' cd' nf' : Nat → Int32} {own' : Bool} {lq' lc' : Nat} {lf' : Nat → Int32} {lg' : Nat → Option Nat} {P' : va_W} {fs' sd' : Nat → Int32}
variable {cfa : Nat → Int32} {caa : Nat → Nat → Int32} {tfa fpa cda nfa : Nat → Int32} {owna : Bool} {lqa lca : Nat} {lfa : Nat → Int32} {lga : Nat → Option Nat} {Pa : va_W} {fsa sda : Nat → Int32} {t : Nat} {L : Nms}
variable {cf0 : Nat → Int32} {L0 X1 : Nms}
/-- what is read in the brackets of for behind the first ; -/
theorem for_226 (hl : Lst0 ta c) (hS : HSx RLs ta cn na ff fg sn c Flq' q0 rt S) (hTS : TK_tc_statement RLs) (hBS : BK_tc_statement RLs) (hXS : PX_tc_statement RLs) (hNS : NF_tc_statement RLs) (hN : ND P') {k : Nat} {x3 x6 : Int32} (h : E_tc_forLoop RLs (some q0) ta cn na ff fg sn cf' ca' tf' fp' cd' nf' own' lq' lc' lf' lg' P' fs' sd' cf0 k 226 [x3, x6] [] [] [] [] cfa caa tfa fpa cda nfa owna lqa lca lfa lga Pa fsa sda) (hst : StI ta c na ff fg Flq' q0 rt cn t (o + 2) L0.length (L0 ++ X1) cfa tfa fpa nfa owna lfa lga Pa) (g14 : (cfa 14).toInt ≤ o) (g15 : (cfa 15).toInt ≤ o) (h0o : 0 ≤ o) :
    (match (if kd ta t = 41 then S (t + 1) (o + 1) else none) with
      | none => Flq tf'
      | some (s, t4) => Cur tf' c t4 o ∧ t < t4 ∧ (∀ i : Nat, i ≠ 12 → i ≠ 13 → i ≠ 16 → i ≠ 17 → cf' i = cfa i) ∧ CAK (cfa 7) caa ca' ∧ nf' 4 = x3 ∧ EnvL own' P' lf' lg' L0 ∧ SP (fun x => (sem (kd ta) (vd ta) (qlS ta) (fun v => flk v Flq') rt s L0.length true true x).bind fun y => some (y.1.take L0.length, y.2)) tfa tf' (L0 ++ X1) L0 cfa cf' t t4) := by
  have hst' := hst
  obtain ⟨hc, hL, hF, ⟨hs1, hs2, hs3⟩, hR, hnn, h7, h14, h15⟩ := hst'
  have c1 := hc.2.2.2.2.1
  have c2 := hc.2.2.2.2.2.1
  obtain ⟨k, tf1, h1, cf25, ca26, tf27, fp28, cd29, nf30, own31, lq32, lc33, lf34, lg35, P36, fs37, sd38, h2, fp79, cd80, v82, h3, cd86, h4, cd90, h5, nf96, lf97, lg98, h6, tf107, h7_1, e0, e1, e2, e3, e4, e5, e6, e7, e8, e9, e10, e11, e12, e13⟩ := iv_tc_forLoop_226 h
  have hN5 : ND P36 := by rw [← e11]; exact hN
  rcases close_cur (p0 := 41) h1 hc (by omega) hl (by decide) (by decide) with ⟨p1, p2⟩ | ⟨p1, p2⟩
  · have hk : kd ta t = 41 := by unfold kd; rw [p1]; rfl
    rw [if_pos hk]
    have p2' : Cur tf1 c (t + 1) (o + 1) := by rw [show o + 1 = o + 2 - 1 by omega]; exact p2
    have hst2 : StI ta c na ff fg Flq' q0 rt cn (t + 1) (o + 1) L0.length (L0 ++ X1) cfa tf1 fpa nfa owna lfa lga Pa := ⟨p2', hL, hF, ⟨hs1, hs2, by omega⟩, hR, hnn, ⟨h7.1, by omega⟩, ⟨h14.1, by omega⟩, ⟨h15.1, by omega⟩⟩
    have o1 := bod_ok hl hS hTS hBS hXS hNS hN5 h2 hst2 (by omega) (by omega)
    cases hr : S (t + 1) (o + 1) with
    | none =>
      rw [hr] at o1
      rw [e2]
      exact (tkr_tk_shut h7_1).2 o1
    | some r =>
      obtain ⟨s, t4⟩ := r
      rw [hr] at o1
      obtain ⟨u1, u2, u3, u4, u5, X, u6, u7, u8⟩ := o1
      have u1' := u1.2.2.2.2.1
      have s1 := shut_cur h7_1 u1 (by omega)
      obtain ⟨lv1, lv2⟩ := leave_env (sc := L0.length) (by rw [u5]; exact hs1) (by rw [List.append_assoc, List.length_append]; omega) u6 h6 (by rw [List.length_append]; omega)
      have tl : (L0 ++ X1 ++ X).take L0.length = L0 := by rw [List.append_assoc]; simp
      rw [tl] at lv1
      rw [e0, e1, e2, e5, e6, e9, e10, e11]
      refine ⟨by rw [show o = o + 1 - 1 by omega]; exact s1, by omega, fun i a1 a2 a3 a4 => by rw [pk_un a4, pk_un a3]; exact u3 i a1 a2 a3 a4, u4, by rw [lv2, pk_us], lv1, ?_⟩
      have e1' : SP (fun x => (sem (kd ta) (vd ta) (qlS ta) (fun v => flk v Flq') rt s L0.length true true x).bind fun y => some (y.1.take L0.length, y.2)) tf1 tf27 (L0 ++ X1) L0 cfa cf25 (t + 1) t4 := by
        intro w h' q z1 z2 z3 z4 z5 z6
        refine AT.bind (u8 w h' q z1 z2 z3 z4 z5 z6) (fun x hx => AT.ret ⟨?_, hx.2⟩) BK.rf
        show x.1.take L0.length = L0
        rw [hx.1, tl]
      exact ((((SP.sm (smr_tk_close h1) e1').ms (smr_tk_shut h7_1)).cr (by rw [pk_un (by decide), pk_un (by decide)]) (by rw [pk_un (by decide), pk_un (by decide)])).ts (by omega) (Nat.le_refl _))
  · have hk : ¬ kd ta t = 41 := fun q => p1 (i_eq.mpr q)
    rw [if_neg hk, e2]
    exact (tkr_tk_shut h7_1).2 ((tkr_tc_loopBody hTS h2).2 p2)
theorem for_144 (hl : Lst0 ta c) (hS : HSx RLs ta cn na ff fg sn c Flq' q0 rt S) (hTS : TK_tc_statement RLs) (hBS : BK_tc_statement RLs) (hXS : PX_tc_statement RLs) (hNS : NF_tc_statement RLs) (hN : ND P') {lp bk : Bool} {k : Nat} {x3 x5 : Int32} (h : E_tc_forLoop RLs (some q0) ta cn na ff fg sn cf' ca' tf' fp' cd' nf' own' lq' lc' lf' lg' P' fs' sd' cf0 k 144 [x3, x5] [] [] [] [] cfa caa tfa fpa cda nfa owna lqa lca lfa lga Pa fsa sda) (hst : StI ta c na ff fg Flq' q0 rt cn t (o + 2) L0.length (L0 ++ X1) cfa tfa fpa nfa owna lfa lga Pa) (g14 : (cfa 14).toInt ≤ o) (g15 : (cfa 15).toInt ≤ o) (h0o : 0 ≤ o) :
    (match (if kd ta t = 59 then pOp (kd ta) 2 41 (t + 1) (o + 2) else none) with
      | none => Flq tf'
      | some (d, t3) => (match S (t3 + 1) (o + 1) with
        | none => Flq tf'
        | some (s, t4) => Cur tf' c t4 o ∧ t < t4 ∧ (∀ i : Nat, i ≠ 12 → i ≠ 13 → i ≠ 16 → i ≠ 17 → cf' i = cfa i) ∧ CAK (cfa 7) caa ca' ∧ nf' 4 = x3 ∧ EnvL own' P' lf' lg' L0 ∧ SP (fun x => (sem (kd ta) (vd ta) (qlS ta) (fun v => flk v Flq') rt d L0.length lp bk x).bind fun z => (sem (kd ta) (vd ta) (qlS ta) (fun v => flk v Flq') rt s L0.length true true z).bind fun y => some (y.1.take L0.length, y.2)) tfa tf' (L0 ++ X1) L0 cfa cf' t t4)) := by
  have hst' := hst
  obtain ⟨hc, hL, hF, ⟨hs1, hs2, hs3⟩, hR, hnn, h7, h14, h15⟩ := hst'
  have c1 := hc.2.2.2.2.1
  have c2 := hc.2.2.2.2.2.1
  have dead : ∀ {k pc : Nat} {ls : List Int32} {cfb : Nat → Int32} {cab : Nat → Nat → Int32} {tfb fpb cdb nfb : Nat → Int32} {ownb : Bool} {lqb lcb : Nat} {lfb : Nat → Int32} {lgb : Nat → Option Nat} {Pb : va_W} {fsb sdb : Nat → Int32}, E_tc_forLoop RLs (some q0) ta cn na ff fg sn cf' ca' tf' fp' cd' nf' own' lq' lc' lf' lg' P' fs' sd' cf0 k pc ls [] [] [] [] cfb cab tfb fpb cdb nfb ownb lqb lcb lfb lgb Pb fsb sdb → Flq tfb → Flq tf' := fun q1 q2 => (tke_tc_forLoop hTS _ _ _ _ _ _ _ _ _ _ _ _ _ _ _ _ _ _ _ _ _ q1).2 q2
  have hNa : ND Pa := by
    obtain ⟨Y, e⟩ := pxe_tc_forLoop hXS _ _ _ _ _ _ _ _ _ _ _ _ _ _ _ _ _ _ _ _ _ h
    have hN' := hN
    rw [e] at hN'
    exact hN'.ap
  rcases iv_tc_forLoop_144 h with ⟨k, tf116, k1, v126, k2, (⟨k3, hE⟩ | ⟨k3, fp134, cd135, v137, k4, cf144, tf145, fp146, cd147, k5, fp176, cd177, v179, k6, cd184, k7, hE⟩)⟩
  · have ex := expect_cur (p0 := 59) k1 hc hl (by decide) (by decide)
    rcases ex.1 with ⟨q1, q2⟩ | ⟨q1, q2⟩
    · have hk : kd ta t = 59 := by unfold kd; rw [q1]; rfl
      rw [if_pos hk]
      rw [kind_cur k2 q2] at k3
      have po : pOp (kd ta) 2 41 (t + 1) (o + 2) = some (.null, t + 1) := by unfold pOp; rw [if_pos (show kd ta (t + 1) = 41 from k3)]
      rw [po]
      have hst2 := hst.cu (t1 := t + 1) (o' := o + 2) NFq.rf CFK.rf (by omega) (Int.le_refl _) q2
      have o1 := for_226 hl hS hTS hBS hXS hNS hN hE hst2 g14 g15 h0o
      rw [if_pos (show kd ta (t + 1) = 41 from k3)] at o1
      show (match S (t + 1 + 1) (o + 1) with
        | none => Flq tf'
        | some (s, t4) => _)
      cases hr : S (t + 1 + 1) (o + 1) with
      | none =>
        rw [hr] at o1
        exact o1
      | some r =>
        obtain ⟨s, t4⟩ := r
        rw [hr] at o1
        obtain ⟨u1, u2, u3, u4, u5, u6, u7⟩ := o1
        exact ⟨u1, by omega, u3, u4, u5, u6, ((SP.sm ex.2 u7).ts (by omega) (Nat.le_refl _)).co (fun w h q => rfl)⟩
    · have hk : ¬ kd ta t = 59 := fun q => q1 (i_eq.mpr q)
      rw [if_neg hk]
      exact dead hE q2
  · have ex := expect_cur (p0 := 59) k1 hc hl (by decide) (by decide)
    rcases ex.1 with ⟨q1, q2⟩ | ⟨q1, q2⟩
    · have hk : kd ta t = 59 := by unfold kd; rw [q1]; rfl
      rw [if_pos hk]
      rw [kind_cur k2 q2] at k3
      have eo := eff_ok (find_all hNa hL) (fun_all hNa hF) hl k5 q2
      have eo' := eo
      obtain ⟨w0, w1⟩ := eo
      unfold pOp
      rw [if_neg (show ¬ kd ta (t + 1) = 41 from k3)]
      cases hr : pE (kd ta) (-1) (t + 1) (o + 2) with
      | none =>
        rw [hr] at w1
        exact dead hE w1
      | some r =>
        obtain ⟨e, t3⟩ := r
        rw [hr] at w1 eo'
        obtain ⟨a1, a2, a3⟩ := w1
        have a1' := a1.2.2.2.2.1
        have ck := OkH.cf eo'
        have hst2 := hst.cu (t1 := t3) (o' := o + 2) (NFq.tr (nfr_pe_emit k4) (NFq.tr (nfr_tc_effect k5) (nfr_pe_emit k6))) ck (by omega) (Int.le_refl _) a1
        have d14 := ck 14 (by decide) (by decide) (by decide) (by decide)
        have d15 := ck 15 (by decide) (by decide) (by decide) (by decide)
        have d7 := ck 7 (by decide) (by decide) (by decide) (by decide)
        have o1 := for_226 hl hS hTS hBS hXS hNS hN hE hst2 (by rw [d14]; exact g14) (by rw [d15]; exact g15) h0o
        by_cases hk41 : kd ta t3 = 41
        · rw [if_pos hk41] at o1
          simp only [hk41, if_true]
          cases hr2 : S (t3 + 1) (o + 1) with
          | none =>
            rw [hr2] at o1
            exact o1
          | some r2 =>
            obtain ⟨s, t4⟩ := r2
            rw [hr2] at o1
            obtain ⟨u1, u2, u3, u4, u5, u6, u7⟩ := o1
            rw [d7] at u4
            refine ⟨u1, by omega, fun i a1 a2 a3 a4 => (u3 i a1 a2 a3 a4).trans (ck i a1 a2 a3 a4), u4, u5, u6, ?_⟩
            refine ((SP.sm ex.2 (SP.seq (SP.e eo' (by omega)) u7 (bke_tc_forLoop hBS _ _ _ _ _ _ _ _ _ _ _ _ _ _ _ _ _ _ _ _ _ hE))).ts (by omega) (Nat.le_refl _)).co (fun w h q => ?_)
            show ((semE (kd ta) (vd ta) (fun v => flk v Flq') aEff e (L0 ++ X1, w, h, q)).bind some).bind _ = (semE (kd ta) (vd ta) (fun v => flk v Flq') aEff e (L0 ++ X1, w, h, q)).bind _
            cases semE (kd ta) (vd ta) (fun v => flk v Flq') aEff e (L0 ++ X1, w, h, q) <;> rfl
        · rw [if_neg hk41] at o1
          simp only [hk41, if_false]
          exact o1
    · have hk : ¬ kd ta t = 59 := fun q => q1 (i_eq.mpr q)
      rw [if_neg hk]
      exact dead hE ((tkr_tc_effect k5).2 q2)
theorem op_end {k : Nat → Int} {g : Nat} {v : Int} {t : Nat} {o : Int} {d : Ast} {t3 : Nat} (h : pOp k g v t o = some (d, t3)) : k t3 = v ∧ t ≤ t3 ∨ k t3 = v := by
  unfold pOp at h
  by_cases q : k t = v
  · rw [if_pos q] at h
    simp only [Option.some.injEq, Prod.mk.injEq] at h
    exact Or.inr (by rw [← h.2]; exact q)
  · rw [if_neg q] at h
    cases hr : pE k (-1) t o with
    | none => rw [hr] at h; simp at h
    | some r =>
      obtain ⟨e, t1⟩ := r
      rw [hr] at h
      by_cases q1 : k t1 = v
      · simp only [q1, if_true, Option.some.injEq, Prod.mk.injEq] at h
        exact Or.inr (by rw [← h.2]; exact q1)
      · simp only [q1, if_false] at h
        exact absurd h (by simp)
theorem for_94 (hl : Lst0 ta c) (hS : HSx RLs ta cn na ff fg sn c Flq' q0 rt S) (hTS : TK_tc_statement RLs) (hBS : BK_tc_statement RLs) (hXS : PX_tc_statement RLs) (hNS : NF_tc_statement RLs) (hN : ND P') {lp bk : Bool} {k : Nat} {x3 : Int32} (h : E_tc_forLoop RLs (some q0) ta cn na ff fg sn cf' ca' tf' fp' cd' nf' own' lq' lc' lf' lg' P' fs' sd' cf0 k 94 [x3] [] [] [] [] cfa caa tfa fpa cda nfa owna lqa lca lfa lga Pa fsa sda) (hst : StI ta c na ff fg Flq' q0 rt cn t (o + 2) L0.length (L0 ++ X1) cfa tfa fpa nfa owna lfa lga Pa) (g14 : (cfa 14).toInt ≤ o) (g15 : (cfa 15).toInt ≤ o) (h0o : 0 ≤ o) :
    (match (if kd ta t = 59 then pOp (kd ta) 8 59 (t + 1) (o + 2) else none) with
      | none => Flq tf'
      | some (b, t2) => (match pOp (kd ta) 2 41 (t2 + 1) (o + 2) with
        | none => Flq tf'
        | some (d, t3) => (match S (t3 + 1) (o + 1) with
          | none => Flq tf'
          | some (s, t4) => Cur tf' c t4 o ∧ t < t4 ∧ (∀ i : Nat, i ≠ 12 → i ≠ 13 → i ≠ 16 → i ≠ 17 → cf' i = cfa i) ∧ CAK (cfa 7) caa ca' ∧ nf' 4 = x3 ∧ EnvL own' P' lf' lg' L0 ∧ SP (fun x => (sem (kd ta) (vd ta) (qlS ta) (fun v => flk v Flq') rt b L0.length lp bk x).bind fun u => (sem (kd ta) (vd ta) (qlS ta) (fun v => flk v Flq') rt d L0.length lp bk u).bind fun z => (sem (kd ta) (vd ta) (qlS ta) (fun v => flk v Flq') rt s L0.length true true z).bind fun y => some (y.1.take L0.length, y.2)) tfa tf' (L0 ++ X1) L0 cfa cf' t t4))) := by
  have hst' := hst
  obtain ⟨hc, hL, hF, ⟨hs1, hs2, hs3⟩, hR, hnn, h7, h14, h15⟩ := hst'
  have c1 := hc.2.2.2.2.1
  have c2 := hc.2.2.2.2.2.1
  have dead : ∀ {k pc : Nat} {ls : List Int32} {cfb : Nat → Int32} {cab : Nat → Nat → Int32} {tfb fpb cdb nfb : Nat → Int32} {ownb : Bool} {lqb lcb : Nat} {lfb : Nat → Int32} {lgb : Nat → Option Nat} {Pb : va_W} {fsb sdb : Nat → Int32}, E_tc_forLoop RLs (some q0) ta cn na ff fg sn cf' ca' tf' fp' cd' nf' own' lq' lc' lf' lg' P' fs' sd' cf0 k pc ls [] [] [] [] cfb cab tfb fpb cdb nfb ownb lqb lcb lfb lgb Pb fsb sdb → Flq tfb → Flq tf' := fun q1 q2 => (tke_tc_forLoop hTS _ _ _ _ _ _ _ _ _ _ _ _ _ _ _ _ _ _ _ _ _ q1).2 q2
  have hNa : ND Pa := by
    obtain ⟨Y, e⟩ := pxe_tc_forLoop hXS _ _ _ _ _ _ _ _ _ _ _ _ _ _ _ _ _ _ _ _ _ h
    have hN' := hN
    rw [e] at hN'
    exact hN'.ap
  rcases iv_tc_forLoop_94 h with ⟨k, tf187, k1, v197, k2, (⟨k3, hE⟩ | ⟨k3, cf207, tf208, fp209, cd210, k4, fp239, cd240, v242, k5, hE⟩)⟩
  · have ex := expect_cur (p0 := 59) k1 hc hl (by decide) (by decide)
    rcases ex.1 with ⟨q1, q2⟩ | ⟨q1, q2⟩
    · have hk : kd ta t = 59 := by unfold kd; rw [q1]; rfl
      rw [if_pos hk]
      rw [kind_cur k2 q2] at k3
      have po : pOp (kd ta) 8 59 (t + 1) (o + 2) = some (.null, t + 1) := by unfold pOp; rw [if_pos (show kd ta (t + 1) = 59 from k3)]
      rw [po]
      have hst2 := hst.cu (t1 := t + 1) (o' := o + 2) NFq.rf CFK.rf (by omega) (Int.le_refl _) q2
      have o1 := for_144 (lp := lp) (bk := bk) hl hS hTS hBS hXS hNS hN hE hst2 g14 g15 h0o
      rw [if_pos (show kd ta (t + 1) = 59 from k3)] at o1
      show (match pOp (kd ta) 2 41 (t + 1 + 1) (o + 2) with
        | none => Flq tf'
        | some (d, t3) => _)
      cases hr0 : pOp (kd ta) 2 41 (t + 1 + 1) (o + 2) with
      | none =>
        rw [hr0] at o1
        exact o1
      | some r0 =>
        obtain ⟨d, t3⟩ := r0
        rw [hr0] at o1
        have o1' : (match S (t3 + 1) (o + 1) with
          | none => Flq tf'
          | some (s, t4) => _) := o1
        show (match S (t3 + 1) (o + 1) with
          | none => Flq tf'
          | some (s, t4) => _)
        cases hr : S (t3 + 1) (o + 1) with
        | none =>
          rw [hr] at o1'
          exact o1'
        | some r =>
          obtain ⟨s, t4⟩ := r
          rw [hr] at o1'
          obtain ⟨u1, u2, u3, u4, u5, u6, u7⟩ := o1'
          exact ⟨u1, by omega, u3, u4, u5, u6, ((SP.sm ex.2 u7).ts (by omega) (Nat.le_refl _)).co (fun w h q => rfl)⟩
    · have hk : ¬ kd ta t = 59 := fun q => q1 (i_eq.mpr q)
      rw [if_neg hk]
      exact dead hE q2
  · have ex := expect_cur (p0 := 59) k1 hc hl (by decide) (by decide)
    rcases ex.1 with ⟨q1, q2⟩ | ⟨q1, q2⟩
    · have hk : kd ta t = 59 := by unfold kd; rw [q1]; rfl
      rw [if_pos hk]
      rw [kind_cur k2 q2] at k3
      have eo := who_ok (find_all hNa hL) (fun_all hNa hF) hl k4 q2
      have eo' := eo
      obtain ⟨w0, w1⟩ := eo
      have un : pOp (kd ta) 8 59 (t + 1) (o + 2) = (match pE (kd ta) (-1) (t + 1) (o + 2) with
        | none => none
        | some (e, t1) => if kd ta t1 = 59 then some (sRow1 (sNd 8 e .null), t1) else none) := by
          unfold pOp
          rw [if_neg (show ¬ kd ta (t + 1) = 59 from k3)]
          rfl
      rw [un]
      cases hr : pE (kd ta) (-1) (t + 1) (o + 2) with
      | none =>
        rw [hr] at w1
        exact dead hE w1
      | some r =>
        obtain ⟨e, t1⟩ := r
        rw [hr] at w1 eo'
        obtain ⟨a1, a2, a3⟩ := w1
        have a1' := a1.2.2.2.2.1
        have ck : CFK cfa (upd cf207 16 v242) := (OkH.cf eo').up (by decide)
        have hst2 := hst.cu (t1 := t1) (o' := o + 2) (NFq.tr (nfr_tc_wholeNumber k4) (nfr_pe_emitc k5)) ck (by omega) (Int.le_refl _) a1
        have d14 := ck 14 (by decide) (by decide) (by decide) (by decide)
        have d15 := ck 15 (by decide) (by decide) (by decide) (by decide)
        have d7 := ck 7 (by decide) (by decide) (by decide) (by decide)
        have o1 := for_144 (lp := lp) (bk := bk) hl hS hTS hBS hXS hNS hN hE hst2 (by rw [d14]; exact g14) (by rw [d15]; exact g15) h0o
        by_cases hk59 : kd ta t1 = 59
        · rw [if_pos hk59] at o1
          simp only [hk59, if_true]
          cases hr0 : pOp (kd ta) 2 41 (t1 + 1) (o + 2) with
          | none =>
            rw [hr0] at o1
            exact o1
          | some r0 =>
            obtain ⟨d, t3⟩ := r0
            rw [hr0] at o1
            have o1' : (match S (t3 + 1) (o + 1) with
              | none => Flq tf'
              | some (s, t4) => _) := o1
            show (match S (t3 + 1) (o + 1) with
              | none => Flq tf'
              | some (s, t4) => _)
            cases hr2 : S (t3 + 1) (o + 1) with
            | none =>
              rw [hr2] at o1'
              exact o1'
            | some r2 =>
              obtain ⟨s, t4⟩ := r2
              rw [hr2] at o1'
              obtain ⟨u1, u2, u3, u4, u5, u6, u7⟩ := o1'
              rw [d7] at u4
              refine ⟨u1, by omega, fun i a1 a2 a3 a4 => (u3 i a1 a2 a3 a4).trans (ck i a1 a2 a3 a4), u4, u5, u6, ?_⟩
              refine ((SP.sm ex.2 (SP.seq ((SP.e eo' (by omega)).cr (by rw [pk_un (by decide)]) (by rw [pk_un (by decide)])) u7 (bke_tc_forLoop hBS _ _ _ _ _ _ _ _ _ _ _ _ _ _ _ _ _ _ _ _ _ hE))).ts (by omega) (Nat.le_refl _)).co (fun w h q => ?_)
              show ((semE (kd ta) (vd ta) (fun v => flk v Flq') aNum e (L0 ++ X1, w, h, q)).bind some).bind _ = (semE (kd ta) (vd ta) (fun v => flk v Flq') aNum e (L0 ++ X1, w, h, q)).bind _
              cases semE (kd ta) (vd ta) (fun v => flk v Flq') aNum e (L0 ++ X1, w, h, q) <;> rfl
        · rw [if_neg hk59] at o1
          simp only [hk59, if_false]
          exact o1
    · have hk : ¬ kd ta t = 59 := fun q => q1 (i_eq.mpr q)
      rw [if_neg hk]
      exact dead hE ((tkr_tc_wholeNumber k4).2 q2)
theorem ov_sp {fo : Option Nat} {ch : Bool} {r : Ast} {t1 t2 : Nat} {cfx tfx : Nat → Int32} (hfo : fo = some q0) (h : OkV ta c sc o fo Flq' ch t1 L (some (r, t2)) cfx tfx cf' tf' own' P' lf' lg') : CFK cfx cf' ∧ Cur tf' c t2 o ∧ t1 < t2 ∧ ∃ X : Nms, EnvL own' P' lf' lg' (L ++ X) ∧ X.length ≤ t2 - t1 ∧ SP (semVars (kd ta) (vd ta) (qlS ta) (fun v => flk v Flq') false ch sc r) tfx tf' L (L ++ X) cfx cf' t1 t2 := by
  subst hfo
  obtain ⟨a1, a2, a3, X, a4, a5, a6⟩ := h
  refine ⟨fun i h1 h2 _ _ => a1 i h1 h2, a2, a3, X, a4, a5, fun w h q e1 e2 e3 e4 e5 e6 => (a6 w h q e1 e3 e4 (Or.inr ⟨e2, e5, e6⟩)).imp (fun s hs => ?_)⟩
  obtain ⟨b1, b2, b4, b5, b6, b7⟩ := hs
  rcases b7 with b7 | b7
  · exact absurd b7 (by simp)
  · exact ⟨b1, b2, b7.1, b4, b5, b6, b7.2.1, b7.2.2⟩
theorem chr_eq {k : Int} (h : k = 1 ∨ k = 2) : isChr (.arg k.toNat) = decide (k = 2) := by
  rcases h with rfl | rfl <;> rfl
theorem for_ok (hl : Lst0 ta c) (hS : HSx RLs ta cn na ff fg sn c Flq' q0 rt S) (hTS : TK_tc_statement RLs) (hBS : BK_tc_statement RLs) (hXS : PX_tc_statement RLs) (hNS : NF_tc_statement RLs) (hN : ND P') (h : R_tc_forLoop RLs (some q0) ta cn na ff fg sn cfa caa tfa fpa cda nfa owna lqa lca lfa lga Pa fsa sda cf' ca' tf' fp' cd' nf' own' lq' lc' lf' lg' P' fs' sd') (hst : StI ta c na ff fg Flq' q0 rt cn t o sc L cfa tfa fpa nfa owna lfa lga Pa) (hk : kd ta t = 9) :
    OkS ta c o t L (fun s => sem (kd ta) (vd ta) (qlS ta) (fun v => flk v Flq') rt s sc (lpB cfa) (bkB cfa)) (if kd ta (t + 1) = 40 ∧ o < 59 then (match pF1 (kd ta) (t + 2) (o + 2) with
      | none => none
      | some (a, t1) => (match pOp (kd ta) 8 59 t1 (o + 2) with
        | none => none
        | some (b, t2) => (match pOp (kd ta) 2 41 (t2 + 1) (o + 2) with
          | none => none
          | some (d, t3) => (match S (t3 + 1) (o + 1) with
            | none => none
            | some (s, t4) => some (sNd 7 (.add a (.add b (.add d .null))) (sRow1 s), t4))))) else none) cfa caa tfa nfa cf' ca' tf' nf' own' lf' lg' P' := by
  obtain ⟨k, h⟩ := h
  have hst' := hst
  obtain ⟨hc, hL, hF, ⟨hs1, hs2, hs3⟩, hR, hnn, h7, h14, h15⟩ := hst'
  have h0o := hc.2.2.2.2.2.2.1
  have c1 := hc.2.2.2.2.1
  have c2 := hc.2.2.2.2.2.1
  have hNa : ND Pa := by
    obtain ⟨Y, e⟩ := pxe_tc_forLoop hXS _ _ _ _ _ _ _ _ _ _ _ _ _ _ _ _ _ _ _ _ _ h
    have hN' := hN
    rw [e] at hN'
    exact hN'.ap
  have dead : ∀ {k pc : Nat} {ls : List Int32} {cfb : Nat → Int32} {cab : Nat → Nat → Int32} {tfb fpb cdb nfb : Nat → Int32} {ownb : Bool} {lqb lcb : Nat} {lfb : Nat → Int32} {lgb : Nat → Option Nat} {Pb : va_W} {fsb sdb : Nat → Int32}, E_tc_forLoop RLs (some q0) ta cn na ff fg sn cf' ca' tf' fp' cd' nf' own' lq' lc' lf' lg' P' fs' sd' cfa k pc ls [] [] [] [] cfb cab tfb fpb cdb nfb ownb lqb lcb lfb lgb Pb fsb sdb → Flq tfb → Flq tf' := fun q1 q2 => (tke_tc_forLoop hTS _ _ _ _ _ _ _ _ _ _ _ _ _ _ _ _ _ _ _ _ _ q1).2 q2
  have cz : CFK cfa (upd (upd cfa 16 (-1)) 17 (-1)) := (CFK.up CFK.rf (by decide)).up (by decide)
  have z7 : upd (upd cfa 16 (-1)) 17 (-1) 7 = cfa 7 := by rw [pk_un (by decide), pk_un (by decide)]
  /- the beginning of all of them -/
  have beg : ∀ {tf1 tf2 : Nat → Int32}, R_tk_open ta 9 tfa tf1 → R_tk_open ta 40 tf1 tf2 → (kd ta (t + 1) = 40 ∧ o < 59 ∧ Cur tf2 c (t + 2) (o + 2)) ∨ (¬ (kd ta (t + 1) = 40 ∧ o < 59) ∧ Flq tf2) := by
    intro tf1 tf2 g1 g2
    rcases open_cur (p0 := 9) g1 hc hl (by decide) (by decide) with ⟨p1, p2, p3⟩ | ⟨p1, p2⟩
    · rcases open_cur (p0 := 40) g2 p3 hl (by decide) (by decide) with ⟨q1, q2, q3⟩ | ⟨q1, q2⟩
      · exact Or.inl ⟨by unfold kd; rw [q1]; rfl, by omega, by rw [show o + 2 = o + 1 + 1 by omega]; exact q3⟩
      · exact Or.inr ⟨fun z => q1 ⟨i_eq.mpr z.1, by have := z.2; omega⟩, q2⟩
    · exact Or.inr ⟨fun z => p1 ⟨i_eq.mpr hk, by have := z.2; omega⟩, (tkr_tk_open g2).2 p2⟩
  /- behind what stands first -/
  have fin : ∀ {k : Nat} {v : Int32} {cfb : Nat → Int32} {cab : Nat → Nat → Int32} {tfb fpb cdb nfb : Nat → Int32} {ownb : Bool} {lqb lcb : Nat} {lfb : Nat → Int32} {lgb : Nat → Option Nat} {Pb : va_W} {fsb sdb : Nat → Int32} {a : Ast} {t1 : Nat} {X : Nms}, E_tc_forLoop RLs (some q0) ta cn na ff fg sn cf' ca' tf' fp' cd' nf' own' lq' lc' lf' lg' P' fs' sd' cfa k 94 [v] [] [] [] [] cfb cab tfb fpb cdb nfb ownb lqb lcb lfb lgb Pb fsb sdb → v = nfa 4 → pF1 (kd ta) (t + 2) (o + 2) = (if kd ta t1 = 59 then some (a, t1 + 1) else none) → kd ta (t + 1) = 40 ∧ o < 59 → StI ta c na ff fg Flq' q0 rt cn t1 (o + 2) L.length (L ++ X) cfb tfb fpb nfb ownb lfb lgb Pb → CFK cfa cfb → cab = caa → t + 2 ≤ t1 → SP (sem (kd ta) (vd ta) (qlS ta) (fun v => flk v Flq') rt a L.length (lpB cfa) (bkB cfa)) tfa tfb L (L ++ X) cfa cfb t t1 → BK tfa tfb → OkS ta c o t L (fun s => sem (kd ta) (vd ta) (qlS ta) (fun v => flk v Flq') rt s sc (lpB cfa) (bkB cfa)) (if kd ta (t + 1) = 40 ∧ o < 59 then (match pF1 (kd ta) (t + 2) (o + 2) with
      | none => none
      | some (a, t1) => (match pOp (kd ta) 8 59 t1 (o + 2) with
        | none => none
        | some (b, t2) => (match pOp (kd ta) 2 41 (t2 + 1) (o + 2) with
          | none => none
          | some (d, t3) => (match S (t3 + 1) (o + 1) with
            | none => none
            | some (s, t4) => some (sNd 7 (.add a (.add b (.add d .null))) (sRow1 s), t4))))) else none) cfa caa tfa nfa cf' ca' tf' nf' own' lf' lg' P' := by
    intro k v cfb cab tfb fpb cdb nfb ownb lqb lcb lfb lgb Pb fsb sdb a t1 X hE hv hp hko hst2 hcf hca ht hsp hbk
    have d14 := hcf 14 (by decide) (by decide) (by decide) (by decide)
    have d15 := hcf 15 (by decide) (by decide) (by decide) (by decide)
    have d7 := hcf 7 (by decide) (by decide) (by decide) (by decide)
    have o1 := for_94 (L0 := L) (X1 := X) (lp := lpB cfa) (bk := bkB cfa) hl hS hTS hBS hXS hNS hN hE hst2 (by rw [d14]; exact h14.2) (by rw [d15]; exact h15.2) h0o
    rw [if_pos hko, hp]
    by_cases hk59 : kd ta t1 = 59
    · rw [if_pos hk59] at o1
      simp only [hk59, if_true]
      cases hr1 : pOp (kd ta) 8 59 (t1 + 1) (o + 2) with
      | none =>
        rw [hr1] at o1
        exact o1
      | some r1 =>
        obtain ⟨b, t2⟩ := r1
        rw [hr1] at o1
        have o2 : (match pOp (kd ta) 2 41 (t2 + 1) (o + 2) with
          | none => Flq tf'
          | some (d, t3) => _) := o1
        show OkS ta c o t L _ (match pOp (kd ta) 2 41 (t2 + 1) (o + 2) with
          | none => none
          | some (d, t3) => _) _ _ _ _ _ _ _ _ _ _ _ _
        cases hr2 : pOp (kd ta) 2 41 (t2 + 1) (o + 2) with
        | none =>
          rw [hr2] at o2
          exact o2
        | some r2 =>
          obtain ⟨d, t3⟩ := r2
          rw [hr2] at o2
          have o3 : (match S (t3 + 1) (o + 1) with
            | none => Flq tf'
            | some (s, t4) => _) := o2
          show OkS ta c o t L _ (match S (t3 + 1) (o + 1) with
            | none => none
            | some (s, t4) => _) _ _ _ _ _ _ _ _ _ _ _ _
          cases hr3 : S (t3 + 1) (o + 1) with
          | none =>
            rw [hr3] at o3
            exact o3
          | some r3 =>
            obtain ⟨s, t4⟩ := r3
            rw [hr3] at o3
            obtain ⟨u1, u2, u3, u4, u5, u6, u7⟩ := o3
            rw [d7, hca] at u4
            refine ⟨u1, by omega, hcf.tr u3, u4, by rw [u5, hv], [], by rw [List.append_nil]; exact u6, by simp, ?_⟩
            rw [List.append_nil]
            refine (SP.seq hsp u7 (bke_tc_forLoop hBS _ _ _ _ _ _ _ _ _ _ _ _ _ _ _ _ _ _ _ _ _ hE)).co (fun w h q => ?_)
            show ((sem (kd ta) (vd ta) (qlS ta) (fun v => flk v Flq') rt a L.length (lpB cfa) (bkB cfa) (L, w, h, q)).bind _).bind _ = (sem (kd ta) (vd ta) (qlS ta) (fun v => flk v Flq') rt a L.length (lpB cfa) (bkB cfa) (L, w, h, q)).bind _
            cases sem (kd ta) (vd ta) (qlS ta) (fun v => flk v Flq') rt a L.length (lpB cfa) (bkB cfa) (L, w, h, q) with
            | none => rfl
            | some x1 =>
              show ((sem (kd ta) (vd ta) (qlS ta) (fun v => flk v Flq') rt b L.length (lpB cfa) (bkB cfa) x1).bind _).bind _ = (sem (kd ta) (vd ta) (qlS ta) (fun v => flk v Flq') rt b L.length (lpB cfa) (bkB cfa) x1).bind _
              cases sem (kd ta) (vd ta) (qlS ta) (fun v => flk v Flq') rt b L.length (lpB cfa) (bkB cfa) x1 with
              | none => rfl
              | some x2 =>
                show ((sem (kd ta) (vd ta) (qlS ta) (fun v => flk v Flq') rt d L.length (lpB cfa) (bkB cfa) x2).bind _).bind _ = (sem (kd ta) (vd ta) (qlS ta) (fun v => flk v Flq') rt d L.length (lpB cfa) (bkB cfa) x2).bind _
                cases sem (kd ta) (vd ta) (qlS ta) (fun v => flk v Flq') rt d L.length (lpB cfa) (bkB cfa) x2 with
                | none => rfl
                | some x3 =>
                  show ((sem (kd ta) (vd ta) (qlS ta) (fun v => flk v Flq') rt s L.length true true x3).bind _).bind _ = (sem (kd ta) (vd ta) (qlS ta) (fun v => flk v Flq') rt s L.length true true x3).bind _
                  cases sem (kd ta) (vd ta) (qlS ta) (fun v => flk v Flq') rt s L.length true true x3 <;> rfl
    · rw [if_neg hk59] at o1
      simp only [hk59, if_false]
      exact o1
  have finV : ∀ {k : Nat} {tf1 tf2 tf3 : Nat → Int32} {v : Int32} {cfb : Nat → Int32} {tfb fpb cdb : Nat → Int32} {ownb : Bool} {lqb lcb : Nat} {lfb : Nat → Int32} {lgb : Nat → Option Nat} {Pb : va_W} {fsb sdb : Nat → Int32}, R_tk_open ta 9 tfa tf1 → R_tk_open ta 40 tf1 tf2 → R_tk_kind ta tf2 v → (v.toInt = 1 ∨ v.toInt = 2) → R_tk_step tf2 tf3 → R_tc_variables (some q0) ta cn (upd nfa 4 (lfa 1)) na ff fg sn v (upd (upd cfa 16 (-1)) 17 (-1)) tf3 fpa cda owna lqa lca lfa lga Pa fsa sda cfb tfb fpb cdb ownb lqb lcb lfb lgb Pb fsb sdb → E_tc_forLoop RLs (some q0) ta cn na ff fg sn cf' ca' tf' fp' cd' nf' own' lq' lc' lf' lg' P' fs' sd' cfa k 94 [(nfa 4)] [] [] [] [] cfb caa tfb fpb cdb (upd nfa 4 (lfa 1)) ownb lqb lcb lfb lgb Pb fsb sdb → OkS ta c o t L (fun s => sem (kd ta) (vd ta) (qlS ta) (fun v => flk v Flq') rt s sc (lpB cfa) (bkB cfa)) (if kd ta (t + 1) = 40 ∧ o < 59 then (match pF1 (kd ta) (t + 2) (o + 2) with
      | none => none
      | some (a, t1) => (match pOp (kd ta) 8 59 t1 (o + 2) with
        | none => none
        | some (b, t2) => (match pOp (kd ta) 2 41 (t2 + 1) (o + 2) with
          | none => none
          | some (d, t3) => (match S (t3 + 1) (o + 1) with
            | none => none
            | some (s, t4) => some (sNd 7 (.add a (.add b (.add d .null))) (sRow1 s), t4))))) else none) cfa caa tfa nfa cf' ca' tf' nf' own' lf' lg' P' := by
    intro k tf1 tf2 tf3 v cfb tfb fpb cdb ownb lqb lcb lfb lgb Pb fsb sdb o1 o2 o3 hv12 st hv hE
    rcases beg o1 o2 with ⟨b1, b2, b3⟩ | ⟨b1, b2⟩
    · have ek := kind_cur o3 b3
      subst ek
      have hk12 : kd ta (t + 2) = 1 ∨ kd ta (t + 2) = 2 := hv12
      have hlt : t + 2 + 1 < c := by
        rcases hk12 with z | z
        · exact lst_lt (p0 := 1) b3 hl (by decide) (by decide) z
        · exact lst_lt (p0 := 2) b3 hl (by decide) (by decide) z
      have hs := step_cur st b3 hlt
      have hNb : ND Pb := by
        obtain ⟨Y, e⟩ := pxe_tc_forLoop hXS _ _ _ _ _ _ _ _ _ _ _ _ _ _ _ _ _ _ _ _ _ hE
        have hN' := hN
        rw [e] at hN'
        exact hN'.ap
      have ov := vars_ok (sc := L.length) hl hNb (by rw [pk_us]; exact hL.1) hv hs.1 hL hF
      have pf : pF1 (kd ta) (t + 2) (o + 2) = (match pVars (kd ta) (o + 2) 2048 (t + 2 + 1) with
        | none => none
        | some (vs, t1) => if kd ta t1 = 59 then some (sRow1 (sNd 3 (.arg (kd ta (t + 2)).toNat) vs), t1 + 1) else none) := by
        unfold pF1
        rw [if_pos hk12]
        rfl
      cases hr : pVars (kd ta) (o + 2) 2048 (t + 2 + 1) with
      | none =>
        rw [hr] at ov pf
        rw [if_pos ⟨b1, b2⟩, pf]
        exact dead hE ov
      | some r =>
        obtain ⟨vs, t1⟩ := r
        rw [hr] at ov pf
        obtain ⟨x1, x2, x3, X, x4, x5, x6⟩ := ov_sp rfl ov
        have ck := cz.tr x1
        have hF2 : FunL na Pb ff fg Flq' ∧ ∃ s, SymAt Pb q0 s ∧ (s 6).toInt = rt := by
          obtain ⟨Y, e⟩ := pxr_tc_variables hv
          obtain ⟨s', r1, r2⟩ := hR
          rw [e]
          exact ⟨hF.ap, s', r1.ap, r2⟩
        refine fin (X := X) hE rfl pf ⟨b1, b2⟩ ?_ ck rfl (by omega) ?_ (fun x => bkr_tc_variables hv (SmC.bd hs.2 (SmC.bd (smr_tk_open o2) (SmC.bd (smr_tk_open o1) x))))
        · exact ⟨x2, x4, hF2.1, ⟨by rw [pk_us]; exact hL.1, by rw [List.length_append]; omega, by rw [List.length_append]; omega⟩, hF2.2, nfr_tc_variables hv hnn, by rw [ck 7 (by decide) (by decide) (by decide) (by decide)]; exact ⟨h7.1, by have := h7.2; omega⟩, by rw [ck 14 (by decide) (by decide) (by decide) (by decide)]; exact ⟨h14.1, by have := h14.2; omega⟩, by rw [ck 15 (by decide) (by decide) (by decide) (by decide)]; exact ⟨h15.1, by have := h15.2; omega⟩⟩
        · refine (((SP.sm (((smr_tk_open o1).tr (smr_tk_open o2)).tr hs.2) x6).cl (by rw [pk_un (by decide), pk_un (by decide)]) (by rw [pk_un (by decide), pk_un (by decide)])).ts (by omega) (Nat.le_refl _)).co (fun w h q => ?_)
          show (semVars (kd ta) (vd ta) (qlS ta) (fun v => flk v Flq') false (isChr (.arg (kd ta (t + 2)).toNat)) L.length vs (L, w, h, q)).bind some = _
          rw [chr_eq hk12]
          show (semVars (kd ta) (vd ta) (qlS ta) (fun v => flk v Flq') false (decide ((ta 0 (t + 2)).toInt = 2)) L.length vs (L, w, h, q)).bind some = semVars (kd ta) (vd ta) (qlS ta) (fun v => flk v Flq') false (decide ((ta 0 (t + 2)).toInt = 2)) L.length vs (L, w, h, q)
          cases semVars (kd ta) (vd ta) (qlS ta) (fun v => flk v Flq') false (decide ((ta 0 (t + 2)).toInt = 2)) L.length vs (L, w, h, q) <;> rfl
    · rw [if_neg b1]
      exact dead hE ((tkr_tc_variables hv).2 ((tkr_tk_step st).2 b2))
  rcases iv_tc_forLoop_0 h with ⟨k, nf247, v249, g1, tf255, g2, tf264, g3, v274, g4, (⟨g5, tf280, g6, cf303, tf304, fp305, cd306, own307, lq308, lc309, lf310, lg311, P312, fs313, sd314, g7, hE⟩ | ⟨g5, (⟨g6, (⟨g7, hE⟩ | ⟨g7, cf357, tf358, fp359, cd360, g8, hE⟩)⟩ | ⟨g6, tf387, g7, cf410, tf411, fp412, cd413, own414, lq415, lc416, lf417, lg418, P419, fs420, sd421, g8, hE⟩)⟩)⟩
  · obtain ⟨n1, n2⟩ := enter_r g1
    subst n1 n2
    exact finV g2 g3 g4 (Or.inl g5) g6 g7 hE
  · obtain ⟨n1, n2⟩ := enter_r g1
    subst n1 n2
    rcases beg g2 g3 with ⟨b1, b2, b3⟩ | ⟨b1, b2⟩
    · have ek := kind_cur g4 b3
      subst ek
      have pf : pF1 (kd ta) (t + 2) (o + 2) = (if kd ta (t + 2) = 59 then some (.null, t + 2 + 1) else none) := by
        unfold pF1
        rw [if_neg (show ¬ (kd ta (t + 2) = 1 ∨ kd ta (t + 2) = 2) from fun z => z.elim g5 g6), if_pos (show kd ta (t + 2) = 59 from g7), if_pos (show kd ta (t + 2) = 59 from g7)]
      refine fin (X := []) hE rfl pf ⟨b1, b2⟩ ?_ cz rfl (Nat.le_refl _) ?_ (fun x => SmC.bd (smr_tk_open g3) (SmC.bd (smr_tk_open g2) x))
      · rw [List.append_nil]
        exact ⟨b3, hL, hF, ⟨by rw [pk_us]; exact hL.1, Nat.le_refl _, by omega⟩, hR, hnn, by rw [z7]; exact ⟨h7.1, by have := h7.2; omega⟩, by rw [cz 14 (by decide) (by decide) (by decide) (by decide)]; exact ⟨h14.1, by have := h14.2; omega⟩, by rw [cz 15 (by decide) (by decide) (by decide) (by decide)]; exact ⟨h15.1, by have := h15.2; omega⟩⟩
      · rw [List.append_nil]
        exact ((SP.sm ((smr_tk_open g2).tr (smr_tk_open g3)) (SP.rt (cf := cfa) (by omega))).cr (by rw [pk_un (by decide), pk_un (by decide)]) (by rw [pk_un (by decide), pk_un (by decide)])).co (fun w h q => rfl)
    · rw [if_neg b1]
      exact dead hE b2
  · obtain ⟨n1, n2⟩ := enter_r g1
    subst n1 n2
    rcases beg g2 g3 with ⟨b1, b2, b3⟩ | ⟨b1, b2⟩
    · have ek := kind_cur g4 b3
      subst ek
      have eo := eff_ok (find_all hNa hL) (fun_all hNa hF) hl g8 b3
      have eo' := eo
      obtain ⟨w0, w1⟩ := eo
      have pf : pF1 (kd ta) (t + 2) (o + 2) = (match pE (kd ta) (-1) (t + 2) (o + 2) with
        | none => none
        | some (e, t1) => if kd ta t1 = 59 then some (sRow1 (sNd 2 e .null), t1 + 1) else none) := by
        unfold pF1
        rw [if_neg (show ¬ (kd ta (t + 2) = 1 ∨ kd ta (t + 2) = 2) from fun z => z.elim g5 g6), if_neg (show ¬ kd ta (t + 2) = 59 from g7)]
        rfl
      cases hr : pE (kd ta) (-1) (t + 2) (o + 2) with
      | none =>
        rw [hr] at w1 pf
        rw [if_pos ⟨b1, b2⟩, pf]
        exact dead hE w1
      | some r =>
        obtain ⟨e, t1⟩ := r
        rw [hr] at w1 pf eo'
        obtain ⟨a1, a2, a3⟩ := w1
        have a1' := a1.2.2.2.2.1
        have ck := cz.tr (OkH.cf eo')
        refine fin (X := []) hE rfl pf ⟨b1, b2⟩ ?_ ck rfl (by omega) ?_ (fun x => bkr_tc_effect g8 (SmC.bd (smr_tk_open g3) (SmC.bd (smr_tk_open g2) x)))
        · rw [List.append_nil]
          exact ⟨a1, hL, hF, ⟨by rw [pk_us]; exact hL.1, Nat.le_refl _, by omega⟩, hR, nfr_tc_effect g8 hnn, by rw [ck 7 (by decide) (by decide) (by decide) (by decide)]; exact ⟨h7.1, by have := h7.2; omega⟩, by rw [ck 14 (by decide) (by decide) (by decide) (by decide)]; exact ⟨h14.1, by have := h14.2; omega⟩, by rw [ck 15 (by decide) (by decide) (by decide) (by decide)]; exact ⟨h15.1, by have := h15.2; omega⟩⟩
        · rw [List.append_nil]
          refine (((SP.sm ((smr_tk_open g2).tr (smr_tk_open g3)) (SP.e eo' (by omega))).cl (by rw [pk_un (by decide), pk_un (by decide)]) (by rw [pk_un (by decide), pk_un (by decide)])).ts (by omega) (Nat.le_refl _)).co (fun w h q => ?_)
          show (semE (kd ta) (vd ta) (fun v => flk v Flq') aEff e (L, w, h, q)).bind some = semE (kd ta) (vd ta) (fun v => flk v Flq') aEff e (L, w, h, q)
          cases semE (kd ta) (vd ta) (fun v => flk v Flq') aEff e (L, w, h, q) <;> rfl
    · rw [if_neg b1]
      exact dead hE ((tkr_tc_effect g8).2 b2)
  · obtain ⟨n1, n2⟩ := enter_r g1
    subst n1 n2
    exact finV g2 g3 g4 (Or.inr g6) g7 g8 hE
end SD
