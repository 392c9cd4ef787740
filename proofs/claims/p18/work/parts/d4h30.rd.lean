section SP
variable {sn9 : Nat} {sb : Nat → Int32} {tp : Nat} {tb : Nat → Int32} {cn : Nat} {fn : Nat} {sn : Nat} {p0 : Int32}
variable {cf' : Nat → Int32} {ca' : Nat → Nat → Int32} {fo' : Option Nat} {tf' : Nat → Int32} {ta' : Nat → Nat → Int32} {ob6' : Option Nat} {fp' : Nat → Int32} {cd' : Nat → Int32} {ft' : Nat → Int32} {nf' : Nat → Int32} {na' : Nat → Nat → Int32} {own' : Bool} {lq' : Nat} {lc' : Nat} {lf' : Nat → Int32} {lg' : Nat → Option Nat} {fq' : Nat} {fc' : Nat} {ff' : Nat → Int32} {fg' : Nat → Option Nat} {P' : va_W} {fs' : Nat → Int32} {sd' : Nat → Int32} {v : Int32}
variable {cf : Nat → Int32} {ca : Nat → Nat → Int32} {fo : Option Nat} {tf : Nat → Int32} {ta : Nat → Nat → Int32} {ob6 : Option Nat} {fp : Nat → Int32} {cd : Nat → Int32} {ft : Nat → Int32} {nf : Nat → Int32} {na : Nat → Nat → Int32} {own : Bool} {lq : Nat} {lc : Nat} {lf : Nat → Int32} {lg : Nat → Option Nat} {fq : Nat} {fc : Nat} {ff : Nat → Int32} {fg : Nat → Option Nat} {P : va_W} {fs : Nat → Int32} {sd : Nat → Int32}
variable {c t W m : Nat} {L : Nms} {LX : List FnE} {k : Nat} {x3 x4 : Int32}
theorem fl_137 (h : E_tc_compile sn9 sb tp tb cn fn sn p0 cf' ca' fo' tf' ta' ob6' fp' cd' ft' nf' na' own' lq' lc' lf' lg' fq' fc' ff' fg' P' fs' sd' v k 137 [x3, x4] [] [] [] [] cf ca fo tf ta ob6 fp cd ft nf na own lq lc lf lg fq fc ff fg P fs sd) (hf : Flq tf) : v = -1 ∧ ta' = ta := by
  unfold Flq at hf
  rcases iv_tc_compile_137 h with ⟨k, z1, g1, (⟨g2, (⟨g3, tf9, fs10, sd11, g4, e0, e1, e2, e3, e4, e5, e6, e7, e8, e9, e10, e11, e12, e13, e14, e15, e16, e17, e18, e19, e20, e21, e22, ev⟩ | ⟨g3, e0, e1, e2, e3, e4, e5, e6, e7, e8, e9, e10, e11, e12, e13, e14, e15, e16, e17, e18, e19, e20, e21, e22, ev⟩)⟩ | ⟨g2, (⟨g3, (⟨g4, tf50, fs51, sd52, g5, e0, e1, e2, e3, e4, e5, e6, e7, e8, e9, e10, e11, e12, e13, e14, e15, e16, e17, e18, e19, e20, e21, e22, ev⟩ | ⟨g4, e0, e1, e2, e3, e4, e5, e6, e7, e8, e9, e10, e11, e12, e13, e14, e15, e16, e17, e18, e19, e20, e21, e22, ev⟩)⟩ | ⟨g3, g4, cf96, fo97, tf98, fp99, cd100, nf101, lf102, lg103, fs104, sd105, g5, hE⟩)⟩)⟩
  · exfalso; omega
  · exact ⟨ev, e4⟩
  · exfalso; omega
  · exact ⟨ev, e4⟩
  · exfalso; omega
theorem fl_53 (h : E_tc_compile sn9 sb tp tb cn fn sn p0 cf' ca' fo' tf' ta' ob6' fp' cd' ft' nf' na' own' lq' lc' lf' lg' fq' fc' ff' fg' P' fs' sd' v k 53 [x3, x4] [] [] [] [] cf ca fo tf ta ob6 fp cd ft nf na own lq lc lf lg fq fc ff fg P fs sd) (hf : Flq tf) : v = -1 ∧ ta' = ta := by
  have hf' := hf
  unfold Flq at hf'
  rcases iv_tc_compile_53 h with ⟨k, (⟨g1, hE⟩ | ⟨g1, (⟨g2, hE⟩ | ⟨g2, v330, g3, (⟨g4, hE⟩ | ⟨g4, cf363, fo364, tf365, fp366, cd367, nf368, na369, own370, lq371, lc372, lf373, lg374, fq375, fc376, ff377, fg378, P379, fs380, sd381, v383, g5, (⟨g6, z421, g7, hE⟩ | ⟨g6, hE⟩)⟩)⟩)⟩)⟩
  · exact fl_137 hE hf
  · exact fl_137 hE hf
  · exfalso; omega
  · exfalso; omega
  · exfalso; omega
theorem fl_86 (h : E_tc_compile sn9 sb tp tb cn fn sn p0 cf' ca' fo' tf' ta' ob6' fp' cd' ft' nf' na' own' lq' lc' lf' lg' fq' fc' ff' fg' P' fs' sd' v k 86 [x3, x4] [] [] [] [] cf ca fo tf ta ob6 fp cd ft nf na own lq lc lf lg fq fc ff fg P fs sd) (hf : Flq tf) : v = -1 ∧ ta' = ta := by
  obtain ⟨k, tf203, g1, cf236, ca237, tf238, fp239, cd240, nf241, own242, lq243, lc244, lf245, lg246, P247, fs248, sd249, g2, tf289, g3, hE⟩ := iv_tc_compile_86 h
  obtain ⟨k, cf154, fo155, tf156, fp157, cd158, ft159, nf160, lf161, lg162, g4, z195, g5, hE⟩ := iv_tc_compile_123 hE
  exact fl_53 hE ((tkr_tc_endFunction g4).2 ((tkr_tk_close g3).2 ((tkr_tc_statements (tkl_RLs 61) g2).2 ((tkr_tk_open g1).2 hf))))
theorem rd_ok (hl : Lst0 ta c) (hN : ND P') (h : E_tc_compile sn9 sb tp tb cn fn sn p0 cf' ca' fo' tf' ta' ob6' fp' cd' ft' nf' na' own' lq' lc' lf' lg' fq' fc' ff' fg' P' fs' sd' v k 53 [x3, x4] [] [] [] [] cf ca fo tf ta ob6 fp cd ft nf na own lq lc lf lg fq fc ff fg P fs sd) (hx : x4.toInt ≤ p0.toInt) (hT : TopI c cn t L LX W m cf fo tf fp nf na own lf lg ff fg P) (hne : ¬ kd ta t = 0) (hp : (cf 8).toInt = 0 → ∃ (it : Ast) (t1 : Nat) (rest : List FnE), pItem (kd ta) t 0 = some (it, t1) ∧ LX.drop (10 + m) = fnO (vd ta) it ++ rest) :
    (pItem (kd ta) t 0 = none ∧ v = -1 ∧ ta' = ta) ∨ ∃ (it : Ast) (t1 k : Nat) (z : Int32) (cf2 : Nat → Int32) (ca2 : Nat → Nat → Int32) (fo2 : Option Nat) (tf2 : Nat → Int32) (ob62 : Option Nat) (fp2 : Nat → Int32) (cd2 : Nat → Int32) (ft2 : Nat → Int32) (nf2 : Nat → Int32) (na2 : Nat → Nat → Int32) (own2 : Bool) (lq2 : Nat) (lc2 : Nat) (lf2 : Nat → Int32) (lg2 : Nat → Option Nat) (fq2 : Nat) (fc2 : Nat) (ff2 : Nat → Int32) (fg2 : Nat → Option Nat) (P2 : va_W) (fs2 : Nat → Int32) (sd2 : Nat → Int32), pItem (kd ta) t 0 = some (it, t1) ∧ z = x4 + 1 ∧ E_tc_compile sn9 sb tp tb cn fn sn p0 cf' ca' fo' tf' ta' ob6' fp' cd' ft' nf' na' own' lq' lc' lf' lg' fq' fc' ff' fg' P' fs' sd' v k 53 [x3, z] [] [] [] [] cf2 ca2 fo2 tf2 ta ob62 fp2 cd2 ft2 nf2 na2 own2 lq2 lc2 lf2 lg2 fq2 fc2 ff2 fg2 P2 fs2 sd2 ∧ t < t1 ∧ cf2 8 = cf 8 ∧ BK tf tf2 ∧ ∃ (L2 : Nms) (W2 : Nat) (LX2 : List FnE) (m2 : Nat), TopI c cn t1 L2 LX2 W2 m2 cf2 fo2 tf2 fp2 nf2 na2 own2 lf2 lg2 ff2 fg2 P2 ∧ (¬ (cf 8).toInt = 0 → LX2 = LX ++ fnO (vd ta) it) ∧ ((cf 8).toInt = 0 → LX2 = LX ∧ m2 = m + (fnO (vd ta) it).length ∧ ∀ g : Int, (cf 11).toInt = g → 0 ≤ g → g ≤ 4096 * (t : Int) → AT tf tf2 (semItem (kd ta) (vd ta) (qlS ta) LX it (L, g, 10 + m)) (fun s => s.1 = L2 ∧ (cf2 11).toInt = s.2.1 ∧ 0 ≤ s.2.1 ∧ s.2.1 ≤ 4096 * (t1 : Int) ∧ s.2.2 = 10 + m2)) := by
  have hT' := hT
  obtain ⟨hc, hL, hX, hn3, hW, hn4, hLt, hLX, hNN, h7, h14, h15, hfo, h10, hm⟩ := hT'
  subst hfo
  have c1 := hc.2.2.2.2.1
  have c2 := hc.2.2.2.2.2.1
  have hf := hc.2.2.2.1
  rcases iv_tc_compile_53 h with ⟨k, (⟨g1, hE⟩ | ⟨g1, (⟨g2, hE⟩ | ⟨g2, v330, g3, (⟨g4, hE⟩ | ⟨g4, cf363, fo364, tf365, fp366, cd367, nf368, na369, own370, lq371, lc372, lf373, lg374, fq375, fc376, ff377, fg378, P379, fs380, sd381, v383, g5, (⟨g6, z421, g7, hE⟩ | ⟨g6, hE⟩)⟩)⟩)⟩)⟩
  · exfalso; omega
  · exact absurd hf g2
  · rw [kind_cur g3 hc] at g4
    exact absurd g4 hne
  · have hN5 : ND P379 := hN.pa (pae_tc_compile _ _ _ _ _ _ _ _ _ _ _ _ _ _ _ _ _ _ _ _ _ _ _ _ _ _ _ _ _ _ hE)
    rcases it_ok hl hN5 hT hp g5 with ⟨p1, p2⟩ | ⟨pv, it, t1, X, p1, p2, p3, p4, p5, ⟨p6, p7, p8, p9⟩, p10, p11, p12, p13, p14⟩ | ⟨pv, -⟩
    · exact Or.inl ⟨p1, fl_53 hE p2⟩
    · refine Or.inr ⟨it, t1, k, z421, _, _, _, _, _, _, _, _, _, _, _, _, _, _, _, _, _, _, _, _, _, _, p1, g7, hE, p4, p5 8 (by decide) (by decide), bkr_tc_item g5, L ++ X, W, LX, m, ?_, fun _ => by rw [p13, List.append_nil], fun _ => ⟨rfl, by simp [p13], fun g w1 w2 w3 => ?_⟩⟩
      · have e7 := p5 7 (by decide) (by decide)
        have e14 := p5 14 (by decide) (by decide)
        have e15 := p5 15 (by decide) (by decide)
        have e10 := p5 10 (by decide) (by decide)
        refine ⟨p3, p11, ?_, by rw [p6]; exact hn3, fun q => ?_, by rw [p6]; exact hn4, by rw [List.length_append]; omega, hLX, nfr_tc_item g5 hNN, by rw [e7]; exact h7, by rw [e14]; exact h14, by rw [e15]; exact h15, p2, by rw [e10]; exact h10, by omega⟩
        · rw [p7, p8, p9]
          exact hX.px p10
        · rw [p5 8 (by decide) (by decide)] at q
          have := hW q
          omega
      · exact (p14 g (10 + m) w1 w2 w3).imp (fun s hs => hs)
    · exact absurd g6 pv
  · have hN5 : ND P379 := hN.pa (pae_tc_compile _ _ _ _ _ _ _ _ _ _ _ _ _ _ _ _ _ _ _ _ _ _ _ _ _ _ _ _ _ _ hE)
    rcases it_ok hl hN5 hT hp g5 with ⟨p1, p2⟩ | ⟨pv, -⟩ | ⟨pv, hk, hk1, hk2, ps, t1, p, p1, p2, p3⟩
    · exact Or.inl ⟨p1, fl_86 hE p2⟩
    · exact absurd pv g6
    · have nf5 := nfr_tc_item g5 hNN
      have bk5 := bkr_tc_item g5
      obtain ⟨a1, a2, a3, a4, a5, a6, q0, X, a7, ⟨s0, a8, a9⟩, a10, a11, a12, a13⟩ := p3
      subst a7
      have d1 := a1.2.2.2.2.1
      have e : pItem (kd ta) t 0 = (if kd ta t1 = 123 ∧ (0 : Int) < 60 then (match pSts (pSt (kd ta) 61) (kd ta) (0 + 1) 2049 (t1 + 1) with
        | none => none
        | some (b, t2) => if kd ta t2 = 125 then some (sNd 22 (.elem (.arg (kd ta t).toNat) (.arg (t + 1))) (.elem ps b), t2 + 1) else none) else none) := by
        unfold pItem
        rw [if_neg (by omega), if_pos hk, if_pos ⟨hk1, hk2⟩, p1]
        rfl
      obtain ⟨k, tf203, u1, cf236, ca237, tf238, fp239, cd240, nf241, own242, lq243, lc244, lf245, lg246, P247, fs248, sd249, u2, tf289, u3, hE⟩ := iv_tc_compile_86 hE
      obtain ⟨k, cf154, fo155, tf156, fp157, cd158, ft159, nf160, lf161, lg162, u4, z195, u5, hE⟩ := iv_tc_compile_123 hE
      have hN2 : ND P247 := hN.pa (pae_tc_compile _ _ _ _ _ _ _ _ _ _ _ _ _ _ _ _ _ _ _ _ _ _ _ _ _ _ _ _ _ _ hE)
      /- what the two passes know of the functions -/
      have both : ∃ (LXc : List FnE) (W2 : Nat), FunX na369 P379 ff377 fg378 W2 LXc ∧ (nf368 3).toInt = (W2 : Int) ∧ (¬ (cf 8).toInt = 0 → 2 * W2 ≤ 2000 + t1 ∧ LXc.length ≤ 50000 + t1) ∧ LXc.length ≤ 60000 ∧ (¬ (cf 8).toInt = 0 → LXc = LX ++ [(vd ta (t + 1), kd ta t, wnX ps)]) ∧ ((cf 8).toInt = 0 → LXc = LX) := by
        by_cases h8 : (cf 8).toInt = 0
        · obtain ⟨b1, b2, -⟩ := a12 h8
          exact ⟨LX, W, b1, by rw [b2]; exact hn3, fun q => absurd h8 q, hLX, fun q => absurd h8 q, fun _ => rfl⟩
        · obtain ⟨b1, b2, b3⟩ := a13 h8
          rw [p2] at b1
          have hW' := hW h8
          exact ⟨_, _, b1, b2, fun _ => ⟨b3, by rw [List.length_append, List.length_cons, List.length_nil]; omega⟩, by rw [List.length_append, List.length_cons, List.length_nil]; omega, fun _ => rfl, fun q => absurd q h8⟩
      obtain ⟨LXc, W2, bX, b3, bW, bl, bp1, bp2⟩ := both
      rcases open_cur (p0 := 123) u1 a1 hl (by decide) (by decide) with ⟨q1, q2, q3⟩ | ⟨q1, q2⟩
      · have hk3 : kd ta t1 = 123 := by unfold kd; rw [q1]; rfl
        rw [if_pos ⟨hk3, q2⟩] at e
        have e7 := a3 7 (by decide) (by decide) (by decide)
        have e14 := a3 14 (by decide) (by decide) (by decide)
        have e15 := a3 15 (by decide) (by decide) (by decide)
        have hst : StI ta c na369 ff377 fg378 (LXc.map fnT) q0 p.toInt cn (t1 + 1) (0 + 1) L.length (L ++ X) cf363 tf203 fp366 nf368 own370 lf373 lg374 P379 := by
          refine ⟨q3, a10, bX.l, ⟨a6, by rw [List.length_append]; omega, by rw [List.length_append]; omega⟩, ⟨s0, a8, a9⟩, nf5, ?_, ?_, ?_⟩
          · rw [e7, h7]; exact ⟨Int.le_refl _, by omega⟩
          · rw [e14, h14]; exact ⟨Int.le_refl _, by omega⟩
          · rw [e15, h15]; exact ⟨Int.le_refl _, by omega⟩
        have os := sts_ok hl (st_all hl 61) (tkl_RLs 61) (bkl_RLs 61) (pxl_RLs 61) (nfl_RLs 61) hN2 u2 hst
        have lb : lpB cf363 = false ∧ bkB cf363 = false := by
          unfold lpB bkB
          rw [e14, e15, h14, h15]
          exact ⟨by decide, by decide⟩
        rw [lb.1, lb.2] at os
        have bk2 := bkr_tc_statements (bkl_RLs 61) u2
        have px2 := pxr_tc_statements (pxl_RLs 61) u2
        have nk2 := nkr_tc_statements (nkl_RLs 61) u2
        have nf2' := nfr_tc_statements (nfl_RLs 61) u2 nf5
        have bkE := bkr_tc_endFunction u4
        cases hr : pSts (pSt (kd ta) 61) (kd ta) (0 + 1) 2049 (t1 + 1) with
        | none =>
          rw [hr] at os e
          exact Or.inl ⟨e, fl_53 hE ((tkr_tc_endFunction u4).2 ((tkr_tk_close u3).2 os))⟩
        | some r =>
          obtain ⟨bd, t2⟩ := r
          rw [hr] at os e
          have e' : pItem (kd ta) t 0 = if kd ta t2 = 125 then some (sNd 22 (.elem (.arg (kd ta t).toNat) (.arg (t + 1))) (.elem ps bd), t2 + 1) else none := e
          obtain ⟨r1, r2, r3, r4, r5, X2, r6, r7, r8⟩ := os
          have r1' := r1.2.2.2.2.1
          rcases close_cur (p0 := 125) u3 r1 (by omega) hl (by decide) (by decide) with ⟨y1, y2⟩ | ⟨y1, y2⟩
          · have hk4 : kd ta t2 = 125 := by unfold kd; rw [y1]; rfl
            rw [if_pos hk4] at e'
            have y2' : Cur tf289 c (t2 + 1) 0 := y2
            rw [List.append_assoc] at r6
            obtain ⟨z1, z2, z3, z4, z5, z6⟩ := end_ok y2' u4 r6 (by rw [r5]; exact a6) (by rw [List.length_append, List.length_append]; omega)
            have k12 : ∀ i : Nat, i ≠ 10 → i ≠ 12 → i ≠ 13 → i ≠ 16 → i ≠ 17 → cf154 i = cf i := by
              intro i i1 i2 i3 i4 i5
              rw [z2, r3 i i2 i3 i4 i5, a3 i i1 i2 i3]
            have k10 : (cf154 10).toInt = ((m + 1 : Nat) : Int) := by
              rw [z2, r3 10 (by decide) (by decide) (by decide) (by decide)]; exact a4
            refine Or.inr ⟨_, t2 + 1, k, z195, _, _, _, _, _, _, _, _, _, _, _, _, _, _, _, _, _, _, _, _, _, _, e', u5, hE, by omega, k12 8 (by decide) (by decide) (by decide) (by decide) (by decide), fun x => bkE (bkr_tk_close u3 (bk2 (bkr_tk_open u1 (bk5 x)))), L, W2, LXc, m + 1, ?_, fun q => ?_, fun q => ⟨bp2 q, rfl, fun g w1 w2 w3 => ?_⟩⟩
            · refine ⟨z1.cur y2', z5, bX.px px2, ?_, fun q => ?_, ?_, by omega, bl, nfr_tc_endFunction u4 nf2', ?_, ?_, ?_, z3, k10, by omega⟩
              · rw [z4, pk_un (by decide)]
                rw [show nf241 3 = nf368 3 from nk2]
                exact b3
              · rw [k12 8 (by decide) (by decide) (by decide) (by decide) (by decide)] at q
                have := bW q
                omega
              · rw [z4, pk_us]; rfl
              · rw [k12 7 (by decide) (by decide) (by decide) (by decide) (by decide)]; exact h7
              · rw [k12 14 (by decide) (by decide) (by decide) (by decide) (by decide)]; exact h14
              · rw [k12 15 (by decide) (by decide) (by decide) (by decide) (by decide)]; exact h15
            · rw [bp1 q]
              have e5 : (((kd ta t).toNat : Nat) : Int) = kd ta t := by omega
              show _ = LX ++ [(vd ta (t + 1), (((kd ta t).toNat : Nat) : Int), wnX ps)]
              rw [e5]
            · obtain ⟨-, -, at1⟩ := a12 q
              have eLX := bp2 q
              subst eLX
              have e5 : p.toInt = (((kd ta t).toNat : Nat) : Int) := by omega
              rw [e5] at r8
              show AT tf tf156 (semFn (kd ta) (vd ta) (qlS ta) LXc (kd ta t).toNat (t + 1) ps bd (L, g, 10 + m)) _
              unfold semFn
              refine AT.bind at1 (fun pw hpw => ?_) (fun x => bkE (bkr_tk_close u3 (bk2 (bkr_tk_open u1 x))))
              obtain ⟨v1, v2, v3, v4⟩ := hpw
              obtain ⟨pw1, pw2⟩ := pw
              have v1' : pw1 = L ++ X := v1
              subst v1'
              have sp := r8 pw2 0 ([], false) v2 (by rw [a5]; rfl) v3 (by have v4' : pw2 ≤ 4096 * (t1 : Int) := v4; omega) (by omega) (by omega)
              refine AT.bind (AT.sm (smr_tk_open u1) sp) (fun s hs => ?_) (fun x => bkE (bkr_tk_close u3 x))
              obtain ⟨s1, s2, s3, s4, s5, s6, s7, s8⟩ := hs
              have at2 := z6 s.2.1 s.2.2.1 s2 s3 s5 (by omega) s7 s8
              show AT tf238 tf156 (if 4 + s.2.1 + s.2.2.1 ≤ 8192 then some ((L, g, 10 + m + 1) : Tg) else none) _
              refine AT.sm (smr_tk_close u3) ?_
              by_cases hle : 4 + s.2.1 + s.2.2.1 ≤ 8192
              · rw [if_pos hle] at at2 ⊢
                intro u
                refine ⟨(at2 u).1, rfl, ?_, w2, ?_, rfl⟩
                · show (cf154 11).toInt = g
                  rw [k12 11 (by decide) (by decide) (by decide) (by decide) (by decide)]; exact w1
                · show g ≤ 4096 * ((t2 + 1 : Nat) : Int)
                  omega
              · rw [if_neg hle] at at2 ⊢
                exact fun u => at2 u
          · have hk4 : ¬ kd ta t2 = 125 := fun z => y1 (i_eq.mpr z)
            rw [if_neg hk4] at e'
            exact Or.inl ⟨e', fl_53 hE ((tkr_tc_endFunction u4).2 y2)⟩
      · have hk3 : ¬ (kd ta t1 = 123 ∧ (0 : Int) < 60) := fun z => q1 ⟨i_eq.mpr z.1, z.2⟩
        rw [if_neg hk3] at e
        exact Or.inl ⟨e, fl_53 hE ((tkr_tc_endFunction u4).2 ((tkr_tk_close u3).2 ((tkr_tc_statements (tkl_RLs 61) u2).2 q2)))⟩
end SP
