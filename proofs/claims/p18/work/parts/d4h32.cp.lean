theorem so_ok {own : Bool} {cf tf fp cd nf lf fs sd cf' tf' fp' cd' nf' lf' fs' sd' : Nat → Int32} {fo fo' : Option Nat} {lg lg' : Nat → Option Nat} {P : va_W} {c : Nat} (h : R_tc_startOver0 own cf fo tf fp cd nf lf lg fs sd cf' fo' tf' fp' cd' nf' lf' lg' fs' sd') (hL : 0 ≤ (lf 1).toInt) (h10 : (tf 10).toInt = (c : Int)) (h15 : (tf 15).toInt = 0) (hc : 1 ≤ c ∧ c ≤ 2049) :
    Cur tf' c 0 0 ∧ Un tf' ∧ EnvL own P lf' lg' [] ∧ nf' = upd nf 4 0 ∧ fo' = none ∧ fp' = upd fp 3 0 ∧ (cf' 7).toInt = 0 ∧ (cf' 10).toInt = 0 ∧ (cf' 11).toInt = 0 ∧ (cf' 14).toInt = 0 ∧ (cf' 15).toInt = 0 ∧ cf' 8 = cf 8 := by
  rcases h with ⟨tf1, h1, nf13, lf14, lg15, h2, e0, e1, e2, e3, e4, e5, e6, e7, e8, e9⟩ | h
  · obtain ⟨q1, q2⟩ := clear_env (P := P) hL h2
    rcases h1 with r | r
    · rw [e0, e1, e2, e3, e5, e6, e7, r]
      refine ⟨⟨?_, ?_, ?_, ?_, by omega, hc.2, by omega, by omega⟩, ⟨?_, ?_⟩, q1, q2, rfl, rfl, ?_, ?_, ?_, ?_, ?_, ?_⟩
      · rw [pk_un (by decide), pk_un (by decide), pk_un (by decide), pk_un (by decide)]; exact h10
      · rw [pk_un (by decide), pk_un (by decide), pk_un (by decide), pk_us]; rfl
      · rw [pk_un (by decide), pk_un (by decide), pk_us]; rfl
      · rw [pk_un (by decide), pk_un (by decide), pk_un (by decide), pk_un (by decide)]; exact h15
      · rw [pk_us]; rfl
      · rw [pk_un (by decide), pk_us, pk_un (by decide), pk_un (by decide), pk_un (by decide), pk_un (by decide)]
      · rw [pk_un (by decide), pk_un (by decide), pk_un (by decide), pk_un (by decide), pk_un (by decide), pk_un (by decide), pk_us]; rfl
      · rw [pk_un (by decide), pk_un (by decide), pk_un (by decide), pk_un (by decide), pk_un (by decide), pk_us]; rfl
      · rw [pk_un (by decide), pk_un (by decide), pk_un (by decide), pk_un (by decide), pk_us]; rfl
      · rw [pk_un (by decide), pk_un (by decide), pk_un (by decide), pk_us]; rfl
      · rw [pk_un (by decide), pk_un (by decide), pk_us]; rfl
      · rw [pk_un (by decide), pk_un (by decide), pk_un (by decide), pk_un (by decide), pk_un (by decide), pk_un (by decide), pk_un (by decide)]
    · exact r.elim
  · exact h.elim
/-- a text is right -/
def accT (G0 : List FnE) (k : Nat → Int) (vl : Nat → Int32) (ql : Nat → Int) : Prop := ∃ (tree : Ast) (t2 : Nat) (s : Tg), pItems k 2050 0 = some (tree, t2) ∧ semItems k vl ql (G0 ++ fnsO vl tree) tree ([], 0, 10) = some s ∧ jdg (G0 ++ fnsO vl tree) (s.2.2 - 10) s.2.1 = some ()
section SR
variable {sn9 : Nat} {sb : Nat → Int32} {tp : Nat} {tb : Nat → Int32} {cn : Nat} {fn : Nat} {sn : Nat} {p0 : Int32}
variable {cf' : Nat → Int32} {ca' : Nat → Nat → Int32} {fo' : Option Nat} {tf' : Nat → Int32} {ta' : Nat → Nat → Int32} {ob6' : Option Nat} {fp' : Nat → Int32} {cd' : Nat → Int32} {ft' : Nat → Int32} {nf' : Nat → Int32} {na' : Nat → Nat → Int32} {own' : Bool} {lq' : Nat} {lc' : Nat} {lf' : Nat → Int32} {lg' : Nat → Option Nat} {fq' : Nat} {fc' : Nat} {ff' : Nat → Int32} {fg' : Nat → Option Nat} {P' : va_W} {fs' : Nat → Int32} {sd' : Nat → Int32} {v : Int32}
variable {cf : Nat → Int32} {ca : Nat → Nat → Int32} {fo : Option Nat} {tf : Nat → Int32} {ta : Nat → Nat → Int32} {ob6 : Option Nat} {fp : Nat → Int32} {cd : Nat → Int32} {ft : Nat → Int32} {nf : Nat → Int32} {na : Nat → Nat → Int32} {own : Bool} {lq : Nat} {lc : Nat} {lf : Nat → Int32} {lg : Nat → Option Nat} {fq : Nat} {fc : Nat} {ff : Nat → Int32} {fg : Nat → Option Nat} {P : va_W} {fs : Nat → Int32} {sd : Nat → Int32}
theorem cp_ok {G0 : List FnE} (hN : ND P') (hsc : ∀ (tf1 : Nat → Int32) (ta1 : Nat → Nat → Int32), R_t2_scan sn9 sb tb p0 tf ta tf1 ta1 → ∃ c : Nat, (tf1 10).toInt = (c : Int) ∧ 1 ≤ c ∧ c ≤ 2049 ∧ Lst0 ta1 c ∧ (c : Int) ≤ p0.toInt + 1) (hfg : ∀ (nf1 ff1 : Nat → Int32) (fg1 : Nat → Option Nat), R_nw_forget nf ff fg nf1 ff1 fg1 → FunX na P ff1 fg1 14 G0 ∧ (nf1 3).toInt = 14) (hG : G0.length = 10) (hL : 0 ≤ (lf 1).toInt) (hcn : 0 ≤ (nI cn).toInt ∧ (nI cn).toInt ≤ 2000000000) (h : R_tc_compile sn9 sb tp tb cn fn sn p0 cf ca fo tf ta ob6 fp cd ft nf na own lq lc lf lg fq fc ff fg P fs sd cf' ca' fo' tf' ta' ob6' fp' cd' ft' nf' na' own' lq' lc' lf' lg' fq' fc' ff' fg' P' fs' sd' v) :
    ∃ (tf1 : Nat → Int32) (ta1 : Nat → Nat → Int32), R_t2_scan sn9 sb tb p0 tf ta tf1 ta1 ∧ (v.toInt = 0 ↔ accT G0 (kd ta1) (vd ta1) (qlS ta1)) := by
  obtain ⟨k, h⟩ := h
  obtain ⟨k, tf438, ta439, g1, nf445, ff446, fg447, g2, g3, cf470, fo471, tf472, fp473, cd474, nf475, lf476, lg477, fs478, sd479, g4, hE⟩ := iv_tc_compile_0 h
  obtain ⟨c, c10, c1, c2, hl, hcp⟩ := hsc _ _ g1
  obtain ⟨hX0, hn0⟩ := hfg _ _ _ g2
  refine ⟨_, _, g1, ?_⟩
  have nn : NN cn (upd fp 3 0) := by
    unfold NN
    rw [pk_us]
    exact ⟨by decide, hcn.1, hcn.2⟩
  obtain ⟨s1, s2, s3, s4, s5, s6, s7, s8, s9, s10, s11, s12⟩ := so_ok (P := P) g4 hL c10 g3 ⟨c1, c2⟩
  have e8 : cf470 8 = 1 := by rw [s12, pk_us]
  have no8 : ¬ (cf470 8).toInt = 0 := by rw [e8]; decide
  have hT : TopI c cn 0 [] G0 14 0 cf470 fo471 tf472 fp473 nf475 na own lf476 lg477 ff446 fg447 P := ⟨s1, s3, hX0, by rw [s4, pk_un (by decide)]; exact hn0, fun _ => ⟨by omega, by omega⟩, by rw [s4, pk_us]; rfl, Nat.le_refl _, by omega, by rw [s6]; exact nn, s7, s10, s11, s5, s8, Nat.le_refl _⟩
  rcases lp_ok hl hN hcp 2050 0 k _ _ _ _ _ _ _ _ _ _ _ _ _ _ _ _ _ _ _ _ _ _ _ 0 [] G0 14 0 hE (by rfl) (Nat.le_refl _) (by omega) hT (fun q => absurd q no8) with ⟨q1, q2, q3⟩ | ⟨tree, t2, k, z, cf2, ca2, fo2, tf2, ob62, fp2, cd2, ft2, nf2, na2, own2, lq2, lc2, lf2, lg2, fq2, fc2, ff2, fg2, P2, fs2, sd2, r1, hE, r3, r4, L2, W2, LX2, m2, r5, r6, r7⟩
  · refine ⟨fun q => ?_, fun q => ?_⟩
    · rw [q2] at q; exact absurd q (by decide)
    · obtain ⟨tree, t2, s, p1, -⟩ := q
      rw [q1] at p1
      exact absurd p1 (by simp)
  · have f15 := r5.1.2.2.2.1
    have eLX := r6 no8
    subst eLX
    rcases iv_tc_compile_137 hE with ⟨k, z1, g1, (⟨g2, (⟨g3, tf9, fs10, sd11, g4, e0, e1, e2, e3, e4, e5, e6, e7, e8, e9, e10, e11, e12, e13, e14, e15, e16, e17, e18, e19, e20, e21, e22, ev⟩ | ⟨g3, e0, e1, e2, e3, e4, e5, e6, e7, e8, e9, e10, e11, e12, e13, e14, e15, e16, e17, e18, e19, e20, e21, e22, ev⟩)⟩ | ⟨g2, (⟨g3, (⟨g4, tf50, fs51, sd52, g5, e0, e1, e2, e3, e4, e5, e6, e7, e8, e9, e10, e11, e12, e13, e14, e15, e16, e17, e18, e19, e20, e21, e22, ev⟩ | ⟨g4, e0, e1, e2, e3, e4, e5, e6, e7, e8, e9, e10, e11, e12, e13, e14, e15, e16, e17, e18, e19, e20, e21, e22, ev⟩)⟩ | ⟨g3, g4, cf96, fo97, tf98, fp99, cd100, nf101, lf102, lg103, fs104, sd105, g5, hE⟩)⟩)⟩
    · have y := ti_add g1 (show (0 : Int32).toInt = 0 from rfl) (show (1 : Int32).toInt = 1 from rfl) (by omega) (by omega)
      exfalso; omega
    · exact absurd f15 g3
    · exact absurd f15 g3
    · exact absurd f15 g3
    · obtain ⟨w1, w2, w3, w4, w5, w6, w7, w8, w9, w10, w11, w12⟩ := so_ok (P := P2) g5 (by have := r5.2.1.1; omega) r5.1.1 f15 ⟨c1, c2⟩
      have z8 : (cf96 8).toInt = 0 := by rw [w12, pk_us]; rfl
      have no8' : ¬ ¬ (cf96 8).toInt = 0 := fun q => q z8
      have hl10 : 10 ≤ (G0 ++ fnsO (vd ta439) tree).length := by rw [List.length_append]; omega
      have hT2 : TopI c cn 0 [] (G0 ++ fnsO (vd ta439) tree) W2 0 cf96 fo97 tf98 fp99 nf101 na2 own2 lf102 lg103 ff2 fg2 P2 := ⟨w1, w3, r5.2.2.1, by rw [w4, pk_un (by decide)]; exact r5.2.2.2.1, fun q => absurd z8 q, by rw [w4, pk_us]; rfl, Nat.le_refl _, r5.2.2.2.2.2.2.2.1, by rw [w6]; exact (by unfold NN; rw [pk_us]; exact ⟨by decide, hcn.1, hcn.2⟩), w7, w10, w11, w5, w8, Nat.le_refl _⟩
      have hdr : (G0 ++ fnsO (vd ta439) tree).drop (10 + 0) = fnsO (vd ta439) tree := by
        rw [Nat.add_zero, ← hG, List.drop_left]
      rcases lp_ok hl hN hcp 2050 0 k _ _ _ _ _ _ _ _ _ _ _ _ _ _ _ _ _ _ _ _ _ _ _ 0 [] _ W2 0 hE (by rfl) (Nat.le_refl _) (by omega) hT2 (fun _ => ⟨tree, t2, r1, hdr⟩) with ⟨q1, q2, q3⟩ | ⟨tree', t2', k, z', cf3, ca3, fo3, tf3, ob63, fp3, cd3, ft3, nf3, na3, own3, lq3, lc3, lf3, lg3, fq3, fc3, ff3, fg3, P3, fs3, sd3, p1, hE, p3, p4, L3, W3, LX3, m3, p5, p6, p7⟩
      · exfalso
        rw [r1] at q1
        exact absurd q1 (by simp)
      · rw [r1] at p1
        have et : tree = tree' := congrArg Prod.fst (Option.some.inj p1)
        subst et
        obtain ⟨a1, a2, a3⟩ := p7 z8
        subst a1
        have f15' := p5.1.2.2.2.1
        have at1 := a3 0 w9 (by omega) (by omega)
        have hm10 := p5.2.2.2.2.2.2.2.2.2.2.2.2.2.1
        rcases iv_tc_compile_137 hE with ⟨k, z1, i1, (⟨i2, (⟨i3, tf9, fs10, sd11, i4, e0, e1, e2, e3, e4, e5, e6, e7, e8, e9, e10, e11, e12, e13, e14, e15, e16, e17, e18, e19, e20, e21, e22, ev⟩ | ⟨i3, e0, e1, e2, e3, e4, e5, e6, e7, e8, e9, e10, e11, e12, e13, e14, e15, e16, e17, e18, e19, e20, e21, e22, ev⟩)⟩ | ⟨i2, (⟨i3, (⟨i4, tf50, fs51, sd52, i5, e0, e1, e2, e3, e4, e5, e6, e7, e8, e9, e10, e11, e12, e13, e14, e15, e16, e17, e18, e19, e20, e21, e22, ev⟩ | ⟨i4, e0, e1, e2, e3, e4, e5, e6, e7, e8, e9, e10, e11, e12, e13, e14, e15, e16, e17, e18, e19, e20, e21, e22, ev⟩)⟩ | ⟨i3, i4, cf96, fo97, tf98, fp99, cd100, nf101, lf102, lg103, fs104, sd105, i5, hE⟩)⟩)⟩
        · have hNP : ND P3 := by rw [← e20]; exact hN
          have at2 := jd_ok hNP p5.2.2.1 p5.1 hm10 i4
          rw [ev]
          have bkj := bkr_tc_judge i4
          refine ⟨fun q => ?_, fun q => ?_⟩
          · cases hs : semItems (kd ta439) (vd ta439) (qlS ta439) (G0 ++ fnsO (vd ta439) tree) tree ([], 0, 10 + 0) with
            | none =>
              rw [hs] at at1
              exact absurd q (bkj (at1 w2))
            | some s =>
              rw [hs] at at1
              obtain ⟨b1, b2, b3, b4, b5, b6⟩ := at1 w2
              have at3 := at2 b1
              refine ⟨tree, t2, s, r1, hs, ?_⟩
              rw [b6, show 10 + m3 - 10 = m3 by omega, ← b3]
              cases hj : jdg (G0 ++ fnsO (vd ta439) tree) m3 (cf3 11).toInt with
              | none =>
                rw [hj] at at3
                exact absurd q at3
              | some u => rfl
          · obtain ⟨tr, t3, s, x1, x2, x3⟩ := q
            rw [r1] at x1
            have et : tree = tr := congrArg Prod.fst (Option.some.inj x1)
            subst et
            have x2' : semItems (kd ta439) (vd ta439) (qlS ta439) (G0 ++ fnsO (vd ta439) tree) tree ([], 0, 10 + 0) = some s := x2
            rw [x2'] at at1
            obtain ⟨b1, b2, b3, b4, b5, b6⟩ := at1 w2
            rw [b6, show 10 + m3 - 10 = m3 by omega, ← b3] at x3
            have at3 := at2 b1
            rw [x3] at at3
            exact at3.1.1
        · exact absurd f15' i3
        · exact absurd f15' i3
        · exact absurd f15' i3
        · exfalso
          have y0 := ti_add g1 (show (0 : Int32).toInt = 0 from rfl) (show (1 : Int32).toInt = 1 from rfl) (by omega) (by omega)
          have y := ti_add i1 y0 (show (1 : Int32).toInt = 1 from rfl) (by omega) (by omega)
          omega
end SR
