section SH
variable {ta : Nat → Nat → Int32} {cn sn : Nat} {na : Nat → Nat → Int32} {ff : Nat → Int32} {fg : Nat → Option Nat} {c sc q0 : Nat} {o rt : Int} {Flq' : List (Int32 × Fnc)} {RLs : T_tc_statement} {S : POT}
variable {cf' : Nat → Int32} {ca' : Nat → Nat → Int32} {tf' fp' cd' nf' : Nat → Int32} {own' : Bool} {lq' lc' : Nat} {lf' : Nat → Int32} {lg' : Nat → Option Nat} {P' : va_W} {fs' sd' : Nat → Int32}
variable {cfa : Nat → Int32} {caa : Nat → Nat → Int32} {tfa fpa cda nfa : Nat → Int32} {owna : Bool} {lqa lca : Nat} {lfa : Nat → Int32} {lga : Nat → Option Nat} {Pa : va_W} {fsa sda : Nat → Int32} {t : Nat} {L : Nms}
theorem stm_ok (hl : Lst0 ta c) (hS : HSx RLs ta cn na ff fg sn c Flq' q0 rt S) (hTS : TK_tc_statement RLs) (hBS : BK_tc_statement RLs) (hXS : PX_tc_statement RLs) (hNS : NF_tc_statement RLs) (hN : ND P') (h : R_tc_statement RLs (some q0) ta cn na ff fg sn cfa caa tfa fpa cda nfa owna lqa lca lfa lga Pa fsa sda cf' ca' tf' fp' cd' nf' own' lq' lc' lf' lg' P' fs' sd') (hst : StI ta c na ff fg Flq' q0 rt cn t o sc L cfa tfa fpa nfa owna lfa lga Pa) :
    OkS ta c o t L (fun s => sem (kd ta) (vd ta) (qlS ta) (fun v => flk v Flq') rt s sc (lpB cfa) (bkB cfa)) (pStm S (kd ta) t o) cfa caa tfa nfa cf' ca' tf' nf' own' lf' lg' P' := by
  obtain ⟨k, h⟩ := h
  have hst' := hst
  obtain ⟨hc, hL, hF, ⟨hs1, hs2, hs3⟩, ⟨s0, hR1, hR2⟩, hnn, h7, h14, h15⟩ := hst'
  have c1 := hc.2.2.2.2.1
  have c2 := hc.2.2.2.2.2.1
  unfold pStm
  rcases iv_tc_statement_0 h with ⟨k, v2, h1, (⟨h2, cf11, tf12, fp13, cd14, h3, tf41, h4, hE⟩ | ⟨h2, tf51, h3, cf74, tf75, fp76, cd77, own78, lq79, lc80, lf81, lg82, P83, fs84, sd85, h4, tf120, h5, hE⟩ | ⟨h2, cf144, ca145, tf146, fp147, cd148, nf149, own150, lq151, lc152, lf153, lg154, P155, fs156, sd157, h3, hE⟩ | ⟨h2, cf211, ca212, tf213, fp214, cd215, nf216, own217, lq218, lc219, lf220, lg221, P222, fs223, sd224, h3, hE⟩ | ⟨h2, cf278, ca279, tf280, fp281, cd282, nf283, own284, lq285, lc286, lf287, lg288, P289, fs290, sd291, h3, hE⟩ | ⟨h2, cf345, ca346, tf347, fp348, cd349, nf350, own351, lq352, lc353, lf354, lg355, P356, fs357, sd358, h3, hE⟩ | ⟨h2, cf412, ca413, tf414, fp415, cd416, nf417, own418, lq419, lc420, lf421, lg422, P423, fs424, sd425, h3, hE⟩ | ⟨h2, cf469, tf470, fp471, cd472, h3, hE⟩ | ⟨h2, cf501, tf502, fp503, cd504, h3, hE⟩ | ⟨h2, tf531, h3, hE⟩ | ⟨h2, cf557, ca558, tf559, fp560, cd561, nf562, own563, lq564, lc565, lf566, lg567, P568, fs569, sd570, h3, hE⟩)⟩
  · rw [kind_cur h1 hc] at h2
    obtain ⟨k, e0, e1, e2, e3, e4, e5, e6, e7, e8, e9, e10, e11, e12, e13⟩ := iv_tc_statement_220 hE
    have hk : ∀ k ∈ ([1, 2, 5, 7, 8, 9, 10, 13, 14, 15, 59, 123] : List Int), ¬ kd ta t = k := h2
    have g1 := hk 1 (by simp)
    have g2 := hk 2 (by simp)
    have g5 := hk 5 (by simp)
    have g7 := hk 7 (by simp)
    have g8 := hk 8 (by simp)
    have g9 := hk 9 (by simp)
    have g10 := hk 10 (by simp)
    have g13 := hk 13 (by simp)
    have g14 := hk 14 (by simp)
    have g15 := hk 15 (by simp)
    have g59 := hk 59 (by simp)
    have g123 := hk 123 (by simp)
    rw [if_neg g123, if_neg g59, if_neg (by omega), if_neg g5, if_neg g7, if_neg g8, if_neg g9, if_neg g10, if_neg (by omega), if_neg g15]
    have hNa : ND Pa := by rw [← e11]; exact hN
    have eo := eff_ok (find_all hNa hL) (fun_all hNa hF) hl h3 hc
    rw [e0, e1, e2, e5, e6, e9, e10, e11]
    have eo' := eo
    obtain ⟨w0, w1⟩ := eo
    cases hr : pE (kd ta) (-1) t o with
    | none =>
      rw [hr] at w1
      exact (tkr_tk_expect h4).2 w1
    | some r =>
      obtain ⟨e, t1⟩ := r
      rw [hr] at w1 eo'
      dsimp only
      have ck := OkH.cf eo'
      obtain ⟨a1, a2, a3⟩ := w1
      have a1' := a1.2.2.2.2.1
      have a1'' := a1.2.2.2.2.2.1
      have ex := expect_cur (p0 := 59) h4 a1 hl (by decide) (by decide)
      rcases ex.1 with ⟨y1, y2⟩ | ⟨y1, y2⟩
      · have hk1 : kd ta t1 = 59 := by unfold kd; rw [y1]; rfl
        rw [if_pos hk1]
        refine ⟨y2, by omega, ck, CAK.rf, rfl, [], by rw [List.append_nil]; exact hL, by simp, ?_⟩
        rw [List.append_nil]
        exact ((((SP.e eo' (by omega)).ms ex.2).ts (by omega) (by omega)).co (fun w h q => rfl))
      · have hk1 : ¬ kd ta t1 = 59 := fun q => y1 (i_eq.mpr q)
        rw [if_neg hk1]
        exact y2
  · rw [kind_cur h1 hc] at h2
    obtain ⟨k, e0, e1, e2, e3, e4, e5, e6, e7, e8, e9, e10, e11, e12, e13⟩ := iv_tc_statement_220 hE
    have hk : kd ta t = 1 ∨ kd ta t = 2 := h2
    rw [if_neg (by omega), if_neg (by omega), if_pos hk]
    have hlt : t + 1 < c := by
      rcases hk with q | q
      · exact lst_lt (p0 := 1) hc hl (by decide) (by decide) q
      · exact lst_lt (p0 := 2) hc hl (by decide) (by decide) q
    have hs := step_cur h3 hc hlt
    have vo := vars_ok (sc := sc) hl (by rw [← e11]; exact hN) hs1 h4 hs.1 hL hF
    rw [e0, e1, e2, e5, e6, e9, e10, e11]
    cases hr : pVars (kd ta) o 2048 (t + 1) with
    | none =>
      rw [hr] at vo
      exact (tkr_tk_expect h5).2 vo
    | some r =>
      obtain ⟨vs, t1⟩ := r
      rw [hr] at vo
      dsimp only
      obtain ⟨v1, v2, v3, X, v4, v5, v6⟩ := ov_sp rfl vo
      have v2' := v2.2.2.2.2.1
      have ex := expect_cur (p0 := 59) h5 v2 hl (by decide) (by decide)
      rcases ex.1 with ⟨y1, y2⟩ | ⟨y1, y2⟩
      · have hk1 : kd ta t1 = 59 := by unfold kd; rw [y1]; rfl
        rw [if_pos hk1]
        refine ⟨y2, by omega, v1, CAK.rf, rfl, X, v4, by omega, ?_⟩
        have ch : isChr (.arg (kd ta t).toNat) = decide ((ta 0 t).toInt = 2) := by
          show decide ((kd ta t).toNat = 2) = decide (kd ta t = 2)
          rcases hk with q | q <;> rw [q] <;> rfl
        rw [kind_cur h1 hc] at v6
        rw [← ch] at v6
        exact ((((SP.sm hs.2 v6).ms ex.2).ts (by omega) (by omega)).co (fun w h q => rfl))
      · have hk1 : ¬ kd ta t1 = 59 := fun q => y1 (i_eq.mpr q)
        rw [if_neg hk1]
        exact y2
  · rw [kind_cur h1 hc] at h2
    obtain ⟨k, e0, e1, e2, e3, e4, e5, e6, e7, e8, e9, e10, e11, e12, e13⟩ := iv_tc_statement_220 hE
    have hk : kd ta t = 5 := h2
    rw [if_neg (by omega), if_neg (by omega), if_neg (by omega), if_pos hk]
    rw [e0, e1, e2, e5, e6, e9, e10, e11]
    exact cho2_ok hl hS hTS hBS hXS hNS (by rw [← e11]; exact hN) h3 hst hk
  · rw [kind_cur h1 hc] at h2
    obtain ⟨k, e0, e1, e2, e3, e4, e5, e6, e7, e8, e9, e10, e11, e12, e13⟩ := iv_tc_statement_220 hE
    have hk : kd ta t = 7 := h2
    rw [if_neg (by omega), if_neg (by omega), if_neg (by omega), if_neg (by omega), if_pos hk]
    rw [e0, e1, e2, e5, e6, e9, e10, e11]
    exact whi_ok hl hS hTS hBS hXS hNS (by rw [← e11]; exact hN) h3 hst hk
  · rw [kind_cur h1 hc] at h2
    obtain ⟨k, e0, e1, e2, e3, e4, e5, e6, e7, e8, e9, e10, e11, e12, e13⟩ := iv_tc_statement_220 hE
    have hk : kd ta t = 8 := h2
    rw [if_neg (by omega), if_neg (by omega), if_neg (by omega), if_neg (by omega), if_neg (by omega), if_pos hk]
    rw [e0, e1, e2, e5, e6, e9, e10, e11]
    exact do_ok hl hS hTS hBS hXS hNS (by rw [← e11]; exact hN) h3 hst hk
  · rw [kind_cur h1 hc] at h2
    obtain ⟨k, e0, e1, e2, e3, e4, e5, e6, e7, e8, e9, e10, e11, e12, e13⟩ := iv_tc_statement_220 hE
    have hk : kd ta t = 9 := h2
    rw [if_neg (by omega), if_neg (by omega), if_neg (by omega), if_neg (by omega), if_neg (by omega), if_neg (by omega), if_pos hk]
    rw [e0, e1, e2, e5, e6, e9, e10, e11]
    exact for_ok hl hS hTS hBS hXS hNS (by rw [← e11]; exact hN) h3 hst hk
  · rw [kind_cur h1 hc] at h2
    obtain ⟨k, e0, e1, e2, e3, e4, e5, e6, e7, e8, e9, e10, e11, e12, e13⟩ := iv_tc_statement_220 hE
    have hk : kd ta t = 10 := h2
    rw [if_neg (by omega), if_neg (by omega), if_neg (by omega), if_neg (by omega), if_neg (by omega), if_neg (by omega), if_neg (by omega), if_pos hk]
    rw [e0, e1, e2, e5, e6, e9, e10, e11]
    exact sel_ok hl hS hTS hBS hXS hNS (by rw [← e11]; exact hN) h3 hst hk
  · rw [kind_cur h1 hc] at h2
    obtain ⟨k, e0, e1, e2, e3, e4, e5, e6, e7, e8, e9, e10, e11, e12, e13⟩ := iv_tc_statement_220 hE
    have hk : kd ta t = 13 ∨ kd ta t = 14 := h2
    rw [if_neg (by omega), if_neg (by omega), if_neg (by omega), if_neg (by omega), if_neg (by omega), if_neg (by omega), if_neg (by omega), if_neg (by omega), if_pos hk]
    rw [e0, e1, e2, e5, e6, e9, e10, e11]
    exact leap_ok hl hL h3 hc (by rw [kind_cur h1 hc]; rfl) hk
  · rw [kind_cur h1 hc] at h2
    obtain ⟨k, e0, e1, e2, e3, e4, e5, e6, e7, e8, e9, e10, e11, e12, e13⟩ := iv_tc_statement_220 hE
    have hk : kd ta t = 15 := h2
    rw [if_neg (by omega), if_neg (by omega), if_neg (by omega), if_neg (by omega), if_neg (by omega), if_neg (by omega), if_neg (by omega), if_neg (by omega), if_neg (by omega), if_pos hk]
    rw [e0, e1, e2, e5, e6, e9, e10, e11]
    exact ret_ok hl (by rw [← e11]; exact hN) hL hF hR1 hR2 h3 hc hk
  · rw [kind_cur h1 hc] at h2
    obtain ⟨k, e0, e1, e2, e3, e4, e5, e6, e7, e8, e9, e10, e11, e12, e13⟩ := iv_tc_statement_220 hE
    have hk : kd ta t = 59 := h2
    rw [if_neg (by omega), if_pos hk]
    have hlt : t + 1 < c := lst_lt (p0 := 59) hc hl (by decide) (by decide) hk
    have hs := step_cur h3 hc hlt
    rw [e0, e1, e2, e5, e6, e9, e10, e11]
    refine ⟨hs.1, by omega, CFK.rf, CAK.rf, rfl, [], by rw [List.append_nil]; exact hL, by simp, ?_⟩
    rw [List.append_nil]
    exact (((SP.rt (Nat.le_refl _)).ms hs.2).ts (t := t) (by omega) (by omega)).co (fun w h q => rfl)
  · rw [kind_cur h1 hc] at h2
    obtain ⟨k, e0, e1, e2, e3, e4, e5, e6, e7, e8, e9, e10, e11, e12, e13⟩ := iv_tc_statement_220 hE
    have hk : kd ta t = 123 := h2
    rw [if_pos hk]
    rw [e0, e1, e2, e5, e6, e9, e10, e11]
    exact blk_ok hl hS hTS hBS hXS hNS (by rw [← e11]; exact hN) h3 hst hk
end SH
