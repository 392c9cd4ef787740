theorem rk_le {v : Int} : 0 ≤ rkO v ∧ rkO v ≤ 10 := by
  unfold rkO
  repeat' split
  all_goals omega
/-- what a choice is as a number: x6 its state, n8 its number -/
def ChSq (fx fy fz : Nat → Int32) (x6 n8 : Int32) : Prop := x6.toInt = (if (fy 2).toInt = 3 ∨ (fz 2).toInt = 3 then 3 else if (fx 2).toInt = 0 then (if (fx 8).toInt = 0 then (fz 2).toInt else (fy 2).toInt) else (fx 2).toInt) ∧ (¬ ((fy 2).toInt = 3 ∨ (fz 2).toInt = 3) → (fx 2).toInt = 0 → n8 = if (fx 8).toInt = 0 then fz 8 else fy 8)
section EX3
variable {RLp : T_ex_parse} {RLo : T_ex_operand} {ta : Nat → Nat → Int32} {cn : Nat} {na : Nat → Nat → Int32} {own : Bool} {P : va_W} {lf : Nat → Int32} {lg : Nat → Option Nat} {ff : Nat → Int32} {fg : Nat → Option Nat}
variable {tf fp cd tf' fp' cd' fx fx' : Nat → Int32} {ox ox' : Option Nat} {c t : Nat} {o : Int}
variable {G : Int32 → Option Ent} {F : Int32 → Option Fnc} {PP : PPT} {OO : POT}
theorem cho_179 {x6 : Int32} {k : Nat} {tfa fpa cda fxa : Nat → Int32} {oy oz : Option Nat} {fy fz : Nat → Int32} {hy hz : Nat} (h : E_ex_choose RLp RLo ta cn na own P lf lg ff fg ox tf' fp' cd' fx' k 179 [x6] [] [oy, oz] [fy, fz] [hy, hz] tfa fpa cda fxa) :
    tf' = tfa ∧ ∃ z w : Int32, z.toInt = max (fxa 5).toInt (max (fy 5).toInt (fz 5).toInt) ∧ w.toInt = max (fxa 6).toInt (max (fy 6).toInt (fz 6).toInt) ∧ R_Opd_become x6 (upd (upd fxa 5 z) 6 w) fx' := by
  obtain ⟨k, z1, h1, z2, h2, z3, h3, z4, h4, fx5, h5, e0, e1, e2, e3⟩ := iv_ex_choose_179 h
  exact ⟨e0, z2, z4, by rw [h2, mx_i, h1, mx_i], by rw [h4, mx_i, h3, mx_i], by rw [e3]; exact h5⟩
theorem cho_85 {x4 : Int32} {k : Nat} {tfa fpa cda fxa : Nat → Int32} {oy oz : Option Nat} {fy fz : Nat → Int32} {hy hz : Nat} (h : E_ex_choose RLp RLo ta cn na own P lf lg ff fg ox tf' fp' cd' fx' k 85 [x4] [] [oy, oz] [fy, fz] [hy, hz] tfa fpa cda fxa) :
    ∃ (tfb fpb cdb fzb : Nat → Int32), R_ex_number cn P oz tfa fpa cda fz tfb fpb cdb fzb ∧ R_tk_shut tfb tf' ∧ ∃ z w x6 n8 : Int32, z.toInt = max (fxa 5).toInt (max (fy 5).toInt (fzb 5).toInt) ∧ w.toInt = max (fxa 6).toInt (max (fy 6).toInt (fzb 6).toInt) ∧ R_Opd_become x6 (upd (upd (upd fxa 8 n8) 5 z) 6 w) fx' ∧ ChSq fxa fy fzb x6 n8 := by
  have up8 : upd fxa 8 (fxa 8) = fxa := by
    funext i
    by_cases q : i = 8
    · rw [q, pk_us]
    · rw [pk_un q]
  rcases iv_ex_choose_85 h with ⟨k, tf21, fp22, cd23, fx24, h1, cd42, h2, tf45, h3, (⟨h4, hE⟩ | ⟨h4, (⟨h5, (⟨h6, hE⟩ | ⟨h6, (⟨h7, hE⟩ | ⟨h7, hE⟩)⟩)⟩ | ⟨h5, hE⟩)⟩)⟩
  · obtain ⟨e0, z, w, q1, q2, q3⟩ := cho_179 hE
    refine ⟨tf21, fp22, cd23, fx24, h1, by rw [e0]; exact h3, z, w, 3, fxa 8, q1, q2, by rw [up8]; exact q3, ?_, fun q => absurd (Or.inl h4) q⟩
    rw [if_pos (Or.inl h4)]; rfl
  · obtain ⟨e0, z, w, q1, q2, q3⟩ := cho_179 hE
    refine ⟨tf21, fp22, cd23, fx24, h1, by rw [e0]; exact h3, z, w, fxa 2, fxa 8, q1, q2, by rw [up8]; exact q3, ?_, fun _ q => absurd q h6⟩
    rw [if_neg (fun q => q.elim h4 h5), if_neg h6]
  · obtain ⟨e0, z, w, q1, q2, q3⟩ := cho_179 hE
    refine ⟨tf21, fp22, cd23, fx24, h1, by rw [e0]; exact h3, z, w, fx24 2, fx24 8, ?_, ?_, q3, ?_, fun _ _ => ?_⟩
    · rw [q1, pk_un (by decide)]
    · rw [q2, pk_un (by decide)]
    · rw [if_neg (fun q => q.elim h4 h5), if_pos h6, if_pos h7]
    · rw [if_pos h7]
  · obtain ⟨e0, z, w, q1, q2, q3⟩ := cho_179 hE
    refine ⟨tf21, fp22, cd23, fx24, h1, by rw [e0]; exact h3, z, w, fy 2, fy 8, ?_, ?_, q3, ?_, fun _ _ => ?_⟩
    · rw [q1, pk_un (by decide)]
    · rw [q2, pk_un (by decide)]
    · rw [if_neg (fun q => q.elim h4 h5), if_pos h6, if_neg h7]
    · rw [if_neg h7]
  · obtain ⟨e0, z, w, q1, q2, q3⟩ := cho_179 hE
    refine ⟨tf21, fp22, cd23, fx24, h1, by rw [e0]; exact h3, z, w, 3, fxa 8, q1, q2, by rw [up8]; exact q3, ?_, fun q => absurd (Or.inr h5) q⟩
    rw [if_pos (Or.inr h5)]; rfl
theorem cho_ok (hTP : TK_ex_parse RLp) (hBP : BK_ex_parse RLp) (hP : HPx RLp ta cn na own P lf lg ff fg c G F PP) {tf0 : Nat → Int32} {e : Ast} {t0 t1 : Nat} (h : R_ex_choose RLp RLo ta cn na own P lf lg ff fg ox tf fp cd fx tf' fp' cd' fx') (hc : Cur tf c t1 o) (hl : Lst0 ta c) (h01 : t0 < t1) (hd : DR (kd ta) e t0 t1 fx) (ha : AT tf0 tf (att (kd ta) (vd ta) G F e [] 0) (MA P c (2 * ((t1 : Int) - (t0 : Int))) fx ox)) (hk : kd ta t1 = 63) :
    OkX ta c P G F t0 o (if o + dpT (kd ta) e < 60 then (match PP (-1) (t1 + 1) (o + 1) with
      | none => none
      | some (y, t2) => if kd ta t2 = 58 then (match PP 0 (t2 + 1) (o + 1) with
          | none => none
          | some (z, t3) => some (eCnd e y z, t3)) else none) else none) tf0 tf' ox fx' := by
  obtain ⟨k, h⟩ := h
  obtain ⟨a3, a4, a5, a6⟩ := hd
  have c1 := hc.2.2.2.2.1
  have c2 := hc.2.2.2.2.2.1
  have c7 := hc.2.2.2.2.2.2.1
  have hlt : t1 + 1 < c := lst_lt (p0 := 63) hc hl (by decide) (by decide) hk
  obtain ⟨k, tf110, h1, tf123, fp124, cd125, fx126, h2, fp144, cd145, v147, h3, tf153, fp154, cd155, hx156, ox157, fx158, h4, tf189, fp190, cd191, fx192, h5, tf208, h6, hE⟩ := iv_ex_choose_0 h
  obtain ⟨k, fp64, cd65, v67, g1, cd72, g2, tf78, fp79, cd80, hx81, ox82, fx83, g3, hE⟩ := iv_ex_choose_49 hE
  obtain ⟨tfb, fpb, cdb, fzb, g4, g5, z, w, x6, n8, g6, g7, g8, g9, g10⟩ := cho_85 hE
  rcases openB_cur h1 hc a3 (by omega) (by omega) hlt with ⟨q1, q2⟩ | ⟨q1, q2⟩
  · rw [if_pos q1]
    have r2 := num_r h2
    have h4' := hP _ _ _ _ _ _ _ _ _ _ _ h4 (r2.1.cur q2)
    rw [show ((-1 : Int32)).toInt = -1 from rfl] at h4'
    cases hr : PP (-1) (t1 + 1) (o + 1) with
    | none =>
      rw [hr] at h4'
      exact (tkr_tk_shut g5).2 ((num_r g4).1.fl ((hTP _ _ _ _ _ _ _ _ _ _ _ _ _ _ _ _ _ _ g3).2 ((tkr_tk_expect h6).2 ((num_r h5).1.fl h4'))))
    | some r =>
      obtain ⟨y, t2⟩ := r
      rw [hr] at h4'
      obtain ⟨b1, b2, ⟨b3, b4, b5, b6⟩, b7⟩ := h4'
      have r5 := num_r h5
      rcases (expect_cur (p0 := 58) h6 (r5.1.cur b1) hl (by decide) (by decide)).1 with ⟨p1, p2⟩ | ⟨p1, p2⟩
      · have hk2 : kd ta t2 = 58 := by unfold kd; rw [p1]; rfl
        simp only [hk2, if_true]
        have g3' := hP _ _ _ _ _ _ _ _ _ _ _ g3 p2
        rw [show ((0 : Int32)).toInt = 0 from rfl] at g3'
        cases hr2 : PP 0 (t2 + 1) (o + 1) with
        | none =>
          rw [hr2] at g3'
          exact (tkr_tk_shut g5).2 ((num_r g4).1.fl g3')
        | some r =>
          obtain ⟨z', t3⟩ := r
          rw [hr2] at g3'
          obtain ⟨d1, d2, ⟨d3, d4, d5, d6⟩, d7⟩ := g3'
          have d1' := d1.2.2.2.2.1
          have r4 := num_r g4
          have s1 := shut_cur g5 (r4.1.cur d1) (by omega)
          have s2 : Cur tf' c t3 o := by rw [show o = o + 1 - 1 by omega]; exact s1
          have en5 : (fx126 5).toInt = dpT (kd ta) e := by rw [r2.2, pk_un (by decide)]; exact a3
          have ey5 : (fx192 5).toInt = dpT (kd ta) y := by rw [r5.2, pk_un (by decide)]; exact b3
          have ez5 : (fzb 5).toInt = dpT (kd ta) z' := by rw [r4.2, pk_un (by decide)]; exact d3
          obtain ⟨u, hu, ef⟩ := bec_r g8
          have hu5 : (upd (upd (upd fx126 8 n8) 5 z) 6 w 5).toInt = max (dpT (kd ta) e) (max (dpT (kd ta) y) (dpT (kd ta) z')) := by rw [pk_un (by decide), pk_us, g6, en5, ey5, ez5]
          have hu' := ti_add hu hu5 (show (1 : Int32).toInt = 1 from rfl) (by omega) (by omega)
          refine ⟨s2, by omega, ⟨?_, ?_, ?_, ?_⟩, ?_⟩
          · rw [ef, pk_un (by decide), pk_us, hu', dp_cnd]
          · rw [ef, pk_us, rk_cnd]; rfl
          · rw [dp_cnd]; omega
          · rw [dp_cnd]; omega
          · rw [att_cnd]
            have bk3 : BK tf208 tf' := fun x => SmC.bd (smr_tk_shut g5) (bkr_ex_number g4 (hBP _ _ _ _ _ _ _ _ _ _ _ _ _ _ _ _ _ _ g3 x))
            refine AT.bind (AT.bind (ha.ms (smr_tk_openBehind h1)) (fun a hma => num_at h2 q2 hma) (bkr_ex_number h2)) (fun a hma => AT.bind (AT.ms (AT.bind b7 (fun b hmb => num_at h5 b1 hmb) (bkr_ex_number h5)) (smr_tk_expect h6)) (fun b hmb => AT.ms (AT.bind (AT.bind d7 (fun d hmd => num_at g4 d1 hmd) (bkr_ex_number g4)) (fun d hmd => AT.ret ?_) BK.rf) (smr_tk_shut g5)) bk3) (fun x => bk3 (SmC.bd (smr_tk_expect h6) (bkr_ex_number h5 (hBP _ _ _ _ _ _ _ _ _ _ _ _ _ _ _ _ _ _ h4 x))))
            obtain ⟨_, _, _, x4, x5, x6', x7, _⟩ := hma
            obtain ⟨_, _, _, y4, y5, y6, y7, _⟩ := hmb
            obtain ⟨_, _, _, z4, z5, z6, z7, _⟩ := hmd
            have hs : (aCnd a b d).2.1 = x6.toInt := by
              rw [g9, y4, z4, x4]
              show (if b.2.1 = 3 ∨ d.2.1 = 3 then 3 else if a.2.1 = 0 then (if a.2.2.1.toInt = 0 then d.2.1 else b.2.1) else a.2.1) = _
              by_cases q : a.2.1 = 0
              · rw [x6' q]
              · rw [if_neg q, if_neg q]
            have hs' : x6.toInt = 0 ∨ x6.toInt = 2 ∨ x6.toInt = 3 := by
              have e1 : (aCnd a b d).2.1 = if b.2.1 = 3 ∨ d.2.1 = 3 then (3 : Int) else if a.2.1 = 0 then (if a.2.2.1.toInt = 0 then d.2.1 else b.2.1) else a.2.1 := rfl
              rw [← hs, e1]
              by_cases r : b.2.1 = 3 ∨ d.2.1 = 3
              · rw [if_pos r]; exact Or.inr (Or.inr rfl)
              · rw [if_neg r]
                by_cases r2 : a.2.1 = 0
                · rw [if_pos r2]
                  by_cases r3 : a.2.2.1.toInt = 0
                  · rw [if_pos r3]; exact z5
                  · rw [if_neg r3]; exact y5
                · rw [if_neg r2]; exact x5
            have hn : x6.toInt = 0 → n8 = (aCnd a b d).2.2.1 := by
              intro q
              have q3 : ¬ ((fx192 2).toInt = 3 ∨ (fzb 2).toInt = 3) := by
                intro r
                rw [if_pos r] at g9
                omega
              rw [if_neg q3] at g9
              have q4 : (fx126 2).toInt = 0 := by
                by_cases r : (fx126 2).toInt = 0
                · exact r
                · rw [if_neg r] at g9; omega
              rw [if_pos q4] at g9
              rw [g10 q3 q4]
              have xe := x6' (by omega)
              show _ = if a.2.2.1.toInt = 0 then d.2.2.1 else b.2.2.1
              rw [← xe]
              by_cases r : (fx126 8).toInt = 0
              · rw [if_pos r, if_pos r]
                rw [if_pos r] at g9
                exact z6 (by omega)
              · rw [if_neg r, if_neg r]
                rw [if_neg r] at g9
                exact y6 (by omega)
            have hh : (aCnd a b d).2.2.2 = max a.2.2.2 (max b.2.2.2 d.2.2.2) := rfl
            rw [ef]
            have m1 := ‹0 ≤ (fx126 0).toInt ∧ (fx126 0).toInt < (c : Int)›
            have m2 := ‹0 ≤ (fx126 3).toInt ∧ (fx126 3).toInt < (c : Int)›
            refine ⟨by simpa [upd] using m1, by simpa [upd] using m2, ?_, ?_, by rw [hs]; exact hs', fun q => ?_, ⟨?_, ?_, ?_⟩, Or.inl (Or.inl rfl)⟩
            · simp [upd, aCnd, srt]
            · rw [hs]; simp [upd]
            · rw [hs] at q
              rw [← hn q]; simp [upd]
            · rw [hh]
              have e6 : (upd (upd (upd (upd (upd (upd (upd fx126 8 n8) 5 z) 6 w) 1 0) 2 x6) 5 u) 7 0 6) = w := by simp [upd]
              rw [e6, g7, x7.1, y7.1, z7.1]
            · rw [hh]; omega
            · rw [hh]
              have := x7.2.2
              have := y7.2.2
              have := z7.2.2
              omega
      · have hk2 : ¬ kd ta t2 = 58 := fun q => p1 (i_eq.mpr q)
        simp only [hk2, if_false]
        exact (tkr_tk_shut g5).2 ((num_r g4).1.fl ((hTP _ _ _ _ _ _ _ _ _ _ _ _ _ _ _ _ _ _ g3).2 p2))
  · rw [if_neg q1]
    exact (tkr_tk_shut g5).2 ((num_r g4).1.fl ((hTP _ _ _ _ _ _ _ _ _ _ _ _ _ _ _ _ _ _ g3).2 ((tkr_tk_expect h6).2 ((num_r h5).1.fl ((hTP _ _ _ _ _ _ _ _ _ _ _ _ _ _ _ _ _ _ h4).2 ((num_r h2).1.fl q2))))))
theorem chn_r {fy : Nat → Int32} {p0 : Int32} {dx dy : Int} (h : R_ex_chain fy p0 fx fx') (d5 : (fx 5).toInt = dx) (d5' : (fy 5).toInt = dy) (hb : 0 ≤ dx ∧ dx ≤ 3000 ∧ 0 ≤ dy ∧ dy ≤ 3000) :
    ∃ z w : Int32, z.toInt = max (if (fx 7).toInt = p0.toInt then dx else dx + 1) (dy + 1) ∧ (∃ u : Int32, u = fy 6 + 1 ∧ w = if fx 6 < u then u else fx 6) ∧ fx' = upd (upd (upd fx 5 z) 6 w) 7 p0 := by
  rcases h with (⟨h1, z4, h2, z6, h3, z7, h4, z9, h5, z10, h6, e0⟩ | ⟨h1, z12, h2, z13, h3, z15, h4, z16, h5, e0⟩) | h
  · have q1 := ti_add h2 d5 (show (1 : Int32).toInt = 1 from rfl) (by omega) (by omega)
    have q2 := ti_add h3 d5' (show (1 : Int32).toInt = 1 from rfl) (by omega) (by omega)
    refine ⟨z7, z10, ?_, ⟨z9, h5, h6⟩, e0⟩
    rw [h4, mx_i, q1, q2, if_neg h1]
  · have q2 := ti_add h2 d5' (show (1 : Int32).toInt = 1 from rfl) (by omega) (by omega)
    refine ⟨z13, z16, ?_, ⟨z15, h4, h5⟩, e0⟩
    rw [h3, mx_i, q2, if_pos h1, d5]
  · exact h.elim
/-- what is read behind all operators: a choice, or nothing -/
def pCnd (PP : PPT) (k : Nat → Int) (L o : Int) (x : Ast) (t : Nat) : Option (Ast × Nat) := if L ≤ 0 ∧ k t = 63 then (if o + dpT k x < 60 then (match PP (-1) (t + 1) (o + 1) with
      | none => none
      | some (y, t2) => if k t2 = 58 then (match PP 0 (t2 + 1) (o + 1) with
          | none => none
          | some (z, t3) => some (eCnd x y z, t3)) else none) else none) else some (x, t)
theorem par_155 (hTP : TK_ex_parse RLp) (hBP : BK_ex_parse RLp) (hP : HPx RLp ta cn na own P lf lg ff fg c G F PP) {p0 : Int32} {k : Nat} {tfa fpa cda : Nat → Int32} {oxa : Option Nat} {fxa : Nat → Int32} {hxa : Nat} {e : Ast} {t1 : Nat} (h : E_ex_parse RLp RLo ta cn na own P lf lg ff fg p0 tf' fp' cd' ox' fx' k 155 [] [] [oxa] [fxa] [hxa] tfa fpa cda) (hl : Lst0 ta c) (hc : Cur tfa c t1 o) (h01 : t < t1) (hd : DR (kd ta) e t t1 fxa) (ha : AT tf tfa (att (kd ta) (vd ta) G F e [] 0) (MA P c (2 * ((t1 : Int) - (t : Int))) fxa oxa)) :
    OkX ta c P G F t o (pCnd PP (kd ta) p0.toInt o e t1) tf tf' ox' fx' := by
  unfold pCnd
  rcases iv_ex_parse_155 h with ⟨k, (⟨h1, e0, e1, e2, e3, e4⟩ | ⟨h1, v4, h2, (⟨h3, e0, e1, e2, e3, e4⟩ | ⟨h3, tf14, fp15, cd16, fx17, h4, e0, e1, e2, e3, e4⟩)⟩)⟩
  · rw [if_neg (by omega), e0, e3, e4]
    exact ⟨hc, h01, hd, ha⟩
  · rw [kind_cur h2 hc] at h3
    rw [if_neg (show ¬ (p0.toInt ≤ 0 ∧ kd ta t1 = 63) from fun q => h3 q.2), e0, e3, e4]
    exact ⟨hc, h01, hd, ha⟩
  · rw [kind_cur h2 hc] at h3
    rw [if_pos (show p0.toInt ≤ 0 ∧ kd ta t1 = 63 from ⟨by omega, h3⟩), e0, e3, e4]
    exact cho_ok hTP hBP hP h4 hc hl h01 hd ha h3
theorem tail_ok (hTP : TK_ex_parse RLp) (hTO : TK_ex_operand RLo) (hBP : BK_ex_parse RLp) (hBO : BK_ex_operand RLo) (hP : HPx RLp ta cn na own P lf lg ff fg c G F PP) {p0 : Int32} (hl : Lst0 ta c) :
    ∀ (n k : Nat) (x3 x4 : Int32) (tfa fpa cda : Nat → Int32) (oxa : Option Nat) (fxa : Nat → Int32) (hxa : Nat) (e : Ast) (t1 : Nat), E_ex_parse RLp RLo ta cn na own P lf lg ff fg p0 tf' fp' cd' ox' fx' k 43 [x3, x4] [] [oxa] [fxa] [hxa] tfa fpa cda → x4.toInt = 2048 - (n : Int) → n ≤ 2048 → x3.toInt = rkO (kd ta t1) → Cur tfa c t1 o → t < t1 → DR (kd ta) e t t1 fxa → AT tf tfa (att (kd ta) (vd ta) G F e [] 0) (MA P c (2 * ((t1 : Int) - (t : Int))) fxa oxa) →
      OkX ta c P G F t o (match pTail PP (kd ta) p0.toInt o n e t1 with
        | none => none
        | some (x1, t2) => pCnd PP (kd ta) p0.toInt o x1 t2) tf tf' ox' fx' := by
  intro n
  induction n with
  | zero =>
    intro k x3 x4 tfa fpa cda oxa fxa hxa e t1 h hx4 hn hx3 hc h01 hd ha
    show OkX ta c P G F t o (pCnd PP (kd ta) p0.toInt o e t1) tf tf' ox' fx'
    rcases iv_ex_parse_43 h with ⟨k, (⟨h1, hE⟩ | ⟨h1, (⟨h2, hE⟩ | ⟨h2, (⟨h3, hE⟩ | ⟨h3, v88, h4, tf92, h5, tf105, fp106, cd107, fx108, h6, fp126, cd127, v129, h7, z137, h8, tf141, fp142, cd143, hx144, ox145, fx146, h9, tf177, fp178, cd179, fx180, h10, tf196, h11, hE⟩)⟩)⟩)⟩
    · exact par_155 hTP hBP hP hE hl hc h01 hd ha
    · exfalso; omega
    · exfalso; omega
    · exfalso; omega
  | succ n ih =>
    intro k x3 x4 tfa fpa cda oxa fxa hxa e t1 h hx4 hn hx3 hc h01 hd ha
    have c1 := hc.2.2.2.2.1
    have c2 := hc.2.2.2.2.2.1
    have c7 := hc.2.2.2.2.2.2.1
    have un : pTail PP (kd ta) p0.toInt o (n + 1) e t1 = if 0 < rkO (kd ta t1) ∧ p0.toInt ≤ rkO (kd ta t1) then (if o + dpT (kd ta) e < 60 then (match PP (rkO (kd ta t1) + 1) (t1 + 1) (o + 1) with
        | none => none
        | some (y, t2) => pTail PP (kd ta) p0.toInt o n (eBin t1 e y) t2) else none) else some (e, t1) := by first | rfl | simp [pTail]
    rw [un]
    rcases iv_ex_parse_43 h with ⟨k, (⟨h1, hE⟩ | ⟨h1, (⟨h2, hE⟩ | ⟨h2, (⟨h3, hE⟩ | ⟨h3, v88, h4, tf92, h5, tf105, fp106, cd107, fx108, h6, fp126, cd127, v129, h7, z137, h8, tf141, fp142, cd143, hx144, ox145, fx146, h9, tf177, fp178, cd179, fx180, h10, tf196, h11, hE⟩)⟩)⟩)⟩
    · exfalso; omega
    · rw [if_neg (by omega)]
      exact par_155 hTP hBP hP hE hl hc h01 hd ha
    · rw [if_neg (by omega)]
      exact par_155 hTP hBP hP hE hl hc h01 hd ha
    · have hr0 : 0 < rkO (kd ta t1) ∧ p0.toInt ≤ rkO (kd ta t1) := by omega
      rw [if_pos hr0]
      have hlt := rk_lt hc hl hr0.1
      have hr10 := rk_le (v := kd ta t1)
      obtain ⟨a3, a4, a5, a6⟩ := hd
      obtain ⟨k, fp44, cd45, g1, fx53, g2, fx61, g3, v70, g4, v75, g5, z80, g6, hE2⟩ := iv_ex_parse_115 hE
      rcases openB_cur h5 hc a3 (by omega) (by omega) hlt with ⟨q1, q2⟩ | ⟨q1, q2⟩
      · rw [if_pos q1]
        have r6 := num_r h6
        have hz := ti_add h8 hx3 (show (1 : Int32).toInt = 1 from rfl) (by omega) (by omega)
        have h9' := hP _ _ _ _ _ _ _ _ _ _ _ h9 (r6.1.cur q2)
        rw [hz] at h9'
        cases hr : PP (rkO (kd ta t1) + 1) (t1 + 1) (o + 1) with
        | none =>
          rw [hr] at h9'
          exact (tke_ex_parse hTP hTO _ _ _ _ _ _ _ _ _ _ hE2).2 ((tkr_tk_shut h11).2 ((num_r h10).1.fl h9'))
        | some r =>
          obtain ⟨y, t2⟩ := r
          rw [hr] at h9'
          obtain ⟨b1, b2, ⟨b3, b4, b5, b6⟩, b7⟩ := h9'
          have b1' := b1.2.2.2.2.1
          have r10 := num_r h10
          have s1 := shut_cur h11 (r10.1.cur b1) (by omega)
          have s2 : Cur tf196 c t2 o := by rw [show o = o + 1 - 1 by omega]; exact s1
          have ek := kind_cur h4 hc
          have ev := kind_cur g4 s2
          subst ek ev
          have hv75 := rank_r g5
          have x5 : (fx108 5).toInt = dpT (kd ta) e := by rw [r6.2, pk_un (by decide)]; exact a3
          have x7 : (fx108 7).toInt = rkT (kd ta) e := by rw [r6.2, pk_un (by decide)]; exact a4
          have y5 : (fx180 5).toInt = dpT (kd ta) y := by rw [r10.2, pk_un (by decide)]; exact b3
          have hz80 := ti_add g6 hx4 (show (1 : Int32).toInt = 1 from rfl) (by omega) (by omega)
          have fold5 : fx53 5 = fx108 5 ∧ fx53 7 = fx108 7 := by
            exact ⟨(fold_o g2) 5 (by decide) (by decide), (fold_o g2) 7 (by decide) (by decide)⟩
          obtain ⟨z, w, hz', ⟨u, hu, hw⟩, ef⟩ := chn_r (dx := dpT (kd ta) e) (dy := dpT (kd ta) y) g3 (by rw [fold5.1]; exact x5) y5 (by omega)
          refine ih k v75 z80 tf196 fp44 cd45 oxa fx61 _ (eBin t1 e y) t2 hE2 (by omega) (by omega) hv75 s2 (by omega) ⟨?_, ?_, ?_, ?_⟩ ?_
          · rw [ef, pk_un (by decide), pk_un (by decide), pk_us, hz', dp_bin, fold5.2, x7, hx3]
          · rw [ef, pk_us, rk_bin, hx3]
          · rw [dp_bin]; omega
          · rw [dp_bin]
            have : (if rkT (kd ta) e = rkO (kd ta t1) then dpT (kd ta) e else dpT (kd ta) e + 1) ≤ dpT (kd ta) e + 1 := by split <;> omega
            omega
          · rw [att_bin]
            refine AT.ms (AT.bind (AT.bind (ha.ms (smr_tk_openBehind h5)) (fun a hma => num_at h6 q2 hma) (bkr_ex_number h6)) (fun a hma => AT.bind (AT.bind b7 (fun b hmb => num_at h10 b1 hmb) (bkr_ex_number h10)) (fun b hmb => AT.ret ?_) BK.rf) (fun x => bkr_ex_number h10 (hBP _ _ _ _ _ _ _ _ _ _ _ _ _ _ _ _ _ _ h9 x))) (smr_tk_shut h11)
            obtain ⟨m1, m2, m3, m4, m5, m6, m7, m8⟩ := hma
            obtain ⟨n1, n2, n3, n4, n5, n6, n7, n8⟩ := hmb
            obtain ⟨f1, f2⟩ := fold_at (x := (a.2.1, a.2.2.1)) (y := (b.2.1, b.2.2.1)) g2 ⟨m4, m5, m6⟩ ⟨n4, n5, n6⟩
            have hu' := ti_add hu n7.1 (show (1 : Int32).toInt = 1 from rfl) (by omega) (by omega)
            have h6' : (fx53 6).toInt = a.2.2.2 := by rw [f2 6 (by decide) (by decide)]; exact m7.1
            have hw' : w.toInt = max a.2.2.2 (b.2.2.2 + 1) := by rw [hw, mx_i, h6', hu']
            rw [ef]
            refine ⟨?_, ?_, ?_, ?_, f1.2.1, fun q => ?_, ⟨?_, ?_, ?_⟩, Or.inl (Or.inl rfl)⟩
            · rw [pk_un (by decide), pk_un (by decide), pk_un (by decide), f2 0 (by decide) (by decide)]; exact m1
            · rw [pk_un (by decide), pk_un (by decide), pk_un (by decide), f2 3 (by decide) (by decide)]; exact m2
            · rw [pk_un (by decide), pk_un (by decide), pk_un (by decide), f2 1 (by decide) (by decide), r6.2, pk_us]; rfl
            · rw [pk_un (by decide), pk_un (by decide), pk_un (by decide)]; exact f1.1
            · rw [pk_un (by decide), pk_un (by decide), pk_un (by decide)]; exact f1.2.2 q
            · rw [pk_un (by decide), pk_us, hw']; rfl
            · show 1 ≤ max a.2.2.2 (b.2.2.2 + 1); omega
            · show max a.2.2.2 (b.2.2.2 + 1) ≤ _
              have := m7.2.2
              have := n7.2.2
              omega
      · rw [if_neg q1]
        exact (tke_ex_parse hTP hTO _ _ _ _ _ _ _ _ _ _ hE2).2 ((tkr_tk_shut h11).2 ((num_r h10).1.fl ((hTP _ _ _ _ _ _ _ _ _ _ _ _ _ _ _ _ _ _ h9).2 ((num_r h6).1.fl q2))))
end EX3
