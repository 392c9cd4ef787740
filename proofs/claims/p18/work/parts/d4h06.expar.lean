theorem rst_0 {ws : List Int} : rstW ws 0 = ws := by
  unfold rstW
  rw [if_pos (Nat.zero_le _)]
  rfl
theorem whole_eq {PP : PPT} {k : Nat → Int} {L o : Int} {x : Ast} {t : Nat} : pWhole PP k L o x t = if L = -1 ∧ 256 ≤ k t then (if o + dpT k x < 60 then (match PP (-1) (t + 1) (o + 1) with
      | none => none
      | some (y, t1) => some (eAsg t x y, t1)) else none) else (match pTail PP k L o 2048 x t with
      | none => none
      | some (x1, t1) => pCnd PP k L o x1 t1) := by
  unfold pWhole pCnd
  rfl
section PAR
variable {RLp : T_ex_parse} {RLo : T_ex_operand} {ta : Nat → Nat → Int32} {cn : Nat} {na : Nat → Nat → Int32} {own : Bool} {P : va_W} {lf : Nat → Int32} {lg : Nat → Option Nat} {ff : Nat → Int32} {fg : Nat → Option Nat}
variable {tf fp cd tf' fp' cd' fx fx' : Nat → Int32} {ox ox' : Option Nat} {c t : Nat} {o : Int}
variable {G : Int32 → Option Ent} {F : Int32 → Option Fnc} {PP : PPT} {OO : POT}
theorem cal_ok (hTP : TK_ex_parse RLp) (hTO : TK_ex_operand RLo) (hBP : BK_ex_parse RLp) (hBO : BK_ex_operand RLo) (hP : HPx RLp ta cn na own P lf lg ff fg c G F PP) (hG : EnvC own P lf lg G) (hF : FunC na P ff fg F) (h : R_ex_call RLp RLo ta cn na own P lf lg ff fg tf fp cd tf' fp' cd' ox' fx') (hc : Cur tf c t o) (hl : Lst0 ta c) (h16 : kd ta t = 16) (h40 : kd ta (t + 1) = 40) :
    OkX ta c P G F t o (if o < 60 then (if kd ta (t + 2) = 41 then some (eCall t eNil, t + 3) else (match pArgs PP (kd ta) (o + 1) 2048 (t + 2) with
        | none => none
        | some (as, t1) => if kd ta t1 = 41 then some (eCall t as, t1 + 1) else none)) else none) tf tf' ox' fx' := by
  obtain ⟨k, h⟩ := h
  have hlt := lst_lt (p0 := 16) hc hl (by decide) (by decide) h16
  have tl := hc.2.2.2.2.1
  have h0 : 0 ≤ (tf 13).toInt ∧ (tf 13).toInt < (c : Int) := by rw [hc.2.1]; omega
  have h0o := hc.2.2.2.2.2.2.1
  have fin : ∀ {k : Nat} {y3 : Option Nat} {fo : Option Fnc} {tfs tfo : Nat → Int32} {v x6 : Int32} {q : Nat}, R_tk_step tf tfs → R_tk_open ta (40 : Int32) tfs tfo → R_tk_kind ta tfo v → ((v.toInt = 41 ∧ x6.toInt = 0) ∨ (¬ v.toInt = 41 ∧ x6.toInt = 1)) → FoM na P y3 fo → aFun (G (vd ta t)) (F (vd ta t)) = fo → E_ex_call RLp RLo ta cn na own P lf lg ff fg tf' fp' cd' ox' fx' k 93 [(0 : Int32), (0 : Int32), x6, (0 : Int32)] [] [y3, none] [(upd (upd (upd (upd (upd (upd (upd (upd (fun _ => 0) 0 (tf 13)) 1 4) 2 3) 3 0) 5 1) 6 1) 7 0) 8 0)] [q] tfo fp cd → OkX ta c P G F t o (if o < 60 then (if kd ta (t + 2) = 41 then some (eCall t eNil, t + 3) else (match pArgs PP (kd ta) (o + 1) 2048 (t + 2) with
        | none => none
        | some (as, t1) => if kd ta t1 = 41 then some (eCall t as, t1 + 1) else none)) else none) tf tf' ox' fx' := by
    intro k y3 fo tfs tfo v x6 q s1 s2 s3 s4 hf hfo hE
    have hs := step_cur s1 hc hlt
    have n0 : 0 ≤ (upd (upd (upd (upd (upd (upd (upd (upd (fun _ => (0 : Int32)) 0 (tf 13)) 1 4) 2 3) 3 0) 5 1) 6 1) 7 0) 8 0 0).toInt ∧ (upd (upd (upd (upd (upd (upd (upd (upd (fun _ => (0 : Int32)) 0 (tf 13)) 1 4) 2 3) 3 0) 5 1) 6 1) 7 0) 8 0 0).toInt < (c : Int) := by simpa [upd] using h0
    have n2 : (upd (upd (upd (upd (upd (upd (upd (upd (fun _ => (0 : Int32)) 0 (tf 13)) 1 4) 2 3) 3 0) 5 1) 6 1) 7 0) 8 0 2).toInt = 3 := by simp [upd]
    have n5 : (upd (upd (upd (upd (upd (upd (upd (upd (fun _ => (0 : Int32)) 0 (tf 13)) 1 4) 2 3) 3 0) 5 1) 6 1) 7 0) 8 0 5).toInt = 1 := by simp [upd]
    have n6 : (upd (upd (upd (upd (upd (upd (upd (upd (fun _ => (0 : Int32)) 0 (tf 13)) 1 4) 2 3) 3 0) 5 1) 6 1) 7 0) 8 0 6).toInt = 1 := by simp [upd]
    have n7 : (upd (upd (upd (upd (upd (upd (upd (upd (fun _ => (0 : Int32)) 0 (tf 13)) 1 4) 2 3) 3 0) 5 1) 6 1) 7 0) 8 0 7).toInt = 0 := by simp [upd]
    rcases open_cur (p0 := 40) s2 hs.1 hl (by decide) (by decide) with ⟨q1, q2, q3⟩ | ⟨q1, q2⟩
    · rw [if_pos q2]
      have ek := kind_cur s3 q3
      subst ek
      by_cases hk : kd ta (t + 2) = 41
      · rw [if_pos hk]
        have hx6 : x6.toInt = 0 := by
          rcases s4 with ⟨-, e⟩ | ⟨e, -⟩
          · exact e
          · exact absurd hk e
        obtain ⟨tfe, fpe, cde, l1, l2, l3⟩ := cal_end hE hx6
        rcases close_cur (p0 := 41) l1 q3 (by omega) hl (by decide) (by decide) with ⟨p1, p2⟩ | ⟨p1, p2⟩
        · have p2' : Cur tfe c (t + 3) o := by rw [show o = o + 1 - 1 by omega]; exact p2
          have cr := con_r l2
          refine ⟨cr.1.cur p2', by omega, ⟨?_, ?_, ?_, ?_⟩, ?_⟩
          · rw [cr.2 5 (by decide) (by decide), n5, dp_call, dp_nil]; rfl
          · rw [cr.2 7 (by decide) (by decide), n7, rk_call]
          · rw [dp_call, dp_nil]; omega
          · rw [dp_call, dp_nil]; omega
          · rw [att_call, hfo]
            have ca := con_at (n := 2 * (((t + 3 : Nat) : Int) - (t : Int))) (ox := ox') (m := 0) l2 hf p2' (by rfl) n0 n2 n6 (by omega)
            refine AT.sm (hs.2.tr ((smr_tk_open s2).tr (smr_tk_close l1))) ?_
            have e : (fo.bind fun f => (att (kd ta) (vd ta) G F eNil f.2 0).bind fun b => some ((if f.1 then 3 else 0, 3, 0, max 1 b.2.2.2) : Atr)) = fo.bind fun f => if f.2.length = 0 then some (if f.1 then 3 else 0, 3, 0, 1) else none := by
              cases fo with
              | none => rfl
              | some f =>
                show (att (kd ta) (vd ta) G F eNil f.2 0).bind _ = if f.2.length = 0 then some (if f.1 then 3 else 0, 3, 0, 1) else none
                rw [att_nil]
                by_cases ql : f.2 = []
                · rw [if_pos ql, if_pos (show f.2.length = 0 by rw [ql]; rfl)]
                  rfl
                · rw [if_neg ql, if_neg (fun z => ql (List.length_eq_zero_iff.mp z))]
                  rfl
            rw [e]
            exact ca
        · exact absurd (i_eq.mpr (show (ta 0 (t + 2)).toInt = (41 : Int32).toInt from hk)) p1
      · rw [if_neg hk]
        have hx6 : x6.toInt = 1 := by
          rcases s4 with ⟨e, -⟩ | ⟨-, e⟩
          · exact absurd e hk
          · exact e
        have lp := cal_loop (t := t) hTP hTO hBP hBO hP hl h0o hf 2048 k 0 _ _ x6 _ tfo fp cd none _ q (t + 2) 1 hE hx6 (by rfl) (by rfl) (by omega) (by omega) q3 n5 (by omega) (by omega) n7 n0 n2
        cases hr : pArgs PP (kd ta) (o + 1) 2048 (t + 2) with
        | none =>
          rw [hr] at lp
          exact lp
        | some r =>
          obtain ⟨as, t2⟩ := r
          rw [hr] at lp
          obtain ⟨i1, i2⟩ := lp
          show OkX ta c P G F t o (if kd ta t2 = 41 then some (eCall t as, t2 + 1) else none) tf tf' ox' fx'
          by_cases hk41 : kd ta t2 = 41
          · rw [if_pos hk41] at i2 ⊢
            obtain ⟨j1, j2, j3, j3', j4, j5⟩ := i2
            refine ⟨j1, by omega, ⟨?_, ?_, ?_, ?_⟩, ?_⟩
            · rw [j3, dp_call]
            · rw [j4, rk_call]
            · rw [dp_call]; omega
            · rw [dp_call]; omega
            · rw [att_call, hfo]
              have j6 := j5 1 0 n6 (by omega) (by omega) (by rfl) (by omega) (by omega)
              refine AT.sm (hs.2.tr (smr_tk_open s2)) ?_
              have e : (fo.bind fun f => (att (kd ta) (vd ta) G F as (rstW f.2 0) 0).bind fun b => some ((if f.1 then 3 else 0, 3, 0, max 1 b.2.2.2) : Atr)) = fo.bind fun f => (att (kd ta) (vd ta) G F as f.2 0).bind fun b => some ((if f.1 then 3 else 0, 3, 0, max 1 b.2.2.2) : Atr) := by
                simp only [rst_0]
              rw [e] at j6
              exact j6.imp (fun y hy => ma_le hy (by omega))
          · rw [if_neg hk41] at i2 ⊢
            exact i2
    · rw [if_neg (fun z => q1 ⟨i_eq.mpr h40, z⟩)]
      exact (tke_ex_call hTP hTO _ _ _ _ _ _ _ _ _ _ hE).2 q2
  rcases iv_ex_call_0 h with ⟨k, v251, h1, q253, v257, h2, (⟨h3, v291, h4, tf294, h5, tf305, h6, v315, h7, (⟨h8, hE⟩ | ⟨h8, hE⟩)⟩ | ⟨q261, h3, tf263, h4, tf274, h5, v284, h6, (⟨h7, hE⟩ | ⟨h7, hE⟩)⟩)⟩
  · have em := mean_cur h1 hc
    subst em
    have g1 : G (vd ta t) = none := by
      rcases hG _ _ h2 with ⟨g1, -⟩ | ⟨g, q, g1, g2, -⟩
      · exact g1
      · rw [h3] at g2; exact absurd g2 (by simp)
    rcases hF _ _ h4 with ⟨f1, f2⟩ | ⟨f, q, f1, f2, f3⟩
    · exact fin h5 h6 h7 (Or.inl ⟨h8, rfl⟩) (Or.inl ⟨f2, rfl⟩) (by rw [g1]; exact f1) hE
    · exact fin h5 h6 h7 (Or.inl ⟨h8, rfl⟩) (Or.inr ⟨q, f, f2, rfl, f3⟩) (by rw [g1]; exact f1) hE
  · have em := mean_cur h1 hc
    subst em
    have g1 : G (vd ta t) = none := by
      rcases hG _ _ h2 with ⟨g1, -⟩ | ⟨g, q, g1, g2, -⟩
      · exact g1
      · rw [h3] at g2; exact absurd g2 (by simp)
    rcases hF _ _ h4 with ⟨f1, f2⟩ | ⟨f, q, f1, f2, f3⟩
    · exact fin h5 h6 h7 (Or.inr ⟨h8, rfl⟩) (Or.inl ⟨f2, rfl⟩) (by rw [g1]; exact f1) hE
    · exact fin h5 h6 h7 (Or.inr ⟨h8, rfl⟩) (Or.inr ⟨q, f, f2, rfl, f3⟩) (by rw [g1]; exact f1) hE
  · have em := mean_cur h1 hc
    subst em
    rcases hG _ _ h2 with ⟨-, g2⟩ | ⟨g, q, g1, -, -⟩
    · rw [h3] at g2; exact absurd g2 (by simp)
    · exact fin h4 h5 h6 (Or.inl ⟨h7, rfl⟩) (Or.inl ⟨rfl, rfl⟩) (by rw [show G (vd ta t) = some g from g1]; rfl) hE
  · have em := mean_cur h1 hc
    subst em
    rcases hG _ _ h2 with ⟨-, g2⟩ | ⟨g, q, g1, -, -⟩
    · rw [h3] at g2; exact absurd g2 (by simp)
    · exact fin h4 h5 h6 (Or.inr ⟨h7, rfl⟩) (Or.inl ⟨rfl, rfl⟩) (by rw [show G (vd ta t) = some g from g1]; rfl) hE
theorem opr_ok (hTP : TK_ex_parse RLp) (hTO : TK_ex_operand RLo) (hBP : BK_ex_parse RLp) (hBO : BK_ex_operand RLo) (hP : HPx RLp ta cn na own P lf lg ff fg c G F PP) (hO : HOx RLo ta cn na own P lf lg ff fg c G F OO) (hG : EnvC own P lf lg G) (hF : FunC na P ff fg F) (h : R_ex_operand RLp RLo ta cn na own P lf lg ff fg tf fp cd tf' fp' cd' ox' fx') (hc : Cur tf c t o) (hl : Lst0 ta c) :
    OkX ta c P G F t o (pOper PP OO (kd ta) t o) tf tf' ox' fx' := by
  obtain ⟨k, h⟩ := h
  have no : ∀ {v : Int32}, R_ex_isPrefix (ta 0 t) v → v.toInt = 0 → pOper PP OO (kd ta) t o = pPst (kd ta) o (pPrim PP (kd ta) t o) := by
    intro v q q0
    unfold pOper
    rcases pfx_r q with ⟨-, e⟩ | ⟨e, -⟩
    · rw [if_neg (show ¬ (kd ta t = 45 ∨ kd ta t = 43 ∨ kd ta t = 33 ∨ kd ta t = 126 ∨ kd ta t = 138 ∨ kd ta t = 139) from e)]
      rfl
    · exfalso; omega
  rcases iv_ex_operand_0 h with ⟨k, v151, h1, v156, h2, (⟨h3, (⟨h4, (⟨h5, (⟨h6, tf173, fp174, cd175, hx176, ox177, fx178, h7, hE⟩ | ⟨h6, tf208, fp209, cd210, hx211, ox212, fx213, h7, hE⟩)⟩ | ⟨h5, tf243, fp244, cd245, hx246, ox247, fx248, h6, hE⟩)⟩ | ⟨h4, v276, h5, (⟨h6, (⟨h7, (⟨h8, (⟨h9, tf289, fp290, cd291, hx292, ox293, fx294, h10, hE⟩ | ⟨h9, tf324, fp325, cd326, hx327, ox328, fx329, h10, hE⟩)⟩ | ⟨h8, tf359, fp360, cd361, hx362, ox363, fx364, h9, hE⟩)⟩ | ⟨h7, tf394, fp395, cd396, hx397, ox398, fx399, h8, hE⟩)⟩ | ⟨h6, tf429, fp430, cd431, hx432, ox433, fx434, h7, hE⟩)⟩)⟩ | ⟨h3, tf464, fp465, cd466, hx467, ox468, fx469, h4, e0, e1, e2, e3, e4⟩)⟩
  · have ek := kind_cur h1 hc
    subst ek
    rw [no h2 h3]
    refine pst_ok hTP hTO hE hl ?_
    have e : pPrim PP (kd ta) t o = if kd ta t = 17 then some (eNum t, t + 1) else none := by
      unfold pPrim
      rw [if_neg (show ¬ kd ta t = 40 from h5), if_neg (show ¬ kd ta t = 16 from h4)]
    rw [e]
    exact fig_ok h7 hc hl
  · exact absurd h6 h4
  · have ek := kind_cur h1 hc
    subst ek
    rw [no h2 h3]
    refine pst_ok hTP hTO hE hl ?_
    unfold pPrim
    rw [if_pos (show kd ta t = 40 from h5)]
    exact grp_ok hTP hP h6 hc hl h5
  · exact absurd h4 h9
  · have ek := kind_cur h1 hc
    subst ek
    have hlt := lst_lt (p0 := 16) hc hl (by decide) (by decide) h4
    have eb := behind_cur h5 hc hlt
    subst eb
    rw [no h2 h3]
    refine pst_ok hTP hTO hE hl ?_
    have e : pPrim PP (kd ta) t o = some (eName t, t + 1) := by
      unfold pPrim
      rw [if_neg (show ¬ kd ta t = 40 from h6), if_pos (show kd ta t = 16 from h4), if_neg (show ¬ kd ta (t + 1) = 40 from h7), if_neg (show ¬ kd ta (t + 1) = 91 from h8)]
    rw [e]
    exact nam_ok hG h10 hc hl h4
  · have ek := kind_cur h1 hc
    subst ek
    have hlt := lst_lt (p0 := 16) hc hl (by decide) (by decide) h4
    have eb := behind_cur h5 hc hlt
    subst eb
    rw [no h2 h3]
    refine pst_ok hTP hTO hE hl ?_
    unfold pPrim
    rw [if_neg (show ¬ kd ta t = 40 from h6), if_pos (show kd ta t = 16 from h4), if_neg (show ¬ kd ta (t + 1) = 40 from h7), if_pos (show kd ta (t + 1) = 91 from h8)]
    exact idx_ok hTP hBP hP hG h9 hc hl h4 h8
  · have ek := kind_cur h1 hc
    subst ek
    have hlt := lst_lt (p0 := 16) hc hl (by decide) (by decide) h4
    have eb := behind_cur h5 hc hlt
    subst eb
    rw [no h2 h3]
    refine pst_ok hTP hTO hE hl ?_
    unfold pPrim
    rw [if_neg (show ¬ kd ta t = 40 from h6), if_pos (show kd ta t = 16 from h4), if_pos (show kd ta (t + 1) = 40 from h7)]
    exact cal_ok hTP hTO hBP hBO hP hG hF h8 hc hl h4 h7
  · exfalso; omega
  · have ek := kind_cur h1 hc
    subst ek
    have hp : kd ta t = 45 ∨ kd ta t = 43 ∨ kd ta t = 33 ∨ kd ta t = 126 ∨ kd ta t = 138 ∨ kd ta t = 139 := by
      rcases pfx_r h2 with ⟨e, -⟩ | ⟨-, e⟩
      · exact absurd e h3
      · exact e
    unfold pOper
    rw [if_pos hp, e0, e3, e4]
    exact pre_ok hTO hBO hO h4 hc hl rfl hp
theorem par_ok (hTP : TK_ex_parse RLp) (hTO : TK_ex_operand RLo) (hBP : BK_ex_parse RLp) (hBO : BK_ex_operand RLo) (hP : HPx RLp ta cn na own P lf lg ff fg c G F PP) (hO : HOx RLo ta cn na own P lf lg ff fg c G F OO) (hG : EnvC own P lf lg G) (hF : FunC na P ff fg F) {p0 : Int32} (h : R_ex_parse RLp RLo ta cn na own P lf lg ff fg p0 tf fp cd tf' fp' cd' ox' fx') (hc : Cur tf c t o) (hl : Lst0 ta c) :
    OkX ta c P G F t o (match pOper PP OO (kd ta) t o with
      | none => none
      | some (x, t1) => pWhole PP (kd ta) p0.toInt o x t1) tf tf' ox' fx' := by
  obtain ⟨k, h⟩ := h
  rcases iv_ex_parse_0 h with ⟨k, tf208, fp209, cd210, hx211, ox212, fx213, h1, (⟨h2, v243, h3, v248, h4, hE⟩ | ⟨h2, v254, h3, (⟨h4, v261, h5, v266, h6, hE⟩ | ⟨h4, tf275, fp276, cd277, fx278, h5, e0, e1, e2, e3, e4⟩)⟩)⟩
  · have ho := opr_ok hTP hTO hBP hBO hP hO hG hF h1 hc hl
    cases hr : pOper PP OO (kd ta) t o with
    | none =>
      rw [hr] at ho
      exact (tke_ex_parse hTP hTO _ _ _ _ _ _ _ _ _ _ hE).2 ho
    | some r =>
      obtain ⟨x, t1⟩ := r
      rw [hr] at ho
      obtain ⟨a1, a2, a3, a4⟩ := ho
      have ek := kind_cur h3 a1
      subst ek
      show OkX ta c P G F t o (pWhole PP (kd ta) p0.toInt o x t1) tf tf' ox' fx'
      rw [whole_eq, if_neg (fun q => h2 q.1)]
      exact tail_ok hTP hTO hBP hBO hP hl 2048 _ _ _ _ _ _ _ _ _ x t1 hE (by rfl) (by omega) (rank_r h4) a1 a2 a3 a4
  · have ho := opr_ok hTP hTO hBP hBO hP hO hG hF h1 hc hl
    cases hr : pOper PP OO (kd ta) t o with
    | none =>
      rw [hr] at ho
      exact (tke_ex_parse hTP hTO _ _ _ _ _ _ _ _ _ _ hE).2 ho
    | some r =>
      obtain ⟨x, t1⟩ := r
      rw [hr] at ho
      obtain ⟨a1, a2, a3, a4⟩ := ho
      have ek := kind_cur h3 a1
      have ek' := kind_cur h5 a1
      subst ek ek'
      show OkX ta c P G F t o (pWhole PP (kd ta) p0.toInt o x t1) tf tf' ox' fx'
      rw [whole_eq, if_neg (show ¬ (p0.toInt = -1 ∧ 256 ≤ kd ta t1) from fun q => absurd h4 (Int.not_lt.mpr q.2))]
      exact tail_ok hTP hTO hBP hBO hP hl 2048 _ _ _ _ _ _ _ _ _ x t1 hE (by rfl) (by omega) (rank_r h6) a1 a2 a3 a4
  · have ho := opr_ok hTP hTO hBP hBO hP hO hG hF h1 hc hl
    rw [e0, e3, e4]
    cases hr : pOper PP OO (kd ta) t o with
    | none =>
      rw [hr] at ho
      exact (tkr_ex_assign hTP hTO h5).2 ho
    | some r =>
      obtain ⟨x, t1⟩ := r
      rw [hr] at ho
      obtain ⟨a1, a2, a3, a4⟩ := ho
      have ek := kind_cur h3 a1
      subst ek
      have h4' : 256 ≤ kd ta t1 := Int.not_lt.mp h4
      show OkX ta c P G F t o (pWhole PP (kd ta) p0.toInt o x t1) tf _ _ _
      rw [whole_eq, if_pos ⟨h2, h4'⟩]
      exact asg_ok hTP hBP hP h5 a1 hl a2 a3 a4 h4'
/-- at every level -/
theorem ex_all (hG : EnvC own P lf lg G) (hF : FunC na P ff fg F) (hl : Lst0 ta c) : ∀ n : Nat, HPx (RL_ex_parse n) ta cn na own P lf lg ff fg c G F (pBoth (kd ta) n).1 ∧ HOx (RL_ex_operand n) ta cn na own P lf lg ff fg c G F (pBoth (kd ta) n).2
  | 0 => ⟨fun _ _ _ _ _ _ _ _ _ _ _ h => h.elim, fun _ _ _ _ _ _ _ _ _ _ h => h.elim⟩
  | n + 1 => ⟨fun _ _ _ _ _ _ _ _ _ _ _ h hc => par_ok (tkl_RLp n) (tkl_RLo n) (bkl_RLp n) (bkl_RLo n) (ex_all hG hF hl n).1 (ex_all hG hF hl n).2 hG hF h hc hl, fun _ _ _ _ _ _ _ _ _ _ h hc => opr_ok (tkl_RLp n) (tkl_RLo n) (bkl_RLp n) (bkl_RLo n) (ex_all hG hF hl n).1 (ex_all hG hF hl n).2 hG hF h hc hl⟩
end PAR
