theorem dp_pre {k : Nat → Int} {t : Nat} {e : Ast} : dpT k (ePre t e) = if k t = 43 then dpT k e else dpT k e + 1 := by first | rfl | simp [dpT, ePre]
theorem rk_pre {k : Nat → Int} {t : Nat} {e : Ast} : rkT k (ePre t e) = if k t = 43 then rkT k e else 0 := by first | rfl | simp [rkT, ePre]
theorem dp_post {k : Nat → Int} {t : Nat} {e : Ast} : dpT k (ePost t e) = dpT k e + 1 := by first | rfl | simp [dpT, ePost]
theorem rk_post {k : Nat → Int} {t : Nat} {e : Ast} : rkT k (ePost t e) = 0 := by first | rfl | simp [rkT, ePost]
theorem dp_asg {k : Nat → Int} {t : Nat} {x y : Ast} : dpT k (eAsg t x y) = max (dpT k x) (dpT k y) + 1 := by first | rfl | simp [dpT, eAsg]
theorem rk_asg {k : Nat → Int} {t : Nat} {x y : Ast} : rkT k (eAsg t x y) = 0 := by first | rfl | simp [rkT, eAsg]
theorem dp_cnd {k : Nat → Int} {x y z : Ast} : dpT k (eCnd x y z) = max (dpT k x) (max (dpT k y) (dpT k z)) + 1 := by first | rfl | simp [dpT, eCnd]
theorem rk_cnd {k : Nat → Int} {x y z : Ast} : rkT k (eCnd x y z) = 0 := by first | rfl | simp [rkT, eCnd]
theorem dp_bin {k : Nat → Int} {t : Nat} {x y : Ast} : dpT k (eBin t x y) = max (if rkT k x = rkO (k t) then dpT k x else dpT k x + 1) (dpT k y + 1) := by first | rfl | simp [dpT, eBin]
theorem rk_bin {k : Nat → Int} {t : Nat} {x y : Ast} : rkT k (eBin t x y) = rkO (k t) := by first | rfl | simp [rkT, eBin]
theorem dp_call {k : Nat → Int} {t : Nat} {x : Ast} : dpT k (eCall t x) = max 1 (dpT k x) := by first | rfl | simp [dpT, eCall]
theorem rk_call {k : Nat → Int} {t : Nat} {x : Ast} : rkT k (eCall t x) = 0 := by first | rfl | simp [rkT, eCall]
theorem dp_cons {k : Nat → Int} {x y : Ast} : dpT k (eCons x y) = max (dpT k x + 1) (dpT k y) := by first | rfl | simp [dpT, eCons]
theorem dp_nil {k : Nat → Int} : dpT k eNil = 0 := by first | rfl | simp [dpT, eNil]
theorem ma_z {P : va_W} {c : Nat} {n : Int} {ox : Option Nat} {fx : Nat → Int32} {b : Atr} (h : MA P c n fx ox b) (h1 : (fx 1).toInt = 0) : MA P c n fx ox (0, b.2.1, b.2.2.1, b.2.2.2) := by
  obtain ⟨m1, m2, m3, m4, m5, m6, m7, m8⟩ := h
  exact ⟨m1, m2, by rw [h1]; rfl, m4, m5, m6, m7, Or.inl (Or.inl rfl)⟩
theorem ma_8 {P : va_W} {c : Nat} {n : Int} {ox : Option Nat} {fx : Nat → Int32} {b : Atr} {r r' : Int32} (h : MA P c n fx ox b) (h1 : b.2.1 = 0 → r = r') : MA P c n (upd fx 8 r) ox (b.1, b.2.1, r', b.2.2.2) := by
  obtain ⟨m1, m2, m3, m4, m5, m6, m7, m8⟩ := h
  refine ⟨?_, ?_, ?_, ?_, m5, fun q => ?_, ?_, m8⟩
  · rw [pk_un (by decide)]; exact m1
  · rw [pk_un (by decide)]; exact m2
  · rw [pk_un (by decide)]; exact m3
  · rw [pk_un (by decide)]; exact m4
  · rw [pk_us]; exact h1 q
  · rw [pk_un (by decide)]; exact m7
theorem ma_56 {P : va_W} {c : Nat} {n m H : Int} {ox : Option Nat} {fx : Nat → Int32} {b : Atr} {z w : Int32} (h : MA P c n fx ox b) (h1 : w.toInt = H) (h2 : 1 ≤ H) (h3 : H ≤ m) : MA P c m (upd (upd fx 5 z) 6 w) ox (b.1, b.2.1, b.2.2.1, H) := by
  obtain ⟨m1, m2, m3, m4, m5, m6, m7, m8⟩ := h
  refine ⟨?_, ?_, ?_, ?_, m5, fun q => ?_, ⟨?_, h2, h3⟩, m8⟩
  · rw [pk_un (by decide), pk_un (by decide)]; exact m1
  · rw [pk_un (by decide), pk_un (by decide)]; exact m2
  · rw [pk_un (by decide), pk_un (by decide)]; exact m3
  · rw [pk_un (by decide), pk_un (by decide)]; exact m4
  · rw [pk_un (by decide), pk_un (by decide)]; exact m6 q
  · rw [pk_us]; exact h1
theorem ent4 {s : Nat → Int32} (h : (entC s).1 = 2 ∨ (entC s).1 = 3) : ¬ (s 2 &&& 4).toInt = 0 := by
  intro q
  unfold entC at h
  by_cases h1 : (s 1).toInt = 0
  · rw [if_pos h1] at h; rcases h with h | h <;> exact absurd h (by simp)
  · rw [if_neg h1, if_pos q] at h; rcases h with h | h <;> exact absurd h (by decide)
theorem ent1 {s : Nat → Int32} (h : (entC s).1 = 1) : (s 2 &&& 4).toInt = 0 := by
  unfold entC at h
  by_cases h1 : (s 1).toInt = 0
  · rw [if_pos h1] at h; exact absurd h (by simp)
  · by_cases h2 : (s 2 &&& 4).toInt = 0
    · exact h2
    · rw [if_neg h1, if_neg h2] at h
      by_cases h3 : (s 2 &&& 2).toInt = 0
      · rw [if_pos h3] at h; exact absurd h (by decide)
      · rw [if_neg h3] at h; exact absurd h (by decide)
theorem pfx_r {p0 v : Int32} (h : R_ex_isPrefix p0 v) : (v.toInt = 0 ∧ ¬ (p0.toInt = 45 ∨ p0.toInt = 43 ∨ p0.toInt = 33 ∨ p0.toInt = 126 ∨ p0.toInt = 138 ∨ p0.toInt = 139)) ∨ (v.toInt = 1 ∧ (p0.toInt = 45 ∨ p0.toInt = 43 ∨ p0.toInt = 33 ∨ p0.toInt = 126 ∨ p0.toInt = 138 ∨ p0.toInt = 139)) := by
  rcases h with (⟨h1, ev⟩ | ⟨h1, (⟨h2, ev⟩ | ⟨h2, (⟨h3, ev⟩ | ⟨h3, (⟨h4, ev⟩ | ⟨h4, (⟨h5, ev⟩ | ⟨h5, (⟨h6, ev⟩ | ⟨h6, ev⟩)⟩)⟩)⟩)⟩)⟩) | h
  all_goals first
    | exact h.elim
    | exact Or.inr ⟨by rw [ev]; rfl, by omega⟩
    | exact Or.inl ⟨by rw [ev]; rfl, by omega⟩
/-- ++ or -- behind it -/
def pPst (k : Nat → Int) (o : Int) (r : Option (Ast × Nat)) : Option (Ast × Nat) := match r with
  | none => none
  | some (e, t1) => if k t1 = 138 ∨ k t1 = 139 then (if o + dpT k e < 60 then some (ePost t1 e, t1 + 1) else none) else some (e, t1)
section EX2
variable {RLp : T_ex_parse} {RLo : T_ex_operand} {ta : Nat → Nat → Int32} {cn : Nat} {na : Nat → Nat → Int32} {own : Bool} {P : va_W} {lf : Nat → Int32} {lg : Nat → Option Nat} {ff : Nat → Int32} {fg : Nat → Option Nat}
variable {tf fp cd tf' fp' cd' fx fx' : Nat → Int32} {ox ox' : Option Nat} {c t : Nat} {o : Int}
variable {G : Int32 → Option Ent} {F : Int32 → Option Fnc} {PP : PPT} {OO : POT}
theorem pre_72 {p0 x1 : Int32} {k : Nat} {tfa fpa cda : Nat → Int32} {oxa : Option Nat} {fxa : Nat → Int32} {hxa : Nat} (h : E_ex_prefix RLp RLo ta cn na own P lf lg ff fg p0 tf' fp' cd' ox' fx' k 72 [x1] [] [oxa] [fxa] [hxa] tfa fpa cda) :
    tf' = tfa ∧ ox' = oxa ∧ ((¬ (p0.toInt = 45 ∨ p0.toInt = 33 ∨ p0.toInt = 126) ∧ fx' = upd fxa 0 x1) ∨ ((p0.toInt = 45 ∨ p0.toInt = 33 ∨ p0.toInt = 126) ∧ ∃ fxb, R_Opd_become (fxa 2) (upd fxa 8 (rku p0.toInt (fxa 8))) fxb ∧ fx' = upd fxb 0 x1)) := by
  rcases iv_ex_prefix_72 h with ⟨k, (⟨h1, fp5, cd6, v8, h2, v12, h3, fx14, h4, e0, e1, e2, e3, e4⟩ | ⟨h1, (⟨h2, fp30, cd31, v33, h3, v37, h4, fx39, h5, e0, e1, e2, e3, e4⟩ | ⟨h2, (⟨h3, e0, e1, e2, e3, e4⟩ | ⟨h3, fp55, cd56, v58, h4, v62, h5, fx64, h6, e0, e1, e2, e3, e4⟩)⟩)⟩)⟩
  · exact ⟨e0, e3, Or.inr ⟨Or.inl h1, fx14, by rw [← rku_r h3]; exact h4, e4⟩⟩
  · exact ⟨e0, e3, Or.inr ⟨Or.inr (Or.inl h2), fx39, by rw [← rku_r h4]; exact h5, e4⟩⟩
  · exact ⟨e0, e3, Or.inl ⟨by omega, e4⟩⟩
  · exact ⟨e0, e3, Or.inr ⟨Or.inr (Or.inr h3), fx64, by rw [← rku_r h5]; exact h6, e4⟩⟩
theorem pre_ok (hTO : TK_ex_operand RLo) (hBO : BK_ex_operand RLo) (hO : HOx RLo ta cn na own P lf lg ff fg c G F OO) {p0 : Int32} (h : R_ex_prefix RLp RLo ta cn na own P lf lg ff fg p0 tf fp cd tf' fp' cd' ox' fx') (hc : Cur tf c t o) (hl : Lst0 ta c) (hp : p0 = ta 0 t) (hk : kd ta t = 45 ∨ kd ta t = 43 ∨ kd ta t = 33 ∨ kd ta t = 126 ∨ kd ta t = 138 ∨ kd ta t = 139) :
    OkX ta c P G F t o (if o < 60 then (match OO (t + 1) (o + 1) with
      | none => none
      | some (e, t1) => some (ePre t e, t1)) else none) tf tf' ox' fx' := by
  obtain ⟨k, h⟩ := h
  have hpk : p0.toInt = kd ta t := by rw [hp]; rfl
  have tl := hc.2.2.2.2.1
  have h0 : 0 ≤ (tf 13).toInt ∧ (tf 13).toInt < (c : Int) := by rw [hc.2.1]; omega
  have finT : ∀ {k : Nat} {tf76 tf88 fp89 cd90 : Nat → Int32} {ox92 : Option Nat} {fx93 tf120 tfa : Nat → Int32} {v how : Int32} {fpa cda fxa : Nat → Int32} {hxa : Nat}, R_tk_open ta p0 tf tf76 → RLo ta cn na own P lf lg ff fg tf76 fp cd tf88 fp89 cd90 ox92 fx93 → R_tk_shut tf88 tf120 → (p0.toInt = 138 ∨ p0.toInt = 139) → R_ex_isTarget ox92 fx93 tf120 tfa v → R_ex_increase cn P ox92 how v fp89 cd90 fx93 fpa cda fxa → E_ex_prefix RLp RLo ta cn na own P lf lg ff fg p0 tf' fp' cd' ox' fx' k 72 [(tf 13)] [] [ox92] [fxa] [hxa] tfa fpa cda → OkX ta c P G F t o (if o < 60 then (match OO (t + 1) (o + 1) with
      | none => none
      | some (e, t1) => some (ePre t e, t1)) else none) tf tf' ox' fx' := by
    intro k tf76 tf88 fp89 cd90 ox92 fx93 tf120 tfa v how fpa cda fxa hxa h1 h2 h3 h138 hT hI hE
    obtain ⟨e0, e3, hh⟩ := pre_72 hE
    have e4 : fx' = upd fxa 0 (tf 13) := by
      rcases hh with ⟨-, q⟩ | ⟨q, -⟩
      · exact q
      · exfalso; omega
    rw [e0, e3, e4]
    rcases open_cur h1 hc hl (by omega) (by omega) with ⟨q1, q2, q3⟩ | ⟨q1, q2⟩
    · rw [if_pos q2]
      have h4 := hO _ _ _ _ _ _ _ _ _ _ h2 q3
      cases hr : OO (t + 1) (o + 1) with
      | none =>
        rw [hr] at h4
        exact (tgt_r hT).fl ((tkr_tk_shut h3).2 h4)
      | some r =>
        obtain ⟨e, t1⟩ := r
        rw [hr] at h4
        obtain ⟨a1, a2, ⟨a3, a4, a5, a6⟩, a7⟩ := h4
        have a1' := a1.2.2.2.2.1
        have a1'' := a1.2.2.2.2.2.1
        have s1 := shut_cur h3 a1 (by have := hc.2.2.2.2.2.2.1; omega)
        have s2 : Cur tf120 c t1 o := by rw [show o = o + 1 - 1 by omega]; exact s1
        obtain ⟨z, hz, ef⟩ := bec_r (inc_r hI)
        have hz' := ti_add hz a3 (show (1 : Int32).toInt = 1 from rfl) (by omega) (by omega)
        refine ⟨(tgt_r hT).cur s2, by omega, ⟨?_, ?_, ?_, ?_⟩, ?_⟩
        · rw [pk_un (by decide), ef, pk_un (by decide), pk_us, hz', dp_pre, if_neg (by omega)]
        · rw [pk_un (by decide), ef, pk_us, rk_pre, if_neg (by omega)]; rfl
        · rw [dp_pre, if_neg (by omega)]; omega
        · rw [dp_pre, if_neg (by omega)]; omega
        · rw [att_pre]
          refine AT.bind (AT.ms (AT.sm (smr_tk_open h1) a7) (smr_tk_shut h3)) (fun a hma => ?_) (bkr_ex_isTarget hT)
          unfold aPre
          rw [if_pos (by omega)]
          refine AT.bind (tgt_at hT s2 hma) (fun b hb => AT.ret ?_) BK.rf
          obtain ⟨rfl, -⟩ := hb
          exact ma_first (ma_bec (inc_r hI) (ma_le hma (by omega)) rfl rfl (by decide) (fun q => absurd q (by decide)) rfl) h0
    · rw [if_neg (fun q => q1 ⟨hp.symm, q⟩)]
      exact (tgt_r hT).fl ((tkr_tk_shut h3).2 ((hTO _ _ _ _ _ _ _ _ _ _ _ _ _ _ _ _ _ h2).2 q2))
  rcases iv_ex_prefix_0 h with ⟨k, tf76, h1, tf88, fp89, cd90, hx91, ox92, fx93, h2, tf120, h3, (⟨h4, (⟨h5, tf134, v136, h6, fp148, cd149, fx150, h7, hE⟩ | ⟨h5, tf162, v164, h6, fp176, cd177, fx178, h7, hE⟩)⟩ | ⟨h4, (⟨h5, tf195, fp196, cd197, fx198, h6, hE⟩ | ⟨h5, (⟨h6, tf217, v219, h7, fp231, cd232, fx233, h8, hE⟩ | ⟨h6, tf245, v247, h7, fp259, cd260, fx261, h8, hE⟩)⟩)⟩)⟩
  · exact finT h1 h2 h3 (Or.inl h4) h6 h7 hE
  · exfalso; omega
  · obtain ⟨e0, e3, hh⟩ := pre_72 hE
    rw [e0, e3]
    rcases open_cur h1 hc hl (by omega) (by omega) with ⟨q1, q2, q3⟩ | ⟨q1, q2⟩
    · rw [if_pos q2]
      have h4' := hO _ _ _ _ _ _ _ _ _ _ h2 q3
      cases hr : OO (t + 1) (o + 1) with
      | none =>
        rw [hr] at h4'
        exact (num_r h6).1.fl ((tkr_tk_shut h3).2 h4')
      | some r =>
        obtain ⟨e, t1⟩ := r
        rw [hr] at h4'
        obtain ⟨a1, a2, ⟨a3, a4, a5, a6⟩, a7⟩ := h4'
        have a1' := a1.2.2.2.2.1
        have a1'' := a1.2.2.2.2.2.1
        have s1 := shut_cur h3 a1 (by have := hc.2.2.2.2.2.2.1; omega)
        have s2 : Cur tf120 c t1 o := by rw [show o = o + 1 - 1 by omega]; exact s1
        have en := (num_r h6).2
        have en1 : (fx198 1).toInt = 0 := by rw [en, pk_us]; rfl
        have en5 : (fx198 5).toInt = dpT (kd ta) e := by rw [en, pk_un (by decide)]; exact a3
        have en7 : (fx198 7).toInt = rkT (kd ta) e := by rw [en, pk_un (by decide)]; exact a4
        rcases hh with ⟨nq, e4⟩ | ⟨nq, fxb, hb, e4⟩
        · have h43 : kd ta t = 43 := by omega
          rw [e4]
          refine ⟨(num_r h6).1.cur s2, by omega, ⟨?_, ?_, ?_, ?_⟩, ?_⟩
          · rw [pk_un (by decide), en5, dp_pre, if_pos h43]
          · rw [pk_un (by decide), en7, rk_pre, if_pos h43]
          · rw [dp_pre, if_pos h43]; omega
          · rw [dp_pre, if_pos h43]; omega
          · rw [att_pre]
            refine AT.bind (AT.ms (AT.sm (smr_tk_open h1) a7) (smr_tk_shut h3)) (fun a hma => ?_) (bkr_ex_number h6)
            unfold aPre
            rw [if_neg (by omega)]
            refine AT.bind (num_at h6 s2 hma) (fun b hb => AT.ret ?_) BK.rf
            rw [if_pos h43]
            exact ma_first (ma_z (ma_le hb (by omega)) en1) h0
        · rw [e4]
          obtain ⟨z, hz, ef⟩ := bec_r hb
          rw [pk_un (by decide)] at hz
          have hz' := ti_add hz en5 (show (1 : Int32).toInt = 1 from rfl) (by omega) (by omega)
          refine ⟨(num_r h6).1.cur s2, by omega, ⟨?_, ?_, ?_, ?_⟩, ?_⟩
          · rw [pk_un (by decide), ef, pk_un (by decide), pk_us, hz', dp_pre, if_neg (by omega)]
          · rw [pk_un (by decide), ef, pk_us, rk_pre, if_neg (by omega)]; rfl
          · rw [dp_pre, if_neg (by omega)]; omega
          · rw [dp_pre, if_neg (by omega)]; omega
          · rw [att_pre]
            refine AT.bind (AT.ms (AT.sm (smr_tk_open h1) a7) (smr_tk_shut h3)) (fun a hma => ?_) (bkr_ex_number h6)
            unfold aPre
            rw [if_neg (by omega)]
            refine AT.bind (num_at h6 s2 hma) (fun b hmb => AT.ret ?_) BK.rf
            rw [if_neg (show ¬ kd ta t = 43 by omega)]
            have m4 := hmb.2.2.2.1
            have m5 := hmb.2.2.2.2.1
            have m6 := hmb.2.2.2.2.2.1
            have e8 : b.2.1 = 0 → rku p0.toInt (fx198 8) = rku (kd ta t) b.2.2.1 := fun q => by rw [m6 q, hpk]
            exact ma_first (ma_bec hb (ma_8 (ma_le hmb (by omega)) e8) rfl m4.symm (by rw [m4]; exact m5) (fun q => by rw [pk_us]; exact e8 (by omega)) rfl) h0
    · rw [if_neg (fun q => q1 ⟨hp.symm, q⟩)]
      exact (num_r h6).1.fl ((tkr_tk_shut h3).2 ((hTO _ _ _ _ _ _ _ _ _ _ _ _ _ _ _ _ _ h2).2 q2))
  · exfalso; omega
  · exact finT h1 h2 h3 (Or.inr h5) h7 h8 hE
theorem pst_ok (hTP : TK_ex_parse RLp) (hTO : TK_ex_operand RLo) {k : Nat} {tfa fpa cda : Nat → Int32} {oxa : Option Nat} {fxa : Nat → Int32} {hxa : Nat} {r : Option (Ast × Nat)} (h : E_ex_operand RLp RLo ta cn na own P lf lg ff fg tf' fp' cd' ox' fx' k 101 [] [] [oxa] [fxa] [hxa] tfa fpa cda) (hl : Lst0 ta c) (hr : OkX ta c P G F t o r tf tfa oxa fxa) :
    OkX ta c P G F t o (pPst (kd ta) o r) tf tf' ox' fx' := by
  cases r with
  | none => exact (tke_ex_operand hTP hTO _ _ _ _ _ _ _ _ _ _ h).2 hr
  | some r =>
    obtain ⟨e, t1⟩ := r
    obtain ⟨a1, a2, ⟨a3, a4, a5, a6⟩, a7⟩ := hr
    have a1' := a1.2.2.2.2.1
    have a1'' := a1.2.2.2.2.2.1
    show OkX ta c P G F t o (if kd ta t1 = 138 ∨ kd ta t1 = 139 then (if o + dpT (kd ta) e < 60 then some (ePost t1 e, t1 + 1) else none) else some (e, t1)) tf tf' ox' fx'
    have fin : ∀ {tf8 : Nat → Int32} {v how : Int32} {fpb cdb fxb : Nat → Int32}, R_tk_stepBehind ta (fxa 5) tfa tf8 → R_ex_isTarget oxa fxa tf8 tf' v → R_ex_increase cn P oxa how v fpa cda fxa fpb cdb fxb → ox' = oxa → fx' = fxb → (kd ta t1 = 138 ∨ kd ta t1 = 139) → OkX ta c P G F t o (if kd ta t1 = 138 ∨ kd ta t1 = 139 then (if o + dpT (kd ta) e < 60 then some (ePost t1 e, t1 + 1) else none) else some (e, t1)) tf tf' ox' fx' := by
      intro tf8 v how fpb cdb fxb hS hT hI e3 e4 hk
      rw [if_pos hk, e3, e4]
      have hlt : t1 + 1 < c := by
        rcases hk with q | q
        · exact lst_lt (p0 := 138) a1 hl (by decide) (by decide) q
        · exact lst_lt (p0 := 139) a1 hl (by decide) (by decide) q
      rcases stepB_cur hS a1 a3 (by omega) (by omega) hlt with ⟨q1, q2⟩ | ⟨q1, q2⟩
      · rw [if_pos q1]
        obtain ⟨z, hz, ef⟩ := bec_r (inc_r hI)
        have hz' := ti_add hz a3 (show (1 : Int32).toInt = 1 from rfl) (by omega) (by omega)
        refine ⟨(tgt_r hT).cur q2, by omega, ⟨?_, ?_, ?_, ?_⟩, ?_⟩
        · rw [ef, pk_un (by decide), pk_us, hz', dp_post]
        · rw [ef, pk_us, rk_post]; rfl
        · rw [dp_post]; omega
        · rw [dp_post]; omega
        · rw [att_post]
          refine AT.bind (AT.bind (N := MA P c (2 * ((t1 : Int) - (t : Int))) fxa oxa) (AT.ms a7 (smr_tk_stepBehind hS)) (fun a hma => (tgt_at hT q2 hma).imp (fun b hb => ?_)) (bkr_ex_isTarget hT)) (fun b hmb => AT.ret (ma_bec (inc_r hI) (ma_le hmb (by omega)) rfl rfl (by decide) (fun q => absurd q (by decide)) rfl)) BK.rf
          obtain ⟨rfl, -⟩ := hb
          exact hma
      · rw [if_neg q1]
        exact (tgt_r hT).fl q2
    rcases iv_ex_operand_101 h with ⟨k, v2, h1, (⟨h2, tf8, h3, (⟨h4, z20, h5, tf22, v24, h6, fp36, cd37, fx38, h7, e0, e1, e2, e3, e4⟩ | ⟨h4, z49, h5, tf51, v53, h6, fp65, cd66, fx67, h7, e0, e1, e2, e3, e4⟩)⟩ | ⟨h2, (⟨h3, e0, e1, e2, e3, e4⟩ | ⟨h3, tf80, h4, (⟨h5, z92, h6, tf94, v96, h7, fp108, cd109, fx110, h8, e0, e1, e2, e3, e4⟩ | ⟨h5, z121, h6, tf123, v125, h7, fp137, cd138, fx139, h8, e0, e1, e2, e3, e4⟩)⟩)⟩)⟩
    · have ek := kind_cur h1 a1
      subst ek
      exact fin h3 (by rw [e0]; exact h6) h7 e3 e4 (Or.inl h2)
    · exfalso; omega
    · have ek := kind_cur h1 a1
      subst ek
      rw [if_neg (show ¬ (kd ta t1 = 138 ∨ kd ta t1 = 139) from fun q => q.elim h2 h3), e0, e3, e4]
      exact ⟨a1, a2, ⟨a3, a4, a5, a6⟩, a7⟩
    · exfalso; omega
    · have ek := kind_cur h1 a1
      subst ek
      exact fin h4 (by rw [e0]; exact h7) h8 e3 e4 (Or.inr h3)
theorem asg_122 {x5 : Int32} {k : Nat} {tfa fpa cda fxa : Nat → Int32} {oy : Option Nat} {fy : Nat → Int32} {hy : Nat} (h : E_ex_assign RLp RLo ta cn na own P lf lg ff fg ox tf' fp' cd' fx' k 122 [x5] [] [oy] [fy] [hy] tfa fpa cda fxa) :
    tf' = tfa ∧ ∃ z : Int32, z.toInt = max (fxa 5).toInt (fy 5).toInt ∧ ∃ w : Int32, R_Opd_become 3 (upd (upd fxa 5 z) 6 w) fx' ∧ ((x5.toInt = 0 ∧ w = fy 6) ∨ (¬ x5.toInt = 0 ∧ ∃ u : Int32, u = fy 6 + 1 ∧ w = if fxa 6 < u then u else fxa 6)) := by
  rcases iv_ex_assign_122 h with ⟨k, (⟨h1, z3, h2, fx4, h3, e0, e1, e2, e3⟩ | ⟨h1, z17, h2, z18, h3, z19, h4, fx20, h5, e0, e1, e2, e3⟩)⟩
  · exact ⟨e0, z3, by rw [h2, mx_i], fy 6, by rw [e3]; exact h3, Or.inl ⟨h1, rfl⟩⟩
  · exact ⟨e0, z19, by rw [h4, mx_i], z18, by rw [e3]; exact h5, Or.inr ⟨h1, z17, h2, h3⟩⟩
theorem asg_ok (hTP : TK_ex_parse RLp) (hBP : BK_ex_parse RLp) (hP : HPx RLp ta cn na own P lf lg ff fg c G F PP) {tf0 : Nat → Int32} {e : Ast} {t0 t1 : Nat} (h : R_ex_assign RLp RLo ta cn na own P lf lg ff fg ox tf fp cd fx tf' fp' cd' fx') (hc : Cur tf c t1 o) (hl : Lst0 ta c) (h01 : t0 < t1) (hd : DR (kd ta) e t0 t1 fx) (ha : AT tf0 tf (att (kd ta) (vd ta) G F e [] 0) (MA P c (2 * ((t1 : Int) - (t0 : Int))) fx ox)) (hk : 256 ≤ kd ta t1) :
    OkX ta c P G F t0 o (if o + dpT (kd ta) e < 60 then (match PP (-1) (t1 + 1) (o + 1) with
      | none => none
      | some (y, t2) => some (eAsg t1 e y, t2)) else none) tf0 tf' ox fx' := by
  obtain ⟨k, h⟩ := h
  obtain ⟨a3, a4, a5, a6⟩ := hd
  have c1 := hc.2.2.2.2.1
  have c2 := hc.2.2.2.2.2.1
  have hlt : t1 + 1 < c := by
    rcases Nat.lt_or_ge (t1 + 1) c with q | q
    · exact q
    · rcases hl t1 (by omega) with e' | e'
      · rw [show kd ta t1 = 0 from e'] at hk; omega
      · rw [show kd ta t1 = 19 from e'] at hk; omega
  have fin : ∀ {k : Nat} {tf38 tf48 : Nat → Int32} {v50 x5 : Int32} {tf62 fp63 cd64 : Nat → Int32} {ox66 : Option Nat} {fx67 tf98 fp99 cd100 fx101 tf117 fpa cda : Nat → Int32} {hy : Nat}, R_tk_openBehind ta (fx 5) tf tf38 → R_ex_isTarget ox fx tf38 tf48 v50 → RLp ta cn na own P lf lg ff fg (-1 : Int32) tf48 fp cd tf62 fp63 cd64 ox66 fx67 → R_ex_number cn P ox66 tf62 fp63 cd64 fx67 tf98 fp99 cd100 fx101 → R_tk_shut tf98 tf117 → E_ex_assign RLp RLo ta cn na own P lf lg ff fg ox tf' fp' cd' fx' k 122 [x5] [] [ox66] [fx101] [hy] tf117 fpa cda fx → (v50 = 1 → ∀ v : Int, PlM P ox v → (v = 4 → ¬ x5.toInt = 0) ∧ (v = 1 → x5.toInt = 0)) → OkX ta c P G F t0 o (if o + dpT (kd ta) e < 60 then (match PP (-1) (t1 + 1) (o + 1) with
      | none => none
      | some (y, t2) => some (eAsg t1 e y, t2)) else none) tf0 tf' ox fx' := by
    intro k tf38 tf48 v50 x5 tf62 fp63 cd64 ox66 fx67 tf98 fp99 cd100 fx101 tf117 fpa cda hy h3 h4 h5 h6 h7 hE hx
    obtain ⟨e0, z, hz, w, hw, hww⟩ := asg_122 hE
    rw [e0]
    rcases openB_cur h3 hc a3 (by omega) (by omega) hlt with ⟨q1, q2⟩ | ⟨q1, q2⟩
    · rw [if_pos q1]
      have h5' := hP _ _ _ _ _ _ _ _ _ _ _ h5 ((tgt_r h4).cur q2)
      rw [show ((-1 : Int32)).toInt = -1 from rfl] at h5'
      cases hr : PP (-1) (t1 + 1) (o + 1) with
      | none =>
        rw [hr] at h5'
        exact (tkr_tk_shut h7).2 ((num_r h6).1.fl h5')
      | some r =>
        obtain ⟨y, t2⟩ := r
        rw [hr] at h5'
        obtain ⟨b1, b2, ⟨b3, b4, b5, b6⟩, b7⟩ := h5'
        have b1' := b1.2.2.2.2.1
        have s1 := shut_cur h7 ((num_r h6).1.cur b1) (by have := hc.2.2.2.2.2.2.1; omega)
        have s2 : Cur tf117 c t2 o := by rw [show o = o + 1 - 1 by omega]; exact s1
        have en := (num_r h6).2
        have en5 : (fx101 5).toInt = dpT (kd ta) y := by rw [en, pk_un (by decide)]; exact b3
        obtain ⟨u, hu, ef⟩ := bec_r hw
        have hu5 : (upd (upd fx 5 z) 6 w 5).toInt = max (dpT (kd ta) e) (dpT (kd ta) y) := by rw [pk_un (by decide), pk_us, hz, a3, en5]
        have hu' := ti_add hu hu5 (show (1 : Int32).toInt = 1 from rfl) (by omega) (by omega)
        refine ⟨s2, by omega, ⟨?_, ?_, ?_, ?_⟩, ?_⟩
        · rw [ef, pk_un (by decide), pk_us, hu', dp_asg]
        · rw [ef, pk_us, rk_asg]; rfl
        · rw [dp_asg]; omega
        · rw [dp_asg]; omega
        · rw [att_asg]
          refine AT.bind (AT.bind (N := fun a => MA P c (2 * ((t1 : Int) - (t0 : Int))) fx ox a ∧ v50 = 1 ∧ (a.1 = 1 ∨ a.1 = 4)) (ha.ms (smr_tk_openBehind h3)) (fun a hma => (tgt_at h4 q2 hma).imp (fun b hb => ?_)) (bkr_ex_isTarget h4)) (fun a hma => AT.ms (AT.bind (AT.bind b7 (fun b hmb => num_at h6 b1 hmb) (bkr_ex_number h6)) (fun b hmb => AT.ret ?_) BK.rf) (smr_tk_shut h7)) (fun x => SmC.bd (smr_tk_shut h7) (bkr_ex_number h6 (hBP _ _ _ _ _ _ _ _ _ _ _ _ _ _ _ _ _ _ h5 x)))
          · obtain ⟨rfl, hb1, hb2⟩ := hb
            exact ⟨hma, hb1, hb2⟩
          · obtain ⟨ma, hv, hs⟩ := hma
            have hb6 := hmb.2.2.2.2.2.2.1
            have ha6 := ma.2.2.2.2.2.2.1
            have hx' := hx hv _ ma.2.2.2.2.2.2.2
            have hH : w.toInt = (aAsg a b).2.2.2 ∧ 1 ≤ (aAsg a b).2.2.2 ∧ (aAsg a b).2.2.2 ≤ 2 * ((t2 : Int) - (t0 : Int)) := by
              have e1 : (aAsg a b).2.2.2 = if a.1 = 4 then max a.2.2.2 (b.2.2.2 + 1) else b.2.2.2 := rfl
              rw [e1]
              rcases hs with hs | hs
              · rw [if_neg (by omega)]
                rcases hww with ⟨-, q⟩ | ⟨q, -⟩
                · rw [q]; omega
                · exact absurd (hx'.2 hs) q
              · rw [if_pos hs]
                rcases hww with ⟨q, -⟩ | ⟨-, u', q1', q2'⟩
                · exact absurd q (hx'.1 hs)
                · have q3 := ti_add q1' hb6.1 (show (1 : Int32).toInt = 1 from rfl) (by omega) (by omega)
                  rw [q2', mx_i, ha6.1, q3]
                  omega
            exact ma_bec hw (ma_56 ma hH.1 hH.2.1 hH.2.2) rfl rfl (by decide) (fun q => absurd q (by decide)) rfl
    · rw [if_neg q1]
      exact (tkr_tk_shut h7).2 ((num_r h6).1.fl ((hTP _ _ _ _ _ _ _ _ _ _ _ _ _ _ _ _ _ _ h5).2 ((tgt_r h4).fl q2)))
  rcases iv_ex_assign_0 h with ⟨k, v33, h1, z37, h2, tf38, h3, tf48, v50, h4, tf62, fp63, cd64, hx65, ox66, fx67, h5, tf98, fp99, cd100, fx101, h6, tf117, h7, (⟨h8, hE⟩ | ⟨h8, (⟨h9, z130, h10, z131, h11, q132, h12, j134, s135, h13, fp139, cd140, v142, h14, z146, h15, (⟨h16, hE⟩ | ⟨h16, hE⟩)⟩ | ⟨h9, q149, h10, j151, s152, h11, fp156, cd157, v159, h12, z163, h13, (⟨h14, hE⟩ | ⟨h14, hE⟩)⟩)⟩)⟩
  · exact fin h3 h4 h5 h6 h7 hE (fun q => by rw [q] at h8; exact absurd h8 (by decide))
  · refine fin h3 h4 h5 h6 h7 hE (fun _ v hv => ⟨fun q => ?_, fun _ => rfl⟩)
    rcases hv with hv | ⟨q', g, p1, p2, p3⟩
    · omega
    · rw [h12] at p1
      obtain rfl := Option.some.inj p1
      have := p2 _ _ h13
      exact absurd (by rw [← h15]; exact h16) (ent4 (by omega))
  · refine fin h3 h4 h5 h6 h7 hE (fun _ v hv => ⟨fun _ => by decide, fun q => ?_⟩)
    rcases hv with hv | ⟨q', g, p1, p2, p3⟩
    · omega
    · rw [h12] at p1
      obtain rfl := Option.some.inj p1
      have := p2 _ _ h13
      exact absurd (by rw [h15]; exact ent1 (by omega)) h16
  · refine fin h3 h4 h5 h6 h7 hE (fun _ v hv => ⟨fun q => ?_, fun _ => rfl⟩)
    rcases hv with hv | ⟨q', g, p1, p2, p3⟩
    · omega
    · rw [h10] at p1
      obtain rfl := Option.some.inj p1
      have := p2 _ _ h11
      exact absurd (by rw [← h13]; exact h14) (ent4 (by omega))
  · refine fin h3 h4 h5 h6 h7 hE (fun _ v hv => ⟨fun _ => by decide, fun q => ?_⟩)
    rcases hv with hv | ⟨q', g, p1, p2, p3⟩
    · omega
    · rw [h10] at p1
      obtain rfl := Option.some.inj p1
      have := p2 _ _ h11
      exact absurd (by rw [h13]; exact ent1 (by omega)) h14
end EX2
