/-- whether a symbol is of chars -/
def chS (sf : Nat → Int32) : Bool := if (sf 2 &&& 2).toInt = 0 then false else true
theorem m4_2q {m : Int32} (h : m = 0 ∨ m = 1 ∨ m = 2 ∨ m = 3) : ((m ||| 4) &&& 2).toInt = (m &&& 2).toInt ∧ ¬ ((m ||| 4) &&& 4).toInt = 0 ∧ (m &&& 4).toInt = 0 := by
  rcases h with rfl | rfl | rfl | rfl <;> decide
section S3
variable {ta : Nat → Nat → Int32} {cn sn : Nat} {na : Nat → Nat → Int32} {own own' : Bool} {P : va_W} {lf lf' nf : Nat → Int32} {lg lg' : Nat → Option Nat} {ff : Nat → Int32} {fg : Nat → Option Nat} {lq lc lq' lc' fa : Nat}
variable {tf fp cd tf' fp' cd' fx fx' cf cf' fs sd fs' sd' sf sf' : Nat → Int32} {ox ox' fo : Option Nat} {c t sc : Nat} {o n : Int} {a : Atr} {L : Nms} {Flq' : List (Int32 × Fnc)}
variable {G : Int32 → Option Ent} {F : Int32 → Option Fnc}
theorem row_141 {v x4 : Int32} {k : Nat} {cfa tfa fpa cda fsa sda sfa : Nat → Int32} (h : E_tc_row fo ta cn na own lf lg ff fg P cf' tf' fp' cd' fs' sd' sf' v k 141 [x4] [] [] [] [] cfa tfa fpa cda fsa sda sfa) :
    ∃ z b : Int32, z = cfa (wc fo) + x4 ∧ cf' = upd cfa (wc fo) z ∧ sf' = upd sfa 3 b ∧ R_tk_accept ta 256 tfa tf' v := by
  rcases iv_tc_row_141 h with ⟨k, cf2, v4, h1, (⟨h2, tf14, v16, h3, e0, e1, e2, e3, e4, e5, e6, ev⟩ | ⟨q12, h2, fp27, cd28, v30, h3, tf33, v35, h4, e0, e1, e2, e3, e4, e5, e6, ev⟩)⟩
  · subst h2
    rcases room_r h1 with ⟨-, z, q1, q2, -⟩ | ⟨⟨q', q⟩, -⟩
    · exact ⟨z, v4, q1, by rw [e0, q2]; rfl, e6, by rw [e1, ev]; exact h3⟩
    · exact absurd q (by simp)
  · subst h2
    rcases room_r h1 with ⟨q, -⟩ | ⟨-, z, q1, q2, -⟩
    · exact absurd q (by simp)
    · exact ⟨z, v4, q1, by rw [e0, q2]; rfl, e6, by rw [e1, ev]; exact h4⟩
theorem row_89 {v x3 : Int32} {k : Nat} {cfa tfa fpa cda fsa sda sfa : Nat → Int32} {hx : Nat} (h : E_tc_row fo ta cn na own lf lg ff fg P cf' tf' fp' cd' fs' sd' sf' v k 89 [x3] [] [ox] [fx] [hx] cfa tfa fpa cda fsa sda sfa) :
    ∃ x4 z w b : Int32, w = cfa (wc fo) + x4 ∧ cf' = upd cfa (wc fo) w ∧ sf' = upd (upd (upd sfa 2 (sfa 2 ||| 4)) 4 z) 3 b ∧ R_tk_accept ta 256 tfa tf' v ∧ (x3.toInt = 0 ∨ (z = fx 8 ∧ ((((sfa 2 ||| 4) &&& 2).toInt = 0 ∧ x4 = fx 8) ∨ (¬ ((sfa 2 ||| 4) &&& 2).toInt = 0 ∧ ∃ y : Int32, y = fx 8 + 3 ∧ x4 = y / 4)))) := by
  rcases iv_tc_row_89 h with ⟨k, z45, h1, (⟨h2, z48, h3, (⟨h4, hE⟩ | ⟨h4, z51, h5, z52, h6, hE⟩)⟩ | ⟨h2, z53, h3, (⟨h4, hE⟩ | ⟨h4, z57, h5, z58, h6, hE⟩)⟩)⟩
  · obtain ⟨w, b, q1, q2, q3, q4⟩ := row_141 hE
    rw [h1] at q3
    exact ⟨_, _, w, b, q1, q2, q3, q4, Or.inl h2⟩
  · obtain ⟨w, b, q1, q2, q3, q4⟩ := row_141 hE
    rw [h1] at q3
    exact ⟨_, _, w, b, q1, q2, q3, q4, Or.inl h2⟩
  · obtain ⟨w, b, q1, q2, q3, q4⟩ := row_141 hE
    rw [h1] at q3 h3
    rw [h3] at h4
    exact ⟨_, _, w, b, q1, q2, q3, q4, Or.inr ⟨rfl, Or.inl ⟨h4, rfl⟩⟩⟩
  · obtain ⟨w, b, q1, q2, q3, q4⟩ := row_141 hE
    rw [h1] at q3 h3
    rw [h3] at h4
    exact ⟨_, _, w, b, q1, q2, q3, q4, Or.inr ⟨rfl, Or.inr ⟨h4, z57, h5, h6⟩⟩⟩
theorem row_ok (hG : EnvC own P lf lg G) (hF : FunC na P ff fg F) (hl : Lst0 ta c) {v : Int32} (h : R_tc_row fo ta cn na own lf lg ff fg P cf tf fp cd fs sd sf cf' tf' fp' cd' fs' sd' sf' v) (hc : Cur tf c t o) (hm : sf 2 = 0 ∨ sf 2 = 1 ∨ sf 2 = 2 ∨ sf 2 = 3) :
    (∃ z b : Int32, sf' = upd (upd (upd sf 2 (sf 2 ||| 4)) 4 z) 3 b) ∧ (∀ i : Nat, i ≠ wc fo → cf' i = cf i) ∧ match pRw (kd ta) t o with
      | none => Flq tf'
      | some (e, b, t1) => Cur tf' c t1 o ∧ t < t1 ∧ v.toInt = (if b then 1 else 0) ∧ AT tf tf' (semSz (kd ta) (vd ta) G F e) (fun n => (sf' 4).toInt = n ∧ 1 ≤ n ∧ n ≤ 4096 ∧ (0 ≤ (cf (wc fo)).toInt → (cf (wc fo)).toInt ≤ 1000000000 → (cf' (wc fo)).toInt = (cf (wc fo)).toInt + wds (chS sf) n)) := by
  obtain ⟨k, h⟩ := h
  have h0o := hc.2.2.2.2.2.2.1
  obtain ⟨m1, m2, m3⟩ := m4_2q hm
  have fin : ∀ {k : Nat} {x3 : Int32} {tf59 tf71 fp72 cd73 : Nat → Int32} {ox75 : Option Nat} {fx76 tf107 fp108 cd109 fx110 tf126 tfa : Nat → Int32} {hx : Nat}, R_tk_open ta (91 : Int32) tf tf59 → R_ex_parse (RL_ex_parse 61) (RL_ex_operand 61) ta cn na own P lf lg ff fg (0 : Int32) tf59 fp cd tf71 fp72 cd73 ox75 fx76 → R_ex_settle cn P ox75 (fp 3) tf71 fp72 cd73 fx76 tf107 fp108 cd109 fx110 → R_tk_close ta (93 : Int32) tf107 tf126 → SmB tf126 tfa → BK tf126 tfa →
    E_tc_row fo ta cn na own lf lg ff fg P cf' tf' fp' cd' fs' sd' sf' v k 89 [x3] [] [ox75] [fx110] [hx] cf tfa fp108 cd109 fs sd sf → (∀ b : Atr, (fx110 2).toInt = b.2.1 → (b.2.1 = 0 → fx110 8 = b.2.2.1) → b.2.1 = 0 → (0 ≤ (fx110 0).toInt ∧ (fx110 0).toInt < (tf126 10).toInt) → AT tf126 tfa (if 1 ≤ b.2.2.1.toInt ∧ b.2.2.1.toInt ≤ 4096 then some b.2.2.1.toInt else none) (fun n => ¬ x3.toInt = 0 ∧ n = (fx110 8).toInt ∧ 1 ≤ n ∧ n ≤ 4096)) →
    (∃ z b : Int32, sf' = upd (upd (upd sf 2 (sf 2 ||| 4)) 4 z) 3 b) ∧ (∀ i : Nat, i ≠ wc fo → cf' i = cf i) ∧ match pRw (kd ta) t o with
      | none => Flq tf'
      | some (e, b, t1) => Cur tf' c t1 o ∧ t < t1 ∧ v.toInt = (if b then 1 else 0) ∧ AT tf tf' (semSz (kd ta) (vd ta) G F e) (fun n => (sf' 4).toInt = n ∧ 1 ≤ n ∧ n ≤ 4096 ∧ (0 ≤ (cf (wc fo)).toInt → (cf (wc fo)).toInt ≤ 1000000000 → (cf' (wc fo)).toInt = (cf (wc fo)).toInt + wds (chS sf) n)) := by
    intro k x3 tf59 tf71 fp72 cd73 ox75 fx76 tf107 fp108 cd109 fx110 tf126 tfa hx h1 h2 h3 h4 hb hbk hE hA
    obtain ⟨x4, z, w, b, q1, q2, q3, q4, q5⟩ := row_89 hE
    refine ⟨⟨z, b, q3⟩, fun i hi => by rw [q2, pk_un hi], ?_⟩
    unfold pRw
    rcases open_cur (p0 := 91) h1 hc hl (by decide) (by decide) with ⟨p1, p2, p3⟩ | ⟨p1, p2⟩
    · have hk : kd ta t = 91 := by unfold kd; rw [p1]; rfl
      rw [if_pos ⟨hk, p2⟩]
      have h2' := exP_ok hG hF hl h2 p3
      rw [show ((0 : Int32)).toInt = 0 from rfl] at h2'
      cases hr : pE (kd ta) 0 (t + 1) (o + 1) with
      | none =>
        rw [hr] at h2'
        exact (tkr_tk_accept q4).2 (hb.fl ((tkr_tk_close h4).2 ((set_r h3).1.fl h2')))
      | some r =>
        obtain ⟨e, t1⟩ := r
        rw [hr] at h2'
        obtain ⟨a1, a2, a3, a4⟩ := h2'
        rcases close_cur (p0 := 93) h4 ((set_r h3).1.cur a1) (by omega) hl (by decide) (by decide) with ⟨b1, b2⟩ | ⟨b1, b2⟩
        · have hk1 : kd ta t1 = 93 := by unfold kd; rw [b1]; rfl
          simp only [hk1, if_true]
          have b2' : Cur tf126 c (t1 + 1) o := by rw [show o = o + 1 - 1 by omega]; exact b2
          have hca := hb.cur b2'
          have at1 : SmC tfa tf' → AT tf tf' (semSz (kd ta) (vd ta) G F e) (fun n => (sf' 4).toInt = n ∧ 1 ≤ n ∧ n ≤ 4096 ∧ (0 ≤ (cf (wc fo)).toInt → (cf (wc fo)).toInt ≤ 1000000000 → (cf' (wc fo)).toInt = (cf (wc fo)).toInt + wds (chS sf) n)) := by
            intro hsm
            unfold semSz
            refine AT.ms (AT.bind (AT.ms (AT.bind (AT.sm (smr_tk_open h1) a4) (fun a ha => set_at h3 a1 ha) (set_bk h3)) (smr_tk_close h4)) (fun b hb' => (hA b hb'.1.2.2.2.1 hb'.1.2.2.2.2.2.1 hb'.2 (by rw [b2'.1]; exact hb'.1.1)).imp (fun n hn => ?_)) hbk) hsm
            obtain ⟨n1, n2, n3, n4⟩ := hn
            rcases q5 with q5 | ⟨q5, q6⟩
            · exact absurd q5 n1
            · have es : (sf' 4).toInt = n := by rw [q3, pk_un (by decide), pk_us, q5, n2]
              refine ⟨es, n3, n4, fun g1 g2 => ?_⟩
              rw [q2, pk_us]
              unfold wds chS
              rcases q6 with ⟨q6, q7⟩ | ⟨q6, y, q7, q8⟩
              · rw [m1] at q6
                rw [if_pos q6, if_neg (by decide)]
                rw [q7] at q1
                have := ti_add q1 (rfl : (cf (wc fo)).toInt = (cf (wc fo)).toInt) (n2.symm) (by omega) (by omega)
                exact this
              · rw [m1] at q6
                rw [if_neg q6, if_pos rfl]
                have y1 := ti_add q7 (n2.symm) (show (3 : Int32).toInt = 3 from rfl) (by omega) (by omega)
                have y2 := i_div4 q8 (by omega)
                have := ti_add q1 (rfl : (cf (wc fo)).toInt = (cf (wc fo)).toInt) y2 (by omega) (by omega)
                rw [this, y1]
          rcases accept_cur (p0 := 256) q4 hca hl (by decide) (by decide) with ⟨g1, g2, g3, g4⟩ | ⟨g1, g2, g3⟩
          · have hk2 : kd ta (t1 + 1) = 256 := by unfold kd; rw [g1]; rfl
            simp only [hk2, if_true]
            exact ⟨g3, by omega, by rw [g2]; rfl, at1 g4⟩
          · have hk2 : ¬ kd ta (t1 + 1) = 256 := fun q => g1 (i_eq.mpr q)
            simp only [hk2, if_false]
            exact ⟨by rw [g3]; exact hca, by omega, by rw [g2]; rfl, at1 (by rw [g3]; exact SmC.rf)⟩
        · have hk1 : ¬ kd ta t1 = 93 := fun q => b1 (i_eq.mpr q)
          simp only [hk1, if_false]
          exact (tkr_tk_accept q4).2 (hb.fl b2)
    · have hk : ¬ (kd ta t = 91 ∧ o < 60) := fun q => p1 ⟨i_eq.mpr q.1, q.2⟩
      rw [if_neg hk]
      exact (tkr_tk_accept q4).2 (hb.fl ((tkr_tk_close h4).2 ((set_r h3).1.fl ((exP_tk h2).2 p2))))
  rcases iv_tc_row_0 h with ⟨k, tf59, h1, tf71, fp72, cd73, hx74, ox75, fx76, h2, tf107, fp108, cd109, fx110, h3, tf126, h4, (⟨h5, (⟨h6, hE⟩ | ⟨h6, tf140, h7, hE⟩)⟩ | ⟨h5, (⟨h6, (⟨h7, hE⟩ | ⟨h7, tf154, h8, hE⟩)⟩ | ⟨h6, (⟨h7, hE⟩ | ⟨h7, hE⟩)⟩)⟩)⟩
  · exact fin h1 h2 h3 h4 SmB.rf BK.rf hE (fun b g1 g2 g3 g4 => by exfalso; omega)
  · refine fin h1 h2 h3 h4 (blame_b h7) (bkr_tk_blame (by decide) h7) hE (fun b g1 g2 g3 g4 => ?_)
    have e := g2 g3
    rw [if_neg (by rw [← e]; omega)]
    exact AT.bad h7 (by decide) g4.2
  · exact fin h1 h2 h3 h4 SmB.rf BK.rf hE (fun b g1 g2 g3 g4 => by exfalso; omega)
  · refine fin h1 h2 h3 h4 (blame_b h8) (bkr_tk_blame (by decide) h8) hE (fun b g1 g2 g3 g4 => ?_)
    have e := g2 g3
    rw [if_neg (by rw [← e]; omega)]
    exact AT.bad h8 (by decide) g4.2
  · exact fin h1 h2 h3 h4 SmB.rf BK.rf hE (fun b g1 g2 g3 g4 => by exfalso; omega)
  · refine fin h1 h2 h3 h4 SmB.rf BK.rf hE (fun b g1 g2 g3 g4 => ?_)
    have e := g2 g3
    rw [if_pos (by rw [← e]; omega)]
    exact AT.ret ⟨by decide, by rw [e], by rw [← e]; omega, by rw [← e]; omega⟩
end S3
