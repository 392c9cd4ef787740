section S8
variable {ta : Nat → Nat → Int32} {cn sn : Nat} {na : Nat → Nat → Int32} {own : Bool} {P : va_W} {lf nf : Nat → Int32} {lg : Nat → Option Nat} {ff : Nat → Int32} {fg : Nat → Option Nat} {ca ca' : Nat → Nat → Int32}
variable {tf fp cd tf' fp' cd' cf cf' : Nat → Int32} {fo : Option Nat} {c t sc q0 : Nat} {o rt : Int} {L : Nms} {Flq' : List (Int32 × Fnc)} {p0 : Int32} {s0 : Nat → Int32}
theorem gb_116 {x2 : Int32} {k : Nat} {cfa tfa fpa cda : Nat → Int32} (h : E_tc_giveBack fo ta cn na own lf lg ff fg P cf' tf' fp' cd' k 116 [x2] [] [] [] [] cfa tfa fpa cda) : cf' = cfa ∧ R_tk_expect ta 59 tfa tf' := by
  rcases iv_tc_giveBack_116 h with ⟨k, (⟨h1, fp5, cd6, v8, h2, tf11, h3, e0, e1, e2, e3⟩ | ⟨h1, fp22, cd23, v25, h2, fp30, cd31, v33, h3, tf36, h4, e0, e1, e2, e3⟩)⟩
  · exact ⟨e0, by rw [e1]; exact h3⟩
  · exact ⟨e0, by rw [e1]; exact h4⟩
def pRet (k : Nat → Int) (t : Nat) (o : Int) : Option (Ast × Nat) := if k (t + 1) = 59 then some (sNd 14 .null .null, t + 2) else (match pE k (-1) (t + 1) o with
      | none => none
      | some (e, t1) => if k t1 = 59 then some (sNd 15 e .null, t1 + 1) else none)
theorem ret_ok (hl : Lst0 ta c) (hN : ND P) (hL : EnvL own P lf lg L) (hF : FunL na P ff fg Flq') (hR : SymAt P q0 s0) (hrt : (s0 6).toInt = rt) (h : R_tc_giveBack (some q0) ta cn na own lf lg ff fg P cf tf fp cd cf' tf' fp' cd') (hc : Cur tf c t o) (hk : kd ta t = 15) :
    OkS ta c o t L (fun s => sem (kd ta) (vd ta) (qlS ta) (fun v => flk v Flq') rt s sc (lpB cf) (bkB cf)) (pRet (kd ta) t o) cf ca tf nf cf' ca tf' nf own lf lg P := by
  obtain ⟨k, h⟩ := h
  have hlt : t + 1 < c := lst_lt (p0 := 15) hc hl (by decide) (by decide) hk
  have hG := find_all hN hL
  have hFC := fun_all hN hF
  have tl := hc.2.2.2.2.1
  have s14 : ∀ s : Sg, sem (kd ta) (vd ta) (qlS ta) (fun v => flk v Flq') rt (sNd 14 .null .null) sc (lpB cf) (bkB cf) s = if rt = 3 then some s else none := fun s => rfl
  have s15 : ∀ (e : Ast) (s : Sg), sem (kd ta) (vd ta) (qlS ta) (fun v => flk v Flq') rt (sNd 15 e .null) sc (lpB cf) (bkB cf) s = if rt = 3 then none else semE (kd ta) (vd ta) (fun v => flk v Flq') aNum e s := fun e s => rfl
  have en : ∀ {X : Nms}, X = [] → EnvL own P lf lg (L ++ X) := fun e => by rw [e, List.append_nil]; exact hL
  /- nothing is given back -/
  have fin0 : ∀ {k : Nat} {x2 : Int32} {tf1 tfa fpa cda : Nat → Int32}, R_tk_step tf tf1 → kd ta (t + 1) = 59 → SmB tf1 tfa → E_tc_giveBack (some q0) ta cn na own lf lg ff fg P cf' tf' fp' cd' k 76 [x2, 0] [] [] [] [] cf tfa fpa cda → SP (fun s => if rt = 3 then some s else none) tf1 tfa L L cf cf t (t + 2) → OkS ta c o t L (fun s => sem (kd ta) (vd ta) (qlS ta) (fun v => flk v Flq') rt s sc (lpB cf) (bkB cf)) (pRet (kd ta) t o) cf ca tf nf cf' ca tf' nf own lf lg P := by
    intro k x2 tf1 tfa fpa cda g1 hk1 hb hE hsp
    have hs := step_cur g1 hc hlt
    unfold pRet
    rw [if_pos hk1]
    have fin : ∀ {k : Nat} {fpb cdb : Nat → Int32}, E_tc_giveBack (some q0) ta cn na own lf lg ff fg P cf' tf' fp' cd' k 116 [x2] [] [] [] [] cf tfa fpb cdb → OkS ta c o t L (fun s => sem (kd ta) (vd ta) (qlS ta) (fun v => flk v Flq') rt s sc (lpB cf) (bkB cf)) (some (sNd 14 .null .null, t + 2)) cf ca tf nf cf' ca tf' nf own lf lg P := by
      intro k fpb cdb hE
      obtain ⟨e0, g2⟩ := gb_116 hE
      rw [e0]
      have ex := expect_cur (p0 := 59) g2 (hb.cur hs.1) hl (by decide) (by decide)
      rcases ex.1 with ⟨q1, q2⟩ | ⟨q1, q2⟩
      · exact ⟨q2, by omega, CFK.rf, CAK.rf, rfl, [], en rfl, by simp, by rw [List.append_nil]; exact ((SP.sm hs.2 hsp).ms ex.2).co (fun w h q => s14 _)⟩
      · exact absurd (i_eq.mpr (show (ta 0 (t + 1)).toInt = (59 : Int32).toInt from hk1)) q1
    rcases iv_tc_giveBack_76 hE with ⟨k, (⟨h1, (⟨h2, cf53, tf54, fp55, cd56, h3, hE2⟩ | ⟨h2, tf86, fp87, cd88, hx89, ox90, fx91, h3, hE2⟩)⟩ | ⟨h1, fp120, cd121, v123, h2, hE2⟩)⟩
    · exact absurd (by rfl) h1
    · exact absurd (by rfl) h1
    · exact fin hE2
  have fin1 : ∀ {k : Nat} {x2 : Int32} {tf1 tfa fpa cda : Nat → Int32}, R_tk_step tf tf1 → ¬ kd ta (t + 1) = 59 → SmB tf1 tfa → BK tf1 tfa → E_tc_giveBack (some q0) ta cn na own lf lg ff fg P cf' tf' fp' cd' k 76 [x2, 1] [] [] [] [] cf tfa fpa cda → ((¬ x2.toInt = 3 ∧ ¬ rt = 3 ∧ tfa = tf1) ∨ (x2.toInt = 3 ∧ rt = 3 ∧ (Un tf1 → Bd tfa))) → OkS ta c o t L (fun s => sem (kd ta) (vd ta) (qlS ta) (fun v => flk v Flq') rt s sc (lpB cf) (bkB cf)) (pRet (kd ta) t o) cf ca tf nf cf' ca tf' nf own lf lg P := by
    intro k x2 tf1 tfa fpa cda g1 hk1 hb hbk hE hx
    have hs := step_cur g1 hc hlt
    have hca := hb.cur hs.1
    unfold pRet
    rw [if_neg hk1]
    rcases iv_tc_giveBack_76 hE with ⟨k, (⟨h1, (⟨h2, cf53, tf54, fp55, cd56, h3, hE2⟩ | ⟨h2, tf86, fp87, cd88, hx89, ox90, fx91, h3, hE2⟩)⟩ | ⟨h1, fp120, cd121, v123, h2, hE2⟩)⟩
    · rcases hx with ⟨-, hr, et⟩ | ⟨q, -⟩
      · subst et
        obtain ⟨e0, g2⟩ := gb_116 hE2
        have wo := who_ok hG hFC hl h3 hca
        have wo' := wo
        obtain ⟨w0, w1⟩ := wo
        cases hr2 : pE (kd ta) (-1) (t + 1) o with
        | none =>
          rw [hr2] at w1
          exact (tkr_tk_expect g2).2 w1
        | some r =>
          obtain ⟨e, t1⟩ := r
          rw [hr2] at w1 wo'
          obtain ⟨a1, a2, a3⟩ := w1
          have a1' := a1.2.2.2.2.1
          have a1'' := a1.2.2.2.2.2.1
          have ex := expect_cur (p0 := 59) g2 a1 hl (by decide) (by decide)
          rcases ex.1 with ⟨q1, q2⟩ | ⟨q1, q2⟩
          · have hk2 : kd ta t1 = 59 := by unfold kd; rw [q1]; rfl
            simp only [hk2, if_true]
            rw [e0]
            refine ⟨q2, by omega, OkH.cf wo', CAK.rf, rfl, [], en rfl, by simp, ?_⟩
            rw [List.append_nil]
            exact ((SP.sm hs.2 ((SP.e wo' (by omega)).ms ex.2)).ts (by omega) (by omega)).co (fun w h q => (s15 e _).trans (if_neg hr))
          · have hk2 : ¬ kd ta t1 = 59 := fun q => q1 (i_eq.mpr q)
            simp only [hk2, if_false]
            exact q2
      · exact absurd q h2
    · rcases hx with ⟨q, -⟩ | ⟨-, hr, hbd⟩
      · exact absurd h2 q
      · obtain ⟨e0, g2⟩ := gb_116 hE2
        have wo := exP_ok hG hFC hl h3 hca
        rw [show ((-1 : Int32)).toInt = -1 from rfl] at wo
        cases hr2 : pE (kd ta) (-1) (t + 1) o with
        | none =>
          rw [hr2] at wo
          exact (tkr_tk_expect g2).2 wo
        | some r =>
          obtain ⟨e, t1⟩ := r
          rw [hr2] at wo
          obtain ⟨a1, a2, a3, a4⟩ := wo
          have ex := expect_cur (p0 := 59) g2 a1 hl (by decide) (by decide)
          rcases ex.1 with ⟨q1, q2⟩ | ⟨q1, q2⟩
          · have hk2 : kd ta t1 = 59 := by unfold kd; rw [q1]; rfl
            simp only [hk2, if_true]
            rw [e0]
            refine ⟨q2, by omega, CFK.rf, CAK.rf, rfl, [], en rfl, by simp, ?_⟩
            rw [List.append_nil]
            exact SP.bad (fun w h q => (s15 e _).trans (if_pos hr)) (fun u => SmC.bd ex.2 (exP_bk h3 (hbd (SmC.un hs.2 u))))
          · have hk2 : ¬ kd ta t1 = 59 := fun q => q1 (i_eq.mpr q)
            simp only [hk2, if_false]
            exact q2
    · exact absurd h1 (by decide)
  rcases iv_tc_giveBack_0 h with ⟨k, (⟨h1, tf176, h2, v188, h3, (⟨h4, hE⟩ | ⟨h4, tf198, h5, hE⟩)⟩ | ⟨q127, h1, j129, s130, h2, tf132, h3, v144, h4, (⟨h5, (⟨h6, tf153, h7, hE⟩ | ⟨h6, hE⟩)⟩ | ⟨h5, (⟨h6, hE⟩ | ⟨h6, tf167, h7, hE⟩)⟩)⟩)⟩
  · exact absurd h1 (by simp)
  · exact absurd h1 (by simp)
  · obtain rfl := Option.some.inj h1
    have hs := step_cur h3 hc hlt
    have ek := kind_cur h4 hs.1
    subst ek
    have e6 := (hN.sym hR ⟨_, h2⟩).2.2.2.2.2.2
    refine fin0 h3 h5 (blame_b h7) hE (SP.bad (fun w h q => if_neg (by rw [← hrt, e6]; exact h6)) (fun u => blame_un h7 (by decide) ?_ u))
    rw [hs.1.1, hc.2.1]; omega
  · obtain rfl := Option.some.inj h1
    have hs := step_cur h3 hc hlt
    have ek := kind_cur h4 hs.1
    subst ek
    have e6 := (hN.sym hR ⟨_, h2⟩).2.2.2.2.2.2
    exact fin0 h3 h5 SmB.rf hE ((SP.rt (by omega)).co (fun w h q => if_pos (by rw [← hrt, e6]; exact h6)))
  · obtain rfl := Option.some.inj h1
    have hs := step_cur h3 hc hlt
    have ek := kind_cur h4 hs.1
    subst ek
    have e6 := (hN.sym hR ⟨_, h2⟩).2.2.2.2.2.2
    exact fin1 h3 h5 SmB.rf BK.rf hE (Or.inl ⟨h6, by rw [← hrt, e6]; exact h6, rfl⟩)
  · obtain rfl := Option.some.inj h1
    have hs := step_cur h3 hc hlt
    have ek := kind_cur h4 hs.1
    subst ek
    have e6 := (hN.sym hR ⟨_, h2⟩).2.2.2.2.2.2
    refine fin1 h3 h5 (blame_b h7) (bkr_tk_blame (by decide) h7) hE (Or.inr ⟨h6, by rw [← hrt, e6]; exact h6, fun u => blame_un h7 (by decide) ?_ u⟩)
    rw [hs.1.1, hc.2.1]; omega
end S8
section S9
variable {ta : Nat → Nat → Int32} {cn sn : Nat} {na : Nat → Nat → Int32} {own own' : Bool} {P P' : va_W} {lf lf' nf nf' : Nat → Int32} {lg lg' : Nat → Option Nat} {ff : Nat → Int32} {fg : Nat → Option Nat} {ca ca' : Nat → Nat → Int32} {lq lc lq' lc' : Nat}
variable {tf fp cd tf' fp' cd' cf cf' fs sd fs' sd' : Nat → Int32} {c t sc q0 : Nat} {o rt : Int} {L : Nms} {Flq' : List (Int32 × Fnc)} {s0 : Nat → Int32} {RLs : T_tc_statement} {S : POT}
/-- what is known where a statement begins -/
def StI (ta : Nat → Nat → Int32) (c : Nat) (na : Nat → Nat → Int32) (ff : Nat → Int32) (fg : Nat → Option Nat) (Flq' : List (Int32 × Fnc)) (q0 : Nat) (rt : Int) (cn : Nat) (t : Nat) (o : Int) (sc : Nat) (L : Nms) (cf tf fp nf : Nat → Int32) (own : Bool) (lf : Nat → Int32) (lg : Nat → Option Nat) (P : va_W) : Prop :=
  Cur tf c t o ∧ EnvL own P lf lg L ∧ FunL na P ff fg Flq' ∧ ((nf 4).toInt = (sc : Int) ∧ sc ≤ L.length ∧ L.length ≤ 5000 + t) ∧ (∃ s, SymAt P q0 s ∧ (s 6).toInt = rt) ∧ NN cn fp ∧ (0 ≤ (cf 7).toInt ∧ (cf 7).toInt ≤ (t : Int)) ∧ (0 ≤ (cf 14).toInt ∧ (cf 14).toInt ≤ o) ∧ 0 ≤ (cf 15).toInt ∧ (cf 15).toInt ≤ o
def HSx (RLs : T_tc_statement) (ta : Nat → Nat → Int32) (cn : Nat) (na : Nat → Nat → Int32) (ff : Nat → Int32) (fg : Nat → Option Nat) (sn : Nat) (c : Nat) (Flq' : List (Int32 × Fnc)) (q0 : Nat) (rt : Int) (S : POT) : Prop :=
  ∀ (cf : Nat → Int32) (ca : Nat → Nat → Int32) (tf fp cd nf : Nat → Int32) (own : Bool) (lq lc : Nat) (lf : Nat → Int32) (lg : Nat → Option Nat) (P : va_W) (fs sd cf' : Nat → Int32) (ca' : Nat → Nat → Int32) (tf' fp' cd' nf' : Nat → Int32) (own' : Bool) (lq' lc' : Nat) (lf' : Nat → Int32) (lg' : Nat → Option Nat) (P' : va_W) (fs' sd' : Nat → Int32) (t : Nat) (o : Int) (sc : Nat) (L : Nms),
    RLs (some q0) ta cn na ff fg sn cf ca tf fp cd nf own lq lc lf lg P fs sd cf' ca' tf' fp' cd' nf' own' lq' lc' lf' lg' P' fs' sd' → ND P' → StI ta c na ff fg Flq' q0 rt cn t o sc L cf tf fp nf own lf lg P → OkS ta c o t L (fun s => sem (kd ta) (vd ta) (qlS ta) (fun v => flk v Flq') rt s sc (lpB cf) (bkB cf)) (S t o) cf ca tf nf cf' ca' tf' nf' own' lf' lg' P'
end S9
