theorem StI.nx {ta : Nat → Nat → Int32} {c : Nat} {na : Nat → Nat → Int32} {ff : Nat → Int32} {fg : Nat → Option Nat} {Flq' : List (Int32 × Fnc)} {q0 : Nat} {rt : Int} {cn t t1 : Nat} {o o' : Int} {sc : Nat} {L X : Nms} {cf tf fp nf cf' tf' fp' nf' : Nat → Int32} {own own' : Bool} {lf lf' : Nat → Int32} {lg lg' : Nat → Option Nat} {P P' : va_W} (h : StI ta c na ff fg Flq' q0 rt cn t o sc L cf tf fp nf own lf lg P) (hpx : PX P P') (hnf : NFq cn fp fp') (hcf : CFK cf cf') (hn4 : nf' 4 = nf 4) (hL : EnvL own' P' lf' lg' (L ++ X)) (hX : X.length ≤ t1 - t) (ht : t ≤ t1) (ho : o ≤ o') (hc : Cur tf' c t1 o') : StI ta c na ff fg Flq' q0 rt cn t1 o' sc (L ++ X) cf' tf' fp' nf' own' lf' lg' P' := by
  obtain ⟨h1, h2, h3, ⟨h4, h5, h6⟩, ⟨s, h7, h8⟩, h9, h10, h11, h12⟩ := h
  obtain ⟨Y, rfl⟩ := hpx
  refine ⟨hc, hL, h3.ap, ⟨by rw [hn4]; exact h4, by rw [List.length_append]; omega, by rw [List.length_append]; omega⟩, ⟨s, h7.ap, h8⟩, hnf h9, ?_, ?_, ?_⟩
  · rw [hcf 7 (by decide) (by decide) (by decide) (by decide)]; exact ⟨h10.1, by have := h10.2; omega⟩
  · rw [hcf 14 (by decide) (by decide) (by decide) (by decide)]; exact ⟨h11.1, by have := h11.2; omega⟩
  · rw [hcf 15 (by decide) (by decide) (by decide) (by decide)]; exact ⟨h12.1, by have := h12.2; omega⟩
/-- the same names, another place -/
theorem StI.cu {ta : Nat → Nat → Int32} {c : Nat} {na : Nat → Nat → Int32} {ff : Nat → Int32} {fg : Nat → Option Nat} {Flq' : List (Int32 × Fnc)} {q0 : Nat} {rt : Int} {cn t t1 : Nat} {o o' : Int} {sc : Nat} {L : Nms} {cf tf fp nf cf' tf' fp' : Nat → Int32} {own : Bool} {lf : Nat → Int32} {lg : Nat → Option Nat} {P : va_W} (h : StI ta c na ff fg Flq' q0 rt cn t o sc L cf tf fp nf own lf lg P) (hnf : NFq cn fp fp') (hcf : CFK cf cf') (ht : t ≤ t1) (ho : o ≤ o') (hc : Cur tf' c t1 o') : StI ta c na ff fg Flq' q0 rt cn t1 o' sc L cf' tf' fp' nf own lf lg P := by
  have := h.nx (X := []) (own' := own) (lf' := lf) (lg' := lg) (t1 := t1) PX.rf hnf hcf rfl (by rw [List.append_nil]; exact h.2.1) (by simp) ht ho hc
  rw [List.append_nil] at this
  exact this
theorem CFK.lb {a b : Nat → Int32} (h : CFK a b) : lpB b = lpB a ∧ bkB b = bkB a := by
  unfold lpB bkB
  rw [h 14 (by decide) (by decide) (by decide) (by decide), h 15 (by decide) (by decide) (by decide) (by decide)]
  exact ⟨rfl, rfl⟩
section SA
variable {ta : Nat → Nat → Int32} {cn sn : Nat} {na : Nat → Nat → Int32} {ff : Nat → Int32} {fg : Nat → Option Nat} {c sc q0 : Nat} {o rt : Int} {Flq' : List (Int32 × Fnc)} {RLs : T_tc_statement} {S : POT}
variable {cf' : Nat → Int32} {ca' : Nat → Nat → Int32} {tf' fp' cd' nf' : Nat → Int32} {own' : Bool} {lq' lc' : Nat} {lf' : Nat → Int32} {lg' : Nat → Option Nat} {P' : va_W} {fs' sd' : Nat → Int32}
theorem sts_loop (hl : Lst0 ta c) (hS : HSx RLs ta cn na ff fg sn c Flq' q0 rt S) (hTS : TK_tc_statement RLs) (hBS : BK_tc_statement RLs) (hXS : PX_tc_statement RLs) (hNS : NF_tc_statement RLs) (hN : ND P') :
    ∀ (n k i : Nat) (x1 : Int32) (cfa : Nat → Int32) (caa : Nat → Nat → Int32) (tfa fpa cda nfa : Nat → Int32) (owna : Bool) (lqa lca : Nat) (lfa : Nat → Int32) (lga : Nat → Option Nat) (Pa : va_W) (fsa sda : Nat → Int32) (t : Nat) (L : Nms), E_tc_statements RLs (some q0) ta cn na ff fg sn cf' ca' tf' fp' cd' nf' own' lq' lc' lf' lg' P' fs' sd' k 2 [x1] [] [] [] [] cfa caa tfa fpa cda nfa owna lqa lca lfa lga Pa fsa sda → x1.toInt = (i : Int) → i + n = 2049 → StI ta c na ff fg Flq' q0 rt cn t o sc L cfa tfa fpa nfa owna lfa lga Pa → OkS ta c o t L (fun s => sem (kd ta) (vd ta) (qlS ta) (fun v => flk v Flq') rt s sc (lpB cfa) (bkB cfa)) (pSts S (kd ta) o n t) cfa caa tfa nfa cf' ca' tf' nf' own' lf' lg' P' := by
  intro n
  induction n with
  | zero =>
    intro k i x1 cfa caa tfa fpa cda nfa owna lqa lca lfa lga Pa fsa sda t L h hx hi hst
    obtain ⟨hc, hL, -⟩ := hst
    have hf := hc.2.2.2.1
    rcases iv_tc_statements_2 h with ⟨k, (⟨h1, e0, e1, e2, e3, e4, e5, e6, e7, e8, e9, e10, e11, e12, e13⟩ | ⟨h1, (⟨h2, e0, e1, e2, e3, e4, e5, e6, e7, e8, e9, e10, e11, e12, e13⟩ | ⟨h2, v6, h3, (⟨h4, e0, e1, e2, e3, e4, e5, e6, e7, e8, e9, e10, e11, e12, e13⟩ | ⟨h4, cf27, ca28, tf29, fp30, cd31, nf32, own33, lq34, lc35, lf36, lg37, P38, fs39, sd40, h5, z79, h6, hE⟩)⟩)⟩)⟩
    · rw [e0, e1, e2, e5, e6, e9, e10, e11]
      exact ⟨hc, Nat.le_refl _, CFK.rf, CAK.rf, rfl, [], by rw [List.append_nil]; exact hL, by simp, by rw [List.append_nil]; exact SP.rt (Nat.le_refl _)⟩
    · exfalso; omega
    · exfalso; omega
    · exfalso; omega
  | succ n ih =>
    intro k i x1 cfa caa tfa fpa cda nfa owna lqa lca lfa lga Pa fsa sda t L h hx hi hst
    have hst' := hst
    obtain ⟨hc, hL, -⟩ := hst'
    have hf := hc.2.2.2.1
    have c1 := hc.2.2.2.2.1
    have c2 := hc.2.2.2.2.2.1
    have un : pSts S (kd ta) o (n + 1) t = if kd ta t = 125 then some (.null, t) else (match S t o with
      | none => none
      | some (s, t1) => (match pSts S (kd ta) o n t1 with
        | none => none
        | some (r, t2) => some (.add s r, t2))) := by first | rfl | simp [pSts]
    rw [un]
    rcases iv_tc_statements_2 h with ⟨k, (⟨h1, e0, e1, e2, e3, e4, e5, e6, e7, e8, e9, e10, e11, e12, e13⟩ | ⟨h1, (⟨h2, e0, e1, e2, e3, e4, e5, e6, e7, e8, e9, e10, e11, e12, e13⟩ | ⟨h2, v6, h3, (⟨h4, e0, e1, e2, e3, e4, e5, e6, e7, e8, e9, e10, e11, e12, e13⟩ | ⟨h4, cf27, ca28, tf29, fp30, cd31, nf32, own33, lq34, lc35, lf36, lg37, P38, fs39, sd40, h5, z79, h6, hE⟩)⟩)⟩)⟩
    · exfalso; omega
    · exact absurd hf h2
    · rw [kind_cur h3 hc] at h4
      rw [if_pos (show kd ta t = 125 from h4), e0, e1, e2, e5, e6, e9, e10, e11]
      exact ⟨hc, Nat.le_refl _, CFK.rf, CAK.rf, rfl, [], by rw [List.append_nil]; exact hL, by simp, by rw [List.append_nil]; exact SP.rt (Nat.le_refl _)⟩
    · rw [kind_cur h3 hc] at h4
      rw [if_neg (show ¬ kd ta t = 125 from h4)]
      have hN5 : ND P38 := by
        obtain ⟨Y, e⟩ := pxe_tc_statements hXS _ _ _ _ _ _ _ _ _ _ _ _ _ _ _ _ _ _ _ _ _ hE
        have hN' := hN
        rw [e] at hN'
        exact hN'.ap
      have o1 := hS _ _ _ _ _ _ _ _ _ _ _ _ _ _ _ _ _ _ _ _ _ _ _ _ _ _ _ _ t o sc L h5 hN5 hst
      cases hr : S t o with
      | none =>
        rw [hr] at o1
        exact (tke_tc_statements hTS _ _ _ _ _ _ _ _ _ _ _ _ _ _ _ _ _ _ _ _ _ hE).2 o1
      | some r =>
        obtain ⟨s, t1⟩ := r
        rw [hr] at o1
        dsimp only
        obtain ⟨p1, p2, p3, p4, p5, X, p6, p7, p8⟩ := o1
        have hst1 := hst.nx (hXS _ _ _ _ _ _ _ _ _ _ _ _ _ _ _ _ _ _ _ _ _ _ _ _ _ _ _ _ _ _ _ _ _ _ _ h5) (hNS _ _ _ _ _ _ _ _ _ _ _ _ _ _ _ _ _ _ _ _ _ _ _ _ _ _ _ _ _ _ _ _ _ _ _ h5) p3 p5 p6 p7 p2 (Int.le_refl _) p1
        have hz := ti_add h6 hx (show (1 : Int32).toInt = 1 from rfl) (by omega) (by omega)
        have o2 := ih k (i + 1) _ cf27 ca28 tf29 fp30 cd31 nf32 own33 lq34 lc35 lf36 lg37 P38 fs39 sd40 t1 (L ++ X) hE (by omega) (by omega) hst1
        cases hr2 : pSts S (kd ta) o n t1 with
        | none =>
          rw [hr2] at o2
          exact o2
        | some r2 =>
          obtain ⟨r, t2⟩ := r2
          rw [hr2] at o2
          obtain ⟨u1, u2, u3, u4, u5, X2, u6, u7, u8⟩ := o2
          rw [List.append_assoc] at u6 u8
          have e7 : (cf27 7) = (cfa 7) := p3 7 (by decide) (by decide) (by decide) (by decide)
          refine ⟨u1, by omega, p3.tr u3, p4.tr u4 (by rw [e7]; exact Int.le_refl _), u5.trans p5, X ++ X2, u6, by rw [List.length_append]; omega, ?_⟩
          have lb := p3.lb
          rw [lb.1, lb.2] at u8
          exact SP.seq p8 u8 (bke_tc_statements hBS _ _ _ _ _ _ _ _ _ _ _ _ _ _ _ _ _ _ _ _ _ hE)
theorem sts_ok (hl : Lst0 ta c) (hS : HSx RLs ta cn na ff fg sn c Flq' q0 rt S) (hTS : TK_tc_statement RLs) (hBS : BK_tc_statement RLs) (hXS : PX_tc_statement RLs) (hNS : NF_tc_statement RLs) (hN : ND P') {cfa : Nat → Int32} {caa : Nat → Nat → Int32} {tfa fpa cda nfa : Nat → Int32} {owna : Bool} {lqa lca : Nat} {lfa : Nat → Int32} {lga : Nat → Option Nat} {Pa : va_W} {fsa sda : Nat → Int32} {t : Nat} {L : Nms} (h : R_tc_statements RLs (some q0) ta cn na ff fg sn cfa caa tfa fpa cda nfa owna lqa lca lfa lga Pa fsa sda cf' ca' tf' fp' cd' nf' own' lq' lc' lf' lg' P' fs' sd') (hst : StI ta c na ff fg Flq' q0 rt cn t o sc L cfa tfa fpa nfa owna lfa lga Pa) : OkS ta c o t L (fun s => sem (kd ta) (vd ta) (qlS ta) (fun v => flk v Flq') rt s sc (lpB cfa) (bkB cfa)) (pSts S (kd ta) o 2049 t) cfa caa tfa nfa cf' ca' tf' nf' own' lf' lg' P' := by
  obtain ⟨k, h⟩ := h
  obtain ⟨k, h⟩ := iv_tc_statements_0 h
  exact sts_loop hl hS hTS hBS hXS hNS hN 2049 k 0 _ cfa caa tfa fpa cda nfa owna lqa lca lfa lga Pa fsa sda t L h (by rfl) (by omega) hst
end SA
