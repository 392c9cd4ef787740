/-- what a switch has done from one of its items on -/
def OkW (ta : Nat → Nat → Int32) (c : Nat) (o : Int) (L0 X : Nms) (x2 x3 x4 : Int32) (fc t : Nat) (f : Ast → Sg → Option Sg) (r : Option (Ast × Nat)) (cfa : Nat → Int32) (caa : Nat → Nat → Int32) (tfa cf' : Nat → Int32) (ca' : Nat → Nat → Int32) (tf' nf' : Nat → Int32) (own' : Bool) (lf' : Nat → Int32) (lg' : Nat → Option Nat) (P' : va_W) : Prop := match r with
  | none => Flq tf'
  | some (l, t2) => (kd ta t2 = 125 ∧ Cur tf' c (t2 + 1) o ∧ t ≤ t2 ∧ EnvL own' P' lf' lg' L0 ∧ nf' 4 = x2 ∧ CAK x3 caa ca' ∧ (∀ i : Nat, i ≠ 7 → i ≠ 12 → i ≠ 13 → i ≠ 15 → i ≠ 16 → i ≠ 17 → cf' i = cfa i) ∧ cf' 7 = x3 ∧ (∃ z : Int32, z = cfa 15 - 1 ∧ cf' 15 = z) ∧ ∀ (w h : Int) (cs : List Int32) (df : Bool), CsM fc cfa caa cs → (x4.toInt = -1 ↔ df = false) → (cfa 12).toInt = w → (cfa 13).toInt = h → 0 ≤ w → w ≤ 4096 * (t : Int) → 0 ≤ h → h ≤ 5000 → AT tfa tf' (f l (L0 ++ X, w, h, cs, df)) (fun s => s.1.take L0.length = L0 ∧ (cf' 12).toInt = s.2.1 ∧ (cf' 13).toInt = s.2.2.1 ∧ 0 ≤ s.2.1 ∧ s.2.1 ≤ 4096 * ((t2 : Int) + 1) ∧ 0 ≤ s.2.2.1 ∧ s.2.2.1 ≤ 5000)) ∨ (¬ kd ta t2 = 125 ∧ Flq tf')
def pSw1 (S : POT) (k : Nat → Int) (o : Int) (n : Nat) (it : Option (Ast × Nat)) : Option (Ast × Nat) := match it with
  | none => none
  | some (s, t1) => (match pSw S k o n true t1 with
    | none => none
    | some (r, t2) => some (.add s r, t2))
/-- an item -/
def pIt (S : POT) (k : Nat → Int) (o : Int) (b : Bool) (t : Nat) : Option (Ast × Nat) := if k t = 11 then (match pE k 0 (t + 1) o with
        | none => none
        | some (e, t1) => if k t1 = 58 then some (sNd 10 e (.arg t), t1 + 1) else none)
      else if k t = 12 then (if k (t + 1) = 58 then some (sNd 11 (.arg t) .null, t + 2) else none)
      else if b then S t o else none
theorem sw_un {S : POT} {k : Nat → Int} {o : Int} {n : Nat} {b : Bool} {t : Nat} : pSw S k o (n + 1) b t = if k t = 125 then some (.null, t) else pSw1 S k o n (pIt S k o b t) := by
  first | rfl | simp [pSw, pSw1, pIt]
section SF
variable {ta : Nat → Nat → Int32} {cn sn : Nat} {na : Nat → Nat → Int32} {ff : Nat → Int32} {fg : Nat → Option Nat} {c sc q0 : Nat} {o rt : Int} {Flq' : List (Int32 × Fnc)} {RLs : T_tc_statement} {S : POT}
variable {cf' : Nat → Int32} {ca' : Nat → Nat → Int32} {tf' fp' cd' nf' : Nat → Int32} {own' : Bool} {lq' lc' : Nat} {lf' : Nat → Int32} {lg' : Nat → Option Nat} {P' : va_W} {fs' sd' : Nat → Int32}
variable {cfa : Nat → Int32} {caa : Nat → Nat → Int32} {tfa fpa cda nfa : Nat → Int32} {owna : Bool} {lqa lca : Nat} {lfa : Nat → Int32} {lga : Nat → Option Nat} {Pa : va_W} {fsa sda : Nat → Int32} {t : Nat} {L : Nms}
variable {cf0 : Nat → Int32} {L0 X : Nms} {x2 x3 x5 : Int32} {fc : Nat}
theorem sel_185 (hl : Lst0 ta c) {k : Nat} {x4 : Int32} (h : E_tc_selection RLs (some q0) ta cn na ff fg sn cf' ca' tf' fp' cd' nf' own' lq' lc' lf' lg' P' fs' sd' cf0 k 185 [x2, x3, x4, x5] [] [] [] [] cfa caa tfa fpa cda nfa owna lqa lca lfa lga Pa fsa sda) (hc : Cur tfa c t (o + 2)) (h0o : 0 ≤ o) (hL : EnvL owna Pa lfa lga (L0 ++ X)) (hn4 : (nfa 4).toInt = (L0.length : Int)) (hb : (L0 ++ X).length ≤ 100000) :
    (kd ta t = 125 ∧ Cur tf' c (t + 1) o ∧ SmC tfa tf' ∧ EnvL own' P' lf' lg' L0 ∧ nf' 4 = x2 ∧ ca' = caa ∧ (∀ i : Nat, i ≠ 7 → i ≠ 15 → i ≠ 16 → cf' i = cfa i) ∧ cf' 7 = x3 ∧ ∃ z : Int32, z = cfa 15 - 1 ∧ cf' 15 = z) ∨ (¬ kd ta t = 125 ∧ Flq tf') := by
  obtain ⟨k, tf1, h1, z11, h2, fp14, cd15, v17, h3, cd23, h4, cf29, fp30, cd31, h5, cd46, h6, nf52, lf53, lg54, h7, tf63, h8, e0, e1, e2, e3, e4, e5, e6, e7, e8, e9, e10, e11, e12, e13⟩ := iv_tc_selection_185 h
  have cr := cmp_r h5
  rcases close_cur (p0 := 125) h1 hc (by omega) hl (by decide) (by decide) with ⟨p1, p2⟩ | ⟨p1, p2⟩
  · have s1 := shut_cur h8 p2 (by omega)
    obtain ⟨lv1, lv2⟩ := leave_env (sc := L0.length) hn4 (by rw [List.length_append]; omega) hL h7 hb
    have tl : (L0 ++ X).take L0.length = L0 := by simp
    rw [tl] at lv1
    refine Or.inl ⟨by unfold kd; rw [p1]; rfl, by rw [e2, show o = o + 2 - 1 - 1 by omega]; exact s1, by rw [e2]; exact (smr_tk_close h1).tr (smr_tk_shut h8), by rw [e6, e9, e10, e11]; exact lv1, by rw [e5, lv2, pk_us], e1, fun i i7 i15 i16 => by rw [e0, pk_un i16, cr, pk_un i7, pk_un i16, pk_un i15], by rw [e0, pk_un (by decide), cr, pk_us], z11, h2, by rw [e0, pk_un (by decide), cr, pk_un (by decide), pk_un (by decide), pk_us]⟩
  · refine Or.inr ⟨fun q => p1 (i_eq.mpr q), by rw [e2]; exact (tkr_tk_shut h8).2 p2⟩
theorem sel_loop (hl : Lst0 ta c) (hS : HSx RLs ta cn na ff fg sn c Flq' q0 rt S) (hTS : TK_tc_statement RLs) (hBS : BK_tc_statement RLs) (hXS : PX_tc_statement RLs) (hNS : NF_tc_statement RLs) (hN : ND P') (hp3 : x3.toInt = (fc : Int)) (h0o : 0 ≤ o) :
    ∀ (n k i : Nat) (x4 x6 x7 : Int32) (cfa : Nat → Int32) (caa : Nat → Nat → Int32) (tfa fpa cda nfa : Nat → Int32) (owna : Bool) (lqa lca : Nat) (lfa : Nat → Int32) (lga : Nat → Option Nat) (Pa : va_W) (fsa sda : Nat → Int32) (t : Nat) (X : Nms) (b : Bool), E_tc_selection RLs (some q0) ta cn na ff fg sn cf' ca' tf' fp' cd' nf' own' lq' lc' lf' lg' P' fs' sd' cf0 k 78 [x2, x3, x4, x5, x6, x7] [] [] [] [] cfa caa tfa fpa cda nfa owna lqa lca lfa lga Pa fsa sda → x7.toInt = (i : Int) → i + n = 2049 → (b = true ↔ ¬ x6.toInt = 0) → StI ta c na ff fg Flq' q0 rt cn t (o + 2) L0.length (L0 ++ X) cfa tfa fpa nfa owna lfa lga Pa → (fc : Int) ≤ (cfa 7).toInt →
      OkW ta c o L0 (X) x2 x3 x4 fc t (fun s => sem (kd ta) (vd ta) (qlS ta) (fun v => flk v Flq') rt s L0.length (lpB cfa) (bkB cfa)) (pSw S (kd ta) (o + 2) n b t) cfa caa tfa cf' ca' tf' nf' own' lf' lg' P' := by
  intro n
  induction n with
  | zero =>
    intro k i x4 x6 x7 cfa caa tfa fpa cda nfa owna lqa lca lfa lga Pa fsa sda t X b h hx hi hb hst hfc
    obtain ⟨hc, hL, hF, ⟨hs1, hs2, hs3⟩, hR, hnn, h7, h14, h15⟩ := hst
    have hf := hc.2.2.2.1
    have c1 := hc.2.2.2.2.1
    have c2 := hc.2.2.2.2.2.1
    show _ ∨ _
    rcases iv_tc_selection_78 h with ⟨k, (⟨h1, hE⟩ | ⟨h1, (⟨h2, hE⟩ | ⟨h2, v78, h3, (⟨h4, hE⟩ | ⟨h4, v85, h5, (⟨h6, (⟨k7, (⟨h8, tf95, h9, hE⟩ | ⟨h8, cf119, ca120, tf121, fp122, cd123, nf124, own125, lq126, lc127, lf128, lg129, P130, fs131, sd132, h9, hE⟩)⟩ | ⟨k7, tf172, h8, hE⟩)⟩ | ⟨h6, cf189, ca190, tf191, fp192, cd193, k7, hE⟩)⟩)⟩)⟩)⟩
    ·
      rcases sel_185 hl hE hc h0o hL hs1 (by omega) with ⟨q0', q1, q2, q3, q4, q5, q6, q7, q8⟩ | ⟨q0', q1⟩
      · refine Or.inl ⟨q0', q1, Nat.le_refl _, q3, q4, by rw [q5]; exact CAK.rf, fun i i7 _ _ i15 i16 _ => q6 i i7 i15 i16, q7, q8, fun w h cs df _ _ z1 z2 z3 z4 z5 z6 => ?_⟩
        show AT tfa tf' (some (L0 ++ X, w, h, cs, df)) _
        refine AT.ms (AT.ret ⟨?_, ?_, ?_, z3, ?_, z5, z6⟩) q2
        · show (L0 ++ X).take L0.length = L0
          simp
        · rw [q6 12 (by decide) (by decide) (by decide)]; exact z1
        · rw [q6 13 (by decide) (by decide) (by decide)]; exact z2
        · show w ≤ _
          omega
      · exact Or.inr ⟨q0', q1⟩
    all_goals (exfalso; omega)
  | succ n ih =>
    intro k i x4 x6 x7 cfa caa tfa fpa cda nfa owna lqa lca lfa lga Pa fsa sda t X b h hx hi hb hst hfc
    have hst' := hst
    obtain ⟨hc, hL, hF, ⟨hs1, hs2, hs3⟩, hR, hnn, h7, h14, h15⟩ := hst'
    have hf := hc.2.2.2.1
    have c1 := hc.2.2.2.2.1
    have c2 := hc.2.2.2.2.2.1
    rw [sw_un]
    have fin : ∀ {k : Nat} {x4' : Int32} {cfb : Nat → Int32} {cab : Nat → Nat → Int32} {tfb fpb cdb nfb : Nat → Int32} {ownb : Bool} {lqb lcb : Nat} {lfb : Nat → Int32} {lgb : Nat → Option Nat} {Pb : va_W} {fsb sdb : Nat → Int32} {s : Ast} {t1 : Nat} {X2 : Nms}, E_tc_selection RLs (some q0) ta cn na ff fg sn cf' ca' tf' fp' cd' nf' own' lq' lc' lf' lg' P' fs' sd' cf0 k 176 [x2, x3, x4', x5, x7] [] [] [] [] cfb cab tfb fpb cdb nfb ownb lqb lcb lfb lgb Pb fsb sdb → pIt S (kd ta) (o + 2) b t = some (s, t1) → StI ta c na ff fg Flq' q0 rt cn t1 (o + 2) L0.length (L0 ++ (X ++ X2)) cfb tfb fpb nfb ownb lfb lgb Pb → (fc : Int) ≤ (cfb 7).toInt → t ≤ t1 → CAK x3 caa cab → (∀ i : Nat, i ≠ 7 → i ≠ 12 → i ≠ 13 → i ≠ 16 → i ≠ 17 → cfb i = cfa i) → (∀ (w h : Int) (cs : List Int32) (df : Bool), CsM fc cfa caa cs → (x4.toInt = -1 ↔ df = false) → (cfa 12).toInt = w → (cfa 13).toInt = h → 0 ≤ w → w ≤ 4096 * (t : Int) → 0 ≤ h → h ≤ 5000 → AT tfa tfb (sem (kd ta) (vd ta) (qlS ta) (fun v => flk v Flq') rt s L0.length (lpB cfa) (bkB cfa) (L0 ++ X, w, h, cs, df)) (fun y => y.1 = L0 ++ (X ++ X2) ∧ (cfb 12).toInt = y.2.1 ∧ (cfb 13).toInt = y.2.2.1 ∧ CsM fc cfb cab y.2.2.2.1 ∧ (x4'.toInt = -1 ↔ y.2.2.2.2 = false) ∧ 0 ≤ y.2.1 ∧ y.2.1 ≤ 4096 * (t1 : Int) ∧ 0 ≤ y.2.2.1 ∧ y.2.2.1 ≤ 5000)) → OkW ta c o L0 (X) x2 x3 x4 fc t (fun s => sem (kd ta) (vd ta) (qlS ta) (fun v => flk v Flq') rt s L0.length (lpB cfa) (bkB cfa)) (pSw1 S (kd ta) (o + 2) n (pIt S (kd ta) (o + 2) b t)) cfa caa tfa cf' ca' tf' nf' own' lf' lg' P' := by
      intro k x4' cfb cab tfb fpb cdb nfb ownb lqb lcb lfb lgb Pb fsb sdb s t1 X2 hE hit hst2 hfc2 ht hcak hcf hA
      obtain ⟨k, z72, y1, hE⟩ := iv_tc_selection_176 hE
      have hz := ti_add y1 hx (show (1 : Int32).toInt = 1 from rfl) (by omega) (by omega)
      have i1 := ih k (i + 1) x4' 1 z72 cfb cab tfb fpb cdb nfb ownb lqb lcb lfb lgb Pb fsb sdb t1 (X ++ X2) true hE (by omega) (by omega) ⟨fun _ => by decide, fun _ => rfl⟩ hst2 hfc2
      rw [hit]
      unfold pSw1
      dsimp only
      have bk := bke_tc_selection hBS _ _ _ _ _ _ _ _ _ _ _ _ _ _ _ _ _ _ _ _ _ hE
      cases hr : pSw S (kd ta) (o + 2) n true t1 with
      | none =>
        rw [hr] at i1
        exact i1
      | some r =>
        obtain ⟨r, t2⟩ := r
        rw [hr] at i1
        rcases i1 with ⟨j0, j1, j2, j3, j4, j5, j6, j7, ⟨z, j8, j9⟩, j10⟩ | ⟨j0, j1⟩
        · have d14 := hcf 14 (by decide) (by decide) (by decide) (by decide) (by decide)
          have d15 := hcf 15 (by decide) (by decide) (by decide) (by decide) (by decide)
          refine Or.inl ⟨j0, j1, by omega, j3, j4, hcak.tr j5 (Int.le_refl _), fun i a1 a2 a3 a4 a5 a6 => (j6 i a1 a2 a3 a4 a5 a6).trans (hcf i a1 a2 a3 a5 a6), j7, ⟨z, by rw [← d15]; exact j8, j9⟩, fun w h cs df c1 c2 c3 c4 c5 c6 c7 c8 => ?_⟩
          show AT tfa tf' ((sem (kd ta) (vd ta) (qlS ta) (fun v => flk v Flq') rt s L0.length (lpB cfa) (bkB cfa) (L0 ++ X, w, h, cs, df)).bind fun y => sem (kd ta) (vd ta) (qlS ta) (fun v => flk v Flq') rt r L0.length (lpB cfa) (bkB cfa) y) _
          refine AT.bind (hA w h cs df c1 c2 c3 c4 c5 c6 c7 c8) (fun y hy => ?_) bk
          obtain ⟨v1, v2, v3, v4, v5, v6, v7, v8, v9⟩ := hy
          obtain ⟨w1, w2, w3, w4, w5⟩ := y
          have v1' : w1 = L0 ++ (X ++ X2) := v1
          subst v1'
          have lb : lpB cfb = lpB cfa ∧ bkB cfb = bkB cfa := by unfold lpB bkB; rw [d14, d15]; exact ⟨rfl, rfl⟩
          have g := j10 w2 w3 w4 w5 v4 v5 v2 v3 v6 v7 v8 v9
          rw [lb.1, lb.2] at g
          exact g
        · exact Or.inr ⟨j0, j1⟩
    rcases iv_tc_selection_78 h with ⟨k, (⟨h1, hE⟩ | ⟨h1, (⟨h2, hE⟩ | ⟨h2, v78, h3, (⟨h4, hE⟩ | ⟨h4, v85, h5, (⟨h6, (⟨k7, (⟨h8, tf95, h9, hE⟩ | ⟨h8, cf119, ca120, tf121, fp122, cd123, nf124, own125, lq126, lc127, lf128, lg129, P130, fs131, sd132, h9, hE⟩)⟩ | ⟨k7, tf172, h8, hE⟩)⟩ | ⟨h6, cf189, ca190, tf191, fp192, cd193, k7, hE⟩)⟩)⟩)⟩)⟩
    · exfalso; omega
    · exact absurd hf h2
    · rw [kind_cur h3 hc] at h4
      rw [if_pos (show kd ta t = 125 from h4)]
      show _ ∨ _
      rcases sel_185 hl hE hc h0o hL hs1 (by omega) with ⟨q0', q1, q2, q3, q4, q5, q6, q7, q8⟩ | ⟨q0', q1⟩
      · refine Or.inl ⟨q0', q1, Nat.le_refl _, q3, q4, by rw [q5]; exact CAK.rf, fun i i7 _ _ i15 i16 _ => q6 i i7 i15 i16, q7, q8, fun w h cs df _ _ z1 z2 z3 z4 z5 z6 => ?_⟩
        show AT tfa tf' (some (L0 ++ X, w, h, cs, df)) _
        refine AT.ms (AT.ret ⟨?_, ?_, ?_, z3, ?_, z5, z6⟩) q2
        · show (L0 ++ X).take L0.length = L0
          simp
        · rw [q6 12 (by decide) (by decide) (by decide)]; exact z1
        · rw [q6 13 (by decide) (by decide) (by decide)]; exact z2
        · show w ≤ _
          omega
      · exact Or.inr ⟨q0', q1⟩
    · rw [kind_cur h3 hc] at h4
      rw [kind_cur h5 hc] at h6 k7
      rw [if_neg (show ¬ kd ta t = 125 from h4)]
      have hbf : b = false := by
        cases b with
        | false => rfl
        | true => exact absurd h8 (hb.mp rfl)
      have hit : pIt S (kd ta) (o + 2) b t = none := by
        unfold pIt
        rw [if_neg (show ¬ kd ta t = 11 from h6), if_neg (show ¬ kd ta t = 12 from k7), hbf]
        rfl
      rw [hit]
      exact (tke_tc_selection hTS _ _ _ _ _ _ _ _ _ _ _ _ _ _ _ _ _ _ _ _ _ hE).2 (fail_r h9 (Or.inl hf)).1
    · rw [kind_cur h3 hc] at h4
      rw [kind_cur h5 hc] at h6 k7
      rw [if_neg (show ¬ kd ta t = 125 from h4)]
      have hbt : b = true := hb.mpr h8
      have hit : pIt S (kd ta) (o + 2) b t = S t (o + 2) := by
        unfold pIt
        rw [if_neg (show ¬ kd ta t = 11 from h6), if_neg (show ¬ kd ta t = 12 from k7), hbt]
        rfl
      have hN5 : ND P130 := by
        obtain ⟨Y, e⟩ := pxe_tc_selection hXS _ _ _ _ _ _ _ _ _ _ _ _ _ _ _ _ _ _ _ _ _ hE
        have hN' := hN
        rw [e] at hN'
        exact hN'.ap
      have o1 := hS _ _ _ _ _ _ _ _ _ _ _ _ _ _ _ _ _ _ _ _ _ _ _ _ _ _ _ _ t (o + 2) L0.length (L0 ++ X) h9 hN5 hst
      cases hr : S t (o + 2) with
      | none =>
        rw [hr] at o1
        rw [hit, hr]
        exact (tke_tc_selection hTS _ _ _ _ _ _ _ _ _ _ _ _ _ _ _ _ _ _ _ _ _ hE).2 o1
      | some r =>
        obtain ⟨s, t1⟩ := r
        rw [hr] at o1
        obtain ⟨p1, p2, p3, p4, p5, X2, p6, p7, p8⟩ := o1
        have hst1 := hst.nx (hXS _ _ _ _ _ _ _ _ _ _ _ _ _ _ _ _ _ _ _ _ _ _ _ _ _ _ _ _ _ _ _ _ _ _ _ h9) (hNS _ _ _ _ _ _ _ _ _ _ _ _ _ _ _ _ _ _ _ _ _ _ _ _ _ _ _ _ _ _ _ _ _ _ _ h9) p3 p5 p6 p7 p2 (Int.le_refl _) p1
        rw [List.append_assoc] at hst1 p8
        have e7 : cf119 7 = cfa 7 := p3 7 (by decide) (by decide) (by decide) (by decide)
        refine fin (X2 := X2) hE (hit.trans hr) hst1 (by rw [e7]; exact hfc) p2 (fun i hi => p4 i (by omega)) (fun i a1 a2 a3 a4 a5 => p3 i a2 a3 a4 a5) (fun w h cs df c1 c2 c3 c4 c5 c6 c7 c8 => ?_)
        refine AT.imp (p8 w h (cs, df) c3 c4 c5 c6 c7 c8) (fun y hy => ?_)
        obtain ⟨v1, v2, v3, v4, v5, v6, v7, v8⟩ := hy
        obtain ⟨y1, y2, y3, y4⟩ := y
        have v4' : y4 = (cs, df) := v4
        subst v4'
        refine ⟨v1, v2, v3, ⟨by rw [e7]; exact c1.1, fun i v hi => ?_⟩, c2, v5, v6, v7, v8⟩
        have hil := (List.getElem?_eq_some_iff.mp hi).1
        have l7 := c1.1
        rw [p4 (fc + i) (by push_cast; dsimp only at hil; omega)]
        exact c1.2 i v hi
    · rw [kind_cur h3 hc] at h4
      rw [kind_cur h5 hc] at h6 k7
      rw [if_neg (show ¬ kd ta t = 125 from h4)]
      have d1 := ldf_ok hl h8 hc (show kd ta t = 12 from k7)
      have hit : pIt S (kd ta) (o + 2) b t = if kd ta (t + 1) = 58 then some (sNd 11 (.arg t) .null, t + 2) else none := by
        unfold pIt
        rw [if_neg (show ¬ kd ta t = 11 from h6), if_pos (show kd ta t = 12 from k7)]
      by_cases hk1 : kd ta (t + 1) = 58
      · rw [if_pos hk1] at d1 hit
        obtain ⟨d2, d3⟩ := d1
        refine fin (X2 := []) hE hit (by rw [List.append_nil]; exact hst.cu NFq.rf CFK.rf (by omega) (Int.le_refl _) d2) hfc (by omega) CAK.rf (fun _ _ _ _ _ _ => rfl) (fun w h cs df c1 c2 c3 c4 c5 c6 c7 c8 => ?_)
        rw [List.append_nil]
        show AT tfa tf172 (if df = true then none else some (L0 ++ X, w, h, cs, true)) _
        by_cases hx4 : x4.toInt = -1
        · rw [if_pos hx4] at d3
          have hd := c2.mp hx4
          subst hd
          rw [if_neg (by decide)]
          refine fun u => ⟨(d3 u).1, rfl, c3, c4, c1, ⟨fun q => ?_, fun q => by cases q⟩, c5, ?_, c7, c8⟩
          · have := hnn.1
            exfalso; omega
          · show w ≤ _
            omega
        · rw [if_neg hx4] at d3
          have hd : df = true := by
            cases df with
            | true => rfl
            | false => exact absurd (c2.mpr rfl) hx4
          subst hd
          rw [if_pos rfl]
          exact fun u => d3 u
      · rw [if_neg hk1] at d1 hit
        rw [hit]
        exact (tke_tc_selection hTS _ _ _ _ _ _ _ _ _ _ _ _ _ _ _ _ _ _ _ _ _ hE).2 d1
    · rw [kind_cur h3 hc] at h4
      rw [kind_cur h5 hc] at h6
      rw [if_neg (show ¬ kd ta t = 125 from h4)]
      have hNa : ND Pa := by
        obtain ⟨Y, e⟩ := pxe_tc_selection hXS _ _ _ _ _ _ _ _ _ _ _ _ _ _ _ _ _ _ _ _ _ hE
        have hN' := hN
        rw [e] at hN'
        exact hN'.ap
      obtain ⟨⟨z, v, g1, g2, g3⟩, d1⟩ := lca_ok (fc := fc) (find_all hNa hL) (fun_all hNa hF) hl k7 hc (show kd ta t = 11 from h6) h7.2 hp3 (by omega)
      have hit : pIt S (kd ta) (o + 2) b t = (match pE (kd ta) 0 (t + 1) (o + 2) with
        | none => none
        | some (e, t1) => if kd ta t1 = 58 then some (sNd 10 e (.arg t), t1 + 1) else none) := by
        unfold pIt
        rw [if_pos (show kd ta t = 11 from h6)]
      have tk := tke_tc_selection hTS _ _ _ _ _ _ _ _ _ _ _ _ _ _ _ _ _ _ _ _ _ hE
      cases hr : pE (kd ta) 0 (t + 1) (o + 2) with
      | none =>
        rw [hr] at hit d1
        rw [hit]
        exact tk.2 d1
      | some r =>
        obtain ⟨e, t1⟩ := r
        rw [hr] at hit d1
        dsimp only at hit d1
        by_cases hk1 : kd ta t1 = 58
        · rw [if_pos hk1] at hit d1
          obtain ⟨d2, d3, d4⟩ := d1
          have q7 : cf189 7 = z := by rw [g2, pk_us]
          have qo : ∀ i : Nat, i ≠ 7 → cf189 i = cfa i := fun i hi => by rw [g2, pk_un hi]
          have hc7 : (cfa 7).toNatClampNeg = (cfa 7).toInt.toNat := cn_of (by omega)
          refine fin (X2 := []) hE hit ?_ (by rw [q7]; omega) (by omega) (fun i hi => ?_) (fun i a1 _ _ _ _ => qo i a1) (fun w h cs df c1 c2 c3 c4 c5 c6 c7 c8 => ?_)
          · rw [List.append_nil]
            refine ⟨d2, hL, hF, ⟨hs1, hs2, by omega⟩, hR, nfr_tc_labelCase k7 hnn, by rw [q7]; omega, by rw [qo 14 (by decide)]; exact h14, by rw [qo 15 (by decide)]; exact h15⟩
          · rw [g3, pk_un (by omega)]
          · rw [List.append_nil]
            show AT tfa tf191 (((att (kd ta) (vd ta) (lkp (L0 ++ X)) (fun v => flk v Flq') e [] 0).bind aKon).bind fun x => if x.2.2.1 ∈ cs then none else some (L0 ++ X, w, h, cs ++ [x.2.2.1], df)) _
            have d5 := d4 cs c1
            intro u
            have d6 := d5 u
            cases ha : (att (kd ta) (vd ta) (lkp (L0 ++ X)) (fun v => flk v Flq') e [] 0).bind aKon with
            | none =>
              rw [ha] at d6
              exact d6
            | some x =>
              rw [ha] at d6
              dsimp only [Option.bind] at d6 ⊢
              by_cases hm : x.2.2.1 ∈ cs
              · rw [if_pos hm] at d6 ⊢
                exact d6
              · rw [if_neg hm] at d6 ⊢
                have d7 : Un tf191 ∧ CsM fc cf189 ca190 (cs ++ [x.2.2.1]) := d6
                refine ⟨d7.1, rfl, by rw [qo 12 (by decide)]; exact c3, by rw [qo 13 (by decide)]; exact c4, d7.2, c2, c5, ?_, c7, c8⟩
                show w ≤ _
                omega
        · rw [if_neg hk1] at hit d1
          rw [hit]
          exact tk.2 d1
end SF
