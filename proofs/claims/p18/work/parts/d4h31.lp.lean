/-! a text -/
def pItems (k : Nat → Int) : Nat → Nat → Option (Ast × Nat)
  | 0, _ => none
  | n + 1, t => if k t = 0 then some (.null, t) else (match pItem k t 0 with
    | none => none
    | some (it, t1) => (match pItems k n t1 with
      | none => none
      | some (r, t2) => some (.add it r, t2)))
def fnsO (vl : Nat → Int32) : Ast → List FnE
  | .add it r => fnO vl it ++ fnsO vl r
  | _ => []
def semItems (k : Nat → Int) (vl : Nat → Int32) (ql : Nat → Int) (LX : List FnE) : Ast → Tg → Option Tg
  | .null, s => some s
  | .add it r, s => (semItem k vl ql LX it s).bind fun s' => semItems k vl ql LX r s'
  | _, _ => none
section SQ
variable {sn9 : Nat} {sb : Nat → Int32} {tp : Nat} {tb : Nat → Int32} {cn : Nat} {fn : Nat} {sn : Nat} {p0 : Int32}
variable {cf' : Nat → Int32} {ca' : Nat → Nat → Int32} {fo' : Option Nat} {tf' : Nat → Int32} {ta' : Nat → Nat → Int32} {ob6' : Option Nat} {fp' : Nat → Int32} {cd' : Nat → Int32} {ft' : Nat → Int32} {nf' : Nat → Int32} {na' : Nat → Nat → Int32} {own' : Bool} {lq' : Nat} {lc' : Nat} {lf' : Nat → Int32} {lg' : Nat → Option Nat} {fq' : Nat} {fc' : Nat} {ff' : Nat → Int32} {fg' : Nat → Option Nat} {P' : va_W} {fs' : Nat → Int32} {sd' : Nat → Int32} {v : Int32}
variable {c : Nat} {x3 : Int32} {ta : Nat → Nat → Int32}
theorem lp_ok (hl : Lst0 ta c) (hN : ND P') (hcp : (c : Int) ≤ p0.toInt + 1) :
    ∀ (n i k : Nat) (x4 : Int32) (cf : Nat → Int32) (ca : Nat → Nat → Int32) (fo : Option Nat) (tf : Nat → Int32) (ob6 : Option Nat) (fp : Nat → Int32) (cd : Nat → Int32) (ft : Nat → Int32) (nf : Nat → Int32) (na : Nat → Nat → Int32) (own : Bool) (lq : Nat) (lc : Nat) (lf : Nat → Int32) (lg : Nat → Option Nat) (fq : Nat) (fc : Nat) (ff : Nat → Int32) (fg : Nat → Option Nat) (P : va_W) (fs : Nat → Int32) (sd : Nat → Int32) (t : Nat) (L : Nms) (LX : List FnE) (W m : Nat), E_tc_compile sn9 sb tp tb cn fn sn p0 cf' ca' fo' tf' ta' ob6' fp' cd' ft' nf' na' own' lq' lc' lf' lg' fq' fc' ff' fg' P' fs' sd' v k 53 [x3, x4] [] [] [] [] cf ca fo tf ta ob6 fp cd ft nf na own lq lc lf lg fq fc ff fg P fs sd → x4.toInt = (i : Int) → i ≤ t → 2050 ≤ n + t → TopI c cn t L LX W m cf fo tf fp nf na own lf lg ff fg P → ((cf 8).toInt = 0 → ∃ (tree : Ast) (t2 : Nat), pItems (kd ta) n t = some (tree, t2) ∧ LX.drop (10 + m) = fnsO (vd ta) tree) →
      (pItems (kd ta) n t = none ∧ v = -1 ∧ ta' = ta) ∨ ∃ (tree : Ast) (t2 k : Nat) (z : Int32) (cf2 : Nat → Int32) (ca2 : Nat → Nat → Int32) (fo2 : Option Nat) (tf2 : Nat → Int32) (ob62 : Option Nat) (fp2 : Nat → Int32) (cd2 : Nat → Int32) (ft2 : Nat → Int32) (nf2 : Nat → Int32) (na2 : Nat → Nat → Int32) (own2 : Bool) (lq2 : Nat) (lc2 : Nat) (lf2 : Nat → Int32) (lg2 : Nat → Option Nat) (fq2 : Nat) (fc2 : Nat) (ff2 : Nat → Int32) (fg2 : Nat → Option Nat) (P2 : va_W) (fs2 : Nat → Int32) (sd2 : Nat → Int32), pItems (kd ta) n t = some (tree, t2) ∧ E_tc_compile sn9 sb tp tb cn fn sn p0 cf' ca' fo' tf' ta' ob6' fp' cd' ft' nf' na' own' lq' lc' lf' lg' fq' fc' ff' fg' P' fs' sd' v k 137 [x3, z] [] [] [] [] cf2 ca2 fo2 tf2 ta ob62 fp2 cd2 ft2 nf2 na2 own2 lq2 lc2 lf2 lg2 fq2 fc2 ff2 fg2 P2 fs2 sd2 ∧ cf2 8 = cf 8 ∧ BK tf tf2 ∧ ∃ (L2 : Nms) (W2 : Nat) (LX2 : List FnE) (m2 : Nat), TopI c cn t2 L2 LX2 W2 m2 cf2 fo2 tf2 fp2 nf2 na2 own2 lf2 lg2 ff2 fg2 P2 ∧ (¬ (cf 8).toInt = 0 → LX2 = LX ++ fnsO (vd ta) tree) ∧ ((cf 8).toInt = 0 → LX2 = LX ∧ m2 = m + (fnsO (vd ta) tree).length ∧ ∀ g : Int, (cf 11).toInt = g → 0 ≤ g → g ≤ 4096 * (t : Int) → AT tf tf2 (semItems (kd ta) (vd ta) (qlS ta) LX tree (L, g, 10 + m)) (fun s => s.1 = L2 ∧ (cf2 11).toInt = s.2.1 ∧ 0 ≤ s.2.1 ∧ s.2.1 ≤ 4096 * (t2 : Int) ∧ s.2.2 = 10 + m2)) := by
  intro n
  induction n with
  | zero =>
    intro i k x4 cf ca fo tf ob6 fp cd ft nf na own lq lc lf lg fq fc ff fg P fs sd t L LX W m h hx hi hn hT hp
    have c1 := hT.1.2.2.2.2.1
    have c2 := hT.1.2.2.2.2.2.1
    exfalso; omega
  | succ n ih =>
    intro i k x4 cf ca fo tf ob6 fp cd ft nf na own lq lc lf lg fq fc ff fg P fs sd t L LX W m h hx hi hn hT hp
    have hc := hT.1
    have c1 := hc.2.2.2.2.1
    have c2 := hc.2.2.2.2.2.1
    have un : pItems (kd ta) (n + 1) t = if kd ta t = 0 then some (.null, t) else (match pItem (kd ta) t 0 with
      | none => none
      | some (it, t1) => (match pItems (kd ta) n t1 with
        | none => none
        | some (r, t2) => some (.add it r, t2))) := by first | rfl | simp [pItems]
    by_cases hz : kd ta t = 0
    · rw [if_pos hz] at un
      rcases iv_tc_compile_53 h with ⟨k, (⟨g1, hE⟩ | ⟨g1, (⟨g2, hE⟩ | ⟨g2, v330, g3, (⟨g4, hE⟩ | ⟨g4, cf363, fo364, tf365, fp366, cd367, nf368, na369, own370, lq371, lc372, lf373, lg374, fq375, fc376, ff377, fg378, P379, fs380, sd381, v383, g5, (⟨g6, z421, g7, hE⟩ | ⟨g6, hE⟩)⟩)⟩)⟩)⟩
      · exfalso; omega
      · exact absurd hc.2.2.2.1 g2
      · refine Or.inr ⟨.null, t, k, x4, _, _, _, _, _, _, _, _, _, _, _, _, _, _, _, _, _, _, _, _, _, _, un, hE, rfl, BK.rf, L, W, LX, m, hT, fun _ => ?_, fun _ => ⟨rfl, rfl, fun g w1 w2 w3 => ?_⟩⟩
        · show LX = LX ++ []
          rw [List.append_nil]
        · show AT tf tf (some (L, g, 10 + m)) _
          exact AT.ret ⟨rfl, w1, w2, w3, rfl⟩
      · rw [kind_cur g3 hc] at g4; exact absurd hz g4
      · rw [kind_cur g3 hc] at g4; exact absurd hz g4
    · rw [if_neg hz] at un
      have hp' : (cf 8).toInt = 0 → ∃ (it : Ast) (t1 : Nat) (rest : List FnE), pItem (kd ta) t 0 = some (it, t1) ∧ LX.drop (10 + m) = fnO (vd ta) it ++ rest := by
        intro h8
        obtain ⟨tree, t2, p1, p2⟩ := hp h8
        rw [un] at p1
        cases hi' : pItem (kd ta) t 0 with
        | none => rw [hi'] at p1; exact absurd p1 (by simp)
        | some r =>
          obtain ⟨it, t1⟩ := r
          rw [hi'] at p1
          cases hr : pItems (kd ta) n t1 with
          | none =>
            have p1' : (match pItems (kd ta) n t1 with
              | none => none
              | some (r, t2) => some (Term.add it r, t2)) = some (tree, t2) := p1
            rw [hr] at p1'; exact absurd p1' (by simp)
          | some r2 =>
            obtain ⟨r, t3⟩ := r2
            have p1' : (match pItems (kd ta) n t1 with
              | none => none
              | some (r, t2) => some (Term.add it r, t2)) = some (tree, t2) := p1
            rw [hr] at p1'
            have e3 : Term.add it r = tree := congrArg Prod.fst (Option.some.inj p1')
            rw [← e3] at p2
            exact ⟨it, t1, fnsO (vd ta) r, rfl, p2⟩
      rcases rd_ok hl hN h (by omega) hT hz hp' with ⟨q1, q2⟩ | ⟨it, t1, k, z, cf2, ca2, fo2, tf2, ob62, fp2, cd2, ft2, nf2, na2, own2, lq2, lc2, lf2, lg2, fq2, fc2, ff2, fg2, P2, fs2, sd2, q1, qz, hE, q3, q4, q5, L2, W2, LX2, m2, q6, q7, q8⟩
      · rw [q1] at un
        exact Or.inl ⟨un, q2⟩
      · rw [q1] at un
        have un' : pItems (kd ta) (n + 1) t = (match pItems (kd ta) n t1 with
          | none => none
          | some (r, t2) => some (.add it r, t2)) := un
        have c3 := q6.1.2.2.2.2.1
        have hz1 := ti_add qz hx (show (1 : Int32).toInt = 1 from rfl) (by omega) (by omega)
        have hp2 : (cf2 8).toInt = 0 → ∃ (tree : Ast) (t2 : Nat), pItems (kd ta) n t1 = some (tree, t2) ∧ LX2.drop (10 + m2) = fnsO (vd ta) tree := by
          intro h8
          rw [q4] at h8
          obtain ⟨e1, e2, -⟩ := q8 h8
          obtain ⟨tree, t2, p1, p2⟩ := hp h8
          rw [un'] at p1
          cases hr : pItems (kd ta) n t1 with
          | none => rw [hr] at p1; exact absurd p1 (by simp)
          | some r2 =>
            obtain ⟨r, t3⟩ := r2
            rw [hr] at p1
            have e3 : Term.add it r = tree := congrArg Prod.fst (Option.some.inj p1)
            rw [← e3] at p2
            refine ⟨r, t3, rfl, ?_⟩
            have p2' : LX.drop (10 + m) = fnO (vd ta) it ++ fnsO (vd ta) r := p2
            rw [e1, e2, show 10 + (m + (fnO (vd ta) it).length) = (10 + m) + (fnO (vd ta) it).length by omega, ← List.drop_drop, p2', List.drop_left]
        rcases ih (i + 1) k z cf2 ca2 fo2 tf2 ob62 fp2 cd2 ft2 nf2 na2 own2 lq2 lc2 lf2 lg2 fq2 fc2 ff2 fg2 P2 fs2 sd2 t1 L2 LX2 W2 m2 hE (by omega) (by omega) (by omega) q6 hp2 with ⟨r1, r2⟩ | ⟨r, t2, k, z2, cf3, ca3, fo3, tf3, ob63, fp3, cd3, ft3, nf3, na3, own3, lq3, lc3, lf3, lg3, fq3, fc3, ff3, fg3, P3, fs3, sd3, r1, hE2, r3, r4, L3, W3, LX3, m3, r5, r6, r7⟩
        · rw [r1] at un'
          exact Or.inl ⟨un', r2⟩
        · rw [r1] at un'
          refine Or.inr ⟨.add it r, t2, k, z2, _, _, _, _, _, _, _, _, _, _, _, _, _, _, _, _, _, _, _, _, _, _, un', hE2, r3.trans q4, q5.tr r4, L3, W3, LX3, m3, r5, fun h8 => ?_, fun h8 => ?_⟩
          · rw [r6 (by rw [q4]; exact h8), q7 h8, List.append_assoc]; rfl
          · obtain ⟨e1, e2, e3⟩ := q8 h8
            obtain ⟨f1, f2, f3⟩ := r7 (by rw [q4]; exact h8)
            refine ⟨f1.trans e1, ?_, fun g w1 w2 w3 => ?_⟩
            · show m3 = m + (fnO (vd ta) it ++ fnsO (vd ta) r).length
              rw [f2, e2, List.length_append]; omega
            · show AT tf tf3 ((semItem (kd ta) (vd ta) (qlS ta) LX it (L, g, 10 + m)).bind fun s' => semItems (kd ta) (vd ta) (qlS ta) LX r s') _
              refine AT.bind (e3 g w1 w2 w3) (fun s hs => ?_) r4
              obtain ⟨s1, s2, s3, s4, s5⟩ := hs
              obtain ⟨y1, y2, y3⟩ := s
              have s1' : y1 = L2 := s1
              have s5' : y3 = 10 + m2 := s5
              subst s1' s5'
              rw [e1] at f3
              exact f3 y2 s2 s3 s4
end SQ
/-- the first function of that name -/
def flkX (v : Int32) : List FnE → Option (Int × List Int)
  | [] => none
  | e :: r => if e.1 = v then some e.2 else flkX v r
theorem main_2 {na : Nat → Nat → Int32} {P : va_W} {ff : Nat → Int32} {fg : Nat → Option Nat} {W : Nat} {LX : List FnE} (hn : ND P) (hX : FunX na P ff fg W LX) {v : Int32} {r : Option Nat} :
    ∀ (d i : Nat) (x : Int32) (k : Nat), E_nm_main P ff fg v r k 2 [x] [] [] [] [] () → x.toInt = (i : Int) → i + d = LX.length → (flkX v (LX.drop i) = none ∧ r = none) ∨ ∃ (j : Nat) (e : FnE) (q : Nat) (s : Nat → Int32) (b : Nat), flkX v (LX.drop i) = some e.2 ∧ r = some q ∧ FnAq na P fg j e q s b ∧ b + e.2.2.length ≤ W := by
  obtain ⟨X1, X2, X3, X4, X5⟩ := hX
  intro d
  induction d with
  | zero =>
    intro i x k h hx hd
    rcases iv_nm_main_2 h with ⟨k, v2, h1, (⟨h2, ev⟩ | ⟨h2, q10, h3, j11, s12, h4, (⟨h5, z16, h6, hE⟩ | ⟨h5, ev⟩)⟩)⟩
    · refine Or.inl ⟨?_, ev⟩
      rw [List.drop_eq_nil_of_le (by omega)]
      rfl
    · exfalso
      rcases h1 with q | q
      · rw [q] at h2; omega
      · exact q.elim
    · exfalso
      rcases h1 with q | q
      · rw [q] at h2; omega
      · exact q.elim
  | succ d ih =>
    intro i x k h hx hd
    have hlt : i < LX.length := by omega
    have hg : LX[i]? = some LX[i] := List.getElem?_eq_getElem hlt
    obtain ⟨q, s, b, hA, hb⟩ := X4 i _ hg
    have hA' := hA
    obtain ⟨e1, e2, e3, -⟩ := hA'
    have hxn : x.toNatClampNeg = i := cn_of hx
    have ed : flkX v (LX.drop i) = if LX[i].1 = v then some LX[i].2 else flkX v (LX.drop (i + 1)) := by
      rw [List.drop_eq_getElem_cons hlt]
      rfl
    rw [ed]
    rcases iv_nm_main_2 h with ⟨k, v2, h1, (⟨h2, ev⟩ | ⟨h2, q10, h3, j11, s12, h4, (⟨h5, z16, h6, hE⟩ | ⟨h5, ev⟩)⟩)⟩
    · exfalso
      rcases h1 with q | q
      · rw [q] at h2; omega
      · exact q.elim
    · rw [hxn, e1] at h3
      obtain rfl := Option.some.inj h3
      have hs := hn.sym e2 ⟨_, h4⟩
      have hne : ¬ LX[i].1 = v := fun z => h5 (by rw [← hs.1, e3, z])
      have hz := ti_add h6 hx (show (1 : Int32).toInt = 1 from rfl) (by omega) (by omega)
      rw [if_neg hne]
      exact ih (i + 1) _ k hE (by omega) (by omega)
    · rw [hxn, e1] at h3
      obtain rfl := Option.some.inj h3
      have hs := hn.sym e2 ⟨_, h4⟩
      rw [if_pos (i_eq.mpr (by rw [← e3, hs.1]; exact h5))]
      exact Or.inr ⟨i, _, _, s, b, rfl, ev, hA, hb⟩
def mainOk (LX : List FnE) : Bool := decide (flkX 25 LX = some (1, [1]))
def jdg (LX : List FnE) (m : Nat) (g : Int) : Option Unit := if mainOk LX = true ∧ m ≤ 200 ∧ g ≤ 8192 then some () else none
theorem jd_ok {cf tf fs sd tf' fs' sd' : Nat → Int32} {na : Nat → Nat → Int32} {ff : Nat → Int32} {fg : Nat → Option Nat} {P : va_W} {sn c t W m : Nat} {o : Int} {LX : List FnE} (hn : ND P) (hX : FunX na P ff fg W LX) (hc : Cur tf c t o) (h10 : (cf 10).toInt = (m : Int)) (h : R_tc_judge cf na ff fg P sn tf fs sd tf' fs' sd') : AT tf tf' (jdg LX m (cf 11).toInt) (fun _ => True) := by
  obtain ⟨k, h⟩ := h
  have hX' := hX
  obtain ⟨X1, X2, X3, X4, X5⟩ := hX'
  /- the second half -/
  have fin : ∀ {k : Nat} {tfx fsx sdx : Nat → Int32}, E_tc_judge cf na ff fg P sn tf' fs' sd' k 94 [] [] [] [] [] tfx fsx sdx → Cur tfx c t o → AT tfx tf' (if m ≤ 200 ∧ (cf 11).toInt ≤ 8192 then some () else none) (fun _ => True) := by
    intro k tfx fsx sdx hE hcx
    rcases iv_tc_judge_94 hE with ⟨k, (⟨h1, v4, h2, tf7, h3, e0, e1, e2⟩ | ⟨h1, (⟨h2, e0, e1, e2⟩ | ⟨h2, v19, h3, tf22, h4, e0, e1, e2⟩)⟩)⟩
    · rw [e0, if_neg (by omega)]
      exact AT.bad h3 (by decide) (last_r h2 hcx)
    · rw [e0, if_pos (by omega)]
      exact AT.ret trivial
    · rw [e0, if_neg (by omega)]
      exact AT.bad h4 (by decide) (last_r h3 hcx)
  have good : ∀ {tfx : Nat → Int32}, mainOk LX = true → AT tfx tf' (if m ≤ 200 ∧ (cf 11).toInt ≤ 8192 then some () else none) (fun _ => True) → AT tfx tf' (jdg LX m (cf 11).toInt) (fun _ => True) := by
    intro tfx q ha
    unfold jdg
    by_cases y : m ≤ 200 ∧ (cf 11).toInt ≤ 8192
    · rw [if_pos y] at ha
      rw [if_pos ⟨q, y⟩]
      exact ha
    · rw [if_neg y] at ha
      rw [if_neg (fun z => y z.2)]
      exact ha
  have bad : ∀ {k : Nat} {tfx fsx sdx : Nat → Int32} {v : Int32}, mainOk LX = false → R_tk_last tf v → R_tk_blame 12 v tf tfx → E_tc_judge cf na ff fg P sn tf' fs' sd' k 94 [] [] [] [] [] tfx fsx sdx → AT tf tf' (jdg LX m (cf 11).toInt) (fun _ => True) := by
    intro k tfx fsx sdx v q g1 g2 hE
    unfold jdg
    rw [if_neg (fun z => by rw [q] at z; exact absurd z.1 (by decide))]
    intro u
    exact bke_tc_judge _ _ _ _ _ _ _ _ _ _ hE (blame_un g2 (by decide) (last_r g1 hc) u)
  have no : ¬ flkX 25 LX = some (1, [1]) → mainOk LX = false := fun q => decide_eq_false q
  have nm : ∀ {r : Option Nat}, R_nm_main P ff fg 25 r → (flkX 25 LX = none ∧ r = none) ∨ ∃ (j : Nat) (e : FnE) (q : Nat) (s : Nat → Int32) (b : Nat), flkX 25 LX = some e.2 ∧ r = some q ∧ FnAq na P fg j e q s b ∧ b + e.2.2.length ≤ W := by
    intro r q
    obtain ⟨k, q⟩ := q
    obtain ⟨k, hE⟩ := iv_nm_main_0 q
    have := main_2 hn hX LX.length 0 _ k hE (by rfl) (by omega)
    rw [List.drop_zero] at this
    exact this
  rcases iv_tc_judge_0 h with ⟨k, v32, h1, (⟨h2, v39, h3, tf42, h4, hE⟩ | ⟨q36, h2, j51, s52, h3, (⟨h4, v57, h5, tf60, h6, hE⟩ | ⟨h4, (⟨h5, v72, h6, tf75, h7, hE⟩ | ⟨h5, v85, h6, (⟨h7, z90, h8, fs93, sd94, v96, h9, fs100, sd101, v103, h10, hE⟩ | ⟨h7, v106, h8, tf109, h9, hE⟩)⟩)⟩)⟩)⟩
  · rcases nm h1 with ⟨p1, p2⟩ | ⟨j, e, q, s, b, p1, p2, p3, p4⟩
    · exact bad (no (by rw [p1]; simp)) h3 h4 hE
    · rw [p2] at h2; exact absurd h2 (by simp)
  · rcases nm h1 with ⟨p1, p2⟩ | ⟨j, e, q, s, b, p1, p2, ⟨a1, a2, a3, a4, a5, a6, a7, a8⟩, p4⟩
    · rw [p2] at h2; exact absurd h2 (by simp)
    · rw [p2] at h2
      obtain rfl := Option.some.inj h2
      have hs := hn.sym a2 ⟨_, h3⟩
      refine bad (no (fun z => h4 ?_)) h5 h6 hE
      rw [p1] at z
      have z' := Option.some.inj z
      rw [← hs.2.2.2.2.2.2, a5, z']
  · rcases nm h1 with ⟨p1, p2⟩ | ⟨j, e, q, s, b, p1, p2, ⟨a1, a2, a3, a4, a5, a6, a7, a8⟩, p4⟩
    · rw [p2] at h2; exact absurd h2 (by simp)
    · rw [p2] at h2
      obtain rfl := Option.some.inj h2
      have hs := hn.sym a2 ⟨_, h3⟩
      refine bad (no (fun z => h5 ?_)) h6 h7 hE
      rw [p1] at z
      have z' := Option.some.inj z
      rw [← hs.2.2.2.2.1, a6, z']
      rfl
  · rcases nm h1 with ⟨p1, p2⟩ | ⟨j, e, q, s, b, p1, p2, ⟨a1, a2, a3, a4, a5, a6, a7, a8⟩, p4⟩
    · rw [p2] at h2; exact absurd h2 (by simp)
    · rw [p2] at h2
      obtain rfl := Option.some.inj h2
      have hs := hn.sym a2 ⟨_, h3⟩
      have l1 : (e.2.2.length : Int) = 1 := by rw [← a6, hs.2.2.2.2.1]; exact h5
      have l2 : e.2.2.length = 1 := by omega
      obtain ⟨w, hw⟩ := List.length_eq_one_iff.mp l2
      have t1 : e.2.1 = 1 := by rw [← a5, hs.2.2.2.2.2.2]; exact h4
      have ww := (a8 0 w (by rw [hw]; rfl)).1
      have vw : v85 = na 2 (b + 0) := by
        have h6' : R_nm_want_r na P q 0 v85 := h6
        have e4 : (s52 4).toInt = 1 := h5
        rcases h6' with (⟨g1, ev⟩ | ⟨g1, j3, s4, g2, (⟨g3, z9, g4, (⟨g5, ev⟩ | ⟨g5, (⟨g6, ev⟩ | ⟨g6, z14, g7, ev⟩)⟩)⟩ | ⟨g3, ev⟩)⟩) | g
        · exact absurd g1 (by decide)
        · have ht := hn.sym a2 ⟨_, g2⟩
          exfalso
          have y := ti_add g4 (show (s4 3).toInt = (b : Int) by rw [← ht.2.2.2.1]; exact a7) (show (0 : Int32).toInt = 0 from rfl) (by omega) (by omega)
          omega
        · have ht := hn.sym a2 ⟨_, g2⟩
          exfalso
          have y := ti_add g4 (show (s4 3).toInt = (b : Int) by rw [← ht.2.2.2.1]; exact a7) (show (0 : Int32).toInt = 0 from rfl) (by omega) (by omega)
          omega
        · have ht := hn.sym a2 ⟨_, g2⟩
          have y := ti_add g4 (show (s4 3).toInt = (b : Int) by rw [← ht.2.2.2.1]; exact a7) (show (0 : Int32).toInt = 0 from rfl) (by omega) (by omega)
          have yn : z9.toNatClampNeg = b + 0 := cn_of (by omega)
          rw [ev, g7, yn]
        · have ht := hn.sym a2 ⟨_, g2⟩
          exfalso
          have y4 : (s4 4).toInt = (e.2.2.length : Int) := by rw [← ht.2.2.2.2.1]; exact a6
          have y5 : (0 : Int32).toInt = 0 := rfl
          omega
        · exact g.elim
      have mo : mainOk LX = true := by
        refine decide_eq_true ?_
        rw [p1]
        have e2 : e.2 = (1, [1]) := by
          refine Prod.ext t1 ?_
          rw [hw]
          have : w = 1 := by rw [← ww, ← vw]; exact h7
          rw [this]
        rw [e2]
      exact good mo (fin hE hc)
  · rcases nm h1 with ⟨p1, p2⟩ | ⟨j, e, q, s, b, p1, p2, ⟨a1, a2, a3, a4, a5, a6, a7, a8⟩, p4⟩
    · rw [p2] at h2; exact absurd h2 (by simp)
    · rw [p2] at h2
      obtain rfl := Option.some.inj h2
      have hs := hn.sym a2 ⟨_, h3⟩
      refine bad (no (fun z => h7 ?_)) h8 h9 hE
      rw [p1] at z
      have z' := Option.some.inj z
      have l2 : e.2.2 = [1] := by rw [z']
      have ww := (a8 0 1 (by rw [l2]; rfl)).1
      have h6' : R_nm_want_r na P q 0 v85 := h6
      have l1 : e.2.2.length = 1 := by rw [l2]; rfl
      rcases h6' with (⟨g1, ev⟩ | ⟨g1, j3, s4, g2, (⟨g3, z9, g4, (⟨g5, ev⟩ | ⟨g5, (⟨g6, ev⟩ | ⟨g6, z14, g7, ev⟩)⟩)⟩ | ⟨g3, ev⟩)⟩) | g
      · exact absurd g1 (by decide)
      · have ht := hn.sym a2 ⟨_, g2⟩
        exfalso
        have y := ti_add g4 (show (s4 3).toInt = (b : Int) by rw [← ht.2.2.2.1]; exact a7) (show (0 : Int32).toInt = 0 from rfl) (by omega) (by omega)
        omega
      · have ht := hn.sym a2 ⟨_, g2⟩
        exfalso
        have y := ti_add g4 (show (s4 3).toInt = (b : Int) by rw [← ht.2.2.2.1]; exact a7) (show (0 : Int32).toInt = 0 from rfl) (by omega) (by omega)
        omega
      · have ht := hn.sym a2 ⟨_, g2⟩
        have y := ti_add g4 (show (s4 3).toInt = (b : Int) by rw [← ht.2.2.2.1]; exact a7) (show (0 : Int32).toInt = 0 from rfl) (by omega) (by omega)
        have yn : z9.toNatClampNeg = b + 0 := cn_of (by omega)
        rw [ev, g7, yn]
        exact ww
      · have ht := hn.sym a2 ⟨_, g2⟩
        exfalso
        have y4 : (s4 4).toInt = (e.2.2.length : Int) := by rw [← ht.2.2.2.2.1]; exact a6
        have y5 : (0 : Int32).toInt = 0 := rfl
        omega
      · exact g.elim
