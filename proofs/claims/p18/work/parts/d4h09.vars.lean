/-- where the words of variables are counted: of the text, of a function -/
def wc (fo : Option Nat) : Nat := match fo with
  | none => 11
  | some _ => 12
def tpF (fo : Option Nat) : Bool := match fo with
  | none => true
  | some _ => false
/-- what follows a name that is no row -/
def pSin (k : Nat → Int) (t : Nat) (o : Int) : Option (Option Ast × Nat) := if k t = 256 then (match pE k (-1) (t + 1) o with
    | none => none
    | some (e, t1) => some (some e, t1)) else some (none, t)
def semSin (k : Nat → Int) (vl : Nat → Int32) (G : Int32 → Option Ent) (F : Int32 → Option Fnc) (tp : Bool) (h : Int) : Option Ast → Option Int
  | none => some h
  | some e => ((att k vl G F e [] 0).bind (if tp = true then aKon else aNum)).bind fun a => some (if tp = true then h else max h a.2.2.2)
/-- the size of a row, and whether = follows -/
def pRw (k : Nat → Int) (t : Nat) (o : Int) : Option (Ast × Bool × Nat) := if k t = 91 ∧ o < 60 then (match pE k 0 (t + 1) (o + 1) with
    | none => none
    | some (e, t1) => if k t1 = 93 then (if k (t1 + 1) = 256 then some (e, true, t1 + 2) else some (e, false, t1 + 1)) else none) else none
section S2
variable {ta : Nat → Nat → Int32} {cn sn : Nat} {na : Nat → Nat → Int32} {own own' : Bool} {P : va_W} {lf lf' nf : Nat → Int32} {lg lg' : Nat → Option Nat} {ff : Nat → Int32} {fg : Nat → Option Nat} {lq lc lq' lc' fa : Nat}
variable {tf fp cd tf' fp' cd' fx fx' cf cf' fs sd fs' sd' sf sf' : Nat → Int32} {ox ox' fo : Option Nat} {c t sc : Nat} {o n : Int} {a : Atr} {L : Nms} {Flq' : List (Int32 × Fnc)}
variable {G : Int32 → Option Ent} {F : Int32 → Option Fnc}
theorem sin_ok (hG : EnvC own P lf lg G) (hF : FunC na P ff fg F) (hl : Lst0 ta c) (h : R_tc_single fo ta cn na own lf lg ff fg P sn cf tf fp cd fs sd sf cf' tf' fp' cd' fs' sd' sf') (hc : Cur tf c t o) :
    (∃ v, sf' = upd sf 3 v) ∧ (∀ i : Nat, i ≠ wc fo → i ≠ 13 → cf' i = cf i) ∧ (∃ z : Int32, z = cf (wc fo) + 1 ∧ cf' (wc fo) = z) ∧ match pSin (kd ta) t o with
      | none => Flq tf'
      | some (e, t1) => Cur tf' c t1 o ∧ t ≤ t1 ∧ AT tf tf' (semSin (kd ta) (vd ta) G F (tpF fo) (cf 13).toInt e) (fun h => (cf' 13).toInt = h ∧ h ≤ max (cf 13).toInt (2 * ((t1 : Int) - (t : Int)))) := by
  obtain ⟨k, h⟩ := h
  have e13 : wc fo ≠ 13 := by
    cases fo with
    | none => exact (by decide : (11 : Nat) ≠ 13)
    | some _ => exact (by decide : (12 : Nat) ≠ 13)
  /- behind the = -/
  have fin : ∀ {k : Nat} {x : Int32} {cfa tfa fpa cda fsa sda sfa : Nat → Int32}, E_tc_single fo ta cn na own lf lg ff fg P sn cf' tf' fp' cd' fs' sd' sf' k 47 [x] [] [] [] [] cfa tfa fpa cda fsa sda sfa → (∃ v, sfa = upd sf 3 v) → (∃ z : Int32, z = cf (wc fo) + 1 ∧ cfa = upd cf (wc fo) z) → SmC tf tfa → ((x.toInt = 0 ∧ ¬ kd ta t = 256 ∧ Cur tfa c t o) ∨ (¬ x.toInt = 0 ∧ kd ta t = 256 ∧ Cur tfa c (t + 1) o)) →
    (∃ v, sf' = upd sf 3 v) ∧ (∀ i : Nat, i ≠ wc fo → i ≠ 13 → cf' i = cf i) ∧ (∃ z : Int32, z = cf (wc fo) + 1 ∧ cf' (wc fo) = z) ∧ match pSin (kd ta) t o with
      | none => Flq tf'
      | some (e, t1) => Cur tf' c t1 o ∧ t ≤ t1 ∧ AT tf tf' (semSin (kd ta) (vd ta) G F (tpF fo) (cf 13).toInt e) (fun h => (cf' 13).toInt = h ∧ h ≤ max (cf 13).toInt (2 * ((t1 : Int) - (t : Int)))) := by
    intro k x cfa tfa fpa cda fsa sda sfa hE hsf hcf hsm hx
    obtain ⟨z, hz, ez⟩ := hcf
    have c13 : cfa 13 = cf 13 := by rw [ez, pk_un (Ne.symm e13)]
    have cw : cfa (wc fo) = z := by rw [ez, pk_us]
    have co : ∀ i : Nat, i ≠ wc fo → i ≠ 13 → cfa i = cf i := fun i q _ => by rw [ez, pk_un q]
    rcases iv_tc_single_47 hE with ⟨k, (⟨h1, tf6, fp7, cd8, hx9, ox10, fx11, h2, (⟨h3, tf85, fp86, cd87, fx88, h4, fs106, sd107, v109, h5, e0, e1, e2, e3, e4, e5, e6⟩ | ⟨q39, h3, tf45, fp46, cd47, fx48, h4, z64, h5, fp67, cd68, v70, h6, fp75, cd76, v78, h7, e0, e1, e2, e3, e4, e5, e6⟩)⟩ | ⟨h1, e0, e1, e2, e3, e4, e5, e6⟩)⟩
    · rcases hx with ⟨q, -⟩ | ⟨-, hk, hca⟩
      · exact absurd q h1
      · rw [e0, e1, e6]
        refine ⟨hsf, co, ⟨z, hz, cw⟩, ?_⟩
        unfold pSin
        rw [if_pos hk]
        have h2' := exP_ok hG hF hl h2 hca
        rw [show ((-1 : Int32)).toInt = -1 from rfl] at h2'
        cases hr : pE (kd ta) (-1) (t + 1) o with
        | none =>
          rw [hr] at h2'
          exact (set_r h4).1.fl h2'
        | some r =>
          obtain ⟨e, t1⟩ := r
          rw [hr] at h2'
          obtain ⟨a1, a2, a3, a4⟩ := h2'
          refine ⟨(set_r h4).1.cur a1, by omega, ?_⟩
          subst h3
          show AT tf _ (((att (kd ta) (vd ta) G F e [] 0).bind aKon).bind fun a => some (cf 13).toInt) _
          exact AT.bind (AT.bind (AT.sm hsm a4) (fun a ha => set_at h4 a1 ha) (set_bk h4)) (fun b hb => AT.ret ⟨by rw [c13], by omega⟩) BK.rf
    · rcases hx with ⟨q, -⟩ | ⟨-, hk, hca⟩
      · exact absurd q h1
      · subst h3
        rw [e0, e1, e6]
        refine ⟨hsf, fun i q1 q2 => by rw [pk_un q2]; exact co i q1 q2, ⟨z, hz, by rw [pk_un e13]; exact cw⟩, ?_⟩
        unfold pSin
        rw [if_pos hk]
        have h2' := exP_ok hG hF hl h2 hca
        rw [show ((-1 : Int32)).toInt = -1 from rfl] at h2'
        cases hr : pE (kd ta) (-1) (t + 1) o with
        | none =>
          rw [hr] at h2'
          exact (num_r h4).1.fl h2'
        | some r =>
          obtain ⟨e, t1⟩ := r
          rw [hr] at h2'
          obtain ⟨a1, a2, a3, a4⟩ := h2'
          refine ⟨(num_r h4).1.cur a1, by omega, ?_⟩
          show AT tf _ (((att (kd ta) (vd ta) G F e [] 0).bind aNum).bind fun a => some (max (cf 13).toInt a.2.2.2)) _
          refine AT.bind (AT.bind (AT.sm hsm a4) (fun a ha => num_at h4 a1 ha) (bkr_ex_number h4)) (fun b hb => AT.ret ?_) BK.rf
          have m7 := hb.2.2.2.2.2.2.1
          rw [pk_us, h5, mx_i, c13, m7.1]
          have := m7.2.2
          exact ⟨rfl, by omega⟩
    · rcases hx with ⟨-, hk, hca⟩ | ⟨q, -⟩
      · rw [e0, e1, e6]
        refine ⟨hsf, co, ⟨z, hz, cw⟩, ?_⟩
        unfold pSin
        rw [if_neg hk]
        refine ⟨hca, Nat.le_refl _, ?_⟩
        show AT tf tfa (some (cf 13).toInt) _
        exact AT.sm hsm (AT.ret ⟨by rw [c13], by omega⟩)
      · exact absurd h1 q
  have rm : ∀ {cfa : Nat → Int32} {v : Int32}, R_tc_room fo 1 cf cfa v → ∃ z : Int32, z = cf (wc fo) + 1 ∧ cfa = upd cf (wc fo) z := by
    intro cfa v q
    rcases room_r q with ⟨rfl, z, q1, q2, -⟩ | ⟨⟨q', rfl⟩, z, q1, q2, -⟩
    · exact ⟨z, q1, q2⟩
    · exact ⟨z, q1, q2⟩
  rcases iv_tc_single_0 h with ⟨k, cf112, v114, h1, tf121, v123, h2, (⟨h3, hE⟩ | ⟨h3, (⟨h4, hE⟩ | ⟨q135, h4, fp139, cd140, v142, h5, hE⟩)⟩)⟩
  · rcases accept_cur (p0 := 256) h2 hc hl (by decide) (by decide) with ⟨q1, q2, q3, q4⟩ | ⟨q1, q2, q3⟩
    · exact fin hE ⟨_, rfl⟩ (rm h1) q4 (Or.inr ⟨h3, by unfold kd; rw [q1]; rfl, q3⟩)
    · rw [q2] at h3; exact absurd (by rfl) h3
  · rcases accept_cur (p0 := 256) h2 hc hl (by decide) (by decide) with ⟨q1, q2, q3, q4⟩ | ⟨q1, q2, q3⟩
    · rw [q2] at h3; exact absurd h3 (by decide)
    · rw [q3] at hE
      exact fin hE ⟨_, rfl⟩ (rm h1) SmC.rf (Or.inl ⟨h3, fun q => q1 (i_eq.mpr q), hc⟩)
  · rcases accept_cur (p0 := 256) h2 hc hl (by decide) (by decide) with ⟨q1, q2, q3, q4⟩ | ⟨q1, q2, q3⟩
    · rw [q2] at h3; exact absurd h3 (by decide)
    · rw [q3] at hE
      exact fin hE ⟨_, rfl⟩ (rm h1) SmC.rf (Or.inl ⟨h3, fun q => q1 (i_eq.mpr q), hc⟩)
theorem dec_ok (hn : ND P) (hL : EnvL own P lf lg L) (hs4 : (nf 4).toInt = (sc : Int)) (hFL : FunL na P ff fg Flq') {p0 : Int32} {s : Nat → Int32} {g : Ent} (h : R_tc_declare fo nf ff fg P fa p0 tf own lq lc lf lg tf' own' lq' lc' lf' lg') (hc : Cur tf c t o) (hp : p0.toInt < (c : Int)) (hS : SymAt P fa s) (hg : EntM s g) (h2' : ¬ (s 1).toInt = 2) :
    SmB tf tf' ∧ EnvL own' P lf' lg' (L ++ [(s 0, g)]) ∧ AT tf tf' (dcl (tpF fo) (fun v => flk v Flq') sc L (s 0) g) (fun L' => L' = L ++ [(s 0, g)]) := by
  obtain ⟨k, h⟩ := h
  have h10 := hc.1
  have fin : ∀ {k : Nat} {tfa : Nat → Int32}, E_tc_declare fo nf ff fg P fa p0 tf' own' lq' lc' lf' lg' k 54 [] [] [] [] [] tfa own lq lc lf lg → tf' = tfa ∧ EnvL own' P lf' lg' (L ++ [(s 0, g)]) := by
    intro k tfa q
    obtain ⟨k, own6, lq7, lc8, lf9, lg10, q1, e0, e1, e2, e3, e4, e5⟩ := iv_tc_declare_54 q
    rw [e1, e4, e5]
    exact ⟨e0, add_env hL q1 hS hg h2'⟩
  have no : ((tpF fo = true ∧ (flk (s 0) Flq').isSome = true) ∨ knN L (s 0) sc L.length = true) → dcl (tpF fo) (fun v => flk v Flq') sc L (s 0) g = none := fun q => if_pos q
  have yes : ¬ ((tpF fo = true ∧ (flk (s 0) Flq').isSome = true) ∨ knN L (s 0) sc L.length = true) → dcl (tpF fo) (fun v => flk v Flq') sc L (s 0) g = some (L ++ [(s 0, g)]) := fun q => if_neg q
  have kn : ∀ {s' : Nat → Int32} {j : Nat} {v : Int32}, P[j]? = some (syC fa s') → R_nm_isKnownHere own P nf lf lg (s' 0) v → v.toInt = if knN L (s 0) sc L.length then 1 else 0 := by
    intro s' j v q1 q2
    rw [← (hn.sym hS ⟨_, q1⟩).1] at q2
    exact known_all hn hL hs4 q2
  rcases iv_tc_declare_0 h with ⟨k, (⟨h1, j49, s50, h2, v53, h3, (⟨h4, v61, h5, (⟨h6, hE⟩ | ⟨h6, tf66, h7, hE⟩)⟩ | ⟨q57, h4, tf76, h5, hE⟩)⟩ | ⟨q28, h1, j31, s32, h2, v35, h3, (⟨h4, hE⟩ | ⟨h4, tf40, h5, hE⟩)⟩)⟩
  · obtain ⟨q1, q2⟩ := fin hE
    rw [q1]
    have := kn h2 h5
    have hk : knN L (s 0) sc L.length = false := by
      cases hk : knN L (s 0) sc L.length with
      | false => rfl
      | true => rw [hk] at this; rw [h6] at this; exact absurd this (by decide)
    have hf : flk (s 0) Flq' = none := by
      rcases fun_first hn hFL h3 with ⟨p1, -⟩ | ⟨j, e, p1, p2, p3, p4⟩
      · rw [(hn.sym hS ⟨_, h2⟩).1]; exact flk_none p1
      · obtain ⟨q, s', e1, -⟩ := hFL.2.2 j e p1
        rw [h4, e1] at p4; exact absurd p4 (by simp)
    refine ⟨SmB.rf, q2, ?_⟩
    rw [yes (by rw [hk, hf]; simp)]
    exact AT.ret rfl
  · obtain ⟨q1, q2⟩ := fin hE
    rw [q1]
    have := kn h2 h5
    have hk : knN L (s 0) sc L.length = true := by
      cases hk : knN L (s 0) sc L.length with
      | true => rfl
      | false => rw [hk] at this; exact absurd this h6
    refine ⟨blame_b h7, q2, ?_⟩
    rw [no (Or.inr hk)]
    exact AT.bad h7 (by decide) (by omega)
  · obtain ⟨q1, q2⟩ := fin hE
    rw [q1]
    have hf : (flk (s 0) Flq').isSome = true := by
      rcases fun_first hn hFL h3 with ⟨p1, p2⟩ | ⟨j, e, p1, p2, p3, p4⟩
      · rw [h4] at p2; exact absurd p2 (by simp)
      · rw [(hn.sym hS ⟨_, h2⟩).1, flk_some p1 p2 p3]; rfl
    refine ⟨blame_b h5, q2, ?_⟩
    rw [no (Or.inl ⟨by rw [h1]; rfl, hf⟩)]
    exact AT.bad h5 (by decide) (by omega)
  · obtain ⟨q1, q2⟩ := fin hE
    rw [q1]
    have := kn h2 h3
    have hk : knN L (s 0) sc L.length = false := by
      cases hk : knN L (s 0) sc L.length with
      | false => rfl
      | true => rw [hk] at this; rw [h4] at this; exact absurd this (by decide)
    refine ⟨SmB.rf, q2, ?_⟩
    rw [yes (by rw [hk, h1]; simp [tpF])]
    exact AT.ret rfl
  · obtain ⟨q1, q2⟩ := fin hE
    rw [q1]
    have := kn h2 h3
    have hk : knN L (s 0) sc L.length = true := by
      cases hk : knN L (s 0) sc L.length with
      | true => rfl
      | false => rw [hk] at this; exact absurd this h4
    refine ⟨blame_b h5, q2, ?_⟩
    rw [no (Or.inr hk)]
    exact AT.bad h5 (by decide) (by omega)
end S2
