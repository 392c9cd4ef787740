/-! parameters -/
def pPar (k : Nat → Int) (o : Int) (t : Nat) : Option (Ast × Nat) := if (k t = 1 ∨ k t = 2) ∧ k (t + 1) = 16 then (if k (t + 2) = 91 then (if o < 60 ∧ k (t + 3) = 93 then some (.sub (.arg (k t).toNat) (.arg (t + 1)), t + 4) else none) else some (.mul (.arg (k t).toNat) (.arg (t + 1)), t + 2)) else none
/-- with their ) -/
def pPars (k : Nat → Int) (o : Int) : Nat → Nat → Option (Ast × Nat)
  | 0, _ => none
  | n + 1, t => match pPar k o t with
    | none => none
    | some (v, t1) => if k t1 = 44 then (match pPars k o n (t1 + 1) with
        | none => none
        | some (r, t2) => some (.add v r, t2)) else if k t1 = 41 then some (.add v .null, t1 + 1) else none
/-- from the name of a function on -/
def pHead (k : Nat → Int) (t : Nat) (o : Int) : Option (Ast × Nat) := if o < 60 then (if k (t + 2) = 41 then some (.null, t + 3) else if k (t + 2) = 3 then (if k (t + 3) = 41 then some (.null, t + 4) else none) else pPars k (o + 1) 2048 (t + 2)) else none
def tokP (v : Ast) : Nat := match v with
  | .mul _ (.arg t) => t
  | .sub _ (.arg t) => t
  | _ => 0
def entP (v : Ast) : Ent := match v with
  | .sub (.arg ty) _ => (if ty = 2 then 3 else 2, 0)
  | _ => (1, 0)
def wdPq (v : Ast) : Int := match v with
  | .sub _ _ => 2
  | _ => 1
def wnV (v : Ast) : Int := match v with
  | .sub (.arg ty) _ => 16 + (ty : Int)
  | .mul (.arg ty) _ => (ty : Int)
  | _ => 0
def wnX : Ast → List Int
  | .add v r => wnV v :: wnX r
  | _ => []
def semPars (vl : Nat → Int32) (F : Int32 → Option Fnc) (sc : Nat) : Ast → Nms → Int → Option (Nms × Int)
  | .null, L, w => some (L, w)
  | .add v r, L, w => (dcl false F sc L (vl (tokP v)) (entP v)).bind fun L' => semPars vl F sc r L' (w + wdPq v)
  | _, _, _ => none
def pSy (v m b : Int32) : Nat → Int32 := upd (upd (upd (upd (upd (upd (upd (fun _ => 0) 0 v) 1 1) 2 m) 3 b) 4 0) 5 0) 6 0
theorem pSy_m {v m b : Int32} : pSy v m b 0 = v ∧ pSy v m b 1 = 1 ∧ pSy v m b 2 = m := by
  refine ⟨?_, ?_, ?_⟩ <;> simp [pSy, upd]
theorem pSy_ent {v m b : Int32} {g : Ent} (h : (if (m &&& 4).toInt = 0 then ((1, 0) : Ent) else if (m &&& 2).toInt = 0 then (2, 0) else (3, 0)) = g) : EntM (pSy v m b) g ∧ ¬ (pSy v m b 1).toInt = 2 := by
  obtain ⟨n0, n1, n2⟩ := @pSy_m v m b
  unfold EntM entC
  rw [n1, n2, if_neg (by decide)]
  exact ⟨⟨h, fun q => absurd q (by decide)⟩, by decide⟩
/-- the function that is being read, the last one: what it wants so far -/
def PmI (na : Nat → Nat → Int32) (P : va_W) (fg : Nat → Option Nat) (nf : Nat → Int32) (q0 n W b : Nat) (nm : Int32) (ty : Int) (ws : List Int) (Lf : List FnE) : Prop := FunE na P fg W Lf ∧ (∃ s, FnAq na P fg n (nm, ty, ws) q0 s b) ∧ W ≤ b ∧ (nf 3).toInt = ((b + ws.length : Nat) : Int) ∧ ∀ i : Nat, i < Lf.length → ¬ fg i = some q0
theorem PmI.ap {na : Nat → Nat → Int32} {P X : va_W} {fg : Nat → Option Nat} {nf : Nat → Int32} {q0 n W b : Nat} {nm : Int32} {ty : Int} {ws : List Int} {Lf : List FnE} (h : PmI na P fg nf q0 n W b nm ty ws Lf) : PmI na (P ++ X) fg nf q0 n W b nm ty ws Lf := by
  obtain ⟨h1, ⟨s, h2⟩, h3⟩ := h
  exact ⟨h1.ap, ⟨s, h2.ap⟩, h3⟩
def OkPm (ta : Nat → Nat → Int32) (c t : Nat) (o : Int) (q0 sc : Nat) (L : Nms) (F : Int32 → Option Fnc) (n W b : Nat) (nm : Int32) (ty : Int) (ws : List Int) (Lf : List FnE) (fg : Nat → Option Nat) (r : Option (Ast × Nat)) (cf tf nf : Nat → Int32) (na : Nat → Nat → Int32) (P : va_W) (cf' tf' nf' : Nat → Int32) (na' : Nat → Nat → Int32) (own' : Bool) (lf' : Nat → Int32) (lg' : Nat → Option Nat) (P' : va_W) : Prop := match r with
  | none => Flq tf'
  | some (v, t1) => Cur tf' c t1 o ∧ t + 2 ≤ t1 ∧ (∀ i : Nat, i ≠ 12 → cf' i = cf i) ∧ (∃ z : Int32, z = cf 12 + (if wdPq v = 2 then (2 : Int32) else 1) ∧ cf' 12 = z) ∧ nf' 4 = nf 4 ∧ EnvL own' P' lf' lg' (L ++ [(vd ta (tokP v), entP v)]) ∧ AT tf tf' (dcl false F sc L (vd ta (tokP v)) (entP v)) (fun L' => L' = L ++ [(vd ta (tokP v), entP v)]) ∧ ((cf 8).toInt = 0 → na' = na ∧ nf' = nf ∧ PX P P') ∧ (¬ (cf 8).toInt = 0 → PmI na' P' fg nf' q0 n W b nm ty (ws ++ [wnV v]) Lf) ∧ (wdPq v = 1 ∨ wdPq v = 2)
section SJ
variable {ta : Nat → Nat → Int32} {na na' : Nat → Nat → Int32} {own own' : Bool} {P P' : va_W} {nf lf nf' lf' ff : Nat → Int32} {lg lg' fg : Nat → Option Nat} {lq lc lq' lc' : Nat}
variable {tf cf tf' cf' : Nat → Int32} {c t sc q0 : Nat} {o : Int} {L : Nms}
theorem pm_25 (hl : Lst0 ta c) {x : Int32} {k : Nat} (h : E_tc_parameter (some q0) ta ff fg cf' tf' nf' na' own' lq' lc' lf' lg' P' k 25 [x] [] [] [] [] cf tf nf na own lq lc lf lg P) (hx : x.toInt = kd ta t) (hk : kd ta t = 1 ∨ kd ta t = 2) (hc : Cur tf c t o) :
    (pPar (kd ta) o t = none ∧ Flq tf') ∨ ∃ (v : Ast) (t1 k q : Nat) (tfx sf : Nat → Int32) (xt r : Int32), pPar (kd ta) o t = some (v, t1) ∧ E_tc_parameter (some q0) ta ff fg cf' tf' nf' na' own' lq' lc' lf' lg' P' k 140 [x, xt, r] [] [] [sf] [q] cf tfx nf na own lq lc lf lg P ∧ Cur tfx c t1 o ∧ t + 2 ≤ t1 ∧ SmC tf tfx ∧ xt.toInt = ((t + 1 : Nat) : Int) ∧ sf 0 = vd ta (tokP v) ∧ EntM sf (entP v) ∧ ¬ (sf 1).toInt = 2 ∧ ((r.toInt = 0 ∧ wdPq v = 1 ∧ wnV v = x.toInt) ∨ (¬ r.toInt = 0 ∧ wdPq v = 2 ∧ wnV v = 16 + x.toInt)) := by
  have hlt : t + 1 < c := by
    rcases hk with q | q
    · exact lst_lt (p0 := 1) hc hl (by decide) (by decide) q
    · exact lst_lt (p0 := 2) hc hl (by decide) (by decide) q
  have tk140 : ∀ {k : Nat} {ls : List Int32} {fs : List (Nat → Int32)} {ad : List Nat} {tfa : Nat → Int32}, E_tc_parameter (some q0) ta ff fg cf' tf' nf' na' own' lq' lc' lf' lg' P' k 140 ls [] [] fs ad cf tfa nf na own lq lc lf lg P → Flq tfa → Flq tf' := by
    intro k ls fs ad tfa q f
    exact (tke_tc_parameter _ _ _ _ _ _ _ _ _ _ _ _ _ _ _ _ _ q).2 f
  have no16 : ¬ kd ta (t + 1) = 16 → pPar (kd ta) o t = none := by
    intro q
    unfold pPar
    rw [if_neg (fun z => q z.2)]
  have sg : kd ta (t + 1) = 16 → ¬ kd ta (t + 2) = 91 → pPar (kd ta) o t = some (.mul (.arg (kd ta t).toNat) (.arg (t + 1)), t + 2) := by
    intro q q'
    unfold pPar
    rw [if_pos ⟨hk, q⟩, if_neg q']
  have rwE : kd ta (t + 1) = 16 → kd ta (t + 2) = 91 → pPar (kd ta) o t = if o < 60 ∧ kd ta (t + 3) = 93 then some (.sub (.arg (kd ta t).toNat) (.arg (t + 1)), t + 4) else none := by
    intro q q'
    unfold pPar
    rw [if_pos ⟨hk, q⟩, if_pos q']
  have h0o := hc.2.2.2.2.2.2.1
  /- a row: its brackets -/
  have row : ∀ {tfa tfb tfd : Nat → Int32}, Cur tfa c (t + 2) o → R_tk_open ta 91 tfa tfb → R_tk_close ta 93 tfb tfd → kd ta (t + 2) = 91 → (¬ (o < 60 ∧ kd ta (t + 3) = 93) ∧ Flq tfd) ∨ ((o < 60 ∧ kd ta (t + 3) = 93) ∧ Cur tfd c (t + 4) o) := by
    intro tfa tfb tfd g0 g1 g2 g3
    rcases open_cur (p0 := 91) g1 g0 hl (by decide) (by decide) with ⟨q1, q2, q3⟩ | ⟨q1, q2⟩
    · rcases close_cur (p0 := 93) g2 q3 (by omega) hl (by decide) (by decide) with ⟨p1, p2⟩ | ⟨p1, p2⟩
      · exact Or.inr ⟨⟨q2, by unfold kd; rw [p1]; rfl⟩, by rw [show o = o + 1 - 1 by omega]; exact p2⟩
      · exact Or.inl ⟨fun z => p1 (i_eq.mpr z.2), p2⟩
    · exact Or.inl ⟨fun z => q1 ⟨i_eq.mpr g3, z.1⟩, (tkr_tk_close g2).2 q2⟩
  rcases iv_tc_parameter_25 h with ⟨k, tf102, h1, q113, v115, h2, (⟨h3, tf121, h4, v131, h5, (⟨h6, hE⟩ | ⟨h6, tf139, h7, tf148, h8, z157, h9, hE⟩)⟩ | ⟨h3, tf158, h4, v168, h5, (⟨h6, hE⟩ | ⟨h6, tf176, h7, tf185, h8, z194, h9, hE⟩)⟩)⟩
  · have hs := step_cur h1 hc hlt
    have em := mean_cur h2 hs.1
    have ex := expect_cur (p0 := 16) h4 hs.1 hl (by decide) (by decide)
    have k1 : kd ta t = 1 := by rcases hk with q | q; exact q; exact absurd (hx.trans q) h3
    rcases ex.1 with ⟨q1, q2⟩ | ⟨q1, q2⟩
    · have hk1 : kd ta (t + 1) = 16 := by unfold kd; rw [q1]; rfl
      have ek := kind_cur h5 q2
      subst ek
      subst em
      refine Or.inr ⟨_, _, k, q113, tf121, _, _, _, sg hk1 h6, hE, q2, by omega, hs.2.tr ex.2, hs.1.2.1, pSy_m.1, ?_, ?_, Or.inl ⟨by decide, rfl, ?_⟩⟩
      · exact (pSy_ent (if_pos (by decide))).1
      · exact (pSy_ent (g := (1, 0)) (if_pos (by decide))).2
      · show (((kd ta t).toNat : Nat) : Int) = x.toInt
        omega
    · exact Or.inl ⟨no16 (fun z => q1 (i_eq.mpr z)), tk140 hE q2⟩
  · have hs := step_cur h1 hc hlt
    have em := mean_cur h2 hs.1
    have ex := expect_cur (p0 := 16) h4 hs.1 hl (by decide) (by decide)
    have k1 : kd ta t = 1 := by rcases hk with q | q; exact q; exact absurd (hx.trans q) h3
    rcases ex.1 with ⟨q1, q2⟩ | ⟨q1, q2⟩
    · have hk1 : kd ta (t + 1) = 16 := by unfold kd; rw [q1]; rfl
      have ek := kind_cur h5 q2
      subst ek
      subst em
      subst h9
      have e0 := rwE hk1 h6
      rcases row q2 h7 h8 h6 with ⟨r1, r2⟩ | ⟨r1, r2⟩
      · rw [if_neg r1] at e0
        exact Or.inl ⟨e0, tk140 hE r2⟩
      · rw [if_pos r1] at e0
        refine Or.inr ⟨_, _, k, q113, tf148, _, _, _, e0, hE, r2, by omega, hs.2.tr (ex.2.tr ((smr_tk_open h7).tr (smr_tk_close h8))), hs.1.2.1, pSy_m.1, ?_, ?_, Or.inr ⟨by decide, rfl, ?_⟩⟩
        · refine (pSy_ent ?_).1
          show _ = ((if (kd ta t).toNat = 2 then 3 else 2, 0) : Ent)
          rw [k1]
          decide
        · exact (pSy_ent (g := (2, 0)) (by decide)).2
        · show 16 + (((kd ta t).toNat : Nat) : Int) = 16 + x.toInt
          omega
    · exact Or.inl ⟨no16 (fun z => q1 (i_eq.mpr z)), tk140 hE ((tkr_tk_close h8).2 ((tkr_tk_open h7).2 q2))⟩
  · have hs := step_cur h1 hc hlt
    have em := mean_cur h2 hs.1
    have ex := expect_cur (p0 := 16) h4 hs.1 hl (by decide) (by decide)
    have k1 : kd ta t = 2 := hx.symm.trans h3
    rcases ex.1 with ⟨q1, q2⟩ | ⟨q1, q2⟩
    · have hk1 : kd ta (t + 1) = 16 := by unfold kd; rw [q1]; rfl
      have ek := kind_cur h5 q2
      subst ek
      subst em
      refine Or.inr ⟨_, _, k, q113, tf158, _, _, _, sg hk1 h6, hE, q2, by omega, hs.2.tr ex.2, hs.1.2.1, pSy_m.1, ?_, ?_, Or.inl ⟨by decide, rfl, ?_⟩⟩
      · exact (pSy_ent (if_pos (by decide))).1
      · exact (pSy_ent (g := (1, 0)) (if_pos (by decide))).2
      · show (((kd ta t).toNat : Nat) : Int) = x.toInt
        omega
    · exact Or.inl ⟨no16 (fun z => q1 (i_eq.mpr z)), tk140 hE q2⟩
  · have hs := step_cur h1 hc hlt
    have em := mean_cur h2 hs.1
    have ex := expect_cur (p0 := 16) h4 hs.1 hl (by decide) (by decide)
    have k1 : kd ta t = 2 := hx.symm.trans h3
    rcases ex.1 with ⟨q1, q2⟩ | ⟨q1, q2⟩
    · have hk1 : kd ta (t + 1) = 16 := by unfold kd; rw [q1]; rfl
      have ek := kind_cur h5 q2
      subst ek
      subst em
      subst h9
      have e0 := rwE hk1 h6
      rcases row q2 h7 h8 h6 with ⟨r1, r2⟩ | ⟨r1, r2⟩
      · rw [if_neg r1] at e0
        exact Or.inl ⟨e0, tk140 hE r2⟩
      · rw [if_pos r1] at e0
        refine Or.inr ⟨_, _, k, q113, tf185, _, _, _, e0, hE, r2, by omega, hs.2.tr (ex.2.tr ((smr_tk_open h7).tr (smr_tk_close h8))), hs.1.2.1, pSy_m.1, ?_, ?_, Or.inr ⟨by decide, rfl, ?_⟩⟩
        · refine (pSy_ent ?_).1
          show _ = ((if (kd ta t).toNat = 2 then 3 else 2, 0) : Ent)
          rw [k1]
          decide
        · exact (pSy_ent (g := (3, 0)) (by decide)).2
        · show 16 + (((kd ta t).toNat : Nat) : Int) = 16 + x.toInt
          omega
    · exact Or.inl ⟨no16 (fun z => q1 (i_eq.mpr z)), tk140 hE ((tkr_tk_close h8).2 ((tkr_tk_open h7).2 q2))⟩
theorem pm_140 {x xt r : Int32} {sf : Nat → Int32} {k q : Nat} (h : E_tc_parameter (some q0) ta ff fg cf' tf' nf' na' own' lq' lc' lf' lg' P' k 140 [x, xt, r] [] [] [sf] [q] cf tf nf na own lq lc lf lg P) (hx : 1 ≤ x.toInt ∧ x.toInt ≤ 2) :
    ∃ (k : Nat) (z : Int32) (nf2 : Nat → Int32) (na2 : Nat → Nat → Int32) (P2 : va_W), z = cf 12 + (if r.toInt = 0 then (1 : Int32) else 2) ∧ E_tc_parameter (some q0) ta ff fg cf' tf' nf' na' own' lq' lc' lf' lg' P' k 197 [xt] [] [] [sf] [q] (upd cf 12 z) tf nf2 na2 own lq lc lf lg P2 ∧ (((cf 8).toInt = 0 ∧ nf2 = nf ∧ na2 = na ∧ P2 = P) ∨ (¬ (cf 8).toInt = 0 ∧ ∃ w : Int32, w.toInt = (if r.toInt = 0 then x.toInt else 16 + x.toInt) ∧ R_nw_addWant q0 w nf na P nf2 na2 P2)) := by
  have e16 : ∀ {z : Int32}, z = (16 : Int32) + x → z.toInt = 16 + x.toInt := fun q => ti_add q (show (16 : Int32).toInt = 16 from rfl) rfl (by omega) (by omega)
  rcases iv_tc_parameter_140 h with ⟨k, (⟨h1, z35, h2, (⟨h3, hE⟩ | ⟨h3, (⟨h4, hE⟩ | ⟨q39, h4, (⟨h5, nf46, na47, P48, h6, hE⟩ | ⟨h5, z55, h6, nf59, na60, P61, h7, hE⟩)⟩)⟩)⟩ | ⟨h1, z69, h2, (⟨h3, hE⟩ | ⟨h3, (⟨h4, hE⟩ | ⟨q73, h4, (⟨h5, nf80, na81, P82, h6, hE⟩ | ⟨h5, z89, h6, nf93, na94, P95, h7, hE⟩)⟩)⟩)⟩)⟩
  · exact ⟨k, z35, _, _, _, by rw [if_pos h1]; exact h2, hE, Or.inl ⟨h3, rfl, rfl, rfl⟩⟩
  · exact absurd h4 (by simp)
  · obtain rfl := Option.some.inj h4
    exact ⟨k, z35, _, _, _, by rw [if_pos h1]; exact h2, hE, Or.inr ⟨h3, x, by rw [if_pos h1], h6⟩⟩
  · exact absurd h1 h5
  · exact ⟨k, z69, _, _, _, by rw [if_neg h1]; exact h2, hE, Or.inl ⟨h3, rfl, rfl, rfl⟩⟩
  · exact absurd h4 (by simp)
  · exact absurd h5 h1
  · obtain rfl := Option.some.inj h4
    exact ⟨k, z69, _, _, _, by rw [if_neg h1]; exact h2, hE, Or.inr ⟨h3, z89, by rw [if_neg h1]; exact e16 h6, h7⟩⟩
theorem pm_ok (F : Int32 → Option Fnc) (hl : Lst0 ta c) (hN : ND P') (hs4 : (nf 4).toInt = (sc : Int)) (hL : EnvL own P lf lg L) {n W b : Nat} {nm : Int32} {ty : Int} {ws : List Int} {Lf : List FnE} (hI : ¬ (cf 8).toInt = 0 → PmI na P fg nf q0 n W b nm ty ws Lf ∧ b + ws.length < 2048) (h : R_tc_parameter (some q0) ta ff fg cf tf nf na own lq lc lf lg P cf' tf' nf' na' own' lq' lc' lf' lg' P') (hc : Cur tf c t o) :
    OkPm ta c t o q0 sc L F n W b nm ty ws Lf fg (pPar (kd ta) o t) cf tf nf na P cf' tf' nf' na' own' lf' lg' P' := by
  obtain ⟨k, h⟩ := h
  have main : ∀ {k : Nat} {x : Int32}, E_tc_parameter (some q0) ta ff fg cf' tf' nf' na' own' lq' lc' lf' lg' P' k 25 [x] [] [] [] [] cf tf nf na own lq lc lf lg P → x.toInt = kd ta t → (kd ta t = 1 ∨ kd ta t = 2) → OkPm ta c t o q0 sc L F n W b nm ty ws Lf fg (pPar (kd ta) o t) cf tf nf na P cf' tf' nf' na' own' lf' lg' P' := by
    intro k x hE hx hk
    rcases pm_25 hl hE hx hk hc with ⟨p1, p2⟩ | ⟨v, t1, k, q, tfx, sf, xt, r, p1, hE, p2, p3, p4, p5, p6, p7, p8, p9⟩
    · rw [p1]; exact p2
    · rw [p1]
      have c1 := p2.2.2.2.2.1
      have hx2 : 1 ≤ x.toInt ∧ x.toInt ≤ 2 := by omega
      have hwn : WnR (wnV v) := by unfold WnR; rcases p9 with ⟨-, -, q⟩ | ⟨-, -, q⟩ <;> omega
      obtain ⟨k, z, nf2, na2, P2, g1, hE, g2⟩ := pm_140 hE hx2
      obtain ⟨k, P1, g3, tf8, own9, lq10, lc11, lf12, lg13, g4, e0, e1, e2, e3, e4, e5, e6, e7, e8, e9⟩ := iv_tc_parameter_197 hE
      have hN1 : ND P1 := by rw [← e9]; exact hN
      have hN2 : ND P2 := by rw [g3] at hN1; exact hN1.ap
      have hz : z = cf 12 + (if wdPq v = 2 then (2 : Int32) else 1) := by
        rcases p9 with ⟨r1, r2, -⟩ | ⟨r1, r2, -⟩
        · rw [if_pos r1] at g1; rw [g1, r2, if_neg (by decide)]
        · rw [if_neg r1] at g1; rw [g1, r2, if_pos rfl]
      /- what the two passes do -/
      have both : EnvL own P2 lf lg L ∧ nf2 4 = nf 4 ∧ ((cf 8).toInt = 0 → na2 = na ∧ nf2 = nf ∧ PX P P2) ∧ (¬ (cf 8).toInt = 0 → PmI na2 P2 fg nf2 q0 n W b nm ty (ws ++ [wnV v]) Lf) := by
        rcases g2 with ⟨r1, r2, r3, r4⟩ | ⟨r1, w, r2, r3⟩
        · rw [r2, r3, r4]
          exact ⟨hL, rfl, fun _ => ⟨rfl, rfl, PX.rf⟩, fun q => absurd r1 q⟩
        · obtain ⟨⟨i1, ⟨s, i2⟩, i3, i4, i5⟩, i6⟩ := hI r1
          have ew : w.toInt = wnV v := by
            rcases p9 with ⟨y1, -, y2⟩ | ⟨y1, -, y2⟩
            · rw [if_pos y1] at r2; rw [r2, y2]
            · rw [if_neg y1] at r2; rw [r2, y2]
          obtain ⟨a1, a2, a3, a4, a5⟩ := aw_ok (hN2.pa (par_nw_addWant r3)) r3 i1 i2 i3 i4 i6 i5 (by rw [ew]; exact hwn)
          rw [ew] at a1 a3
          exact ⟨hL.mv a5, a4, fun q => absurd q r1, fun _ => ⟨a2, a1, i3, a3, i5⟩⟩
      obtain ⟨b1, b2, b3, b4⟩ := both
      have hS1 : SymAt P1 q sf := by rw [g3]; exact SymAt.new
      have hL1 : EnvL own P1 lf lg L := by rw [g3]; exact b1.ap
      obtain ⟨d1, d2, d3⟩ := dec_s F hN1 hL1 (by rw [b2]; exact hs4) g4 p2 (by rw [p5]; omega) hS1 p7 p8
      rw [p6] at d2 d3
      rw [e0, e1, e2, e3, e4, e7, e8, e9]
      refine ⟨d1.cur p2, p3, fun i hi => pk_un hi, ⟨z, hz, pk_us⟩, b2, d2, AT.sm p4 d3, fun q => ?_, fun q => ?_, ?_⟩
      · obtain ⟨y1, y2, y3⟩ := b3 q
        exact ⟨y1, y2, y3.tr ⟨_, g3⟩⟩
      · rw [g3]; exact (b4 q).ap
      · rcases p9 with ⟨-, r2, -⟩ | ⟨-, r2, -⟩
        · exact Or.inl r2
        · exact Or.inr r2
  rcases iv_tc_parameter_0 h with ⟨k, v196, h1, (⟨h2, hE⟩ | ⟨h2, (⟨h3, hE⟩ | ⟨h3, tf204, h4, hE⟩)⟩)⟩
  · have ek := kind_cur h1 hc
    subst ek
    exact main hE rfl (Or.inl h2)
  · have ek := kind_cur h1 hc
    subst ek
    exact main hE rfl (Or.inr h3)
  · have ek := kind_cur h1 hc
    subst ek
    have e : pPar (kd ta) o t = none := by
      unfold pPar
      rw [if_neg (fun z => z.1.elim h2 h3)]
    rw [e]
    exact (tke_tc_parameter _ _ _ _ _ _ _ _ _ _ _ _ _ _ _ _ _ hE).2 (fail_r h4 (Or.inl hc.2.2.2.1)).1
end SJ
