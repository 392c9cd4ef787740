section SE
variable {ta : Nat → Nat → Int32} {cn : Nat} {na : Nat → Nat → Int32} {own : Bool} {P : va_W} {lf : Nat → Int32} {lg : Nat → Option Nat} {ff : Nat → Int32} {fg : Nat → Option Nat} {ca ca' : Nat → Nat → Int32}
variable {tf fp cd tf' fp' cd' cf cf' fx : Nat → Int32} {ox : Option Nat} {c t : Nat} {o : Int} {G : Int32 → Option Ent} {F : Int32 → Option Fnc} {p0 : Int32}
theorem ldf_ok (hl : Lst0 ta c) (h : R_tc_labelDefault ta p0 tf tf') (hc : Cur tf c t o) (hk : kd ta t = 12) :
    (match (if kd ta (t + 1) = 58 then some (t + 2) else none) with
      | none => Flq tf'
      | some t1 => Cur tf' c t1 o ∧ AT tf tf' (if p0.toInt = -1 then some () else none) (fun _ => True)) := by
  have hlt : t + 1 < c := lst_lt (p0 := 12) hc hl (by decide) (by decide) hk
  have h10 := hc.1
  have h13 := hc.2.1
  have tl := hc.2.2.2.2.1
  rcases h with (⟨h1, tf3, h2, tf14, h3, e0⟩ | ⟨h1, tf23, h2, tf32, h3, tf43, h4, e0⟩) | h
  · rw [e0]
    have hs := step_cur h2 hc hlt
    have ex := expect_cur (p0 := 58) h3 hs.1 hl (by decide) (by decide)
    rcases ex.1 with ⟨q1, q2⟩ | ⟨q1, q2⟩
    · have hk1 : kd ta (t + 1) = 58 := by unfold kd; rw [q1]; rfl
      rw [if_pos hk1]
      refine ⟨q2, ?_⟩
      rw [if_pos h1]
      exact AT.ms (AT.ret trivial) (hs.2.tr ex.2)
    · have hk1 : ¬ kd ta (t + 1) = 58 := fun q => q1 (i_eq.mpr q)
      rw [if_neg hk1]
      exact q2
  · rw [e0]
    have hs := step_cur h3 ((blame_b h2).cur hc) hlt
    have ex := expect_cur (p0 := 58) h4 hs.1 hl (by decide) (by decide)
    rcases ex.1 with ⟨q1, q2⟩ | ⟨q1, q2⟩
    · have hk1 : kd ta (t + 1) = 58 := by unfold kd; rw [q1]; rfl
      rw [if_pos hk1]
      refine ⟨q2, ?_⟩
      rw [if_neg h1]
      exact AT.ms (AT.bad h2 (by decide) (by omega)) (hs.2.tr ex.2)
    · have hk1 : ¬ kd ta (t + 1) = 58 := fun q => q1 (i_eq.mpr q)
      rw [if_neg hk1]
      exact q2
  · exact h.elim
theorem lc_96 {k hx : Nat} (h : E_tc_labelCase ta cn na own lf lg ff fg P p0 cf' ca' tf' fp' cd' k 96 [] [] [ox] [fx] [hx] cf ca tf fp cd) :
    tf' = tf ∧ ((2048 ≤ (cf 7).toInt ∧ cf' = cf ∧ ca' = ca) ∨ (¬ 2048 ≤ (cf 7).toInt ∧ ∃ z : Int32, z = cf 7 + 1 ∧ cf' = upd cf 7 z ∧ ca' 5 = upd (ca 5) (cf 7).toNatClampNeg (fx 8))) := by
  rcases iv_tc_labelCase_96 h with ⟨k, (⟨h1, e0, e1, e2, e3, e4⟩ | ⟨h1, z4, h2, e0, e1, e2, e3, e4⟩)⟩
  · exact ⟨e2, Or.inl ⟨h1, e0, e1⟩⟩
  · exact ⟨e2, Or.inr ⟨h1, z4, h2, e0, by rw [e1, va_up_n (by decide), va_up_s]⟩⟩
theorem lc_50 {x2 : Int32} {hx : Nat} (h2c : 0 ≤ (cf 7).toInt ∧ (cf 7).toInt ≤ 2048) :
    ∀ (d : Nat) (x : Int32) (k : Nat) (tfa : Nat → Int32), E_tc_labelCase ta cn na own lf lg ff fg P p0 cf' ca' tf' fp' cd' k 50 [x2, x] [] [ox] [fx] [hx] cf ca tfa fp cd → (cf 7).toInt ≤ x.toInt + (d : Int) → 0 ≤ x.toInt →
      ∃ (k : Nat) (tfb : Nat → Int32), E_tc_labelCase ta cn na own lf lg ff fg P p0 cf' ca' tf' fp' cd' k 96 [] [] [ox] [fx] [hx] cf ca tfb fp cd ∧ SmB tfa tfb ∧ BK tfa tfb ∧ ((fx 2).toInt = 0 → x2.toInt < (tfa 10).toInt → (∃ j : Nat, x.toInt ≤ (j : Int) ∧ (j : Int) < (cf 7).toInt ∧ ca 5 j = fx 8) → Un tfa → Bd tfb) ∧ ((∀ j : Nat, x.toInt ≤ (j : Int) → (j : Int) < (cf 7).toInt → ¬ ca 5 j = fx 8) → tfb = tfa) := by
  intro d
  induction d with
  | zero =>
    intro x k tfa h hx' h0
    rcases iv_tc_labelCase_50 h with ⟨k, (⟨h1, hE⟩ | ⟨h1, (⟨h2, hE⟩ | ⟨h2, z9, h3, (⟨h4, z12, h5, hE⟩ | ⟨h4, tf13, h5, z22, h6, hE⟩)⟩)⟩)⟩
    · exact ⟨k, tfa, hE, SmB.rf, BK.rf, fun _ _ ⟨j, j1, j2, _⟩ => by omega, fun _ => rfl⟩
    · exfalso; omega
    · exfalso; omega
    · exfalso; omega
  | succ d ih =>
    intro x k tfa h hx' h0
    rcases iv_tc_labelCase_50 h with ⟨k, (⟨h1, hE⟩ | ⟨h1, (⟨h2, hE⟩ | ⟨h2, z9, h3, (⟨h4, z12, h5, hE⟩ | ⟨h4, tf13, h5, z22, h6, hE⟩)⟩)⟩)⟩
    · exact ⟨k, tfa, hE, SmB.rf, BK.rf, fun _ _ ⟨j, j1, j2, _⟩ => by omega, fun _ => rfl⟩
    · exact ⟨k, tfa, hE, SmB.rf, BK.rf, fun q => absurd q h2, fun _ => rfl⟩
    · have hz := ti_add h5 (rfl : x.toInt = x.toInt) (show (1 : Int32).toInt = 1 from rfl) (by omega) (by omega)
      obtain ⟨k, tfb, q1, q2, q3, q4, q5⟩ := ih _ k _ hE (by omega) (by omega)
      have hxn : x.toNatClampNeg = x.toInt.toNat := cn_of (by omega)
      refine ⟨k, tfb, q1, q2, q3, fun a b ⟨j, j1, j2, j3⟩ u => q4 a b ⟨j, ?_, j2, j3⟩ u, fun z => q5 (fun j j1 j2 => z j (by omega) j2)⟩
      by_cases e : x.toInt = (j : Int)
      · exfalso
        apply h4
        rw [h3, hxn, show x.toInt.toNat = j by omega, j3]
      · omega
    · have hz := ti_add h6 (rfl : x.toInt = x.toInt) (show (1 : Int32).toInt = 1 from rfl) (by omega) (by omega)
      obtain ⟨k, tfb, q1, q2, q3, q4, q5⟩ := ih _ k _ hE (by omega) (by omega)
      have hxn : x.toNatClampNeg = x.toInt.toNat := cn_of (by omega)
      refine ⟨k, tfb, q1, (blame_b h5).tr q2, BK.tr (bkr_tk_blame (by decide) h5) q3, fun a b _ u => q3 (blame_un h5 (by decide) b u), fun z => ?_⟩
      exfalso
      refine z x.toInt.toNat (by omega) (by omega) (i_eq.mpr ?_)
      rw [← hxn, ← h3]
      exact h4
/-- the numbers of the cases from fc on -/
def CsM (fc : Nat) (cf : Nat → Int32) (ca : Nat → Nat → Int32) (cs : List Int32) : Prop := (cf 7).toInt = (fc : Int) + (cs.length : Int) ∧ ∀ (i : Nat) (v : Int32), cs[i]? = some v → ca 5 (fc + i) = v
theorem lca_ok (hG : EnvC own P lf lg G) (hF : FunC na P ff fg F) (hl : Lst0 ta c) (h : R_tc_labelCase ta cn na own lf lg ff fg P p0 cf ca tf fp cd cf' ca' tf' fp' cd') (hc : Cur tf c t o) (hk : kd ta t = 11) {fc : Nat} (h7 : (cf 7).toInt ≤ (t : Int)) (hp : p0.toInt = (fc : Int)) (hp7 : p0.toInt ≤ (cf 7).toInt) :
    (∃ (z v : Int32), z.toInt = (cf 7).toInt + 1 ∧ cf' = upd cf 7 z ∧ ca' 5 = upd (ca 5) (cf 7).toNatClampNeg v) ∧ (match (match pE (kd ta) 0 (t + 1) o with
        | none => none
        | some (e, t1) => if kd ta t1 = 58 then some (e, t1 + 1) else none) with
      | none => Flq tf'
      | some (e, t1) => Cur tf' c t1 o ∧ t + 1 < t1 ∧ ∀ cs : List Int32, CsM fc cf ca cs → AT tf tf' (((att (kd ta) (vd ta) G F e [] 0).bind aKon).bind fun x => if x.2.2.1 ∈ cs then none else some x.2.2.1) (fun v => CsM fc cf' ca' (cs ++ [v]))) := by
  obtain ⟨k, h⟩ := h
  have hlt : t + 1 < c := lst_lt (p0 := 11) hc hl (by decide) (by decide) hk
  have c2 := hc.2.2.2.2.2.1
  obtain ⟨k, tf23, h1, tf37, fp38, cd39, hx40, ox41, fx42, h2, tf73, fp74, cd75, fx76, h3, tf92, h4, hE⟩ := iv_tc_labelCase_0 h
  obtain ⟨k, tfb, q1, q2, q3, q4, q5⟩ := lc_50 (by omega) 2048 p0 k tf92 hE (by omega) (by omega)
  obtain ⟨r1, r2⟩ := lc_96 q1
  rcases r2 with ⟨r2, -⟩ | ⟨-, z, r2, r3, r4⟩
  · exfalso; omega
  have hz := ti_add r2 (rfl : (cf 7).toInt = (cf 7).toInt) (show (1 : Int32).toInt = 1 from rfl) (by omega) (by omega)
  refine ⟨⟨z, fx76 8, hz, r3, r4⟩, ?_⟩
  rw [r1]
  have hs := step_cur h1 hc hlt
  have h2' := exP_ok hG hF hl h2 hs.1
  rw [show ((0 : Int32)).toInt = 0 from rfl] at h2'
  cases hr : pE (kd ta) 0 (t + 1) o with
  | none =>
    rw [hr] at h2'
    exact q2.fl ((tkr_tk_expect h4).2 ((set_r h3).1.fl h2'))
  | some r =>
    obtain ⟨e, t1⟩ := r
    rw [hr] at h2'
    obtain ⟨a1, a2, a3, a4⟩ := h2'
    have ex := expect_cur (p0 := 58) h4 ((set_r h3).1.cur a1) hl (by decide) (by decide)
    rcases ex.1 with ⟨y1, y2⟩ | ⟨y1, y2⟩
    · have hk1 : kd ta t1 = 58 := by unfold kd; rw [y1]; rfl
      simp only [hk1, if_true]
      refine ⟨q2.cur y2, by omega, fun cs hcs => ?_⟩
      obtain ⟨s1, s2⟩ := hcs
      refine AT.bind (AT.ms (AT.bind (AT.sm hs.2 a4) (fun a ha => set_at h3 a1 ha) (set_bk h3)) ex.2) (fun x hx => ?_) q3
      obtain ⟨hx, hx0⟩ := hx
      have m4 := hx.2.2.2.1
      have m8 := hx.2.2.2.2.2.1 hx0
      by_cases hm : x.2.2.1 ∈ cs
      · rw [if_pos hm]
        obtain ⟨i, hi, hv⟩ := List.getElem_of_mem hm
        have hi' : cs[i]? = some x.2.2.1 := by rw [List.getElem?_eq_getElem hi, hv]
        refine fun u => q4 (by omega) ?_ ⟨fc + i, by omega, by omega, by rw [s2 i _ hi', m8]⟩ u
        rw [hc.2.1, y2.1]
        omega
      · rw [if_neg hm]
        have et : tfb = tf92 := q5 (fun j j1 j2 j3 => hm (by
          have hjl : j - fc < cs.length := by omega
          have := s2 (j - fc) _ (List.getElem?_eq_getElem hjl)
          rw [show fc + (j - fc) = j by omega, j3, m8] at this
          rw [this]
          exact List.getElem_mem hjl))
        rw [et]
        refine AT.ret ⟨by rw [r3, pk_us, hz, s1, List.length_append]; simp; omega, fun i v hi => ?_⟩
        have hn : (cf 7).toNatClampNeg = fc + cs.length := cn_of (by omega)
        rw [r4, hn]
        rcases Nat.lt_or_ge i cs.length with hlt' | hge
        · rw [List.getElem?_append_left hlt'] at hi
          rw [pk_un (by omega)]
          exact s2 i v hi
        · have hi2 := (List.getElem?_eq_some_iff.mp hi).1
          rw [List.length_append] at hi2
          have hi3 : i = cs.length := by simp at hi2; omega
          subst hi3
          rw [List.getElem?_append_right (Nat.le_refl _), Nat.sub_self] at hi
          rw [pk_us, m8]
          exact Option.some.inj hi
    · have hk1 : ¬ kd ta t1 = 58 := fun q => y1 (i_eq.mpr q)
      simp only [hk1, if_false]
      exact q2.fl y2
theorem cmp_2 {p1 : Int32} : ∀ (d : Nat) (x : Int32) (k : Nat) (fpa cda : Nat → Int32), E_tc_compareCases ca cn p0 p1 cf' fp' cd' k 2 [x] [] [] [] [] cf fpa cda → (cf 7).toInt ≤ x.toInt + (d : Int) → cf' = upd cf 7 p0 := by
  intro d
  induction d with
  | zero =>
    intro x k fpa cda h hx
    rcases iv_tc_compareCases_2 h with ⟨k, (⟨h1, fp5, cd6, v8, h2, (⟨h3, e0, e1, e2⟩ | ⟨h3, fp15, cd16, v18, h4, e0, e1, e2⟩)⟩ | ⟨h1, z21, h2, z22, h3, fp25, cd26, v28, h4, z31, h5, hE⟩)⟩
    · exact e0
    · exact e0
    · exfalso; omega
  | succ d ih =>
    intro x k fpa cda h hx
    rcases iv_tc_compareCases_2 h with ⟨k, (⟨h1, fp5, cd6, v8, h2, (⟨h3, e0, e1, e2⟩ | ⟨h3, fp15, cd16, v18, h4, e0, e1, e2⟩)⟩ | ⟨h1, z21, h2, z22, h3, fp25, cd26, v28, h4, z31, h5, hE⟩)⟩
    · exact e0
    · exact e0
    · have := Int32.toInt_lt (cf 7)
      have := Int32.le_toInt x
      have hz := ti_add h5 (rfl : x.toInt = x.toInt) (show (1 : Int32).toInt = 1 from rfl) (by omega) (by omega)
      exact ih _ k _ _ hE (by omega)
theorem cmp_r {p1 : Int32} (h : R_tc_compareCases ca cn p0 p1 cf fp cd cf' fp' cd') : cf' = upd cf 7 p0 := by
  obtain ⟨k, h⟩ := h
  obtain ⟨k, h⟩ := iv_tc_compareCases_0 h
  have := Int32.toInt_lt (cf 7)
  have := Int32.le_toInt p0
  exact cmp_2 4294967296 _ k _ _ h (by omega)
end SE
