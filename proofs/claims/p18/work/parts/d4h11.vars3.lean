/-- the length of the string that token t is -/
def qlS (ta : Nat → Nat → Int32) (t : Nat) : Int := if 0 ≤ (ta 2 t).toInt ∧ (ta 2 t).toInt < 2048 then (ta 5 (ta 2 t).toNatClampNeg).toInt else 0
def pKsB (k : Nat → Int) (t : Nat) (o : Int) : Option (Ast × Nat) := if k t = 123 ∧ o < 60 then (match pKs k (o + 1) 2048 (t + 1) with
    | none => none
    | some (l, t2) => if k t2 = 125 then some (l, t2 + 1) else none) else none
section S4
variable {ta : Nat → Nat → Int32} {cn sn : Nat} {na : Nat → Nat → Int32} {own own' : Bool} {P P' : va_W} {lf lf' nf : Nat → Int32} {lg lg' : Nat → Option Nat} {ff : Nat → Int32} {fg : Nat → Option Nat} {lq lc lq' lc' fa : Nat}
variable {tf fp cd tf' fp' cd' fx fx' cf cf' fs sd fs' sd' sf sf' : Nat → Int32} {ox ox' fo : Option Nat} {c t sc : Nat} {o n : Int} {a : Atr} {L : Nms} {Flq' : List (Int32 × Fnc)}
variable {G : Int32 → Option Ent} {F : Int32 → Option Fnc}
theorem quo_r {p0 v : Int32} (h : R_tk_quoted2 ta p0 v) : v.toInt = if 0 ≤ p0.toInt ∧ p0.toInt < 2048 then (ta 5 p0.toNatClampNeg).toInt else 0 := by
  rcases h with (⟨h1, ev⟩ | ⟨h1, (⟨h2, ev⟩ | ⟨h2, z5, h3, ev⟩)⟩) | h
  all_goals first
    | exact h.elim
    | (rw [if_neg (by omega), ev]; rfl)
    | (rw [if_pos (by omega), ev, h3])
theorem str_51 {v x2 x3 x4 : Int32} : ∀ (d : Nat) (x5 : Int32) (k : Nat) (tfa fpa cda fsa sda : Nat → Int32), E_tc_string fo ta cn sn sf tf' fp' cd' fs' sd' v k 51 [x2, x3, x4, x5] [] [] [] [] tfa fpa cda fsa sda → x3.toInt ≤ x5.toInt + (d : Int) → tf' = tfa ∧ v = x4 := by
  intro d
  induction d with
  | zero =>
    intro x5 k tfa fpa cda fsa sda h hx
    rcases iv_tc_string_51 h with ⟨k, (⟨h1, e0, e1, e2, e3, e4, ev⟩ | ⟨h1, (⟨h2, e0, e1, e2, e3, e4, ev⟩ | ⟨h2, z5, h3, z6, h4, v8, h5, fp15, cd16, fs17, sd18, h6, z28, h7, hE⟩)⟩)⟩
    · exact ⟨e0, ev⟩
    · exact ⟨e0, ev⟩
    · exfalso; omega
  | succ d ih =>
    intro x5 k tfa fpa cda fsa sda h hx
    rcases iv_tc_string_51 h with ⟨k, (⟨h1, e0, e1, e2, e3, e4, ev⟩ | ⟨h1, (⟨h2, e0, e1, e2, e3, e4, ev⟩ | ⟨h2, z5, h3, z6, h4, v8, h5, fp15, cd16, fs17, sd18, h6, z28, h7, hE⟩)⟩)⟩
    · exact ⟨e0, ev⟩
    · exact ⟨e0, ev⟩
    · have := Int32.toInt_lt x3
      have := Int32.le_toInt x5
      have hz := ti_add h7 (rfl : x5.toInt = x5.toInt) (show (1 : Int32).toInt = 1 from rfl) (by omega) (by omega)
      exact ih _ k _ _ _ _ _ hE (by omega)
theorem str_ok (hl : Lst0 ta c) {v : Int32} (h : R_tc_string fo ta cn sn sf tf fp cd fs sd tf' fp' cd' fs' sd' v) (hc : Cur tf c t o) (hk : kd ta t = 18) :
    Cur tf' c (t + 1) o ∧ SmC tf tf' ∧ v.toInt = if chS sf = true ∧ qlS ta t < (sf 4).toInt then 1 else 0 := by
  obtain ⟨k, h⟩ := h
  have hlt := lst_lt (p0 := 18) hc hl (by decide) (by decide) hk
  rcases iv_tc_string_0 h with ⟨k, v30, h1, v33, h2, tf36, h3, z48, h4, (⟨h5, hE⟩ | ⟨h5, (⟨h6, hE⟩ | ⟨h6, hE⟩)⟩)⟩
  · have em := mean_cur h1 hc
    subst em
    have hs := step_cur h3 hc hlt
    have := Int32.toInt_lt v33
    obtain ⟨q1, q2⟩ := str_51 v33.toInt.toNat _ k _ _ _ _ _ hE (by have : (0 : Int32).toInt = 0 := rfl; omega)
    rw [q1, q2]
    refine ⟨hs.1, hs.2, ?_⟩
    have : chS sf = false := by unfold chS; rw [if_pos (by rw [← h4]; exact h5)]
    rw [this, if_neg (by simp)]; rfl
  · have em := mean_cur h1 hc
    subst em
    have hs := step_cur h3 hc hlt
    obtain ⟨q1, q2⟩ := str_51 v33.toInt.toNat _ k _ _ _ _ _ hE (by have : (0 : Int32).toInt = 0 := rfl; omega)
    rw [q1, q2]
    refine ⟨hs.1, hs.2, ?_⟩
    have e := quo_r h2
    rw [if_neg (fun z => by have := z.2; unfold qlS at this; omega)]; rfl
  · have em := mean_cur h1 hc
    subst em
    have hs := step_cur h3 hc hlt
    obtain ⟨q1, q2⟩ := str_51 v33.toInt.toNat _ k _ _ _ _ _ hE (by have : (0 : Int32).toInt = 0 := rfl; omega)
    rw [q1, q2]
    refine ⟨hs.1, hs.2, ?_⟩
    have e := quo_r h2
    have : chS sf = true := by unfold chS; rw [if_neg (by rw [← h4]; exact h5)]
    rw [if_pos ⟨this, by unfold qlS; omega⟩]; rfl
theorem lst_end {v x2 x3 x4 : Int32} {k : Nat} {tfa fpa cda fsa sda : Nat → Int32} (h : E_tc_list fo ta cn na own lf lg ff fg P sn sf tf' fp' cd' fs' sd' v k 16 [x2, x3, x4] [] [] [] [] tfa fpa cda fsa sda) (h3 : x3.toInt = 0) : R_tk_close ta 125 tfa tf' ∧ v.toInt = if (sf 4).toInt < x2.toInt then 0 else 1 := by
  rcases iv_tc_list_16 h with ⟨k, (⟨h1, tf16, h2, (⟨k3, e0, e1, e2, e3, e4, ev⟩ | ⟨k3, e0, e1, e2, e3, e4, ev⟩)⟩ | ⟨h1, (⟨h2, tf29, k3, (⟨h4, e0, e1, e2, e3, e4, ev⟩ | ⟨h4, e0, e1, e2, e3, e4, ev⟩)⟩ | ⟨h2, tf43, fp44, cd45, hx46, ox47, fx48, k3, tf79, fp80, cd81, fx82, h4, (⟨h5, hE⟩ | ⟨h5, fp104, cd105, fs106, sd107, h6, hE⟩)⟩)⟩)⟩
  · exact ⟨by rw [e0]; exact h2, by rw [if_pos k3, ev]; rfl⟩
  · exact ⟨by rw [e0]; exact h2, by rw [if_neg k3, ev]; rfl⟩
  · exact ⟨by rw [e0]; exact k3, by rw [if_pos h4, ev]; rfl⟩
  · exact ⟨by rw [e0]; exact k3, by rw [if_neg h4, ev]; rfl⟩
  · exact absurd h3 h2
  · exact absurd h3 h2
theorem lst_loop (hG : EnvC own P lf lg G) (hF : FunC na P ff fg F) (hl : Lst0 ta c) (h0o : 0 ≤ o) {v : Int32} :
    ∀ (n k i : Nat) (x2 x3 x4 : Int32) (tfa fpa cda fsa sda : Nat → Int32) (t1 : Nat), E_tc_list fo ta cn na own lf lg ff fg P sn sf tf' fp' cd' fs' sd' v k 16 [x2, x3, x4] [] [] [] [] tfa fpa cda fsa sda → x3.toInt = 1 → x4.toInt = (i : Int) → x2.toInt = (i : Int) → i + n = 2048 → 2 * i ≤ t1 → Cur tfa c t1 (o + 1) →
      (match pKs (kd ta) (o + 1) n t1 with
      | none => Flq tf'
      | some (l, t2) => t1 < t2 ∧ (if kd ta t2 = 125 then Cur tf' c (t2 + 1) o ∧ AT tfa tf' (semKs (kd ta) (vd ta) G F l) (fun m => v.toInt = if (sf 4).toInt < (i : Int) + m then 0 else 1) else Flq tf')) := by
  intro n
  induction n with
  | zero =>
    intro k i x2 x3 x4 tfa fpa cda fsa sda t1 h h3 h4 h2 hin ht hc
    have c1 := hc.2.2.2.2.1
    have c2 := hc.2.2.2.2.2.1
    exfalso; omega
  | succ n ih =>
    intro k i x2 x3 x4 tfa fpa cda fsa sda t1 h hx3 hx4 hx2 hin ht hc
    have c1 := hc.2.2.2.2.1
    have c2 := hc.2.2.2.2.2.1
    have un : pKs (kd ta) (o + 1) (n + 1) t1 = (match pE (kd ta) 0 t1 (o + 1) with
      | none => none
      | some (e, t2) => if kd ta t2 = 44 then (match pKs (kd ta) (o + 1) n (t2 + 1) with
          | none => none
          | some (r, t3) => some (.add e r, t3)) else some (.add e .null, t2)) := by first | rfl | simp [pKs]
    have fin : ∀ {k : Nat} {tf43 fp44 cd45 : Nat → Int32} {ox47 : Option Nat} {fx48 : Nat → Int32} {tf79 fp80 cd81 fx82 fpb cdb fsb sdb : Nat → Int32} {mk : Int32}, R_ex_parse (RL_ex_parse 61) (RL_ex_operand 61) ta cn na own P lf lg ff fg (0 : Int32) tfa fpa cda tf43 fp44 cd45 ox47 fx48 → R_ex_settle cn P ox47 mk tf43 fp44 cd45 fx48 tf79 fp80 cd81 fx82 → E_tc_list fo ta cn na own lf lg ff fg P sn sf tf' fp' cd' fs' sd' v k 71 [x2, x4] [] [] [] [] tf79 fpb cdb fsb sdb →
      (match pKs (kd ta) (o + 1) (n + 1) t1 with
      | none => Flq tf'
      | some (l, t2) => t1 < t2 ∧ (if kd ta t2 = 125 then Cur tf' c (t2 + 1) o ∧ AT tfa tf' (semKs (kd ta) (vd ta) G F l) (fun m => v.toInt = if (sf 4).toInt < (i : Int) + m then 0 else 1) else Flq tf')) := by
      intro k tf43 fp44 cd45 ox47 fx48 tf79 fp80 cd81 fx82 fpb cdb fsb sdb mk h3 h4 hE
      obtain ⟨k, z1, g1, tf2, v4, g2, z13, g3, hE⟩ := iv_tc_list_71 hE
      have h3' := exP_ok hG hF hl h3 hc
      rw [show ((0 : Int32)).toInt = 0 from rfl] at h3'
      rw [un]
      cases hr : pE (kd ta) 0 t1 (o + 1) with
      | none =>
        rw [hr] at h3'
        exact (tke_tc_list _ _ _ _ _ _ _ _ _ _ _ _ hE).2 ((tkr_tk_accept g2).2 ((set_r h4).1.fl h3'))
      | some r =>
        obtain ⟨e, t2⟩ := r
        rw [hr] at h3'
        obtain ⟨a1, a2, a3, a4⟩ := h3'
        have a1' := a1.2.2.2.2.1
        have hcc := (set_r h4).1.cur a1
        have hz1 := ti_add g1 hx2 (show (1 : Int32).toInt = 1 from rfl) (by omega) (by omega)
        have hz13 := ti_add g3 hx4 (show (1 : Int32).toInt = 1 from rfl) (by omega) (by omega)
        have at1 : AT tfa tf79 ((att (kd ta) (vd ta) G F e [] 0).bind aKon) (fun _ => True) := (AT.bind a4 (fun a ha => set_at h4 a1 ha) (set_bk h4)).imp (fun _ _ => trivial)
        rcases accept_cur (p0 := 44) g2 hcc hl (by decide) (by decide) with ⟨q1, q2, q3, q4⟩ | ⟨q1, q2, q3⟩
        · have hk44 : kd ta t2 = 44 := by unfold kd; rw [q1]; rfl
          simp only [hk44, if_true]
          have ihh := ih k (i + 1) z1 v4 z13 tf2 _ _ _ _ (t2 + 1) hE (by rw [q2]; rfl) (by omega) (by omega) (by omega) (by omega) q3
          cases hr2 : pKs (kd ta) (o + 1) n (t2 + 1) with
          | none =>
            rw [hr2] at ihh
            exact ihh
          | some r2 =>
            obtain ⟨r, t3⟩ := r2
            rw [hr2] at ihh
            obtain ⟨i1, i2⟩ := ihh
            show t1 < t3 ∧ _
            refine ⟨by omega, ?_⟩
            by_cases hk : kd ta t3 = 125
            · rw [if_pos hk] at i2 ⊢
              refine ⟨i2.1, ?_⟩
              show AT tfa tf' (((att (kd ta) (vd ta) G F e [] 0).bind aKon).bind fun _ => (semKs (kd ta) (vd ta) G F r).bind fun n => some (n + 1)) _
              refine AT.bind at1 (fun _ _ => AT.bind (AT.sm q4 i2.2) (fun m hm => AT.ret ?_) BK.rf) (fun x => bke_tc_list _ _ _ _ _ _ _ _ _ _ _ _ hE (SmC.bd q4 x))
              rw [hm, show ((i + 1 : Nat) : Int) + m = (i : Int) + (m + 1) by omega]
            · rw [if_neg hk] at i2 ⊢
              exact i2
        · have hk44 : ¬ kd ta t2 = 44 := fun q => q1 (i_eq.mpr q)
          simp only [hk44, if_false]
          obtain ⟨l1, l2⟩ := lst_end hE (by rw [q2]; rfl)
          rw [q3] at l1
          refine ⟨by omega, ?_⟩
          rcases close_cur (p0 := 125) l1 hcc (by omega) hl (by decide) (by decide) with ⟨p1, p2⟩ | ⟨p1, p2⟩
          · have hk : kd ta t2 = 125 := by unfold kd; rw [p1]; rfl
            rw [if_pos hk]
            refine ⟨by rw [show o = o + 1 - 1 by omega]; exact p2, ?_⟩
            show AT tfa tf' (((att (kd ta) (vd ta) G F e [] 0).bind aKon).bind fun _ => some ((0 : Int) + 1)) _
            refine AT.ms (AT.bind at1 (fun _ _ => AT.ret ?_) BK.rf) (smr_tk_close l1)
            rw [l2, hz1]
            rfl
          · have hk : ¬ kd ta t2 = 125 := fun q => p1 (i_eq.mpr q)
            rw [if_neg hk]
            exact p2
    rcases iv_tc_list_16 h with ⟨k, (⟨h1, tf16, h2, (⟨h3, e0, e1, e2, e3, e4, ev⟩ | ⟨h3, e0, e1, e2, e3, e4, ev⟩)⟩ | ⟨h1, (⟨h2, tf29, h3, (⟨h4, e0, e1, e2, e3, e4, ev⟩ | ⟨h4, e0, e1, e2, e3, e4, ev⟩)⟩ | ⟨h2, tf43, fp44, cd45, hx46, ox47, fx48, h3, tf79, fp80, cd81, fx82, h4, (⟨h5, hE⟩ | ⟨h5, fp104, cd105, fs106, sd107, h6, hE⟩)⟩)⟩)⟩
    · exfalso; omega
    · exfalso; omega
    · exfalso; omega
    · exfalso; omega
    · exact fin h3 h4 hE
    · exact fin h3 h4 hE
theorem lst_ok (hG : EnvC own P lf lg G) (hF : FunC na P ff fg F) (hl : Lst0 ta c) {v : Int32} (h : R_tc_list fo ta cn na own lf lg ff fg P sn sf tf fp cd fs sd tf' fp' cd' fs' sd' v) (hc : Cur tf c t o) :
    (match pKsB (kd ta) t o with
      | none => Flq tf'
      | some (l, t1) => Cur tf' c t1 o ∧ t < t1 ∧ AT tf tf' (semKs (kd ta) (vd ta) G F l) (fun m => v.toInt = if (sf 4).toInt < m then 0 else 1)) := by
  obtain ⟨k, h⟩ := h
  have h0o := hc.2.2.2.2.2.2.1
  obtain ⟨k, tf117, h1, hE⟩ := iv_tc_list_0 h
  unfold pKsB
  rcases open_cur (p0 := 123) h1 hc hl (by decide) (by decide) with ⟨p1, p2, p3⟩ | ⟨p1, p2⟩
  · have hk : kd ta t = 123 := by unfold kd; rw [p1]; rfl
    rw [if_pos ⟨hk, p2⟩]
    have lp := lst_loop hG hF hl h0o 2048 k 0 _ _ _ _ _ _ _ _ (t + 1) hE (by rfl) (by rfl) (by rfl) (by omega) (by omega) p3
    cases hr : pKs (kd ta) (o + 1) 2048 (t + 1) with
    | none =>
      rw [hr] at lp
      exact lp
    | some r =>
      obtain ⟨l, t2⟩ := r
      rw [hr] at lp
      obtain ⟨i1, i2⟩ := lp
      by_cases hk2 : kd ta t2 = 125
      · rw [if_pos hk2] at i2
        simp only [hk2, if_true]
        refine ⟨i2.1, by omega, (AT.sm (smr_tk_open h1) i2.2).imp (fun m hm => ?_)⟩
        rw [hm, show ((0 : Nat) : Int) + m = m by omega]
      · rw [if_neg hk2] at i2
        simp only [hk2, if_false]
        exact i2
  · have hk : ¬ (kd ta t = 123 ∧ o < 60) := fun q => p1 ⟨i_eq.mpr q.1, q.2⟩
    rw [if_neg hk]
    exact (tke_tc_list _ _ _ _ _ _ _ _ _ _ _ _ hE).2 p2
end S4
