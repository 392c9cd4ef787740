def kd (ta : Nat → Nat → Int32) : Nat → Int := fun i => (ta 0 i).toInt
def vd (ta : Nat → Nat → Int32) : Nat → Int32 := fun i => ta 2 i
def DR (k : Nat → Int) (e : Ast) (t0 t1 : Nat) (fx' : Nat → Int32) : Prop := (fx' 5).toInt = dpT k e ∧ (fx' 7).toInt = rkT k e ∧ 1 ≤ dpT k e ∧ dpT k e ≤ (t1 : Int) - (t0 : Int)
/-- what a reader of expressions has done: it failed as the grammar does, or it stands behind the tree, with its depth, its rank and, if nothing was wrong, its attributes -/
def OkX (ta : Nat → Nat → Int32) (c : Nat) (P : va_W) (G : Int32 → Option Ent) (F : Int32 → Option Fnc) (t0 : Nat) (o : Int) (r : Option (Ast × Nat)) (tf tf' : Nat → Int32) (ox' : Option Nat) (fx' : Nat → Int32) : Prop := match r with
  | none => Flq tf'
  | some (e, t1) => Cur tf' c t1 o ∧ t0 < t1 ∧ DR (kd ta) e t0 t1 fx' ∧ AT tf tf' (att (kd ta) (vd ta) G F e [] 0) (MA P c (2 * ((t1 : Int) - (t0 : Int))) fx' ox')
theorem mean_cur {ta : Nat → Nat → Int32} {tf : Nat → Int32} {v : Int32} {c t : Nat} {o : Int} (h : R_tk_meaning ta tf v) (hc : Cur tf c t o) : v = ta 2 t := by
  have h1' := hc.1
  have h2' := hc.2.1
  have h3' := hc.2.2.2.2.1
  rcases h with (⟨h1, ev⟩ | ⟨h1, z3, h2, ev⟩) | h
  · exfalso; omega
  · rw [ev, h2, cn_of hc.2.1]
  · exact h.elim
theorem behind_cur {ta : Nat → Nat → Int32} {tf : Nat → Int32} {v : Int32} {c t : Nat} {o : Int} (h : R_tk_kindBehind ta tf v) (hc : Cur tf c t o) (hlt : t + 1 < c) : v = ta 0 (t + 1) := by
  have h1' := hc.1
  have h2' := hc.2.1
  have h3' := hc.2.2.2.2.2.1
  rcases h with ⟨z2, h1, (⟨h2, ev⟩ | ⟨h2, z6, h3, z7, h4, ev⟩)⟩ | h
  · exfalso
    have := ti_add h1 h2' (show (1 : Int32).toInt = 1 from rfl) (by omega) (by omega)
    omega
  · have := ti_add h3 h2' (show (1 : Int32).toInt = 1 from rfl) (by omega) (by omega)
    rw [ev, h4, cn_of (t := t + 1) (by omega)]
  · exact h.elim
theorem rank_r {p0 v : Int32} (h : R_ex_rank p0 v) : v.toInt = rkO p0.toInt := by
  unfold rkO
  rcases h with (⟨h1, ev⟩ | ⟨h1, ev⟩ | ⟨h1, ev⟩ | ⟨h1, ev⟩ | ⟨h1, ev⟩ | ⟨h1, ev⟩ | ⟨h1, ev⟩ | ⟨h1, ev⟩ | ⟨h1, ev⟩ | ⟨h1, ev⟩ | ⟨h1, ev⟩) | h
  · have q : ∀ k ∈ ([37, 38, 42, 43, 45, 47, 60, 62, 94, 124, 130, 131, 132, 133, 134, 135, 136, 137] : List Int), ¬ p0.toInt = k := h1
    have q1 := q 137 (by simp)
    have q2 := q 136 (by simp)
    have q3 := q 124 (by simp)
    have q4 := q 94 (by simp)
    have q5 := q 38 (by simp)
    have q6 := q 130 (by simp)
    have q7 := q 131 (by simp)
    have q8 := q 60 (by simp)
    have q9 := q 62 (by simp)
    have q10 := q 132 (by simp)
    have q11 := q 133 (by simp)
    have q12 := q 134 (by simp)
    have q13 := q 135 (by simp)
    have q14 := q 43 (by simp)
    have q15 := q 45 (by simp)
    have q16 := q 42 (by simp)
    have q17 := q 47 (by simp)
    have q18 := q 37 (by simp)
    rw [if_neg q1, if_neg q2, if_neg q3, if_neg q4, if_neg q5, if_neg (by omega), if_neg (by omega), if_neg (by omega), if_neg (by omega), if_neg (by omega), ev]
    rfl
  · rw [ev]; rcases h1 with h1 | h1 | h1 <;> rw [h1] <;> rfl
  · rw [ev, h1]; rfl
  · rw [ev]; rcases h1 with h1 | h1 <;> rw [h1] <;> rfl
  · rw [ev]; rcases h1 with h1 | h1 | h1 | h1 <;> rw [h1] <;> rfl
  · rw [ev, h1]; rfl
  · rw [ev, h1]; rfl
  · rw [ev]; rcases h1 with h1 | h1 <;> rw [h1] <;> rfl
  · rw [ev]; rcases h1 with h1 | h1 <;> rw [h1] <;> rfl
  · rw [ev, h1]; rfl
  · rw [ev, h1]; rfl
  · exact h.elim
theorem rk0 : rkO 0 = 0 := by decide
theorem rk19 : rkO 19 = 0 := by decide
theorem rk_lt {ta : Nat → Nat → Int32} {tf : Nat → Int32} {c t : Nat} {o : Int} (hc : Cur tf c t o) (hl : Lst0 ta c) (h : 0 < rkO (kd ta t)) : t + 1 < c := by
  rcases Nat.lt_or_ge (t + 1) c with q | q
  · exact q
  · have := hc.2.2.2.2.1
    rcases hl t (by omega) with e | e
    · rw [show kd ta t = 0 from e, rk0] at h; omega
    · rw [show kd ta t = 19 from e, rk19] at h; omega
theorem ma_new {P : va_W} {c : Nat} {n : Int} {ox : Option Nat} {a b d g : Int32} {x : Atr} (h0 : 0 ≤ a.toInt ∧ a.toInt < (c : Int)) (h1 : b.toInt = srt x.1) (h2 : d.toInt = x.2.1) (h2' : x.2.1 = 0 ∨ x.2.1 = 2 ∨ x.2.1 = 3) (h3 : x.2.1 = 0 → g = x.2.2.1) (h6 : x.2.2.2 = 1) (hn : 1 ≤ n) (hp : PlM P ox x.1) :
    MA P c n (upd (upd (upd (upd (upd (upd (upd (upd (fun _ => 0) 0 a) 1 b) 2 d) 3 0) 5 1) 6 1) 7 0) 8 g) ox x := by
  refine ⟨?_, ?_, ?_, ?_, h2', ?_, ⟨?_, ?_, ?_⟩, hp⟩
  · simpa [upd] using h0
  · refine ⟨by simp [upd], ?_⟩
    have e : (upd (upd (upd (upd (upd (upd (upd (upd (fun _ => 0) 0 a) 1 b) 2 d) 3 0) 5 1) 6 1) 7 0) 8 g 3).toInt = 0 := by simp [upd]
    rw [e]; omega
  · simpa [upd] using h1
  · simpa [upd] using h2
  · intro q; simpa [upd] using h3 q
  · rw [h6]; simp [upd]
  · omega
  · omega
theorem ma_first {P : va_W} {c : Nat} {n : Int} {ox : Option Nat} {fx : Nat → Int32} {a : Atr} {v : Int32} (h : MA P c n fx ox a) (h0 : 0 ≤ v.toInt ∧ v.toInt < (c : Int)) : MA P c n (upd fx 0 v) ox a := by
  obtain ⟨m1, m2, m3, m4, m5, m6, m7, m8⟩ := h
  refine ⟨?_, ?_, ?_, ?_, m5, ?_, ?_, m8⟩
  · rw [pk_us]; exact h0
  · rw [pk_un (by decide)]; exact m2
  · rw [pk_un (by decide)]; exact m3
  · rw [pk_un (by decide)]; exact m4
  · rw [pk_un (by decide)]; exact m6
  · rw [pk_un (by decide)]; exact m7
theorem ma_le {P : va_W} {c : Nat} {n m : Int} {ox : Option Nat} {fx : Nat → Int32} {a : Atr} (h : MA P c n fx ox a) (hn : n ≤ m) : MA P c m fx ox a := by
  obtain ⟨m1, m2, m3, m4, m5, m6, m7, m8⟩ := h
  exact ⟨m1, m2, m3, m4, m5, m6, ⟨m7.1, m7.2.1, by omega⟩, m8⟩
section EX
variable {RLp : T_ex_parse} {RLo : T_ex_operand} {ta : Nat → Nat → Int32} {cn : Nat} {na : Nat → Nat → Int32} {own : Bool} {P : va_W} {lf : Nat → Int32} {lg : Nat → Option Nat} {ff : Nat → Int32} {fg : Nat → Option Nat}
variable {tf fp cd tf' fp' cd' fx fx' : Nat → Int32} {ox ox' : Option Nat} {c t : Nat} {o : Int}
variable {G : Int32 → Option Ent} {F : Int32 → Option Fnc} {PP : PPT} {OO : POT}
def HPx (RLp : T_ex_parse) (ta : Nat → Nat → Int32) (cn : Nat) (na : Nat → Nat → Int32) (own : Bool) (P : va_W) (lf : Nat → Int32) (lg : Nat → Option Nat) (ff : Nat → Int32) (fg : Nat → Option Nat) (c : Nat) (G : Int32 → Option Ent) (F : Int32 → Option Fnc) (PP : PPT) : Prop :=
  ∀ (p0 : Int32) (tf fp cd tf' fp' cd' : Nat → Int32) (ox' : Option Nat) (fx' : Nat → Int32) (t : Nat) (o : Int), RLp ta cn na own P lf lg ff fg p0 tf fp cd tf' fp' cd' ox' fx' → Cur tf c t o → OkX ta c P G F t o (PP p0.toInt t o) tf tf' ox' fx'
def HOx (RLo : T_ex_operand) (ta : Nat → Nat → Int32) (cn : Nat) (na : Nat → Nat → Int32) (own : Bool) (P : va_W) (lf : Nat → Int32) (lg : Nat → Option Nat) (ff : Nat → Int32) (fg : Nat → Option Nat) (c : Nat) (G : Int32 → Option Ent) (F : Int32 → Option Fnc) (OO : POT) : Prop :=
  ∀ (tf fp cd tf' fp' cd' : Nat → Int32) (ox' : Option Nat) (fx' : Nat → Int32) (t : Nat) (o : Int), RLo ta cn na own P lf lg ff fg tf fp cd tf' fp' cd' ox' fx' → Cur tf c t o → OkX ta c P G F t o (OO t o) tf tf' ox' fx'
theorem fig_ok (h : R_ex_figure RLp RLo ta cn tf fp cd tf' fp' cd' ox' fx') (hc : Cur tf c t o) (hl : Lst0 ta c) : OkX ta c P G F t o (if kd ta t = 17 then some (eNum t, t + 1) else none) tf tf' ox' fx' := by
  rcases h with ⟨q1, v5, h1, fp9, cd10, v12, h2, v16, h3, (⟨h4, tf22, h5, e0, e1, e2, e3, e4⟩ | ⟨h4, tf31, h5, e0, e1, e2, e3, e4⟩)⟩ | h
  · rw [kind_cur h3 hc] at h4
    rw [if_neg (show ¬ kd ta t = 17 from h4), e0]
    exact (fail_r h5 (Or.inl hc.2.2.2.1)).1
  · rw [kind_cur h3 hc] at h4
    rw [if_pos (show kd ta t = 17 from h4), e0, e3, e4]
    have hs := step_cur h5 hc (lst_lt (p0 := 17) hc hl (by decide) (by decide) h4)
    have tl := hc.2.2.2.2.1
    have h0 : 0 ≤ (tf 13).toInt ∧ (tf 13).toInt < (c : Int) := by rw [hc.2.1]; omega
    refine ⟨hs.1, Nat.lt_succ_self _, ⟨?_, ?_, ?_, ?_⟩, ?_⟩
    · simp [upd, dpT, eNum]
    · simp [upd, rkT, eNum]
    · simp [dpT, eNum]
    · simp [dpT, eNum]; omega
    · rw [att_num]
      refine AT.ms (AT.ret (y := (0, 0, vd ta t, 1)) (ma_new h0 rfl rfl (Or.inl rfl) (fun _ => ?_) rfl (by omega) (Or.inl (Or.inl rfl)))) hs.2
      rw [mean_cur h1 hc]; rfl
  · exact h.elim
theorem grp_ok (hTP : TK_ex_parse RLp) (hP : HPx RLp ta cn na own P lf lg ff fg c G F PP) (h : R_ex_group RLp RLo ta cn na own P lf lg ff fg tf fp cd tf' fp' cd' ox' fx') (hc : Cur tf c t o) (hl : Lst0 ta c) (hk : kd ta t = 40) :
    OkX ta c P G F t o (if o < 60 then (match PP (-1) (t + 1) (o + 1) with
      | none => none
      | some (e, t1) => if kd ta t1 = 41 then some (e, t1 + 1) else none) else none) tf tf' ox' fx' := by
  have tl := hc.2.2.2.2.1
  have h0 : 0 ≤ (tf 13).toInt ∧ (tf 13).toInt < (c : Int) := by rw [hc.2.1]; omega
  rcases h with ⟨tf1, h1, tf13, fp14, cd15, hx16, ox17, fx18, h2, tf45, h3, e0, e1, e2, e3, e4⟩ | h
  · rw [e0, e3, e4]
    rcases open_cur (p0 := 40) h1 hc hl (by decide) (by decide) with ⟨q1, q2, q3⟩ | ⟨q1, q2⟩
    · rw [if_pos q2]
      have h4 := hP _ _ _ _ _ _ _ _ _ _ _ h2 q3
      rw [show ((-1 : Int32)).toInt = -1 from rfl] at h4
      cases hr : PP (-1) (t + 1) (o + 1) with
      | none =>
        rw [hr] at h4
        exact (tkr_tk_close h3).2 h4
      | some r =>
        obtain ⟨e, t1⟩ := r
        rw [hr] at h4
        obtain ⟨a1, a2, ⟨a3, a4, a5, a6⟩, a7⟩ := h4
        rcases close_cur (p0 := 41) h3 a1 (by have := hc.2.2.2.2.2.2.1; omega) hl (by decide) (by decide) with ⟨b1, b2⟩ | ⟨b1, b2⟩
        · have hk1 : kd ta t1 = 41 := by unfold kd; rw [b1]; rfl
          simp only [hk1, if_true]
          refine ⟨by rw [show o = o + 1 - 1 by omega]; exact b2, by omega, ⟨?_, ?_, a5, by omega⟩, ?_⟩
          · rw [pk_un (by decide)]; exact a3
          · rw [pk_un (by decide)]; exact a4
          · refine ((AT.sm (smr_tk_open h1) a7).ms (smr_tk_close h3)).imp (fun y hy => ma_first (ma_le hy (by omega)) h0)
        · have hk1 : ¬ kd ta t1 = 41 := fun q => b1 (i_eq.mpr q)
          simp only [hk1, if_false]
          exact b2
    · rw [if_neg (fun q => q1 ⟨i_eq.mpr hk, q⟩)]
      exact (tkr_tk_close h3).2 ((hTP _ _ _ _ _ _ _ _ _ _ _ _ _ _ _ _ _ _ h2).2 q2)
  · exact h.elim
theorem nam_ok (hG : EnvC own P lf lg G) (h : R_ex_named RLp RLo ta cn own P lf lg tf fp cd tf' fp' cd' ox' fx') (hc : Cur tf c t o) (hl : Lst0 ta c) (h16 : kd ta t = 16) : OkX ta c P G F t o (some (eName t, t + 1)) tf tf' ox' fx' := by
  obtain ⟨k, h⟩ := h
  have hlt := lst_lt (p0 := 16) hc hl (by decide) (by decide) h16
  have tl := hc.2.2.2.2.1
  have h10 := hc.1
  have h0 : 0 ≤ (tf 13).toInt ∧ (tf 13).toInt < (c : Int) := by rw [hc.2.1]; omega
  have fin : ∀ {k : Nat} {tfa fpa cda : Nat → Int32} {oxa : Option Nat} {fxa : Nat → Int32} {hxa : Nat}, E_ex_named RLp RLo ta cn own P lf lg tf' fp' cd' ox' fx' k 122 [] [] [oxa] [fxa] [hxa] tfa fpa cda → SmB tf tfa → (fxa 5).toInt = 1 → (fxa 7).toInt = 0 → AT tf tfa ((G (vd ta t)).bind fun g => some (aNam g)) (MA P c 2 fxa oxa) → OkX ta c P G F t o (some (eName t, t + 1)) tf tf' ox' fx' := by
    intro k tfa fpa cda oxa fxa hxa hE hb h5 h7 ha
    obtain ⟨k, tf1, h1, e0, e1, e2, e3, e4⟩ := iv_ex_named_122 hE
    rw [e0, e3, e4]
    have hs := step_cur h1 (hb.cur hc) hlt
    refine ⟨hs.1, Nat.lt_succ_self _, ⟨?_, ?_, ?_, ?_⟩, ?_⟩
    · rw [h5]; simp [dpT, eName]
    · rw [h7]; simp [rkT, eName]
    · simp [dpT, eName]
    · simp [dpT, eName]; omega
    · rw [att_name]
      exact (AT.ms ha hs.2).imp (fun y hy => ma_le hy (by omega))
  rcases iv_ex_named_0 h with ⟨k, q12, v16, h1, v19, h2, (⟨h3, tf42, h4, hE⟩ | ⟨q23, h3, j25, s26, h4, (⟨h5, z31, h6, (⟨h7, hE⟩ | ⟨h7, hE⟩)⟩ | ⟨h5, fp36, cd37, v39, h6, hE⟩)⟩)⟩
  · have em := mean_cur h1 hc
    subst em
    rcases hG _ _ h2 with ⟨g1, -⟩ | ⟨g, q, g1, g2, -⟩
    · refine fin hE (blame_b h4) (by simp [upd]) (by simp [upd]) ?_
      rw [show G (vd ta t) = none from g1]
      exact AT.bad h4 (by decide) (by omega)
    · rw [h3] at g2; exact absurd g2 (by simp)
  · have em := mean_cur h1 hc
    subst em
    rcases hG _ _ h2 with ⟨-, g2⟩ | ⟨g, q, g1, g2, g3⟩
    · rw [h3] at g2; exact absurd g2 (by simp)
    · rw [h3] at g2
      obtain rfl := Option.some.inj g2
      obtain ⟨g4, g5⟩ := g3 _ _ h4
      have ent : g = (1, 0) := by rw [← g4]; unfold entC; rw [if_neg h5, if_pos (by rw [← h6]; exact h7)]
      subst ent
      refine fin hE SmB.rf (by simp [upd]) (by simp [upd]) ?_
      rw [show G (vd ta t) = some (1, 0) from g1]
      exact AT.ret (y := aNam (1, 0)) (ma_new h0 (by first | rfl | decide | (simp [aNam, srt]; done)) (by first | rfl | decide | (simp [aNam, srt]; done)) (Or.inr (Or.inr (by first | rfl | decide | (simp [aNam, srt]; done)))) (fun q => absurd q (by decide)) (by first | rfl | decide | (simp [aNam, srt]; done)) (by omega) (Or.inr ⟨_, 1, rfl, fun j s hj => by rw [(g3 j s hj).1], Or.inl ⟨rfl, rfl⟩⟩))
  · have em := mean_cur h1 hc
    subst em
    rcases hG _ _ h2 with ⟨-, g2⟩ | ⟨g, q, g1, g2, g3⟩
    · rw [h3] at g2; exact absurd g2 (by simp)
    · rw [h3] at g2
      obtain rfl := Option.some.inj g2
      obtain ⟨g4, g5⟩ := g3 _ _ h4
      refine fin hE SmB.rf (by simp [upd]) (by simp [upd]) ?_
      by_cases h8 : (s26 2 &&& 2).toInt = 0
      · have ent : g = (2, 0) := by rw [← g4]; unfold entC; rw [if_neg h5, if_neg (by rw [← h6]; exact h7), if_pos h8]
        subst ent
        rw [show G (vd ta t) = some (2, 0) from g1]
        exact AT.ret (y := aNam (2, 0)) (ma_new h0 (by first | rfl | decide | (simp [aNam, srt]; done)) (by first | rfl | decide | (simp [aNam, srt]; done)) (Or.inr (Or.inr (by first | rfl | decide | (simp [aNam, srt]; done)))) (fun q => absurd q (by decide)) (by first | rfl | decide | (simp [aNam, srt]; done)) (by omega) (Or.inr ⟨_, 2, rfl, fun j s hj => by rw [(g3 j s hj).1], Or.inr (Or.inl ⟨rfl, rfl⟩)⟩))
      · have ent : g = (3, 0) := by rw [← g4]; unfold entC; rw [if_neg h5, if_neg (by rw [← h6]; exact h7), if_neg h8]
        subst ent
        rw [show G (vd ta t) = some (3, 0) from g1]
        exact AT.ret (y := aNam (3, 0)) (ma_new h0 (by first | rfl | decide | (simp [aNam, srt]; done)) (by first | rfl | decide | (simp [aNam, srt]; done)) (Or.inr (Or.inr (by first | rfl | decide | (simp [aNam, srt]; done)))) (fun q => absurd q (by decide)) (by first | rfl | decide | (simp [aNam, srt]; done)) (by omega) (Or.inr ⟨_, 3, rfl, fun j s hj => by rw [(g3 j s hj).1], Or.inr (Or.inr (Or.inl ⟨rfl, rfl⟩))⟩))
  · have em := mean_cur h1 hc
    subst em
    rcases hG _ _ h2 with ⟨-, g2⟩ | ⟨g, q, g1, g2, g3⟩
    · rw [h3] at g2; exact absurd g2 (by simp)
    · rw [h3] at g2
      obtain rfl := Option.some.inj g2
      obtain ⟨g4, g5⟩ := g3 _ _ h4
      have ent : g = (0, s26 5) := by rw [← g4]; unfold entC; rw [if_pos h5]
      subst ent
      refine fin hE SmB.rf (by simp [upd]) (by simp [upd]) ?_
      rw [show G (vd ta t) = some (0, s26 5) from g1]
      exact AT.ret (y := aNam (0, s26 5)) (ma_new h0 (by first | rfl | decide | (simp [aNam, srt]; done)) (by first | rfl | decide | (simp [aNam, srt]; done)) (Or.inl (by first | rfl | decide | (simp [aNam, srt]; done))) (fun q => rfl) (by first | rfl | decide | (simp [aNam, srt]; done)) (by omega) (Or.inl (Or.inl rfl)))
theorem idx_ok (hTP : TK_ex_parse RLp) (hBP : BK_ex_parse RLp) (hP : HPx RLp ta cn na own P lf lg ff fg c G F PP) (hG : EnvC own P lf lg G) (h : R_ex_index RLp RLo ta cn na own P lf lg ff fg tf fp cd tf' fp' cd' ox' fx') (hc : Cur tf c t o) (hl : Lst0 ta c) (h16 : kd ta t = 16) (h91 : kd ta (t + 1) = 91) :
    OkX ta c P G F t o (if o < 60 then (match PP (-1) (t + 2) (o + 1) with
        | none => none
        | some (e, t1) => if kd ta t1 = 93 then some (eIdx t e, t1 + 1) else none) else none) tf tf' ox' fx' := by
  obtain ⟨k, h⟩ := h
  have hlt := lst_lt (p0 := 16) hc hl (by decide) (by decide) h16
  have tl := hc.2.2.2.2.1
  have h10 := hc.1
  have h0 : 0 ≤ (tf 13).toInt ∧ (tf 13).toInt < (c : Int) := by rw [hc.2.1]; omega
  have fin : ∀ {k : Nat} {tfa fpa cda : Nat → Int32} {oxa : Option Nat} {b2 : Int32} {hxa : Nat}, E_ex_index RLp RLo ta cn na own P lf lg ff fg tf' fp' cd' ox' fx' k 91 [] [] [oxa] [(upd (upd (upd (upd (upd (upd (upd (upd (fun _ => 0) 0 (tf 13)) 1 b2) 2 3) 3 0) 5 1) 6 1) 7 0) 8 0)] [hxa] tfa fpa cda → SmB tf tfa → AT tf tfa (aIdx (G (vd ta t))) (fun _ => b2 = 1 ∧ PlM P oxa 4) → OkX ta c P G F t o (if o < 60 then (match PP (-1) (t + 2) (o + 1) with
        | none => none
        | some (e, t1) => if kd ta t1 = 93 then some (eIdx t e, t1 + 1) else none) else none) tf tf' ox' fx' := by
    intro k tfa fpa cda oxa b2 hxa hE hb ha
    obtain ⟨k, tf1, h1, tf12, h2, tf24, fp25, cd26, hx27, ox28, fx29, h3, tf60, fp61, cd62, fx63, h4, tf79, h5, z89, h6, e0, e1, e2, e3, e4⟩ := iv_ex_index_91 hE
    rw [e0, e3, e4]
    have hs := step_cur h1 (hb.cur hc) hlt
    rcases open_cur (p0 := 91) h2 hs.1 hl (by decide) (by decide) with ⟨q1, q2, q3⟩ | ⟨q1, q2⟩
    · rw [if_pos q2]
      have h4' := hP _ _ _ _ _ _ _ _ _ _ _ h3 q3
      rw [show ((-1 : Int32)).toInt = -1 from rfl] at h4'
      cases hr : PP (-1) (t + 2) (o + 1) with
      | none =>
        rw [show t + 1 + 1 = t + 2 from rfl, hr] at h4'
        exact (tkr_tk_close h5).2 ((num_r h4).1.fl h4')
      | some r =>
        obtain ⟨e, t1⟩ := r
        rw [show t + 1 + 1 = t + 2 from rfl, hr] at h4'
        obtain ⟨a1, a2, ⟨a3, a4, a5, a6⟩, a7⟩ := h4'
        have en := (num_r h4).2
        rcases close_cur (p0 := 93) h5 ((num_r h4).1.cur a1) (by have := hc.2.2.2.2.2.2.1; omega) hl (by decide) (by decide) with ⟨b1, b2'⟩ | ⟨b1, b2'⟩
        · have hk1 : kd ta t1 = 93 := by unfold kd; rw [b1]; rfl
          simp only [hk1, if_true]
          have a1' := a1.2.2.2.2.1
          have a1'' := a1.2.2.2.2.2.1
          have h6' : (fx63 5).toInt = dpT (kd ta) e := by rw [en, pk_un (by decide)]; exact a3
          have h7' := ti_add h6 h6' (show (1 : Int32).toInt = 1 from rfl) (by omega) (by omega)
          refine ⟨by rw [show o = o + 1 - 1 by omega]; exact b2', by omega, ⟨?_, ?_, ?_, ?_⟩, ?_⟩
          · rw [pk_un (by decide), pk_us, h7']; simp [dpT, eIdx]
          · simp [upd, rkT, eIdx]
          · simp only [dpT, eIdx]; omega
          · simp only [dpT, eIdx]; omega
          · rw [att_idx]
            refine AT.bind ha (fun _ hm => AT.sm ((hs.2).tr (smr_tk_open h2)) ((AT.bind (AT.bind a7 (fun a hma => num_at h4 a1 hma) (bkr_ex_number h4)) (fun b hmb => AT.ret (N := MA P c (2 * (((t1 + 1 : Nat) : Int) - (t : Int))) (upd (upd (upd (upd (upd (upd (upd (upd (upd (upd (fun _ => 0) 0 (tf 13)) 1 b2) 2 3) 3 0) 5 1) 6 1) 7 0) 8 0) 5 z89) 6 (fx63 6)) oxa) ?_) BK.rf).ms (smr_tk_close h5))) (fun x => bkr_tk_close h5 (bkr_ex_number h4 (hBP _ _ _ _ _ _ _ _ _ _ _ _ _ _ _ _ _ _ h3 (bkr_tk_open h2 (bkr_tk_step h1 x)))))
            obtain ⟨hm1, hm2⟩ := hm
            have hh := hmb.2.2.2.2.2.2.1
            refine ⟨by simpa [upd] using h0, ⟨by simp [upd], ?_⟩, by rw [hm1]; simp [upd, srt], by simp [upd], Or.inr (Or.inr rfl), fun q => absurd q (by simp), ⟨?_, hh.2.1, ?_⟩, hm2⟩
            · have e : (upd (upd (upd (upd (upd (upd (upd (upd (upd (upd (fun _ => 0) 0 (tf 13)) 1 b2) 2 3) 3 0) 5 1) 6 1) 7 0) 8 0) 5 z89) 6 (fx63 6) 3).toInt = 0 := by simp [upd]
              rw [e]; omega
            · rw [pk_us]; exact hh.1
            · show b.2.2.2 ≤ _
              have := hh.2.2
              omega
        · have hk1 : ¬ kd ta t1 = 93 := fun q => b1 (i_eq.mpr q)
          simp only [hk1, if_false]
          exact b2'
    · rw [if_neg (fun q => q1 ⟨i_eq.mpr h91, q⟩)]
      exact (tkr_tk_close h5).2 ((num_r h4).1.fl ((hTP _ _ _ _ _ _ _ _ _ _ _ _ _ _ _ _ _ _ h3).2 q2))
  rcases iv_ex_index_0 h with ⟨k, v91, h1, q93, v97, h2, (⟨h3, v104, h4, (⟨h5, tf119, h6, hE⟩ | ⟨q108, h5, tf110, h6, hE⟩)⟩ | ⟨q101, h3, j128, s129, h4, z132, h5, (⟨h6, tf135, h7, hE⟩ | ⟨h6, hE⟩)⟩)⟩
  · have em := mean_cur h1 hc
    subst em
    refine fin hE (blame_b h6) ?_
    rcases hG _ _ h2 with ⟨g1, -⟩ | ⟨g, q, g1, g2, -⟩
    · rw [show G (vd ta t) = none from g1]
      exact AT.bad h6 (by decide) (by omega)
    · rw [h3] at g2; exact absurd g2 (by simp)
  · have em := mean_cur h1 hc
    subst em
    refine fin hE (blame_b h6) ?_
    rcases hG _ _ h2 with ⟨g1, -⟩ | ⟨g, q, g1, g2, -⟩
    · rw [show G (vd ta t) = none from g1]
      exact AT.bad h6 (by decide) (by omega)
    · rw [h3] at g2; exact absurd g2 (by simp)
  · have em := mean_cur h1 hc
    subst em
    refine fin hE (blame_b h7) ?_
    rcases hG _ _ h2 with ⟨-, g2⟩ | ⟨g, q, g1, g2, g3⟩
    · rw [h3] at g2; exact absurd g2 (by simp)
    · rw [h3] at g2
      obtain rfl := Option.some.inj g2
      obtain ⟨g4, g5⟩ := g3 _ _ h4
      have ent : aIdx (some g) = none := by
        rw [← g4]
        unfold entC aIdx
        have h6' : (s129 2 &&& 4).toInt = 0 := by rw [← h5]; exact h6
        by_cases h8 : (s129 1).toInt = 0
        · rw [if_pos h8]; first | rfl | simp
        · rw [if_neg h8, if_pos h6']; first | rfl | simp
      rw [show G (vd ta t) = some g from g1, ent]
      exact AT.bad h7 (by decide) (by omega)
  · have em := mean_cur h1 hc
    subst em
    refine fin hE SmB.rf ?_
    rcases hG _ _ h2 with ⟨-, g2⟩ | ⟨g, q, g1, g2, g3⟩
    · rw [h3] at g2; exact absurd g2 (by simp)
    · rw [h3] at g2
      obtain rfl := Option.some.inj g2
      obtain ⟨g4, g5⟩ := g3 _ _ h4
      have h6' : ¬ (s129 2 &&& 4).toInt = 0 := by rw [← h5]; exact h6
      have h8 : ¬ (s129 1).toInt = 0 := fun q => h6' (g5 q)
      rw [show G (vd ta t) = some g from g1]
      by_cases h9 : (s129 2 &&& 2).toInt = 0
      · have ent : g = (2, 0) := by rw [← g4]; unfold entC; rw [if_neg h8, if_neg h6', if_pos h9]
        subst ent
        rw [show aIdx (some ((2, 0) : Ent)) = some () by simp [aIdx]]
        exact AT.ret (y := ()) ⟨rfl, Or.inr ⟨_, 2, rfl, fun j s hj => by rw [(g3 j s hj).1], Or.inr (Or.inr (Or.inr ⟨rfl, Or.inl rfl⟩))⟩⟩
      · have ent : g = (3, 0) := by rw [← g4]; unfold entC; rw [if_neg h8, if_neg h6', if_neg h9]
        subst ent
        rw [show aIdx (some ((3, 0) : Ent)) = some () by simp [aIdx]]
        exact AT.ret (y := ()) ⟨rfl, Or.inr ⟨_, 3, rfl, fun j s hj => by rw [(g3 j s hj).1], Or.inr (Or.inr (Or.inr ⟨rfl, Or.inr rfl⟩))⟩⟩
end EX
