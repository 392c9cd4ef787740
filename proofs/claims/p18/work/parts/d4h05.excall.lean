/-- the function of a call, and what is known of it -/
def FoM (na : Nat → Nat → Int32) (P : va_W) (y : Option Nat) (fo : Option Fnc) : Prop := (y = none ∧ fo = none) ∨ ∃ (q : Nat) (f : Fnc), y = some q ∧ fo = some f ∧ FnM na P q f
/-- what is still wanted behind i arguments; one that nothing meets if there were too many -/
def rstW (ws : List Int) (i : Nat) : List Int := if i ≤ ws.length then ws.drop i else [-1]
theorem ent2c {s : Nat → Int32} (h : (entC s).1 = 2) : (s 2 &&& 2).toInt = 0 := by
  unfold entC at h
  by_cases h1 : (s 1).toInt = 0
  · rw [if_pos h1] at h; exact absurd h (by simp)
  · rw [if_neg h1] at h
    by_cases h2 : (s 2 &&& 4).toInt = 0
    · rw [if_pos h2] at h; exact absurd h (by decide)
    · rw [if_neg h2] at h
      by_cases h3 : (s 2 &&& 2).toInt = 0
      · exact h3
      · rw [if_neg h3] at h; exact absurd h (by decide)
theorem ent3c {s : Nat → Int32} (h : (entC s).1 = 3) : ¬ (s 2 &&& 2).toInt = 0 := by
  intro h3
  unfold entC at h
  by_cases h1 : (s 1).toInt = 0
  · rw [if_pos h1] at h; exact absurd h (by simp)
  · rw [if_neg h1] at h
    by_cases h2 : (s 2 &&& 4).toInt = 0
    · rw [if_pos h2] at h; exact absurd h (by decide)
    · rw [if_neg h2, if_pos h3] at h; exact absurd h (by decide)
theorem tyo_r {P : va_W} {q : Nat} {v : Int32} (h : R_ex_typeOf P q v) : ∃ (j : Nat) (s : Nat → Int32), P[j]? = some (syC q s) ∧ (((s 2 &&& 2).toInt = 0 ∧ v.toInt = 1) ∨ (¬ (s 2 &&& 2).toInt = 0 ∧ v.toInt = 2)) := by
  rcases h with ⟨j1, s2, h1, z5, h2, (⟨h3, ev⟩ | ⟨h3, ev⟩)⟩ | h
  · exact ⟨j1, s2, h1, Or.inl ⟨by rw [← h2]; exact h3, by rw [ev]; rfl⟩⟩
  · exact ⟨j1, s2, h1, Or.inr ⟨by rw [← h2]; exact h3, by rw [ev]; rfl⟩⟩
  · exact h.elim
section HAND
variable {cn : Nat} {P : va_W} {ox : Option Nat} {tf fp cd fx tf' fp' cd' fx' : Nat → Int32} {c t : Nat} {o n : Int} {a : Atr} {p0 : Int32}
theorem hand_116 {k : Nat} (h : E_ex_hand cn P ox fx p0 tf' fp' cd' k 116 [] [] [] [] [] tf fp cd) : tf' = tf := by
  obtain ⟨k, e0, e1, e2⟩ := iv_ex_hand_116 h
  exact e0
theorem hand_90 {k : Nat} (h : E_ex_hand cn P ox fx p0 tf' fp' cd' k 90 [] [] [] [] [] tf fp cd) : (p0.toInt < 16 ∧ tf' = tf) ∨ (¬ p0.toInt < 16 ∧ (((fx 1).toInt = 4 ∧ tf' = tf) ∨ (¬ (fx 1).toInt = 4 ∧ R_tk_blame 3 (fx 0) tf tf'))) := by
  rcases iv_ex_hand_90 h with ⟨k, (⟨h1, hE⟩ | ⟨h1, (⟨h2, hE⟩ | ⟨h2, tf5, h3, hE⟩)⟩)⟩
  · exact Or.inl ⟨h1, hand_116 hE⟩
  · exact Or.inr ⟨h1, Or.inl ⟨h2, hand_116 hE⟩⟩
  · exact Or.inr ⟨h1, Or.inr ⟨h2, by rw [hand_116 hE]; exact h3⟩⟩
theorem hand_r (h : R_ex_hand cn P ox fx p0 tf fp cd tf' fp' cd') : SmB tf tf' := by
  have q90 : ∀ {k : Nat} {fpa cda : Nat → Int32}, E_ex_hand cn P ox fx p0 tf' fp' cd' k 90 [] [] [] [] [] tf fpa cda → SmB tf tf' := by
    intro k fpa cda q
    rcases hand_90 q with ⟨-, e⟩ | ⟨-, ⟨-, e⟩ | ⟨-, e⟩⟩
    · rw [e]; exact SmB.rf
    · rw [e]; exact SmB.rf
    · exact blame_b e
  have q116 : ∀ {k : Nat} {fpa cda : Nat → Int32}, E_ex_hand cn P ox fx p0 tf' fp' cd' k 116 [] [] [] [] [] tf fpa cda → SmB tf tf' := by
    intro k fpa cda q
    rw [hand_116 q]; exact SmB.rf
  obtain ⟨k, h⟩ := h
  rcases iv_ex_hand_0 h with ⟨k, (⟨h1, (⟨h2, (⟨h3, hE⟩ | ⟨h3, hE⟩)⟩ | ⟨h2, fp22, cd23, v25, h3, hE⟩)⟩ | ⟨h1, (⟨h2, (⟨h3, hE⟩ | ⟨h3, (⟨h4, hE⟩ | ⟨q33, h4, (⟨h5, j37, s38, h6, fp42, cd43, v45, h7, hE⟩ | ⟨h5, v49, h6, z51, h7, (⟨h8, hE⟩ | ⟨h8, j54, s55, h9, fp59, cd60, v62, h10, hE⟩)⟩)⟩)⟩)⟩ | ⟨h2, fp67, cd68, v70, h3, hE⟩)⟩)⟩
  all_goals first
    | exact q90 hE
    | exact q116 hE
theorem hand_n (h : R_ex_hand cn P ox fx p0 tf fp cd tf' fp' cd') (hp : p0.toInt < 16) : tf' = tf := by
  have q90 : ∀ {k : Nat} {fpa cda : Nat → Int32}, E_ex_hand cn P ox fx p0 tf' fp' cd' k 90 [] [] [] [] [] tf fpa cda → tf' = tf := by
    intro k fpa cda q
    rcases hand_90 q with ⟨-, e⟩ | ⟨q, -⟩
    · exact e
    · exact absurd hp q
  obtain ⟨k, h⟩ := h
  rcases iv_ex_hand_0 h with ⟨k, (⟨h1, (⟨h2, (⟨h3, hE⟩ | ⟨h3, hE⟩)⟩ | ⟨h2, fp22, cd23, v25, h3, hE⟩)⟩ | ⟨h1, (⟨h2, (⟨h3, hE⟩ | ⟨h3, (⟨h4, hE⟩ | ⟨q33, h4, (⟨h5, j37, s38, h6, fp42, cd43, v45, h7, hE⟩ | ⟨h5, v49, h6, z51, h7, (⟨h8, hE⟩ | ⟨h8, j54, s55, h9, fp59, cd60, v62, h10, hE⟩)⟩)⟩)⟩)⟩ | ⟨h2, fp67, cd68, v70, h3, hE⟩)⟩)⟩
  all_goals first
    | exact q90 hE
    | exact hand_116 hE
theorem hand_at (h : R_ex_hand cn P ox fx p0 tf fp cd tf' fp' cd') (hc : Cur tf c t o) (hm : MA P c n fx ox a) (hp : 16 ≤ p0.toInt ∧ p0.toInt ≤ 18) : AT tf tf' (aArg p0.toInt a) (fun m => m = 2 ∧ (a.1 = 2 ∨ a.1 = 5)) := by
  have h10 := hc.1
  obtain ⟨m1, m2, m3, m4, m5, m6, m7, m8⟩ := hm
  have hs := srt_of m8
  have no : ¬ ((a.1 = 2 ∧ (p0.toInt = 16 ∨ p0.toInt = 17)) ∨ (a.1 = 5 ∧ (p0.toInt = 16 ∨ p0.toInt = 18))) → aArg p0.toInt a = none := fun q => by unfold aArg; rw [if_neg (by omega), if_neg q]
  have yes : ((a.1 = 2 ∧ (p0.toInt = 16 ∨ p0.toInt = 17)) ∨ (a.1 = 5 ∧ (p0.toInt = 16 ∨ p0.toInt = 18))) → aArg p0.toInt a = some 2 := fun q => by unfold aArg; rw [if_neg (by omega), if_pos q]
  have q90 : ∀ {k : Nat} {fpa cda : Nat → Int32}, E_ex_hand cn P ox fx p0 tf' fp' cd' k 90 [] [] [] [] [] tf fpa cda → ¬ ((a.1 = 2 ∧ (p0.toInt = 16 ∨ p0.toInt = 17)) ∨ (a.1 = 5 ∧ (p0.toInt = 16 ∨ p0.toInt = 18))) → AT tf tf' (aArg p0.toInt a) (fun m => m = 2 ∧ (a.1 = 2 ∨ a.1 = 5)) := by
    intro k fpa cda q r
    rw [no r]
    rcases hand_90 q with ⟨e, -⟩ | ⟨-, ⟨e, -⟩ | ⟨-, e⟩⟩
    · exfalso; omega
    · exfalso; omega
    · exact AT.bad e (by decide) (by omega)
  have q116 : ∀ {k : Nat} {fpa cda : Nat → Int32}, E_ex_hand cn P ox fx p0 tf' fp' cd' k 116 [] [] [] [] [] tf fpa cda → ((a.1 = 2 ∧ (p0.toInt = 16 ∨ p0.toInt = 17)) ∨ (a.1 = 5 ∧ (p0.toInt = 16 ∨ p0.toInt = 18))) → AT tf tf' (aArg p0.toInt a) (fun m => m = 2 ∧ (a.1 = 2 ∨ a.1 = 5)) := by
    intro k fpa cda q r
    rw [yes r, hand_116 q]
    exact AT.ret ⟨rfl, by omega⟩
  obtain ⟨k, h⟩ := h
  rcases iv_ex_hand_0 h with ⟨k, (⟨h1, (⟨h2, (⟨h3, hE⟩ | ⟨h3, hE⟩)⟩ | ⟨h2, fp22, cd23, v25, h3, hE⟩)⟩ | ⟨h1, (⟨h2, (⟨h3, hE⟩ | ⟨h3, (⟨h4, hE⟩ | ⟨q33, h4, (⟨h5, j37, s38, h6, fp42, cd43, v45, h7, hE⟩ | ⟨h5, v49, h6, z51, h7, (⟨h8, hE⟩ | ⟨h8, j54, s55, h9, fp59, cd60, v62, h10, hE⟩)⟩)⟩)⟩)⟩ | ⟨h2, fp67, cd68, v70, h3, hE⟩)⟩)⟩
  · exfalso; omega
  · exact q90 hE (by omega)
  · exfalso; omega
  · exfalso; omega
  · rcases m8 with p | ⟨q, g, p1, -, -⟩
    · exfalso; omega
    · rw [h4] at p1; exact absurd p1 (by simp)
  · exact q116 hE (by omega)
  · obtain ⟨j, s, t1, t2⟩ := tyo_r h6
    have hz := ti_add h7 (show (16 : Int32).toInt = 16 from rfl) (rfl : v49.toInt = v49.toInt) (by omega) (by omega)
    refine q90 hE ?_
    rcases m8 with p | ⟨q, g, p1, p2, p3⟩
    · omega
    · rw [h4] at p1
      obtain rfl := Option.some.inj p1
      have p4 := p2 _ _ t1
      have k2 : (entC s).1 = 2 → (s 2 &&& 2).toInt = 0 := ent2c
      have k3 : (entC s).1 = 3 → ¬ (s 2 &&& 2).toInt = 0 := ent3c
      omega
  · obtain ⟨j, s, t1, t2⟩ := tyo_r h6
    have hz := ti_add h7 (show (16 : Int32).toInt = 16 from rfl) (rfl : v49.toInt = v49.toInt) (by omega) (by omega)
    refine q116 hE ?_
    rcases m8 with p | ⟨q, g, p1, p2, p3⟩
    · omega
    · rw [h4] at p1
      obtain rfl := Option.some.inj p1
      have p4 := p2 _ _ t1
      have k2 : (entC s).1 = 2 → (s 2 &&& 2).toInt = 0 := ent2c
      have k3 : (entC s).1 = 3 → ¬ (s 2 &&& 2).toInt = 0 := ent3c
      omega
  · exfalso; omega
theorem con_45 {fa k : Nat} (h : E_ex_conclude_r cn P fa p0 tf' fp' cd' fx' k 45 [] [] [] [] [] tf fp cd fx) : tf' = tf ∧ ∃ (j : Nat) (s : Nat → Int32), P[j]? = some (syC fa s) ∧ (((s 6).toInt = 3 ∧ fx' = upd fx 1 3) ∨ (¬ (s 6).toInt = 3 ∧ fx' = upd fx 1 0)) := by
  rcases iv_ex_conclude_r_45 h with ⟨k, jf, sf, h1, (⟨h2, (⟨h3, (⟨h4, z8, h5, fp11, cd12, v14, h6, e0, e1, e2, e3⟩ | ⟨h4, fp19, cd20, v22, h5, e0, e1, e2, e3⟩)⟩ | ⟨h3, fp27, cd28, v30, h4, e0, e1, e2, e3⟩)⟩ | ⟨h2, (⟨h3, (⟨h4, z38, h5, fp41, cd42, v44, h6, e0, e1, e2, e3⟩ | ⟨h4, fp49, cd50, v52, h5, e0, e1, e2, e3⟩)⟩ | ⟨h3, fp57, cd58, v60, h4, e0, e1, e2, e3⟩)⟩)⟩
  · exact ⟨e0, jf, sf, h1, Or.inr ⟨h2, e3⟩⟩
  · exact ⟨e0, jf, sf, h1, Or.inr ⟨h2, e3⟩⟩
  · exact ⟨e0, jf, sf, h1, Or.inr ⟨h2, e3⟩⟩
  · exact ⟨e0, jf, sf, h1, Or.inl ⟨h2, e3⟩⟩
  · exact ⟨e0, jf, sf, h1, Or.inl ⟨h2, e3⟩⟩
  · exact ⟨e0, jf, sf, h1, Or.inl ⟨h2, e3⟩⟩
theorem con_r {fo : Option Nat} (h : R_ex_conclude cn P fo p0 tf fp cd fx tf' fp' cd' fx') : SmB tf tf' ∧ ∀ i : Nat, i ≠ 1 → i ≠ 3 → fx' i = fx i := by
  cases fo with
  | none =>
    have h' : R_ex_conclude_n p0 tf fp cd fx tf' fp' cd' fx' := h
    rcases h' with ⟨tf1, h1, e0, e1, e2, e3⟩ | h'
    · rw [e0, e3]; exact ⟨blame_b h1, fun i q1 q3 => pk_un q3⟩
    · exact h'.elim
  | some fa =>
    have h' : R_ex_conclude_r cn P fa p0 tf fp cd fx tf' fp' cd' fx' := h
    obtain ⟨k, h'⟩ := h'
    rcases iv_ex_conclude_r_0 h' with ⟨k, jf, sf, h1, (⟨h2, hE⟩ | ⟨h2, tf65, h3, hE⟩)⟩
    · obtain ⟨e0, j, s, -, q⟩ := con_45 hE
      rw [e0]
      refine ⟨SmB.rf, fun i q1 q3 => ?_⟩
      rcases q with ⟨-, e⟩ | ⟨-, e⟩ <;> rw [e, pk_un q1, pk_un q3]
    · obtain ⟨e0, j, s, -, q⟩ := con_45 hE
      rw [e0]
      refine ⟨blame_b h3, fun i q1 q3 => ?_⟩
      rcases q with ⟨-, e⟩ | ⟨-, e⟩ <;> rw [e, pk_un q1, pk_un q3]
theorem con_at {na : Nat → Nat → Int32} {y : Option Nat} {fo : Option Fnc} {H : Int} {m : Nat} (h : R_ex_conclude cn P y p0 tf fp cd fx tf' fp' cd' fx') (hf : FoM na P y fo) (hc : Cur tf c t o) (hp : p0.toInt = (m : Int)) (h0 : 0 ≤ (fx 0).toInt ∧ (fx 0).toInt < (c : Int)) (h2' : (fx 2).toInt = 3) (h6' : (fx 6).toInt = H) (hH : 1 ≤ H ∧ H ≤ n) :
    AT tf tf' (fo.bind fun f => if f.2.length = m then some (if f.1 then 3 else 0, 3, 0, H) else none) (MA P c n fx' ox) := by
  have h10 := hc.1
  rcases hf with ⟨rfl, rfl⟩ | ⟨q, f, rfl, rfl, hF⟩
  · have h' : R_ex_conclude_n p0 tf fp cd fx tf' fp' cd' fx' := h
    rcases h' with ⟨tf1, h1, e0, e1, e2, e3⟩ | h'
    · rw [e0]; exact AT.bad h1 (by decide) (by omega)
    · exact h'.elim
  · have h' : R_ex_conclude_r cn P q p0 tf fp cd fx tf' fp' cd' fx' := h
    obtain ⟨k, h'⟩ := h'
    show AT tf tf' (if f.2.length = m then some (if f.1 then 3 else 0, 3, 0, H) else none) (MA P c n fx' ox)
    rcases iv_ex_conclude_r_0 h' with ⟨k, jf, sf, h1, (⟨h2, hE⟩ | ⟨h2, tf65, h3, hE⟩)⟩
    · obtain ⟨e0, j, s, e1, e2⟩ := con_45 hE
      have f1 := (hF.1 _ _ h1).2
      have f2 := (hF.1 _ _ e1).1
      rw [e0, if_pos (by omega)]
      have hcl : 0 < (c : Int) := by omega
      rcases e2 with ⟨e3, e4⟩ | ⟨e3, e4⟩
      · rw [e4, if_pos (f2.mp e3)]
        refine AT.ret ⟨by simpa [upd] using h0, by simpa [upd] using h0, by simp [upd, srt], by simpa [upd] using h2', Or.inr (Or.inr rfl), fun q => absurd q (by simp), ⟨by simpa [upd] using h6', hH.1, hH.2⟩, Or.inl (Or.inr rfl)⟩
      · rw [e4, if_neg (fun q => e3 (f2.mpr q))]
        refine AT.ret ⟨by simpa [upd] using h0, by simpa [upd] using h0, by simp [upd, srt], by simpa [upd] using h2', Or.inr (Or.inr rfl), fun q => absurd q (by simp), ⟨by simpa [upd] using h6', hH.1, hH.2⟩, Or.inl (Or.inl rfl)⟩
    · obtain ⟨e0, j, s, e1, e2⟩ := con_45 hE
      have f1 := (hF.1 _ _ h1).2
      rw [e0, if_neg (by omega)]
      exact AT.bad h3 (by decide) (by omega)
end HAND
section CALL
variable {RLp : T_ex_parse} {RLo : T_ex_operand} {ta : Nat → Nat → Int32} {cn : Nat} {na : Nat → Nat → Int32} {own : Bool} {P : va_W} {lf : Nat → Int32} {lg : Nat → Option Nat} {ff : Nat → Int32} {fg : Nat → Option Nat}
variable {tf fp cd tf' fp' cd' fx fx' : Nat → Int32} {ox ox' : Option Nat} {c t : Nat} {o : Int}
variable {G : Int32 → Option Ent} {F : Int32 → Option Fnc} {PP : PPT} {OO : POT}
theorem cal_159 {x4 x5 x7 x9 v : Int32} {k : Nat} {y3 oxa oy : Option Nat} {fxa fy tfb fpb cdb : Nat → Int32} {hx hy : Nat} (h : E_ex_call RLp RLo ta cn na own P lf lg ff fg tf' fp' cd' ox' fx' k 159 [x4, x5, x7, x9, v] [] [y3, oxa, oy] [fxa, fy] [hx, hy] tfb fpb cdb) :
    ∃ (tfc fpc cdc tfd : Nat → Int32) (v33 z4 z5 z7 z26 z23 : Int32) (k : Nat), R_ex_hand cn P oy fy v tfb fpb cdb tfc fpc cdc ∧ R_tk_accept ta 44 tfc tfd v33 ∧ z4 = x4 + 1 ∧ z7 = x7 + 1 ∧ (∃ u : Int32, u = fy 5 + 1 ∧ z26 = if fxa 5 < u then u else fxa 5) ∧ (∃ u : Int32, u = x5 + (if x9.toInt = 0 then fy 6 else 2) ∧ z23 = if fxa 6 < u then u else fxa 6) ∧ z5 = x5 + (if x9.toInt = 0 then 1 else 2) ∧ E_ex_call RLp RLo ta cn na own P lf lg ff fg tf' fp' cd' ox' fx' k 93 [z4, z5, v33, z7] [] [y3, oxa] [upd (upd fxa 5 z26) 6 z23] [hx] tfd fpc cdc := by
  rcases iv_ex_call_159 h with ⟨k, tf4, fp5, cd6, h1, (⟨h2, z22, h3, z23, h4, z25, h5, z26, h6, (⟨h7, z29, h8, z30, h9, tf31, v33, h10, z42, h11, hE⟩ | ⟨h7, z43, h8, z44, h9, tf45, v47, h10, z56, h11, hE⟩)⟩ | ⟨h2, z57, h3, z58, h4, z60, h5, z61, h6, (⟨h7, z64, h8, z65, h9, tf66, v68, h10, z77, h11, hE⟩ | ⟨h7, z78, h8, z79, h9, tf80, v82, h10, z91, h11, hE⟩)⟩)⟩
  · exact ⟨tf4, fp5, cd6, tf31, v33, z30, z29, z42, z26, z23, k, h1, h10, h9, h11, ⟨z25, h5, h6⟩, ⟨z22, by rw [if_pos h2]; exact h3, h4⟩, by rw [if_pos h2]; exact h8, hE⟩
  · exact absurd h2 h7
  · exact absurd h7 h2
  · exact ⟨tf4, fp5, cd6, tf80, v82, z79, z78, z91, z61, z58, k, h1, h10, h9, h11, ⟨z60, h5, h6⟩, ⟨z57, by rw [if_neg h2]; exact h3, h4⟩, by rw [if_neg h2]; exact h8, hE⟩
theorem cal_129 {x4 x5 x7 x9 : Int32} {k : Nat} {y3 oxa oy : Option Nat} {fxa fy tfa fpa cda : Nat → Int32} {hx hy : Nat} (h : E_ex_call RLp RLo ta cn na own P lf lg ff fg tf' fp' cd' ox' fx' k 129 [x4, x5, x7, x9] [] [y3, oxa, oy] [fxa, fy] [hx, hy] tfa fpa cda) :
    ∃ (v : Int32) (tfb fpb cdb fyb : Nat → Int32) (k : Nat), R_nm_want na P y3 x4 v ∧ (((v.toInt = 1 ∨ v.toInt = 2) ∧ R_ex_number cn P oy tfa fpa cda fy tfb fpb cdb fyb) ∨ (¬ (v.toInt = 1 ∨ v.toInt = 2) ∧ tfb = tfa ∧ fyb = fy)) ∧ E_ex_call RLp RLo ta cn na own P lf lg ff fg tf' fp' cd' ox' fx' k 159 [x4, x5, x7, x9, v] [] [y3, oxa, oy] [fxa, fyb] [hx, hy] tfb fpb cdb := by
  rcases iv_ex_call_129 h with ⟨k, v93, h1, (⟨h2, tf101, fp102, cd103, fx104, h3, hE⟩ | ⟨h2, (⟨h3, hE⟩ | ⟨h3, tf126, fp127, cd128, fx129, h4, hE⟩)⟩)⟩
  · exact ⟨v93, tf101, fp102, cd103, fx104, k, h1, Or.inl ⟨Or.inl h2, h3⟩, hE⟩
  · exact ⟨v93, tfa, fpa, cda, fy, k, h1, Or.inr ⟨by omega, rfl, rfl⟩, hE⟩
  · exact ⟨v93, tf126, fp127, cd128, fx129, k, h1, Or.inl ⟨Or.inr h3, h4⟩, hE⟩
/-- behind the last argument -/
theorem cal_end {x4 x5 x6 x7 : Int32} {k : Nat} {y3 oxa : Option Nat} {fxa tfa fpa cda : Nat → Int32} {hx : Nat} (h : E_ex_call RLp RLo ta cn na own P lf lg ff fg tf' fp' cd' ox' fx' k 93 [x4, x5, x6, x7] [] [y3, oxa] [fxa] [hx] tfa fpa cda) (h6 : x6.toInt = 0) :
    ∃ (tfb fpb cdb : Nat → Int32), R_tk_close ta 41 tfa tfb ∧ R_ex_conclude cn P y3 x4 tfb fpa cda fxa tf' fpb cdb fx' ∧ ox' = oxa := by
  rcases iv_ex_call_93 h with ⟨k, (⟨h1, tf147, h2, tf160, fp161, cd162, fx163, h3, e0, e1, e2, e3, e4⟩ | ⟨h1, (⟨h2, tf181, h3, tf194, fp195, cd196, fx197, h4, e0, e1, e2, e3, e4⟩ | ⟨h2, tf216, fp217, cd218, hx219, ox220, fx221, h3, (⟨h4, hE⟩ | ⟨h4, hE⟩)⟩)⟩)⟩
  · exact ⟨tf147, fp161, cd162, h2, by rw [e0, e4]; exact h3, e3⟩
  · exact ⟨tf181, fp195, cd196, h3, by rw [e0, e4]; exact h4, e3⟩
  · exact absurd h6 h2
  · exact absurd h6 h2
theorem AT.bindE {α β : Type} {a b d : Nat → Int32} {x : Option α} {f : α → Option β} {M : α → Prop} {N : β → Prop} (k : AT a b x M) (l : ∀ y, x = some y → M y → AT b d (f y) N) (m : BK b d) : AT a d (x.bind f) N := by
  intro u
  have q := k u
  cases x with
  | none => exact m q
  | some y => exact l y rfl q.2 q.1
theorem AT.map {α β : Type} {a b : Nat → Int32} {x : Option α} {f : α → β} {M : α → Prop} {N : β → Prop} (k : AT a b x M) (l : ∀ y, x = some y → M y → N (f y)) : AT a b (x.map f) N := by
  intro u
  have q := k u
  cases x with
  | none => exact q
  | some y => exact ⟨q.1, l y rfl q.2⟩
theorem bnd_none {α β : Type} (x : Option α) : (x.bind fun _ => (none : Option β)) = none := by
  cases x <;> rfl
theorem re_bind {T h : Int} {x : Option Atr} {p : Atr → Option Int} {q : Int → Option Atr} {u : Atr → Int → Int} :
    ((x.bind fun a => (p a).bind fun n => (q n).bind fun b => some ((0, 3, 0, max (u a n) b.2.2.2) : Atr)).bind fun b => some ((T, 3, 0, max h b.2.2.2) : Atr)) = x.bind fun a => (p a).bind fun n => (q n).bind fun b => some ((T, 3, 0, max (max h (u a n)) b.2.2.2) : Atr) := by
  cases x with
  | none => rfl
  | some a =>
    show ((p a).bind _).bind _ = (p a).bind _
    cases p a with
    | none => rfl
    | some n =>
      show ((q n).bind _).bind _ = (q n).bind _
      cases q n with
      | none => rfl
      | some b =>
        show some ((T, 3, 0, max h (max (u a n) b.2.2.2)) : Atr) = some (T, 3, 0, max (max h (u a n)) b.2.2.2)
        rw [show max h (max (u a n) b.2.2.2) = max (max h (u a n)) b.2.2.2 by omega]
theorem rst_lt {ws : List Int} {i : Nat} (h : i < ws.length) : ∃ w, ws.drop i = w :: ws.drop (i + 1) ∧ rstW ws i = w :: rstW ws (i + 1) := by
  refine ⟨ws[i], List.drop_eq_getElem_cons h, ?_⟩
  unfold rstW
  rw [if_pos (by omega), if_pos (by omega)]
  exact List.drop_eq_getElem_cons h
theorem rst_eq {ws : List Int} {i : Nat} (h : ws.length = i) : rstW ws i = [] := by
  unfold rstW
  rw [if_pos (by omega), ← h, List.drop_length]
theorem rst_gt {ws : List Int} {i : Nat} (h : ws.length < i) : rstW ws i = [-1] := by
  unfold rstW
  rw [if_neg (by omega)]
theorem att_over {k : Nat → Int} {vl : Nat → Int32} {r : Ast} {ws : List Int} {i : Nat} {hd : Int} (hr : r = eNil ∨ ∃ e' r', r = eCons e' r') (h : ws.length < i) : att k vl G F r (rstW ws i) hd = none := by
  rw [rst_gt h]
  rcases hr with rfl | ⟨e', r', rfl⟩
  · rw [att_nil, if_neg (by simp)]
  · rw [att_cons]
    have e : ∀ a : Atr, aArg (-1) a = none := by
      intro a
      unfold aArg
      rw [if_neg (by decide), if_neg (by omega)]
    simp only [e]
    exact bnd_none _
theorem att_over1 {k : Nat → Int} {vl : Nat → Int32} {e r : Ast} {ws : List Int} {i : Nat} {hd : Int} (h : ws.length ≤ i) : att k vl G F (eCons e r) (rstW ws i) hd = none := by
  rcases Nat.lt_or_ge ws.length i with q | q
  · exact att_over (Or.inr ⟨e, r, rfl⟩) q
  · rw [rst_eq (by omega), att_cons0]
theorem arg_cons {k : Nat → Int} {o1 : Int} : ∀ {n t : Nat} {r : Ast} {t3 : Nat}, pArgs PP k o1 n t = some (r, t3) → ∃ e' r', r = eCons e' r'
  | 0, t, r, t3, h => by simp [pArgs] at h
  | n + 1, t, r, t3, h => by
    unfold pArgs at h
    cases hr : PP (-1) t o1 with
    | none => rw [hr] at h; simp at h
    | some q =>
      obtain ⟨e, t1⟩ := q
      rw [hr] at h
      by_cases hk : k t1 = 44
      · simp only [hk, if_true] at h
        cases hr2 : pArgs PP k o1 n (t1 + 1) with
        | none => rw [hr2] at h; simp at h
        | some q2 =>
          obtain ⟨r2, t2⟩ := q2
          rw [hr2] at h
          simp only [Option.some.injEq, Prod.mk.injEq] at h
          exact ⟨e, r2, h.1.symm⟩
      · simp only [hk, if_false, Option.some.injEq, Prod.mk.injEq] at h
        exact ⟨e, eNil, h.1.symm⟩
theorem cal_at {y3 oy : Option Nat} {fo : Option Fnc} {x4 x5 x9 v u2 z23 z5 : Int32} {i t2 : Nat} {o1 N1 h hd : Int} {tfa tf216 tfb tfc tfd fpa cda fpb cdb fpc cdc fy fyb fxa : Nat → Int32} {k : Nat → Int} {vl : Nat → Int32} {e r : Ast} {N : Atr → Prop}
    (hf : FoM na P y3 fo) (w1 : R_nm_want na P y3 x4 v) (hx4 : x4.toInt = (i : Int)) (w2 : ((v.toInt = 1 ∨ v.toInt = 2) ∧ R_ex_number cn P oy tf216 fpa cda fy tfb fpb cdb fyb) ∨ (¬ (v.toInt = 1 ∨ v.toInt = 2) ∧ tfb = tf216 ∧ fyb = fy)) (g1 : R_ex_hand cn P oy fyb v tfb fpb cdb tfc fpc cdc) (b1 : Cur tf216 c t2 o1)
    (b7 : AT tfa tf216 (att k vl G F e [] 0) (MA P c N1 fy oy)) (hx9 : ((fy 1).toInt = 2 ∧ x9.toInt = 1) ∨ (¬ (fy 1).toInt = 2 ∧ x9.toInt = 0)) (hacc : SmC tfc tfd) (hr : r = eNil ∨ ∃ e' r', r = eCons e' r') (g7 : u2 = x5 + (if x9.toInt = 0 then fyb 6 else 2)) (g8 : z23 = if fxa 6 < u2 then u2 else fxa 6) (g9 : z5 = x5 + (if x9.toInt = 0 then 1 else 2))
    (hh : (fxa 6).toInt = h) (hx5 : x5.toInt = hd) (hhd : 0 ≤ hd ∧ hd ≤ 9000) (hN1 : 2 ≤ N1 ∧ N1 ≤ 9000)
    (J : ∀ (H hd' m : Int), z23.toInt = H → z5.toInt = hd' → H = max h (hd + m) → 1 ≤ m → m ≤ N1 → (hd' = hd + 1 ∨ hd' = hd + 2) → AT tfd tf' (fo.bind fun f => (att k vl G F r (rstW f.2 (i + 1)) hd').bind fun b => some (if f.1 then 3 else 0, 3, 0, max H b.2.2.2)) N) (bkc : BK tfc tf') :
    AT tfa tf' (fo.bind fun f => (att k vl G F (eCons e r) (rstW f.2 i) hd).bind fun b => some (if f.1 then 3 else 0, 3, 0, max h b.2.2.2)) N := by
  have fy6 : fyb 6 = fy 6 := by
    rcases w2 with ⟨-, q⟩ | ⟨-, -, q⟩
    · rw [(num_r q).2, pk_un (by decide)]
    · rw [q]
  have bkb : BK tfb tf' := fun x => bkc (bkr_ex_hand g1 x)
  have bk : BK tf216 tf' := by
    rcases w2 with ⟨-, q⟩ | ⟨-, q, -⟩
    · exact fun x => bkb (bkr_ex_number q x)
    · rw [← q]; exact bkb
  have nxt : ∀ a : Atr, MA P c N1 fy oy a → AT tfd tf' (fo.bind fun f => (att k vl G F r (rstW f.2 (i + 1)) (hd + (if x9.toInt = 0 then 1 else 2))).bind fun b => some (if f.1 then 3 else 0, 3, 0, max (max h (hd + (if x9.toInt = 0 then a.2.2.2 else 2))) b.2.2.2)) N := by
    intro a hma
    have m7 := hma.2.2.2.2.2.2.1
    by_cases q : x9.toInt = 0
    · rw [if_pos q] at g7 g9
      rw [if_pos q, if_pos q]
      have e1 := ti_add g7 hx5 (show (fyb 6).toInt = a.2.2.2 by rw [fy6]; exact m7.1) (by omega) (by omega)
      have e2 := ti_add g9 hx5 (show (1 : Int32).toInt = 1 from rfl) (by omega) (by omega)
      exact J _ _ a.2.2.2 (by rw [g8, mx_i, hh, e1]) e2 rfl m7.2.1 m7.2.2 (Or.inl rfl)
    · rw [if_neg q] at g7 g9
      rw [if_neg q, if_neg q]
      have e1 := ti_add g7 hx5 (show (2 : Int32).toInt = 2 from rfl) (by omega) (by omega)
      have e2 := ti_add g9 hx5 (show (2 : Int32).toInt = 2 from rfl) (by omega) (by omega)
      exact J _ _ 2 (by rw [g8, mx_i, hh, e1]) e2 rfl (by omega) (by omega) (Or.inr rfl)
  have zero : v.toInt = 0 → tfc = tf216 := by
    intro q
    rcases w2 with ⟨q1, -⟩ | ⟨-, q1, -⟩
    · exfalso; omega
    · rw [hand_n g1 (by omega), q1]
  rcases hf with ⟨rfl, rfl⟩ | ⟨q, f, rfl, rfl, hF⟩
  · show AT tfa tf' none N
    rw [← bnd_none (β := Atr) (att k vl G F e [] 0)]
    refine AT.bind b7 (fun a hma => ?_) bk
    have v0 : v.toInt = 0 := by
      have w1' : R_nm_want_n x4 v := w1
      rcases w1' with q | q
      · rw [q]; rfl
      · exact q.elim
    rw [← zero v0]
    exact AT.sm hacc (nxt a hma)
  · have w1' : R_nm_want_r na P q x4 v := w1
    have hw := hF.2 i x4 v hx4 w1'
    show AT tfa tf' ((att k vl G F (eCons e r) (rstW f.2 i) hd).bind fun b => some (if f.1 then 3 else 0, 3, 0, max h b.2.2.2)) N
    rcases Nat.lt_or_ge i f.2.length with hlt | hge
    · obtain ⟨w, hd1, hd2⟩ := rst_lt hlt
      rw [hd1] at hw
      rw [hd2, att_cons, re_bind]
      refine AT.bind b7 (fun a hma => ?_) bk
      have hs := srt_of hma.2.2.2.2.2.2.2
      have m3 := hma.2.2.1
      rcases hw with ⟨hw1, hw2⟩ | ⟨hw1, hw2⟩
      · rcases w2 with ⟨-, wn⟩ | ⟨w2, -⟩
        · have et := hand_n g1 (by omega)
          have ea : aArg w a = (aNum a).map (fun _ => 1) := by unfold aArg; rw [if_pos hw1]
          rw [ea]
          refine AT.bind (M := fun n => n = 1 ∧ x9.toInt = 0) (AT.map (num_at wn b1 hma) (fun y hy _ => ⟨rfl, ?_⟩)) (fun n hn => ?_) bkb
          · have : ¬ (a.1 = 2 ∨ a.1 = 3 ∨ a.1 = 5) := by
              intro q
              unfold aNum at hy
              rw [if_pos q] at hy
              exact absurd hy (by simp)
            omega
          · obtain ⟨rfl, hn2⟩ := hn
            have nx := nxt a hma
            rw [if_pos hn2, if_pos hn2] at nx
            rw [if_neg (show ¬ (1 : Int) = 2 by decide), ← et]
            exact AT.sm hacc nx
        · exact absurd hw2 w2
      · rcases w2 with ⟨w2, -⟩ | ⟨w2, w3, w4⟩
        · exfalso; omega
        · have g1' := g1
          rw [w3, w4] at g1'
          rw [hw1]
          refine AT.bind (hand_at g1' b1 hma (by omega)) (fun n hn => ?_) bkc
          obtain ⟨rfl, hn2⟩ := hn
          have nx := nxt a hma
          rw [if_neg (show ¬ x9.toInt = 0 by omega), if_neg (show ¬ x9.toInt = 0 by omega)] at nx
          rw [if_pos (rfl : (2 : Int) = 2)]
          exact AT.sm hacc nx
    · rw [att_over1 hge]
      show AT tfa tf' none N
      rw [← bnd_none (β := Atr) (att k vl G F e [] 0)]
      refine AT.bind b7 (fun a hma => ?_) bk
      have v0 : v.toInt = 0 := by
        rw [List.drop_eq_nil_of_le hge] at hw
        exact hw
      have nx := nxt a hma
      have nx' : AT tfd tf' none N := by
        have e : (some f).bind (fun f => (att k vl G F r (rstW f.2 (i + 1)) (hd + (if x9.toInt = 0 then 1 else 2))).bind fun b => some ((if f.1 then 3 else 0, 3, 0, max (max h (hd + (if x9.toInt = 0 then a.2.2.2 else 2))) b.2.2.2) : Atr)) = none := by
          show (att k vl G F r (rstW f.2 (i + 1)) _).bind _ = none
          rw [att_over hr (by omega)]
          rfl
        rw [e] at nx
        exact nx
      rw [← zero v0]
      exact AT.sm hacc nx'
theorem cal_loop (hTP : TK_ex_parse RLp) (hTO : TK_ex_operand RLo) (hBP : BK_ex_parse RLp) (hBO : BK_ex_operand RLo) (hP : HPx RLp ta cn na own P lf lg ff fg c G F PP) (hl : Lst0 ta c) (h0o : 0 ≤ o) {y3 : Option Nat} {fo : Option Fnc} (hf : FoM na P y3 fo) :
    ∀ (n k i : Nat) (x4 x5 x6 x7 : Int32) (tfa fpa cda : Nat → Int32) (oxa : Option Nat) (fxa : Nat → Int32) (hx t1 : Nat) (d : Int), E_ex_call RLp RLo ta cn na own P lf lg ff fg tf' fp' cd' ox' fx' k 93 [x4, x5, x6, x7] [] [y3, oxa] [fxa] [hx] tfa fpa cda → x6.toInt = 1 → x7.toInt = (i : Int) → x4.toInt = (i : Int) → i + n = 2048 → t + 2 + 2 * i ≤ t1 → Cur tfa c t1 (o + 1) → (fxa 5).toInt = d → 1 ≤ d → d ≤ (t1 : Int) - (t : Int) → (fxa 7).toInt = 0 → (0 ≤ (fxa 0).toInt ∧ (fxa 0).toInt < (c : Int)) → (fxa 2).toInt = 3 →
      (match pArgs PP (kd ta) (o + 1) n t1 with
      | none => Flq tf'
      | some (as, t2) => t1 < t2 ∧ (if kd ta t2 = 41 then Cur tf' c (t2 + 1) o ∧ ox' = oxa ∧ (fx' 5).toInt = max d (dpT (kd ta) as) ∧ dpT (kd ta) as ≤ (t2 : Int) - (t1 : Int) + 1 ∧ (fx' 7).toInt = 0 ∧ ∀ h hd : Int, (fxa 6).toInt = h → 1 ≤ h → h ≤ 2 * ((t1 : Int) - (t : Int)) → x5.toInt = hd → 0 ≤ hd → hd ≤ 2 * (i : Int) → AT tfa tf' (fo.bind fun f => (att (kd ta) (vd ta) G F as (rstW f.2 i) hd).bind fun b => some (if f.1 then 3 else 0, 3, 0, max h b.2.2.2)) (MA P c (2 * ((t2 : Int) + 1 - (t : Int))) fx' ox') else Flq tf')) := by
  intro n
  induction n with
  | zero =>
    intro k i x4 x5 x6 x7 tfa fpa cda oxa fxa hx t1 d h h6 h7 h4 hin ht hc
    have c1 := hc.2.2.2.2.1
    have c2 := hc.2.2.2.2.2.1
    exfalso; omega
  | succ n ih =>
    intro k i x4 x5 x6 x7 tfa fpa cda oxa fxa hx t1 d h h6 h7 h4 hin ht hc hd5 hd1 hd2 hf7 hf0 hf2
    have c1 := hc.2.2.2.2.1
    have c2 := hc.2.2.2.2.2.1
    have fin : ∀ {k : Nat} {x9 : Int32} {tf216 fp217 cd218 : Nat → Int32} {hy : Nat} {ox220 : Option Nat} {fx221 : Nat → Int32}, RLp ta cn na own P lf lg ff fg (-1 : Int32) tfa fpa cda tf216 fp217 cd218 ox220 fx221 → (((fx221 1).toInt = 2 ∧ x9.toInt = 1) ∨ (¬ (fx221 1).toInt = 2 ∧ x9.toInt = 0)) → E_ex_call RLp RLo ta cn na own P lf lg ff fg tf' fp' cd' ox' fx' k 129 [x4, x5, x7, x9] [] [y3, oxa, ox220] [fxa, fx221] [hx, hy] tf216 fp217 cd218 →
      (match pArgs PP (kd ta) (o + 1) (n + 1) t1 with
      | none => Flq tf'
      | some (as, t2) => t1 < t2 ∧ (if kd ta t2 = 41 then Cur tf' c (t2 + 1) o ∧ ox' = oxa ∧ (fx' 5).toInt = max d (dpT (kd ta) as) ∧ dpT (kd ta) as ≤ (t2 : Int) - (t1 : Int) + 1 ∧ (fx' 7).toInt = 0 ∧ ∀ h hd : Int, (fxa 6).toInt = h → 1 ≤ h → h ≤ 2 * ((t1 : Int) - (t : Int)) → x5.toInt = hd → 0 ≤ hd → hd ≤ 2 * (i : Int) → AT tfa tf' (fo.bind fun f => (att (kd ta) (vd ta) G F as (rstW f.2 i) hd).bind fun b => some (if f.1 then 3 else 0, 3, 0, max h b.2.2.2)) (MA P c (2 * ((t2 : Int) + 1 - (t : Int))) fx' ox') else Flq tf')) := by
      intro k x9 tf216 fp217 cd218 hy ox220 fx221 h3 hx9 hE
      have h3' := hP _ _ _ _ _ _ _ _ _ _ _ h3 hc
      rw [show ((-1 : Int32)).toInt = -1 from rfl] at h3'
      obtain ⟨v, tfb, fpb, cdb, fyb, k, w1, w2, hE⟩ := cal_129 hE
      obtain ⟨tfc, fpc, cdc, tfd, v33, z4, z5, z7, z26, z23, k, g1, g2, g3, g4, ⟨u, g5, g6⟩, ⟨u2, g7, g8⟩, g9, hE⟩ := cal_159 hE
      have sb : SmB tf216 tfb := by
        rcases w2 with ⟨-, q⟩ | ⟨-, q, -⟩
        · exact (num_r q).1
        · rw [q]; exact SmB.rf
      have sc := hand_r g1
      have fy5 : fyb 5 = fx221 5 := by
        rcases w2 with ⟨-, q⟩ | ⟨-, -, q⟩
        · rw [(num_r q).2, pk_un (by decide)]
        · rw [q]
      have un : pArgs PP (kd ta) (o + 1) (n + 1) t1 = (match PP (-1) t1 (o + 1) with
        | none => none
        | some (e, t2) => if kd ta t2 = 44 then (match pArgs PP (kd ta) (o + 1) n (t2 + 1) with
            | none => none
            | some (r, t3) => some (eCons e r, t3)) else some (eCons e eNil, t2)) := by first | rfl | simp [pArgs]
      rw [un]
      cases hr : PP (-1) t1 (o + 1) with
      | none =>
        rw [hr] at h3'
        exact (tke_ex_call hTP hTO _ _ _ _ _ _ _ _ _ _ hE).2 ((tkr_tk_accept g2).2 (sc.fl (sb.fl h3')))
      | some r =>
        obtain ⟨e, t2⟩ := r
        rw [hr] at h3'
        obtain ⟨b1, b2, ⟨b3, b4, b5, b6⟩, b7⟩ := h3'
        have b1' := b1.2.2.2.2.1
        have hcc : Cur tfc c t2 (o + 1) := sc.cur (sb.cur b1)
        have hu := ti_add g5 (show (fyb 5).toInt = dpT (kd ta) e by rw [fy5]; exact b3) (show (1 : Int32).toInt = 1 from rfl) (by omega) (by omega)
        have hz26 : z26.toInt = max d (dpT (kd ta) e + 1) := by rw [g6, mx_i, hd5, hu]
        have hz4 := ti_add g3 h4 (show (1 : Int32).toInt = 1 from rfl) (by omega) (by omega)
        have hz7 := ti_add g4 h7 (show (1 : Int32).toInt = 1 from rfl) (by omega) (by omega)
        have f5 : (upd (upd fxa 5 z26) 6 z23 5).toInt = max d (dpT (kd ta) e + 1) := by rw [pk_un (by decide), pk_us, hz26]
        have f7 : (upd (upd fxa 5 z26) 6 z23 7).toInt = 0 := by rw [pk_un (by decide), pk_un (by decide)]; exact hf7
        have f0 : 0 ≤ (upd (upd fxa 5 z26) 6 z23 0).toInt ∧ (upd (upd fxa 5 z26) 6 z23 0).toInt < (c : Int) := by rw [pk_un (by decide), pk_un (by decide)]; exact hf0
        have f2 : (upd (upd fxa 5 z26) 6 z23 2).toInt = 3 := by rw [pk_un (by decide), pk_un (by decide)]; exact hf2
        have bk93 : BK tfd tf' := fun x => bke_ex_call hBP hBO _ _ _ _ _ _ _ _ _ _ hE x
        have bkc : BK tfc tf' := fun x => bk93 (bkr_tk_accept g2 x)
        rcases accept_cur (p0 := 44) g2 hcc hl (by decide) (by decide) with ⟨q1, q2, q3, q4⟩ | ⟨q1, q2, q3⟩
        · have hk44 : kd ta t2 = 44 := by unfold kd; rw [q1]; rfl
          simp only [hk44, if_true]
          have ihh := ih k (i + 1) z4 z5 v33 z7 tfd fpc cdc oxa (upd (upd fxa 5 z26) 6 z23) hx (t2 + 1) (max d (dpT (kd ta) e + 1)) hE (by rw [q2]; rfl) (by omega) (by omega) (by omega) (by omega) q3 f5 (by omega) (by omega) f7 f0 f2
          cases hr2 : pArgs PP (kd ta) (o + 1) n (t2 + 1) with
          | none =>
            rw [hr2] at ihh
            exact ihh
          | some r2 =>
            obtain ⟨r, t3⟩ := r2
            rw [hr2] at ihh
            obtain ⟨i1, i2⟩ := ihh
            show t1 < t3 ∧ _
            refine ⟨by omega, ?_⟩
            by_cases hk41 : kd ta t3 = 41
            · rw [if_pos hk41] at i2 ⊢
              obtain ⟨j1, j2, j3, j3', j4, j5⟩ := i2
              refine ⟨j1, j2, ?_, ?_, j4, ?_⟩
              · rw [j3, dp_cons]; omega
              · rw [dp_cons]; omega
              · intro h' hd hh1 hh2 hh3 hh4 hh5 hh6
                refine cal_at hf w1 h4 w2 g1 b1 b7 hx9 q4 (Or.inr (arg_cons hr2)) g7 g8 g9 hh1 hh4 (by omega) (by omega) (fun H hd' m k1 k2 k3 k4 k5 k6 => ?_) bkc
                exact j5 H hd' (by rw [pk_us]; exact k1) (by omega) (by omega) k2 (by omega) (by omega)
            · rw [if_neg hk41] at i2 ⊢
              exact i2
        · have hk44 : ¬ kd ta t2 = 44 := fun q => q1 (i_eq.mpr q)
          simp only [hk44, if_false]
          obtain ⟨tfe, fpe, cde, l1, l2, l3⟩ := cal_end hE (by rw [q2]; rfl)
          rw [q3] at l1
          refine ⟨by omega, ?_⟩
          rcases close_cur (p0 := 41) l1 hcc (by omega) hl (by decide) (by decide) with ⟨p1, p2⟩ | ⟨p1, p2⟩
          · have hk41 : kd ta t2 = 41 := by unfold kd; rw [p1]; rfl
            rw [if_pos hk41]
            have p2' : Cur tfe c (t2 + 1) o := by rw [show o = o + 1 - 1 by omega]; exact p2
            have cr := con_r l2
            refine ⟨cr.1.cur p2', l3, ?_, ?_, ?_, ?_⟩
            · rw [cr.2 5 (by decide) (by decide), f5, dp_cons, dp_nil]; omega
            · rw [dp_cons, dp_nil]; omega
            · rw [cr.2 7 (by decide) (by decide), f7]
            · intro h' hd hh1 hh2 hh3 hh4 hh5 hh6
              have q4 : SmC tfc tfd := by rw [q3]; exact SmC.rf
              refine cal_at hf w1 h4 w2 g1 b1 b7 hx9 q4 (Or.inl rfl) g7 g8 g9 hh1 hh4 (by omega) (by omega) (fun H hd' m k1 k2 k3 k4 k5 k6 => ?_) bkc
              have ca := con_at (n := 2 * ((t2 : Int) + 1 - (t : Int))) (ox := ox') (m := i + 1) (H := H) l2 hf p2' (by omega) f0 f2 (by rw [pk_us]; exact k1) (by omega)
              rw [q3]
              refine AT.sm (smr_tk_close l1) ?_
              have e : (fo.bind fun f => (att (kd ta) (vd ta) G F eNil (rstW f.2 (i + 1)) hd').bind fun b => some ((if f.1 then 3 else 0, 3, 0, max H b.2.2.2) : Atr)) = fo.bind fun f => if f.2.length = i + 1 then some (if f.1 then 3 else 0, 3, 0, H) else none := by
                cases fo with
                | none => rfl
                | some f =>
                  show (att (kd ta) (vd ta) G F eNil (rstW f.2 (i + 1)) hd').bind _ = if f.2.length = i + 1 then some (if f.1 then 3 else 0, 3, 0, H) else none
                  rw [att_nil]
                  by_cases ql : f.2.length = i + 1
                  · rw [rst_eq ql, if_pos rfl, if_pos ql]
                    show some ((if f.1 then 3 else 0, 3, 0, max H 1) : Atr) = _
                    rw [show max H 1 = H by omega]
                  · have qn : ¬ rstW f.2 (i + 1) = [] := by
                      intro qe
                      rcases Nat.lt_or_ge f.2.length (i + 1) with s | s
                      · rw [rst_gt s] at qe; exact absurd qe (by simp)
                      · obtain ⟨w, -, s2⟩ := rst_lt (show i + 1 < f.2.length by omega)
                        rw [s2] at qe; exact absurd qe (by simp)
                    rw [if_neg qn, if_neg ql]
                    rfl
              rw [e]
              exact ca
          · have hk41 : ¬ kd ta t2 = 41 := fun q => p1 (i_eq.mpr q)
            rw [if_neg hk41]
            exact (con_r l2).1.fl p2
    rcases iv_ex_call_93 h with ⟨k, (⟨h1, tf147, h2, tf160, fp161, cd162, fx163, h3, e0, e1, e2, e3, e4⟩ | ⟨h1, (⟨h2, tf181, h3, tf194, fp195, cd196, fx197, h4, e0, e1, e2, e3, e4⟩ | ⟨h2, tf216, fp217, cd218, hx219, ox220, fx221, h3, (⟨h4, hE⟩ | ⟨h4, hE⟩)⟩)⟩)⟩
    · exfalso; omega
    · exfalso; omega
    · exact fin h3 (Or.inr ⟨h4, rfl⟩) hE
    · exact fin h3 (Or.inl ⟨h4, rfl⟩) hE
end CALL
