theorem oz_d572cc2120 {a0 : Int} (h0 : (0 : Int) ≤ a0) (h1 : a0 < 2100) : 0 ≤ a0 ∧ a0 < ((2100 : Nat) : Int) := by omega
theorem oz_41e0dc1cf4 {a0 : Int} (h0 : (0 : Int) ≤ a0) (h1 : a0 < (0 : Int)) : 0 ≤ a0 ∧ a0 < ((2100 : Nat) : Int) := by omega
theorem oz_f6d6d3f4c3 {a0 : Int} (h0 : ¬ a0 < (0 : Int)) (h1 : a0 < 2100) : 0 ≤ a0 ∧ a0 < ((2100 : Nat) : Int) := by omega
theorem oz_ffdec7d469 {a0 a1 : Int} (h0 : (0 : Int) ≤ a0) (h1 : a0 < a1) (h2 : a1 ≤ 260) : 0 ≤ a0 ∧ a0 < ((260 : Nat) : Int) := by omega
theorem oz_d34ff123d9 {a0 a1 : Int} (h0 : ¬ (0 : Int) ≤ a1) (h1 : a1 < 0 → 0 ≤ a0 ∧ a0 < 10) : 0 ≤ a0 ∧ a0 < ((15 : Nat) : Int) := by omega
theorem oz_4ab36dd3a5 {a0 a2 a3 a4 : Int} {n1 : Nat} (h0 : a2 = (n1 : Int)) (h1 : a0 = a3 + (1 : Int)) (h2 : a4 = a3 + (1 : Int)) (h3 : ¬ a2 ≤ a4) : a0 < (n1 : Int) := by omega
theorem m9_227 : Cond.fieldLink "HomeSystemModel$Program" 187 "HomeSystemModel$Program" "ownTakes" "[Ljava/lang/String;" ∈ AL := AL_9 (List.mem_of_getElem? (i := 227) rfl) rfl
/-! WHICH letters a function takes -/
def chz (b : Int32) : Int32 := ((b &&& 255).toUInt32 % 65536).toInt32
def ChL (sb : Nat → Int32) (i v : Int32) : Prop := v = chz (sb i.toNatClampNeg)
def owl (own k : Nat) : Int := if k + 1 < tlen own then (chz (tby own (k + 1))).toInt else 32
def tkf (na ma : Nat → Nat → Int32) : Nat → Int32 → Int
  | 0, p => if p.toInt < 0 then 32 else if (na 17 p.toNatClampNeg).toInt < 0 then 105 else if (ma 22 p.toNatClampNeg).toInt = 0 then 115 else 99
  | k + 1, p => if p.toInt < 0 then 32 else tkf na ma k (na 21 p.toNatClampNeg)
/-- of a callee: below 100 its own, from 100 on a function -/
def tkl (na ma ca : Nat → Nat → Int32) (code : Int) (k : Nat) : Int := if code < 100 then owl code.toNat k else tkf na ma k (na 17 (ca 39 (code - 100).toNat).toNatClampNeg)
def Prw (na : Nat → Nat → Int32) : Nat → Int32 → Prop
  | 0 => fun k => k.toInt < 0
  | m + 1 => fun k => k.toInt < 0 ∨ (k.toInt < 2100 ∧ (na 14 k.toNatClampNeg).toInt = 42 ∧ Prw na m (na 21 k.toNatClampNeg))
def PrW (na : Nat → Nat → Int32) (k : Int32) : Prop := ∃ m, Prw na m k
/-- every function's node, its row of parameters -/
def FnP (na ca : Nat → Nat → Int32) (n : Int) : Prop := ∀ i : Nat, (i : Int) < n → PrW na (na 17 (ca 39 i).toNatClampNeg)
section TK
variable {na ma ca : Nat → Nat → Int32}
theorem PrW.go {k z : Int32} (h : PrW na k) (h0 : 0 ≤ k.toInt) (e : z = na 21 k.toNatClampNeg) : k.toInt < 2100 ∧ (na 14 k.toNatClampNeg).toInt = 42 ∧ PrW na z := by
  obtain ⟨m, h⟩ := h
  cases m with
  | zero => exact absurd h (by show ¬ k.toInt < 0; omega)
  | succ m =>
    rcases h with h | ⟨h1, h2, h3⟩
    · exact absurd h (by omega)
    · exact ⟨h1, h2, m, by rw [e]; exact h3⟩
theorem PrW.at {k : Int32} (h : PrW na k) (h0 : 0 ≤ k.toInt) : k.toInt < 2100 ∧ (na 14 k.toNatClampNeg).toInt = 42 := ⟨(h.go h0 rfl).1, (h.go h0 rfl).2.1⟩
theorem FnP.eq {n n' : Int} (h : FnP na ca n) (e : n = n') : FnP na ca n' := e ▸ h
theorem FnP.at {n : Int} (h : FnP na ca n) {f z p : Int32} (h0 : 0 ≤ f.toInt) (h1 : f.toInt < n) (ez : z = ca 39 f.toNatClampNeg) (ep : p = na 17 z.toNatClampNeg) : PrW na p := by
  rw [ep, ez]; exact h _ (by have := cl_nat h0; omega)
theorem tkf_neg {k : Nat} {p : Int32} (h : p.toInt < 0) : tkf na ma k p = 32 := by
  cases k with
  | zero => unfold tkf; rw [if_pos h]
  | succ k => unfold tkf; rw [if_pos h]
theorem tkf_s {k : Nat} {p z : Int32} (h : 0 ≤ p.toInt) (e : z = na 21 p.toNatClampNeg) : tkf na ma (k + 1) p = tkf na ma k z := by
  rw [tkf, if_neg (by omega), e]
theorem tkf_0 {p : Int32} (h : 0 ≤ p.toInt) : tkf na ma 0 p = if (na 17 p.toNatClampNeg).toInt < 0 then 105 else if (ma 22 p.toNatClampNeg).toInt = 0 then 115 else 99 := by
  rw [tkf, if_neg (by omega)]
theorem tkf_rng : ∀ (k : Nat) (p : Int32), tkf na ma k p = 32 ∨ tkf na ma k p = 105 ∨ tkf na ma k p = 115 ∨ tkf na ma k p = 99
  | 0, p => by
    unfold tkf
    by_cases h : p.toInt < 0
    · rw [if_pos h]; exact Or.inl rfl
    · rw [if_neg h]
      by_cases h1 : (na 17 p.toNatClampNeg).toInt < 0
      · rw [if_pos h1]; exact Or.inr (Or.inl rfl)
      · rw [if_neg h1]
        by_cases h2 : (ma 22 p.toNatClampNeg).toInt = 0
        · rw [if_pos h2]; exact Or.inr (Or.inr (Or.inl rfl))
        · rw [if_neg h2]; exact Or.inr (Or.inr (Or.inr rfl))
  | k + 1, p => by
    unfold tkf
    by_cases h : p.toInt < 0
    · rw [if_pos h]; exact Or.inl rfl
    · rw [if_neg h]; exact tkf_rng k _
theorem tkf_pre : ∀ {k : Nat} {p : Int32}, tkf na ma (k + 1) p ≠ 32 → tkf na ma k p ≠ 32
  | 0, p, h => by
    by_cases h0 : p.toInt < 0
    · exact absurd (tkf_neg h0) h
    · rw [tkf_0 (by omega)]; split
      · decide
      · split <;> decide
  | k + 1, p, h => by
    by_cases h0 : p.toInt < 0
    · exact absurd (tkf_neg h0) h
    · rw [tkf_s (by omega) rfl] at h ⊢; exact tkf_pre h
theorem owl_rng {o k : Nat} (h : o < 10) : owl o k = 32 ∨ owl o k = 105 ∨ owl o k = 115 ∨ owl o k = 97 := by
  have t : ∀ o : Nat, o < 10 → ∀ k : Nat, k < 3 → owl o k = 32 ∨ owl o k = 105 ∨ owl o k = 115 ∨ owl o k = 97 := by decide +kernel
  have l : ∀ o : Nat, o < 10 → tlen o ≤ 3 := by decide
  by_cases hk : k < 3
  · exact t o h k hk
  · unfold owl; rw [if_neg (by have := l o h; omega)]; exact Or.inl rfl
theorem owl_pre {o k : Nat} (h : o < 10) (g : owl o (k + 1) ≠ 32) : owl o k ≠ 32 := by
  have t : ∀ o : Nat, o < 10 → ∀ k : Nat, k < 3 → owl o (k + 1) ≠ 32 → owl o k ≠ 32 := by decide +kernel
  have l : ∀ o : Nat, o < 10 → tlen o ≤ 3 := by decide
  by_cases hk : k < 3
  · exact t o h k hk g
  · exact absurd (by unfold owl; rw [if_neg (by have := l o h; omega)]) g
/-- a callee's number -/
def CeN (n : Int) (code : Int) : Prop := (0 ≤ code ∧ code < 10) ∨ (100 ≤ code ∧ code < 100 + n)
theorem tkl_rng {n code : Int} {k : Nat} (h : CeN n code) : tkl na ma ca code k = 32 ∨ tkl na ma ca code k = 105 ∨ tkl na ma ca code k = 115 ∨ tkl na ma ca code k = 97 ∨ tkl na ma ca code k = 99 := by
  unfold tkl
  by_cases hc : code < 100
  · rw [if_pos hc]; have := @owl_rng code.toNat k (by rcases h with h | h <;> omega); omega
  · rw [if_neg hc]; have := @tkf_rng na ma k (na 17 (ca 39 (code - 100).toNat).toNatClampNeg); omega
theorem tkl_pre {n code : Int} {k : Nat} (h : CeN n code) (g : tkl na ma ca code (k + 1) ≠ 32) : tkl na ma ca code k ≠ 32 := by
  unfold tkl at g ⊢
  by_cases hc : code < 100
  · rw [if_pos hc] at g ⊢; exact owl_pre (by rcases h with h | h <;> omega) g
  · rw [if_neg hc] at g ⊢; exact tkf_pre g
theorem tkl_lt {n code : Int} (h : CeN n code) : ∀ {j k : Nat}, k ≤ j → tkl na ma ca code j ≠ 32 → tkl na ma ca code k ≠ 32 := by
  intro j
  induction j with
  | zero => intro k hk g; have : k = 0 := by omega
            subst this; exact g
  | succ j ih =>
    intro k hk g
    by_cases e : k = j + 1
    · subst e; exact g
    · exact ih (by omega) (tkl_pre h g)
end TK
/-- what taken tells -/
def TkV (na ma ca : Nat → Nat → Int32) (f own k v : Int) : Prop := v = tkl na ma ca (if f < 0 then own else 100 + f) k.toNat
section TV
variable {na ma ca : Nat → Nat → Int32}
theorem tkv_own {f own k v : Int32} (h : f.toInt < 0) (ho : own.toInt < 100) (hk : 0 ≤ k.toInt) (hi : k.toInt + 1 < (tlen own.toNatClampNeg : Int)) {i : Int32} (ei : i.toInt = k.toInt + 1) (h0 : 0 ≤ own.toInt) (e : ChL (tby own.toNatClampNeg) i v) : TkV na ma ca f.toInt own.toInt k.toInt v.toInt := by
  have a1 := cl_nat h0
  first | have a2 := cl_nat (x := i) ((oz_ae613611c0 ei hk)) | (have a2 := cl_nat (x := i) (by first | exact oz_ae613611c0 ei hk | omega))
  have e1 : own.toInt.toNat = own.toNatClampNeg := by omega
  have e2 : k.toInt.toNat + 1 = i.toNatClampNeg := by omega
  unfold TkV tkl owl
  rw [if_pos h, if_pos ho, e1, e2, if_pos (by omega), ← e]
theorem tkv_own0 {f own k : Int32} (h : f.toInt < 0) (ho : own.toInt < 100) (hk : 0 ≤ k.toInt) (hi : (tlen own.toNatClampNeg : Int) ≤ k.toInt + 1) (h0 : 0 ≤ own.toInt) : TkV na ma ca f.toInt own.toInt k.toInt 32 := by
  have a1 := cl_nat h0
  have e1 : own.toInt.toNat = own.toNatClampNeg := by omega
  unfold TkV tkl owl
  rw [if_pos h, if_pos ho, e1, if_neg (by omega)]
theorem tkv_fun {f own z p : Int32} {k v : Int} (h : 0 ≤ f.toInt) (ez : z = ca 39 f.toNatClampNeg) (ep : p = na 17 z.toNatClampNeg) (e : tkf na ma k.toNat p = v) : TkV na ma ca f.toInt own.toInt k v := by
  have a1 := cl_nat h
  have e1 : (100 + f.toInt - 100).toNat = f.toNatClampNeg := by omega
  unfold TkV tkl
  rw [if_neg (by omega), if_neg (by omega), e1, ← ez, ← ep, e]
end TV
/-- the loop of taken -/
def TkL (na ma : Nat → Nat → Int32) (p0 : Int32) (k : Int) (p : Int32) (i : Int) : Prop := tkf na ma (k - i).toNat p = tkf na ma k.toNat p0
section TL
variable {na ma : Nat → Nat → Int32} {p0 p z : Int32} {k i : Int}
theorem tkl_0 : TkL na ma p k p 0 := by unfold TkL; rw [show (k - 0) = k by omega]
theorem TkL.s (h : TkL na ma p0 k p i) (h0 : 0 ≤ p.toInt) (hi : i < k) (e : z = na 21 p.toNatClampNeg) {j : Int} (hj : j = i + 1) : TkL na ma p0 k z j := by
  unfold TkL at h ⊢
  rw [← h, ← tkf_s h0 e, show (k - j).toNat + 1 = (k - i).toNat by omega]
theorem TkL.n (h : TkL na ma p0 k p i) (h0 : p.toInt < 0) : tkf na ma k.toNat p0 = 32 := by
  unfold TkL at h
  rw [← h, tkf_neg h0]
theorem TkL.e (h : TkL na ma p0 k p i) (h0 : 0 ≤ p.toInt) (hi : i = k) {a b : Int32} (ea : a = na 17 p.toNatClampNeg) (eb : b = ma 22 p.toNatClampNeg) : tkf na ma k.toNat p0 = if a.toInt < 0 then 105 else if b.toInt = 0 then 115 else 99 := by
  unfold TkL at h
  rw [← h, show (k - i).toNat = 0 by omega, tkf_0 h0, ea, eb]
end TL
set_option maxHeartbeats 4000000 in
set_option maxRecDepth 100000 in
theorem c_sl_charAtL (l : Launch) (D : va_G) (cs : Nat → ClassId) (st : Nat) (sn : Nat) (sb : Nat → Int32) (p0 : Int32)  (g0 : sn ≤ 1000000) (g1 : 0 ≤ p0.toInt) (g2 : p0.toInt < (sn : Int)) : MetI l y_StringLatin1_charAt b_StringLatin1_charAt 2 (.char) D cs 2 60 (0) (0) [.ref st, .int p0] [] (oX (fun A U H => (oF A U H) ∧ (oT A st sn sb U H)) []) (fun v ps => (ps = []) ∧ (narrow .char (.int v) = .int v) ∧ (ChL sb p0 v) ∧ (R_sl_charAtL sb p0 v)) := by
  refine px_enter (by decide) (Nat.le_of_ble_eq_true rfl) ?_
  intro p e s m below meth c A ls hAe S hr hlk hnm hA hT hX hw hl
  have hl : lv_has ls 2 [(0, .ref st), (1, .int p0)] := hl
  have lp0 := Int32.le_toInt p0
  have up0 := Int32.toInt_lt p0
  have cst255 : (255 : Int32).toInt = 255 := rfl
  have hX : (fun A U H => (oF A U H) ∧ (oT A st sn sb U H)) A s s.heap := by rw [hAe]; exact hX
  obtain ⟨hF0, hTT⟩ := hX
  have hsn : (nI sn).toInt = (sn : Int) := nI_toInt (by omega)
  refine lv_iload_n S.x S.b d_StringLatin1_charAt_0 rfl (lv_at hl 1 rfl) ?_
  refine lv_aload_n S.x S.b d_StringLatin1_charAt_1 rfl (lv_at hl 0 rfl) ?_
  refine va_tlen S.x S.b hTT hw.2.2 (v := (nI sn)) rfl d_StringLatin1_charAt_2 ?_
  first | refine px_callv (pr := []) (px_runS (As := [.int p0, .int (nI sn)]) (rest := []) S (c_String_checkIndex l D cs  p0 (nI sn)  (show 0 ≤ p0.toInt from g1) (show p0.toInt < (nI sn).toInt from (oz_3462ede644 g2 hsn)) _) hT (pr := []) (pcs := []) hw (oX_call (P := (fun A U H => (oF A U H))) (pr := []) oG_F hw hA hF0) m1_78 m1_76 m1_77 m1_3 q_String_checkIndex ⟨Nat.le_of_ble_eq_true rfl, Nat.le_of_ble_eq_true rfl⟩ hl.1 rfl (Nat.le_of_ble_eq_true rfl) d_StringLatin1_charAt_3 ⟨Nat.le_of_ble_eq_true rfl, Nat.le_of_ble_eq_true rfl⟩) hw hA (fun p1 H locs hp1 hw => ?_) | (refine px_callv (pr := []) (px_runS (As := [.int p0, .int (nI sn)]) (rest := []) S (c_String_checkIndex l D cs  p0 (nI sn)  (show 0 ≤ p0.toInt from by first | exact g1 | omega) (show p0.toInt < (nI sn).toInt from by first | exact oz_3462ede644 g2 hsn | omega) _) hT (pr := []) (pcs := []) hw (oX_call (P := (fun A U H => (oF A U H))) (pr := []) oG_F hw hA hF0) m1_78 m1_76 m1_77 m1_3 q_String_checkIndex ⟨Nat.le_of_ble_eq_true rfl, Nat.le_of_ble_eq_true rfl⟩ hl.1 rfl (Nat.le_of_ble_eq_true rfl) d_StringLatin1_charAt_3 ⟨Nat.le_of_ble_eq_true rfl, Nat.le_of_ble_eq_true rfl⟩) hw hA (fun p1 H locs hp1 hw => ?_))
  subst hp1
  refine lv_aload_n S.x S.b d_StringLatin1_charAt_6 rfl (lv_at hl 0 rfl) ?_
  refine lv_iload_n S.x S.b d_StringLatin1_charAt_7 rfl (lv_at hl 1 rfl) ?_
  refine va_tb S.x S.b hTT hw.2.2 (i := p0) (vp_in_iff.mpr (by constructor <;> omega)) rfl d_StringLatin1_charAt_8 ?_
  refine lv_topi (fun z3 ez3 => ?_)
  have lz3 := Int32.le_toInt z3
  have uz3 := Int32.toInt_lt z3
  refine lv_sipush (v := 255) S.x S.b d_StringLatin1_charAt_9 (by decide) ?_
  refine lv_iand S.x S.b d_StringLatin1_charAt_12 ?_
  refine lv_topi (fun z4 ez4 => ?_)
  have lz4 := Int32.le_toInt z4
  have uz4 := Int32.toInt_lt z4
  have bz4 := i_andm z3 (m := 255) 8 (by decide) (by decide)
  rw [← ez4] at bz4
  have wz4 : 0 ≤ z4.toInt ∧ z4.toInt ≤ 255 := by simp only [Nat.reducePow, Int.reducePow] at bz4; omega
  refine lv_i2c S.x S.b d_StringLatin1_charAt_13 rfl ?_
  refine lv_topi (fun z5 ez5 => ?_)
  have lz5 := Int32.le_toInt z5
  have uz5 := Int32.toInt_lt z5
  exact px_iret (v := z5) S hr (by first | assumption | (rw [ez5]; exact pk_nc _)) hlk hAe hw (Nat.le_of_ble_eq_true rfl) (Nat.le_of_ble_eq_true rfl) (⟨rfl, (show narrow .char (.int z5) = .int z5 from (by first | assumption | (rw [ez5]; exact pk_nc _))), (show ChL sb p0 z5 from (by unfold ChL chz; rw [ez5, ez4, ez3])), (show R_sl_charAtL sb p0 z5 from (Or.inl ⟨z3, ez3, z4, ez4, z5, ez5, rfl⟩))⟩) d_StringLatin1_charAt_14
set_option maxHeartbeats 4000000 in
set_option maxRecDepth 100000 in
theorem c_sg_charAtL (l : Launch) (D : va_G) (cs : Nat → ClassId) (sk : Nat) (st : Nat) (sn : Nat) (sb : Nat → Int32) (p0 : Int32)  (g0 : sn ≤ 1000000) (g1 : 0 ≤ p0.toInt) (g2 : p0.toInt < (sn : Int)) : MetI l y_String_charAt b_String_charAt 2 (.char) D cs 3 90 (0) (0) [.ref sk, .int p0] [] (oX (fun A U H => (oF A U H) ∧ (oZ A U H) ∧ (oS A sk st sn sb U H)) []) (fun v ps => (ps = []) ∧ (narrow .char (.int v) = .int v) ∧ (ChL sb p0 v) ∧ (R_sg_charAtL sb p0 v)) := by
  refine px_enter (by decide) (Nat.le_of_ble_eq_true rfl) ?_
  intro p e s m below meth c A ls hAe S hr hlk hnm hA hT hX hw hl
  have hl : lv_has ls 2 [(0, .ref sk), (1, .int p0)] := hl
  have lp0 := Int32.le_toInt p0
  have up0 := Int32.toInt_lt p0
  have hX : (fun A U H => (oF A U H) ∧ (oZ A U H) ∧ (oS A sk st sn sb U H)) A s s.heap := by rw [hAe]; exact hX
  obtain ⟨hF0, hZ, hS⟩ := hX
  have hsn : (nI sn).toInt = (sn : Int) := nI_toInt (by omega)
  refine lv_aload_n S.x S.b d_String_charAt_0 rfl (lv_at hl 0 rfl) ?_
  first | refine px_calli (pr := []) (px_runV (As := []) (rest := []) S (c_String_isLatin1 l D cs sk st sn sb   (show sn ≤ 1000000 from g0) _) hT (pr := []) (pcs := []) hw (oX_call (P := (fun A U H => (oZ A U H) ∧ (oS A sk st sn sb U H))) (pr := []) (oG_and oG_Z oG_S) hw hA ⟨hZ, hS⟩) (oS_recv hw hS) m1_72 m1_69 m1_70 m1_71 m1_3 q_String_isLatin1 ⟨Nat.le_of_ble_eq_true rfl, Nat.le_of_ble_eq_true rfl⟩ hl.1 rfl (Nat.le_of_ble_eq_true rfl) d_String_charAt_1 ⟨Nat.le_of_ble_eq_true rfl, Nat.le_of_ble_eq_true rfl⟩) hw hA (fun v2 p1 H locs hp1 hw => ?_) | (refine px_calli (pr := []) (px_runV (As := []) (rest := []) S (c_String_isLatin1 l D cs sk st sn sb   (show sn ≤ 1000000 from by first | exact g0 | omega) _) hT (pr := []) (pcs := []) hw (oX_call (P := (fun A U H => (oZ A U H) ∧ (oS A sk st sn sb U H))) (pr := []) (oG_and oG_Z oG_S) hw hA ⟨hZ, hS⟩) (oS_recv hw hS) m1_72 m1_69 m1_70 m1_71 m1_3 q_String_isLatin1 ⟨Nat.le_of_ble_eq_true rfl, Nat.le_of_ble_eq_true rfl⟩ hl.1 rfl (Nat.le_of_ble_eq_true rfl) d_String_charAt_1 ⟨Nat.le_of_ble_eq_true rfl, Nat.le_of_ble_eq_true rfl⟩) hw hA (fun v2 p1 H locs hp1 hw => ?_))
  obtain ⟨rfl, e3, e4⟩ := hp1
  have e3 : v2.toInt = 1 := e3
  have e4 : R_String_isLatin1 v2 := e4
  have lv2 := Int32.le_toInt v2
  have uv2 := Int32.toInt_lt v2
  refine lv_if_eq (tgt := 16) S.x S.b d_String_charAt_4 (by decide) (fun c5 => ?_) (fun c5 => ?_)
  · have nc5 : v2.toInt = (0 : Int) := (i_eq (x := v2) (y := 0)).mp c5
    refine lv_aload_n S.x S.b d_String_charAt_16 rfl (lv_at hl 0 rfl) ?_
    refine vk_getf S.x S.b hS.2.2.1 hw.2.2 S.own (S.w m8_11) (fun _ h => h) d_String_charAt_17 ?_
    refine lv_iload_n S.x S.b d_String_charAt_20 rfl (lv_at hl 1 rfl) ?_
    exfalso
    omega
  · have nc5 : ¬ v2.toInt = (0 : Int) := mt (i_eq (x := v2) (y := 0)).mpr c5
    refine lv_aload_n S.x S.b d_String_charAt_7 rfl (lv_at hl 0 rfl) ?_
    refine vk_getf S.x S.b hS.2.2.1 hw.2.2 S.own (S.w m8_11) (fun _ h => h) d_String_charAt_8 ?_
    refine lv_iload_n S.x S.b d_String_charAt_11 rfl (lv_at hl 1 rfl) ?_
    first | refine px_calli (pr := []) (px_runS (As := [.ref st, .int p0]) (rest := []) S (c_sl_charAtL l D cs st sn sb p0  (show sn ≤ 1000000 from g0) (show 0 ≤ p0.toInt from g1) (show p0.toInt < (sn : Int) from g2) _) hT (pr := []) (pcs := []) hw (oX_call (P := (fun A U H => (oF A U H) ∧ (oT A st sn sb U H))) (pr := []) (oG_and oG_F oG_T) hw hA ⟨hF0, hS.2.2.2⟩) m1_75 m1_73 m1_74 m1_4 q_StringLatin1_charAt ⟨Nat.le_of_ble_eq_true rfl, Nat.le_of_ble_eq_true rfl⟩ hl.1 rfl (Nat.le_of_ble_eq_true rfl) d_String_charAt_12 ⟨Nat.le_of_ble_eq_true rfl, Nat.le_of_ble_eq_true rfl⟩) hw hA (fun v8 p7 H locs hp7 hw => ?_) | (refine px_calli (pr := []) (px_runS (As := [.ref st, .int p0]) (rest := []) S (c_sl_charAtL l D cs st sn sb p0  (show sn ≤ 1000000 from by first | exact g0 | omega) (show 0 ≤ p0.toInt from by first | exact g1 | omega) (show p0.toInt < (sn : Int) from by first | exact g2 | omega) _) hT (pr := []) (pcs := []) hw (oX_call (P := (fun A U H => (oF A U H) ∧ (oT A st sn sb U H))) (pr := []) (oG_and oG_F oG_T) hw hA ⟨hF0, hS.2.2.2⟩) m1_75 m1_73 m1_74 m1_4 q_StringLatin1_charAt ⟨Nat.le_of_ble_eq_true rfl, Nat.le_of_ble_eq_true rfl⟩ hl.1 rfl (Nat.le_of_ble_eq_true rfl) d_String_charAt_12 ⟨Nat.le_of_ble_eq_true rfl, Nat.le_of_ble_eq_true rfl⟩) hw hA (fun v8 p7 H locs hp7 hw => ?_))
    obtain ⟨rfl, e9, e10, e11⟩ := hp7
    have e9 : narrow .char (.int v8) = .int v8 := e9
    have e10 : ChL sb p0 v8 := e10
    have hch := e10
    have e11 : R_sl_charAtL sb p0 v8 := e11
    have lv8 := Int32.le_toInt v8
    have uv8 := Int32.toInt_lt v8
    exact px_iret (v := v8) S hr (by first | assumption | (rw [ev8]; exact pk_nc _)) hlk hAe hw (Nat.le_of_ble_eq_true rfl) (Nat.le_of_ble_eq_true rfl) (⟨rfl, (show narrow .char (.int v8) = .int v8 from (by first | assumption | (rw [ev8]; exact pk_nc _))), (show ChL sb p0 v8 from (by assumption)), (show R_sg_charAtL sb p0 v8 from (Or.inl ⟨v2, e4, nc5, v8, e11, rfl⟩))⟩) d_String_charAt_15
abbrev b_Mpg_taken : ByteArray := prog_16_method_78_code
def y_Mpg_taken : MethodName := ⟨"HomeSystemModel$Program", "taken", "(III)I"⟩
theorem d_Mpg_taken_0 : decode b_Mpg_taken 0 = .ok (.iload_n 1, 1) := by decide +kernel
theorem d_Mpg_taken_1 : decode b_Mpg_taken 1 = .ok (.ifCond .ge 36, 3) := by decide +kernel
theorem d_Mpg_taken_4 : decode b_Mpg_taken 4 = .ok (.iload_n 3, 1) := by decide +kernel
theorem d_Mpg_taken_5 : decode b_Mpg_taken 5 = .ok (.iconst 1, 1) := by decide +kernel
theorem d_Mpg_taken_6 : decode b_Mpg_taken 6 = .ok (.iadd, 1) := by decide +kernel
theorem d_Mpg_taken_7 : decode b_Mpg_taken 7 = .ok (.aload_n 0, 1) := by decide +kernel
theorem d_Mpg_taken_8 : decode b_Mpg_taken 8 = .ok (.getfield 187, 3) := by decide +kernel
theorem d_Mpg_taken_11 : decode b_Mpg_taken 11 = .ok (.iload_n 2, 1) := by decide +kernel
theorem d_Mpg_taken_12 : decode b_Mpg_taken 12 = .ok (.aaload, 1) := by decide +kernel
theorem d_Mpg_taken_13 : decode b_Mpg_taken 13 = .ok (.invokevirtual 307, 3) := by decide +kernel
theorem d_Mpg_taken_16 : decode b_Mpg_taken 16 = .ok (.if_icmp .ge 18, 3) := by decide +kernel
theorem d_Mpg_taken_19 : decode b_Mpg_taken 19 = .ok (.aload_n 0, 1) := by decide +kernel
theorem d_Mpg_taken_20 : decode b_Mpg_taken 20 = .ok (.getfield 187, 3) := by decide +kernel
theorem d_Mpg_taken_23 : decode b_Mpg_taken 23 = .ok (.iload_n 2, 1) := by decide +kernel
theorem d_Mpg_taken_24 : decode b_Mpg_taken 24 = .ok (.aaload, 1) := by decide +kernel
theorem d_Mpg_taken_25 : decode b_Mpg_taken 25 = .ok (.iload_n 3, 1) := by decide +kernel
theorem d_Mpg_taken_26 : decode b_Mpg_taken 26 = .ok (.iconst 1, 1) := by decide +kernel
theorem d_Mpg_taken_27 : decode b_Mpg_taken 27 = .ok (.iadd, 1) := by decide +kernel
theorem d_Mpg_taken_28 : decode b_Mpg_taken 28 = .ok (.invokevirtual 310, 3) := by decide +kernel
theorem d_Mpg_taken_31 : decode b_Mpg_taken 31 = .ok (.goto 5, 3) := by decide +kernel
theorem d_Mpg_taken_34 : decode b_Mpg_taken 34 = .ok (.bipush 32, 2) := by decide +kernel
theorem d_Mpg_taken_36 : decode b_Mpg_taken 36 = .ok (.ireturn, 1) := by decide +kernel
theorem d_Mpg_taken_37 : decode b_Mpg_taken 37 = .ok (.aload_n 0, 1) := by decide +kernel
theorem d_Mpg_taken_38 : decode b_Mpg_taken 38 = .ok (.getfield 216, 3) := by decide +kernel
theorem d_Mpg_taken_41 : decode b_Mpg_taken 41 = .ok (.aload_n 0, 1) := by decide +kernel
theorem d_Mpg_taken_42 : decode b_Mpg_taken 42 = .ok (.getfield 255, 3) := by decide +kernel
theorem d_Mpg_taken_45 : decode b_Mpg_taken 45 = .ok (.iload_n 1, 1) := by decide +kernel
theorem d_Mpg_taken_46 : decode b_Mpg_taken 46 = .ok (.iaload, 1) := by decide +kernel
theorem d_Mpg_taken_47 : decode b_Mpg_taken 47 = .ok (.iaload, 1) := by decide +kernel
theorem d_Mpg_taken_48 : decode b_Mpg_taken 48 = .ok (.istore 4, 2) := by decide +kernel
theorem d_Mpg_taken_50 : decode b_Mpg_taken 50 = .ok (.iconst 0, 1) := by decide +kernel
theorem d_Mpg_taken_51 : decode b_Mpg_taken 51 = .ok (.istore 5, 2) := by decide +kernel
theorem d_Mpg_taken_53 : decode b_Mpg_taken 53 = .ok (.iload 5, 2) := by decide +kernel
theorem d_Mpg_taken_55 : decode b_Mpg_taken 55 = .ok (.iload_n 3, 1) := by decide +kernel
theorem d_Mpg_taken_56 : decode b_Mpg_taken 56 = .ok (.if_icmp .ge 23, 3) := by decide +kernel
theorem d_Mpg_taken_59 : decode b_Mpg_taken 59 = .ok (.iload 4, 2) := by decide +kernel
theorem d_Mpg_taken_61 : decode b_Mpg_taken 61 = .ok (.ifCond .lt 18, 3) := by decide +kernel
theorem d_Mpg_taken_64 : decode b_Mpg_taken 64 = .ok (.aload_n 0, 1) := by decide +kernel
theorem d_Mpg_taken_65 : decode b_Mpg_taken 65 = .ok (.getfield 228, 3) := by decide +kernel
theorem d_Mpg_taken_68 : decode b_Mpg_taken 68 = .ok (.iload 4, 2) := by decide +kernel
theorem d_Mpg_taken_70 : decode b_Mpg_taken 70 = .ok (.iaload, 1) := by decide +kernel
theorem d_Mpg_taken_71 : decode b_Mpg_taken 71 = .ok (.istore 4, 2) := by decide +kernel
theorem d_Mpg_taken_73 : decode b_Mpg_taken 73 = .ok (.iinc 5 1, 3) := by decide +kernel
theorem d_Mpg_taken_76 : decode b_Mpg_taken 76 = .ok (.goto (-23), 3) := by decide +kernel
theorem d_Mpg_taken_79 : decode b_Mpg_taken 79 = .ok (.iload 4, 2) := by decide +kernel
theorem d_Mpg_taken_81 : decode b_Mpg_taken 81 = .ok (.ifCond .ge 8, 3) := by decide +kernel
theorem d_Mpg_taken_84 : decode b_Mpg_taken 84 = .ok (.bipush 32, 2) := by decide +kernel
theorem d_Mpg_taken_86 : decode b_Mpg_taken 86 = .ok (.goto 35, 3) := by decide +kernel
theorem d_Mpg_taken_89 : decode b_Mpg_taken 89 = .ok (.aload_n 0, 1) := by decide +kernel
theorem d_Mpg_taken_90 : decode b_Mpg_taken 90 = .ok (.getfield 216, 3) := by decide +kernel
theorem d_Mpg_taken_93 : decode b_Mpg_taken 93 = .ok (.iload 4, 2) := by decide +kernel
theorem d_Mpg_taken_95 : decode b_Mpg_taken 95 = .ok (.iaload, 1) := by decide +kernel
theorem d_Mpg_taken_96 : decode b_Mpg_taken 96 = .ok (.ifCond .ge 8, 3) := by decide +kernel
theorem d_Mpg_taken_99 : decode b_Mpg_taken 99 = .ok (.bipush 105, 2) := by decide +kernel
theorem d_Mpg_taken_101 : decode b_Mpg_taken 101 = .ok (.goto 20, 3) := by decide +kernel
theorem d_Mpg_taken_104 : decode b_Mpg_taken 104 = .ok (.aload_n 0, 1) := by decide +kernel
theorem d_Mpg_taken_105 : decode b_Mpg_taken 105 = .ok (.getfield 231, 3) := by decide +kernel
theorem d_Mpg_taken_108 : decode b_Mpg_taken 108 = .ok (.iload 4, 2) := by decide +kernel
theorem d_Mpg_taken_110 : decode b_Mpg_taken 110 = .ok (.iaload, 1) := by decide +kernel
theorem d_Mpg_taken_111 : decode b_Mpg_taken 111 = .ok (.ifCond .ne 8, 3) := by decide +kernel
theorem d_Mpg_taken_114 : decode b_Mpg_taken 114 = .ok (.bipush 115, 2) := by decide +kernel
theorem d_Mpg_taken_116 : decode b_Mpg_taken 116 = .ok (.goto 5, 3) := by decide +kernel
theorem d_Mpg_taken_119 : decode b_Mpg_taken 119 = .ok (.bipush 99, 2) := by decide +kernel
theorem d_Mpg_taken_121 : decode b_Mpg_taken 121 = .ok (.ireturn, 1) := by decide +kernel
theorem q_Mpg_taken : px_y y_Mpg_taken 3 := by unfold px_y; decide +kernel
set_option maxHeartbeats 4000000 in
set_option maxRecDepth 100000 in
theorem c_mp_taken (l : Launch) (D : va_G) (cs : Nat → ClassId) (h : Nat) (r : Nat → Nat) (g : Nat → Nat → Option Nat) (tf : Nat → Int32) (ta : Nat → Nat → Int32) (pf : Nat → Int32) (na : Nat → Nat → Int32) (ma : Nat → Nat → Int32) (wa : Nat → Nat → Int32) (cf : Nat → Int32) (ca : Nat → Nat → Int32) (ef : Nat → Int32) (ea : Nat → Nat → Int32) (xf : Nat → Int32) (xa : Nat → Nat → Int32) (p0 p1 p2 : Int32)  (g0 : -1 ≤ p0.toInt) (g1 : p0.toInt < (cf 38).toInt) (g2 : p0.toInt < 0 → 0 ≤ p1.toInt ∧ p1.toInt < 10) (g3 : 0 ≤ p2.toInt) (g4 : p2.toInt ≤ 4000) (g5 : 0 ≤ (cf 38).toInt) (htk : TkI tf ta) (hft : FnT (tf 6).toInt na ca (cf 38).toInt) (hfp : FnP na ca (cf 38).toInt) : MetI l y_Mpg_taken b_Mpg_taken 6 (.int) D cs 4 140 (0) (0) [.ref h, .int p0, .int p1, .int p2] [wdP cs h r g tf ta pf na ma wa cf ca ef ea xf xa] (oX (fun A U H => (oP A g U H)) [wdP cs h r g tf ta pf na ma wa cf ca ef ea xf xa]) (fun v ps => (ps = [wdP cs h r g tf ta pf na ma wa cf ca ef ea xf xa]) ∧ (TkV na ma ca p0.toInt p1.toInt p2.toInt v.toInt) ∧ (R_mp_taken na ma ca p0 p1 p2 v)) := by
  refine px_enter (by decide) (Nat.le_of_ble_eq_true rfl) ?_
  intro p e s m below meth c A ls hAe S hr hlk hnm hA hT hX hw hl
  have hl : lv_has ls 6 [(0, .ref h), (1, .int p0), (2, .int p1), (3, .int p2)] := hl
  have lp0 := Int32.le_toInt p0
  have up0 := Int32.toInt_lt p0
  have lp1 := Int32.le_toInt p1
  have up1 := Int32.toInt_lt p1
  have lp2 := Int32.le_toInt p2
  have up2 := Int32.toInt_lt p2
  have cst0 : (0 : Int32).toInt = 0 := rfl
  have cst1 : (1 : Int32).toInt = 1 := rfl
  have cst32 : (32 : Int32).toInt = 32 := rfl
  have cst99 : (99 : Int32).toInt = 99 := rfl
  have cst105 : (105 : Int32).toInt = 105 := rfl
  have cst115 : (115 : Int32).toInt = 115 := rfl
  have hX : (fun A U H => (oP A g U H)) A s s.heap := by rw [hAe]; exact hX
  have hP := hX
  have hZ := hP.1
  have hF0 := hP.2.1
  have hf11 := hft.1
  obtain ⟨fz, e_fz⟩ : ∃ y : Int32, y = ca 39 p0.toNatClampNeg := ⟨_, rfl⟩
  obtain ⟨fp, e_fp⟩ : ∃ y : Int32, y = na 17 fz.toNatClampNeg := ⟨_, rfl⟩
  have J53 : ∀ (n_53 : Nat)  (x53_4 x53_5 : Int32) (H : Heap) (locs : List Loc) (ls : Array Slot), (0 ≤ p0.toInt) → (0 ≤ x53_5.toInt) → (x53_5.toInt ≤ p2.toInt) → (PrW na x53_4) → (TkL na ma fp p2.toInt x53_4 x53_5.toInt) → (K_mp_taken_53 na ma ca p0 p1 p2 x53_4 x53_5) → p2.toInt - x53_5.toInt < (n_53 : Int) → pw D A s.heap H locs [wdP cs h r g tf ta pf na ma wa cf ca ef ea xf xa] → lv_has ls 6 [(0, .ref h), (1, .int p0), (2, .int p1), (3, .int p2), (4, .int x53_4), (5, .int x53_5)] → W p l e { frames := 4, cells := 0, slots := 0, locals := 140 } s m [.ref h, .int p0, .int p1, .int p2].toArray below meth c H locs 0 0 (MQ below (va_Qi (fun v ps => (ps = [wdP cs h r g tf ta pf na ma wa cf ca ef ea xf xa]) ∧ (TkV na ma ca p0.toInt p1.toInt p2.toInt v.toInt) ∧ (R_mp_taken na ma ca p0 p1 p2 v)) (pc_B D (va_A ([wdP cs h r g tf ta pf na ma wa cf ca ef ea xf xa] : List va_W).flatten s.heap.size)) (va_A ([wdP cs h r g tf ta pf na ma wa cf ca ef ea xf xa] : List va_W).flatten s.heap.size)) [.ref h, .int p0, .int p1, .int p2].toArray s 0 0 A) (F0 m 53 ls []) := by
    intro  n_53
    induction n_53 with
    | zero =>
      intro x53_4 x53_5 H locs ls k53_0 k53_1 k53_2 k53_3 k53_4 k53_5 hm hw hl
      have lx53_4 := Int32.le_toInt x53_4
      have ux53_4 := Int32.toInt_lt x53_4
      have lx53_5 := Int32.le_toInt x53_5
      have ux53_5 := Int32.toInt_lt x53_5
      have hpw := k53_3
      have htl := k53_4
      exact absurd hm (by omega)
    | succ n_53 ih53 =>
      intro x53_4 x53_5 H locs ls k53_0 k53_1 k53_2 k53_3 k53_4 k53_5 hm hw hl
      have lx53_4 := Int32.le_toInt x53_4
      have ux53_4 := Int32.toInt_lt x53_4
      have lx53_5 := Int32.le_toInt x53_5
      have ux53_5 := Int32.toInt_lt x53_5
      have hpw := k53_3
      have htl := k53_4
      refine lv_iload S.x S.b d_Mpg_taken_53 (lv_at hl 5 rfl) ?_
      refine lv_iload_n S.x S.b d_Mpg_taken_55 rfl (lv_at hl 3 rfl) ?_
      refine lv_icmp_ge (tgt := 79) S.x S.b d_Mpg_taken_56 (by decide) (fun c1 => ?_) (fun c1 => ?_)
      · have nc1 : p2.toInt ≤ x53_5.toInt := (i_le (x := p2) (y := x53_5)).mp c1
        refine lv_iload S.x S.b d_Mpg_taken_79 (lv_at hl 4 rfl) ?_
        refine lv_if_ge (tgt := 89) S.x S.b d_Mpg_taken_81 (by decide) (fun c3 => ?_) (fun c3 => ?_)
        · have nc3 : (0 : Int) ≤ x53_4.toInt := (i_le (x := 0) (y := x53_4)).mp c3
          refine lv_aload_n S.x S.b d_Mpg_taken_89 rfl (lv_at hl 0 rfl) ?_
          refine gP_17 S hT hw 0 rfl m10_1 d_Mpg_taken_90 ?_
          have hpa := PrW.at hpw (by omega)
          refine lv_iload S.x S.b d_Mpg_taken_93 (lv_at hl 4 rfl) ?_
          refine px_iald S hT hw 0 13 (n := 2100) (f := (na 17)) rfl gp_17 (x := x53_4) (vp_in_iff.mpr (by first | exact oz_d572cc2120 nc3 hpa.1 | (constructor <;> omega))) d_Mpg_taken_95 ?_
          refine lv_topi (fun z5 ez5 => ?_)
          have lz5 := Int32.le_toInt z5
          have uz5 := Int32.toInt_lt z5
          refine lv_if_ge (tgt := 104) S.x S.b d_Mpg_taken_96 (by decide) (fun c6 => ?_) (fun c6 => ?_)
          · have nc6 : (0 : Int) ≤ z5.toInt := (i_le (x := 0) (y := z5)).mp c6
            refine lv_aload_n S.x S.b d_Mpg_taken_104 rfl (lv_at hl 0 rfl) ?_
            refine gP_22 S hT hw 0 rfl m10_9 d_Mpg_taken_105 ?_
            have hpa := PrW.at hpw (by omega)
            refine lv_iload S.x S.b d_Mpg_taken_108 (lv_at hl 4 rfl) ?_
            refine px_iald S hT hw 0 18 (n := 2100) (f := (ma 22)) rfl gp_22 (x := x53_4) (vp_in_iff.mpr (by first | exact oz_d572cc2120 nc3 hpa.1 | (constructor <;> omega))) d_Mpg_taken_110 ?_
            refine lv_topi (fun z8 ez8 => ?_)
            have lz8 := Int32.le_toInt z8
            have uz8 := Int32.toInt_lt z8
            refine lv_if_ne (tgt := 119) S.x S.b d_Mpg_taken_111 (by decide) (fun c9 => ?_) (fun c9 => ?_)
            · have nc9 : ¬ z8.toInt = (0 : Int) := mt (i_eq (x := z8) (y := 0)).mpr c9
              refine lv_bipush (v := 99) S.x S.b d_Mpg_taken_119 (by decide) ?_
              exact px_iret (v := 99) S hr rfl hlk hAe hw (Nat.le_of_ble_eq_true rfl) (Nat.le_of_ble_eq_true rfl) (⟨rfl, (show TkV na ma ca p0.toInt p1.toInt p2.toInt (99 : Int) from (tkv_fun (by omega) e_fz e_fp ((TkL.e htl (by omega) (by omega) ez5 ez8).trans ((if_neg (by omega)).trans (if_neg (by omega)))))), (show R_mp_taken na ma ca p0 p1 p2 (99 : Int32) from (k53_5 _ 1 (Or.inr (Or.inl ⟨rfl, x53_4, x53_5, rfl, rfl, rfl, rfl, rfl, Or.inl ⟨nc1, Or.inl ⟨nc3, z5, ez5, Or.inl ⟨nc6, z8, ez8, Or.inl ⟨nc9, rfl⟩⟩⟩⟩⟩))))⟩) d_Mpg_taken_121
            · have nc9 : z8.toInt = (0 : Int) := (i_eq (x := z8) (y := 0)).mp c9
              refine lv_bipush (v := 115) S.x S.b d_Mpg_taken_114 (by decide) ?_
              refine lv_goto (tgt := 121) S.x S.b d_Mpg_taken_116 (by decide) ?_
              exact px_iret (v := 115) S hr rfl hlk hAe hw (Nat.le_of_ble_eq_true rfl) (Nat.le_of_ble_eq_true rfl) (⟨rfl, (show TkV na ma ca p0.toInt p1.toInt p2.toInt (115 : Int) from (tkv_fun (by omega) e_fz e_fp ((TkL.e htl (by omega) (by omega) ez5 ez8).trans ((if_neg (by omega)).trans (if_pos (by omega)))))), (show R_mp_taken na ma ca p0 p1 p2 (115 : Int32) from (k53_5 _ 1 (Or.inr (Or.inl ⟨rfl, x53_4, x53_5, rfl, rfl, rfl, rfl, rfl, Or.inl ⟨nc1, Or.inl ⟨nc3, z5, ez5, Or.inl ⟨nc6, z8, ez8, Or.inr ⟨nc9, rfl⟩⟩⟩⟩⟩))))⟩) d_Mpg_taken_121
          · have nc6 : ¬ (0 : Int) ≤ z5.toInt := mt (i_le (x := 0) (y := z5)).mpr c6
            refine lv_bipush (v := 105) S.x S.b d_Mpg_taken_99 (by decide) ?_
            refine lv_goto (tgt := 121) S.x S.b d_Mpg_taken_101 (by decide) ?_
            exact px_iret (v := 105) S hr rfl hlk hAe hw (Nat.le_of_ble_eq_true rfl) (Nat.le_of_ble_eq_true rfl) (⟨rfl, (show TkV na ma ca p0.toInt p1.toInt p2.toInt (105 : Int) from (tkv_fun (by omega) e_fz e_fp ((TkL.e htl (by omega) (by omega) ez5 rfl).trans (if_pos (by omega))))), (show R_mp_taken na ma ca p0 p1 p2 (105 : Int32) from (k53_5 _ 1 (Or.inr (Or.inl ⟨rfl, x53_4, x53_5, rfl, rfl, rfl, rfl, rfl, Or.inl ⟨nc1, Or.inl ⟨nc3, z5, ez5, Or.inr ⟨nc6, rfl⟩⟩⟩⟩))))⟩) d_Mpg_taken_121
        · have nc3 : ¬ (0 : Int) ≤ x53_4.toInt := mt (i_le (x := 0) (y := x53_4)).mpr c3
          refine lv_bipush (v := 32) S.x S.b d_Mpg_taken_84 (by decide) ?_
          refine lv_goto (tgt := 121) S.x S.b d_Mpg_taken_86 (by decide) ?_
          exact px_iret (v := 32) S hr rfl hlk hAe hw (Nat.le_of_ble_eq_true rfl) (Nat.le_of_ble_eq_true rfl) (⟨rfl, (show TkV na ma ca p0.toInt p1.toInt p2.toInt (32 : Int) from (tkv_fun (by omega) e_fz e_fp (TkL.n htl (by omega)))), (show R_mp_taken na ma ca p0 p1 p2 (32 : Int32) from (k53_5 _ 1 (Or.inr (Or.inl ⟨rfl, x53_4, x53_5, rfl, rfl, rfl, rfl, rfl, Or.inl ⟨nc1, Or.inr ⟨nc3, rfl⟩⟩⟩))))⟩) d_Mpg_taken_121
      · have nc1 : ¬ p2.toInt ≤ x53_5.toInt := mt (i_le (x := p2) (y := x53_5)).mpr c1
        refine lv_iload S.x S.b d_Mpg_taken_59 (lv_at hl 4 rfl) ?_
        refine lv_if_lt (tgt := 79) S.x S.b d_Mpg_taken_61 (by decide) (fun c11 => ?_) (fun c11 => ?_)
        · have nc11 : x53_4.toInt < (0 : Int) := (i_lt (x := x53_4) (y := 0)).mp c11
          refine lv_iload S.x S.b d_Mpg_taken_79 (lv_at hl 4 rfl) ?_
          refine lv_if_ge (tgt := 89) S.x S.b d_Mpg_taken_81 (by decide) (fun c13 => ?_) (fun c13 => ?_)
          · have nc13 : (0 : Int) ≤ x53_4.toInt := (i_le (x := 0) (y := x53_4)).mp c13
            refine lv_aload_n S.x S.b d_Mpg_taken_89 rfl (lv_at hl 0 rfl) ?_
            refine gP_17 S hT hw 0 rfl m10_1 d_Mpg_taken_90 ?_
            have hpa := PrW.at hpw (by omega)
            refine lv_iload S.x S.b d_Mpg_taken_93 (lv_at hl 4 rfl) ?_
            refine px_iald S hT hw 0 13 (n := 2100) (f := (na 17)) rfl gp_17 (x := x53_4) (vp_in_iff.mpr (by first | exact oz_41e0dc1cf4 nc13 nc11 | (constructor <;> omega))) d_Mpg_taken_95 ?_
            refine lv_topi (fun z15 ez15 => ?_)
            have lz15 := Int32.le_toInt z15
            have uz15 := Int32.toInt_lt z15
            refine lv_if_ge (tgt := 104) S.x S.b d_Mpg_taken_96 (by decide) (fun c16 => ?_) (fun c16 => ?_)
            · have nc16 : (0 : Int) ≤ z15.toInt := (i_le (x := 0) (y := z15)).mp c16
              refine lv_aload_n S.x S.b d_Mpg_taken_104 rfl (lv_at hl 0 rfl) ?_
              refine gP_22 S hT hw 0 rfl m10_9 d_Mpg_taken_105 ?_
              have hpa := PrW.at hpw (by omega)
              refine lv_iload S.x S.b d_Mpg_taken_108 (lv_at hl 4 rfl) ?_
              refine px_iald S hT hw 0 18 (n := 2100) (f := (ma 22)) rfl gp_22 (x := x53_4) (vp_in_iff.mpr (by first | exact oz_41e0dc1cf4 nc13 nc11 | (constructor <;> omega))) d_Mpg_taken_110 ?_
              refine lv_topi (fun z18 ez18 => ?_)
              have lz18 := Int32.le_toInt z18
              have uz18 := Int32.toInt_lt z18
              refine lv_if_ne (tgt := 119) S.x S.b d_Mpg_taken_111 (by decide) (fun c19 => ?_) (fun c19 => ?_)
              · have nc19 : ¬ z18.toInt = (0 : Int) := mt (i_eq (x := z18) (y := 0)).mpr c19
                refine lv_bipush (v := 99) S.x S.b d_Mpg_taken_119 (by decide) ?_
                exact px_iret (v := 99) S hr rfl hlk hAe hw (Nat.le_of_ble_eq_true rfl) (Nat.le_of_ble_eq_true rfl) (⟨rfl, (show TkV na ma ca p0.toInt p1.toInt p2.toInt (99 : Int) from (tkv_fun (by omega) e_fz e_fp ((TkL.e htl (by omega) (by omega) ez15 ez18).trans ((if_neg (by omega)).trans (if_neg (by omega)))))), (show R_mp_taken na ma ca p0 p1 p2 (99 : Int32) from (k53_5 _ 1 (Or.inr (Or.inl ⟨rfl, x53_4, x53_5, rfl, rfl, rfl, rfl, rfl, Or.inr ⟨nc1, Or.inl ⟨nc11, Or.inl ⟨nc13, z15, ez15, Or.inl ⟨nc16, z18, ez18, Or.inl ⟨nc19, rfl⟩⟩⟩⟩⟩⟩))))⟩) d_Mpg_taken_121
              · have nc19 : z18.toInt = (0 : Int) := (i_eq (x := z18) (y := 0)).mp c19
                refine lv_bipush (v := 115) S.x S.b d_Mpg_taken_114 (by decide) ?_
                refine lv_goto (tgt := 121) S.x S.b d_Mpg_taken_116 (by decide) ?_
                exact px_iret (v := 115) S hr rfl hlk hAe hw (Nat.le_of_ble_eq_true rfl) (Nat.le_of_ble_eq_true rfl) (⟨rfl, (show TkV na ma ca p0.toInt p1.toInt p2.toInt (115 : Int) from (tkv_fun (by omega) e_fz e_fp ((TkL.e htl (by omega) (by omega) ez15 ez18).trans ((if_neg (by omega)).trans (if_pos (by omega)))))), (show R_mp_taken na ma ca p0 p1 p2 (115 : Int32) from (k53_5 _ 1 (Or.inr (Or.inl ⟨rfl, x53_4, x53_5, rfl, rfl, rfl, rfl, rfl, Or.inr ⟨nc1, Or.inl ⟨nc11, Or.inl ⟨nc13, z15, ez15, Or.inl ⟨nc16, z18, ez18, Or.inr ⟨nc19, rfl⟩⟩⟩⟩⟩⟩))))⟩) d_Mpg_taken_121
            · have nc16 : ¬ (0 : Int) ≤ z15.toInt := mt (i_le (x := 0) (y := z15)).mpr c16
              refine lv_bipush (v := 105) S.x S.b d_Mpg_taken_99 (by decide) ?_
              refine lv_goto (tgt := 121) S.x S.b d_Mpg_taken_101 (by decide) ?_
              exact px_iret (v := 105) S hr rfl hlk hAe hw (Nat.le_of_ble_eq_true rfl) (Nat.le_of_ble_eq_true rfl) (⟨rfl, (show TkV na ma ca p0.toInt p1.toInt p2.toInt (105 : Int) from (tkv_fun (by omega) e_fz e_fp ((TkL.e htl (by omega) (by omega) ez15 rfl).trans (if_pos (by omega))))), (show R_mp_taken na ma ca p0 p1 p2 (105 : Int32) from (k53_5 _ 1 (Or.inr (Or.inl ⟨rfl, x53_4, x53_5, rfl, rfl, rfl, rfl, rfl, Or.inr ⟨nc1, Or.inl ⟨nc11, Or.inl ⟨nc13, z15, ez15, Or.inr ⟨nc16, rfl⟩⟩⟩⟩⟩))))⟩) d_Mpg_taken_121
          · have nc13 : ¬ (0 : Int) ≤ x53_4.toInt := mt (i_le (x := 0) (y := x53_4)).mpr c13
            refine lv_bipush (v := 32) S.x S.b d_Mpg_taken_84 (by decide) ?_
            refine lv_goto (tgt := 121) S.x S.b d_Mpg_taken_86 (by decide) ?_
            exact px_iret (v := 32) S hr rfl hlk hAe hw (Nat.le_of_ble_eq_true rfl) (Nat.le_of_ble_eq_true rfl) (⟨rfl, (show TkV na ma ca p0.toInt p1.toInt p2.toInt (32 : Int) from (tkv_fun (by omega) e_fz e_fp (TkL.n htl (by omega)))), (show R_mp_taken na ma ca p0 p1 p2 (32 : Int32) from (k53_5 _ 1 (Or.inr (Or.inl ⟨rfl, x53_4, x53_5, rfl, rfl, rfl, rfl, rfl, Or.inr ⟨nc1, Or.inl ⟨nc11, Or.inr ⟨nc13, rfl⟩⟩⟩⟩))))⟩) d_Mpg_taken_121
        · have nc11 : ¬ x53_4.toInt < (0 : Int) := mt (i_lt (x := x53_4) (y := 0)).mpr c11
          refine lv_aload_n S.x S.b d_Mpg_taken_64 rfl (lv_at hl 0 rfl) ?_
          refine gP_21 S hT hw 0 rfl m10_7 d_Mpg_taken_65 ?_
          have hpa := PrW.at hpw (by omega)
          refine lv_iload S.x S.b d_Mpg_taken_68 (lv_at hl 4 rfl) ?_
          refine px_iald S hT hw 0 17 (n := 2100) (f := (na 21)) rfl gp_21 (x := x53_4) (vp_in_iff.mpr (by first | exact oz_f6d6d3f4c3 nc11 hpa.1 | (constructor <;> omega))) d_Mpg_taken_70 ?_
          refine lv_topi (fun z21 ez21 => ?_)
          have lz21 := Int32.le_toInt z21
          have uz21 := Int32.toInt_lt z21
          refine lv_istore (lv' := [(4, .int z21), (0, .ref h), (1, .int p0), (2, .int p1), (3, .int p2), (5, .int x53_5)]) S.x S.b d_Mpg_taken_71 hl (by decide) rfl (fun ls hl => ?_)
          obtain ⟨z22, ez22⟩ : ∃ y : Int32, y = x53_5 + 1 := ⟨_, rfl⟩
          have tz22 : z22.toInt = (x53_5.toInt + 1 + 2147483648) % 4294967296 - 2147483648 := by rw [ez22]; exact i_add x53_5 1
          have lz22 := Int32.le_toInt z22
          have uz22 := Int32.toInt_lt z22
          try replace tz22 : z22.toInt = x53_5.toInt + 1 := by omega
          refine lv_iinc (v := z22) (lv' := [(5, .int z22), (4, .int z21), (0, .ref h), (1, .int p0), (2, .int p1), (3, .int p2)]) S.x S.b d_Mpg_taken_73 hl (k := 5) rfl (by rw [ez22]; rfl) (by decide) rfl (fun ls hl => ?_)
          refine lv_goto (tgt := 53) S.x S.b d_Mpg_taken_76 (by decide) ?_
          first | exact ih53 z21 z22 _ _ ls (show 0 ≤ p0.toInt from k53_0) (show 0 ≤ z22.toInt from (oz_ae613611c0 tz22 k53_1)) (show z22.toInt ≤ p2.toInt from (oz_b1314744c8 nc1 tz22)) (show PrW na z21 from (PrW.go hpw (by omega) ez21).2.2) (show TkL na ma fp p2.toInt z21 z22.toInt from (TkL.s htl (by omega) (by omega) ez21 (by omega))) (show K_mp_taken_53 na ma ca p0 p1 p2 z21 z22 from (fun y_v k hE => k53_5 y_v (k + 1) (Or.inr (Or.inl ⟨rfl, x53_4, x53_5, rfl, rfl, rfl, rfl, rfl, Or.inr ⟨nc1, Or.inr ⟨nc11, z21, ez21, z22, ez22, hE⟩⟩⟩)))) (show p2.toInt - z22.toInt < (n_53 : Int) from (oz_654393c63a hm tz22)) hw (lv_sub hl [2, 3, 4, 5, 1, 0] rfl) | (exact ih53 z21 z22 _ _ ls (show 0 ≤ p0.toInt from by first | exact k53_0 | omega) (show 0 ≤ z22.toInt from by first | exact oz_ae613611c0 tz22 k53_1 | omega) (show z22.toInt ≤ p2.toInt from by first | exact oz_b1314744c8 nc1 tz22 | omega) (show PrW na z21 from (PrW.go hpw (by omega) ez21).2.2) (show TkL na ma fp p2.toInt z21 z22.toInt from (TkL.s htl (by omega) (by omega) ez21 (by omega))) (show K_mp_taken_53 na ma ca p0 p1 p2 z21 z22 from (fun y_v k hE => k53_5 y_v (k + 1) (Or.inr (Or.inl ⟨rfl, x53_4, x53_5, rfl, rfl, rfl, rfl, rfl, Or.inr ⟨nc1, Or.inr ⟨nc11, z21, ez21, z22, ez22, hE⟩⟩⟩)))) (show p2.toInt - z22.toInt < (n_53 : Int) from by first | exact oz_654393c63a hm tz22 | omega) hw (lv_sub hl [2, 3, 4, 5, 1, 0] rfl))
  refine lv_iload_n S.x S.b d_Mpg_taken_0 rfl (lv_at hl 1 rfl) ?_
  refine lv_if_ge (tgt := 37) S.x S.b d_Mpg_taken_1 (by decide) (fun c23 => ?_) (fun c23 => ?_)
  · have nc23 : (0 : Int) ≤ p0.toInt := (i_le (x := 0) (y := p0)).mp c23
    refine lv_aload_n S.x S.b d_Mpg_taken_37 rfl (lv_at hl 0 rfl) ?_
    refine gP_17 S hT hw 0 rfl m10_1 d_Mpg_taken_38 ?_
    refine lv_aload_n S.x S.b d_Mpg_taken_41 rfl (lv_at hl 0 rfl) ?_
    refine gP_39 S hT hw 0 rfl m10_28 d_Mpg_taken_42 ?_
    refine lv_iload_n S.x S.b d_Mpg_taken_45 rfl (lv_at hl 1 rfl) ?_
    refine px_iald S hT hw 0 26 (n := 260) (f := (ca 39)) rfl gp_39 (x := p0) (vp_in_iff.mpr (by first | exact oz_ffdec7d469 nc23 g1 hf11 | (constructor <;> omega))) d_Mpg_taken_46 ?_
    refine lv_topi (fun z25 ez25 => ?_)
    have lz25 := Int32.le_toInt z25
    have uz25 := Int32.toInt_lt z25
    have rz25 := FnT.at hft (x := p0) (by omega) (by omega) ez25
    refine px_iald S hT hw 0 13 (n := 2100) (f := (na 17)) rfl gp_17 (x := z25) (vp_in_iff.mpr (by constructor <;> omega)) d_Mpg_taken_47 ?_
    refine lv_topi (fun z26 ez26 => ?_)
    have lz26 := Int32.le_toInt z26
    have uz26 := Int32.toInt_lt z26
    have hfe1 : z25 = fz := ez25.trans e_fz.symm; have hfe2 : z26 = fp := by rw [ez26, hfe1]; exact e_fp.symm
    refine lv_istore (lv' := [(4, .int z26), (0, .ref h), (1, .int p0), (2, .int p1), (3, .int p2)]) S.x S.b d_Mpg_taken_48 hl (by decide) rfl (fun ls hl => ?_)
    refine lv_iconst (v := 0) S.x S.b d_Mpg_taken_50 (by decide) ?_
    refine lv_istore (lv' := [(5, .int 0), (4, .int z26), (0, .ref h), (1, .int p0), (2, .int p1), (3, .int p2)]) S.x S.b d_Mpg_taken_51 hl (by decide) rfl (fun ls hl => ?_)
    first | exact J53 ((p2.toInt - (0 : Int)).toNat + 1) z26 (0 : Int32) _ _ ls (show 0 ≤ p0.toInt from (oz_0ffba53c78 nc23)) (show 0 ≤ (0 : Int) from oz_5a341f00aa) (show (0 : Int) ≤ p2.toInt from (oz_50c21e157e g3)) (show PrW na z26 from (FnP.at hfp (by omega) (by omega) ez25 ez26)) (show TkL na ma fp p2.toInt z26 (0 : Int) from (by rw [hfe2]; exact tkl_0)) (show K_mp_taken_53 na ma ca p0 p1 p2 z26 0 from (fun y_v k hE => Exists.intro (k + 1) (Or.inl ⟨rfl, Or.inl ⟨nc23, z25, ez25, z26, ez26, hE⟩⟩))) (show p2.toInt - (0 : Int) < ((((p2.toInt - (0 : Int)).toNat + 1 : Nat) : Int) : Int) from oz_natlt) hw (lv_sub hl [2, 3, 4, 5, 1, 0] rfl) | (exact J53 ((p2.toInt - (0 : Int)).toNat + 1) z26 (0 : Int32) _ _ ls (show 0 ≤ p0.toInt from by first | exact oz_0ffba53c78 nc23 | omega) (show 0 ≤ (0 : Int) from by first | exact oz_5a341f00aa | omega) (show (0 : Int) ≤ p2.toInt from by first | exact oz_50c21e157e g3 | omega) (show PrW na z26 from (FnP.at hfp (by omega) (by omega) ez25 ez26)) (show TkL na ma fp p2.toInt z26 (0 : Int) from (by rw [hfe2]; exact tkl_0)) (show K_mp_taken_53 na ma ca p0 p1 p2 z26 0 from (fun y_v k hE => Exists.intro (k + 1) (Or.inl ⟨rfl, Or.inl ⟨nc23, z25, ez25, z26, ez26, hE⟩⟩))) (show p2.toInt - (0 : Int) < ((((p2.toInt - (0 : Int)).toNat + 1 : Nat) : Int) : Int) from by first | exact oz_natlt | omega) hw (lv_sub hl [2, 3, 4, 5, 1, 0] rfl))
  · have nc23 : ¬ (0 : Int) ≤ p0.toInt := mt (i_le (x := 0) (y := p0)).mpr c23
    refine lv_iload_n S.x S.b d_Mpg_taken_4 rfl (lv_at hl 3 rfl) ?_
    refine lv_iconst (v := 1) S.x S.b d_Mpg_taken_5 (by decide) ?_
    refine lv_iadd S.x S.b d_Mpg_taken_6 ?_
    refine lv_topi (fun z27 ez27 => ?_)
    have tz27 : z27.toInt = (p2.toInt + (1 : Int) + 2147483648) % 4294967296 - 2147483648 := by rw [ez27]; exact i_add p2 1
    have lz27 := Int32.le_toInt z27
    have uz27 := Int32.toInt_lt z27
    try replace tz27 : z27.toInt = p2.toInt + (1 : Int) := by omega
    refine lv_aload_n S.x S.b d_Mpg_taken_7 rfl (lv_at hl 0 rfl) ?_
    refine gP_3 S hT hw 0 rfl m9_227 d_Mpg_taken_8 ?_
    refine lv_iload_n S.x S.b d_Mpg_taken_11 rfl (lv_at hl 2 rfl) ?_
    first | have hclsk28 := cl_nat (x := p1) ((oz_016f458179 hclsk28)) | (have hclsk28 := cl_nat (x := p1) (by first | exact oz_016f458179 hclsk28 | omega))
    obtain ⟨sk28, hgsk28, st29, hSsk28⟩ := hP.2.2.2.2.2.1 p1.toNatClampNeg (by omega)
    have hmsk28 := len_3 (i := p1.toNatClampNeg) (by omega)
    refine px_aaldS S hT hw 0 4 11 (n := 15) (f := (g 3)) rfl rfl rfl (x := p1) (vp_in_iff.mpr (by first | exact oz_d34ff123d9 nc23 g2 | (constructor <;> omega))) hgsk28 d_Mpg_taken_12 ?_
    refine px_calli (pr := [wdP cs h r g tf ta pf na ma wa cf ca ef ea xf xa]) (px_runV (As := []) (rest := [.int z27]) S (c_String_length l D cs sk28 st29 (tlen p1.toNatClampNeg) (tby p1.toNatClampNeg)   (show (tlen p1.toNatClampNeg) ≤ 1000000 from by omega) _) hT (pr := [wdP cs h r g tf ta pf na ma wa cf ca ef ea xf xa]) (pcs := []) hw (oX_call (P := (fun A U H => (oZ A U H) ∧ (oS A sk28 st29 (tlen p1.toNatClampNeg) (tby p1.toNatClampNeg) U H))) (pr := [wdP cs h r g tf ta pf na ma wa cf ca ef ea xf xa]) (oG_and oG_Z oG_S) hw hA ⟨hZ, hSsk28⟩) (oS_recv hw hSsk28) m1_58 m11_157 m1_56 m1_57 m1_3 q_String_length ⟨Nat.le_of_ble_eq_true rfl, Nat.le_of_ble_eq_true rfl⟩ hl.1 rfl (Nat.le_of_ble_eq_true rfl) d_Mpg_taken_13 ⟨Nat.le_of_ble_eq_true rfl, Nat.le_of_ble_eq_true rfl⟩) hw hA (fun v31 p30 H locs hp30 hw => ?_)
    obtain ⟨rfl, e32, e33⟩ := hp30
    have e32 : v31.toInt = ((tlen p1.toNatClampNeg) : Int) := e32
    have e33 : R_String_length (tlen p1.toNatClampNeg) v31 := e33
    have lv31 := Int32.le_toInt v31
    have uv31 := Int32.toInt_lt v31
    refine lv_icmp_ge (tgt := 34) S.x S.b d_Mpg_taken_16 (by decide) (fun c34 => ?_) (fun c34 => ?_)
    · have nc34 : v31.toInt ≤ z27.toInt := (i_le (x := v31) (y := z27)).mp c34
      refine lv_bipush (v := 32) S.x S.b d_Mpg_taken_34 (by decide) ?_
      exact px_iret (v := 32) S hr rfl hlk hAe hw (Nat.le_of_ble_eq_true rfl) (Nat.le_of_ble_eq_true rfl) (⟨rfl, (show TkV na ma ca p0.toInt p1.toInt p2.toInt (32 : Int) from (tkv_own0 (by omega) (by omega) (by omega) (by omega) (by omega))), (show R_mp_taken na ma ca p0 p1 p2 (32 : Int32) from (Exists.intro 1 (Or.inl ⟨rfl, Or.inr ⟨nc23, z27, ez27, v31, e33, Or.inl ⟨nc34, rfl⟩⟩⟩)))⟩) d_Mpg_taken_36
    · have nc34 : ¬ v31.toInt ≤ z27.toInt := mt (i_le (x := v31) (y := z27)).mpr c34
      refine lv_aload_n S.x S.b d_Mpg_taken_19 rfl (lv_at hl 0 rfl) ?_
      refine gP_3 S hT hw 0 rfl m9_227 d_Mpg_taken_20 ?_
      refine lv_iload_n S.x S.b d_Mpg_taken_23 rfl (lv_at hl 2 rfl) ?_
      first | have hclsk36 := cl_nat (x := p1) ((oz_016f458179 hclsk28)) | (have hclsk36 := cl_nat (x := p1) (by first | exact oz_016f458179 hclsk28 | omega))
      obtain ⟨sk36, hgsk36, st37, hSsk36⟩ := hP.2.2.2.2.2.1 p1.toNatClampNeg (by omega)
      have hmsk36 := len_3 (i := p1.toNatClampNeg) (by omega)
      refine px_aaldS S hT hw 0 4 11 (n := 15) (f := (g 3)) rfl rfl rfl (x := p1) (vp_in_iff.mpr (by first | exact oz_d34ff123d9 nc23 g2 | (constructor <;> omega))) hgsk36 d_Mpg_taken_24 ?_
      refine lv_iload_n S.x S.b d_Mpg_taken_25 rfl (lv_at hl 3 rfl) ?_
      refine lv_iconst (v := 1) S.x S.b d_Mpg_taken_26 (by decide) ?_
      refine lv_iadd S.x S.b d_Mpg_taken_27 ?_
      refine lv_topi (fun z38 ez38 => ?_)
      have tz38 : z38.toInt = (p2.toInt + (1 : Int) + 2147483648) % 4294967296 - 2147483648 := by rw [ez38]; exact i_add p2 1
      have lz38 := Int32.le_toInt z38
      have uz38 := Int32.toInt_lt z38
      try replace tz38 : z38.toInt = p2.toInt + (1 : Int) := by omega
      first | refine px_calli (pr := [wdP cs h r g tf ta pf na ma wa cf ca ef ea xf xa]) (px_runV (As := [.int z38]) (rest := []) S (c_sg_charAtL l D cs sk36 st37 (tlen p1.toNatClampNeg) (tby p1.toNatClampNeg) z38  (show (tlen p1.toNatClampNeg) ≤ 1000000 from by omega) (show 0 ≤ z38.toInt from (oz_b3b25f0e49 tz38 g3)) (show z38.toInt < ((tlen p1.toNatClampNeg) : Int) from (oz_4ab36dd3a5 e32 tz38 tz27 nc34)) _) hT (pr := [wdP cs h r g tf ta pf na ma wa cf ca ef ea xf xa]) (pcs := []) hw (oX_call (P := (fun A U H => (oF A U H) ∧ (oZ A U H) ∧ (oS A sk36 st37 (tlen p1.toNatClampNeg) (tby p1.toNatClampNeg) U H))) (pr := [wdP cs h r g tf ta pf na ma wa cf ca ef ea xf xa]) (oG_and oG_F (oG_and oG_Z oG_S)) hw hA ⟨hF0, hZ, hSsk36⟩) (oS_recv hw hSsk36) m1_68 m11_162 m1_66 m1_67 m1_3 q_String_charAt ⟨Nat.le_of_ble_eq_true rfl, Nat.le_of_ble_eq_true rfl⟩ hl.1 rfl (Nat.le_of_ble_eq_true rfl) d_Mpg_taken_28 ⟨Nat.le_of_ble_eq_true rfl, Nat.le_of_ble_eq_true rfl⟩) hw hA (fun v40 p39 H locs hp39 hw => ?_) | (refine px_calli (pr := [wdP cs h r g tf ta pf na ma wa cf ca ef ea xf xa]) (px_runV (As := [.int z38]) (rest := []) S (c_sg_charAtL l D cs sk36 st37 (tlen p1.toNatClampNeg) (tby p1.toNatClampNeg) z38  (show (tlen p1.toNatClampNeg) ≤ 1000000 from by omega) (show 0 ≤ z38.toInt from by first | exact oz_b3b25f0e49 tz38 g3 | omega) (show z38.toInt < ((tlen p1.toNatClampNeg) : Int) from by first | exact oz_4ab36dd3a5 e32 tz38 tz27 nc34 | omega) _) hT (pr := [wdP cs h r g tf ta pf na ma wa cf ca ef ea xf xa]) (pcs := []) hw (oX_call (P := (fun A U H => (oF A U H) ∧ (oZ A U H) ∧ (oS A sk36 st37 (tlen p1.toNatClampNeg) (tby p1.toNatClampNeg) U H))) (pr := [wdP cs h r g tf ta pf na ma wa cf ca ef ea xf xa]) (oG_and oG_F (oG_and oG_Z oG_S)) hw hA ⟨hF0, hZ, hSsk36⟩) (oS_recv hw hSsk36) m1_68 m11_162 m1_66 m1_67 m1_3 q_String_charAt ⟨Nat.le_of_ble_eq_true rfl, Nat.le_of_ble_eq_true rfl⟩ hl.1 rfl (Nat.le_of_ble_eq_true rfl) d_Mpg_taken_28 ⟨Nat.le_of_ble_eq_true rfl, Nat.le_of_ble_eq_true rfl⟩) hw hA (fun v40 p39 H locs hp39 hw => ?_))
      obtain ⟨rfl, e41, e42, e43⟩ := hp39
      have e41 : narrow .char (.int v40) = .int v40 := e41
      have e42 : ChL (tby p1.toNatClampNeg) z38 v40 := e42
      have hch := e42
      have e43 : R_sg_charAtL (tby p1.toNatClampNeg) z38 v40 := e43
      have lv40 := Int32.le_toInt v40
      have uv40 := Int32.toInt_lt v40
      refine lv_goto (tgt := 36) S.x S.b d_Mpg_taken_31 (by decide) ?_
      exact px_iret (v := v40) S hr rfl hlk hAe hw (Nat.le_of_ble_eq_true rfl) (Nat.le_of_ble_eq_true rfl) (⟨rfl, (show TkV na ma ca p0.toInt p1.toInt p2.toInt v40.toInt from (tkv_own (by omega) (by omega) (by omega) (by omega) (by omega) (by omega) hch)), (show R_mp_taken na ma ca p0 p1 p2 v40 from (Exists.intro 1 (Or.inl ⟨rfl, Or.inr ⟨nc23, z27, ez27, v31, e33, Or.inr ⟨nc34, z38, ez38, v40, e43, rfl⟩⟩⟩)))⟩) d_Mpg_taken_36
