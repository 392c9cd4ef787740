theorem oz_90eef6f965  : (19 : Int) = 19 := by omega
theorem oz_496ba66a1b {a0 a1 : Int} (h0 : 0 ≤ a0) (h1 : a0 + 1 ≤ a1) (h2 : a1 ≤ 2049) : 0 ≤ a0 ∧ a0 < ((2049 : Nat) : Int) := by omega
theorem oz_c3c7c08c1d {a0 a1 a2 a3 : Int} (h0 : a0 = a1 + (1 : Int)) (h1 : 0 ≤ a1) (h2 : a2 = a1 + (1 : Int)) (h3 : a3 ≤ 2049) (h4 : ¬ a3 ≤ a2) : 0 ≤ a0 ∧ a0 < ((2049 : Nat) : Int) := by omega
theorem oz_1cb5f934a5 {a0 : Int}  : a0 ≤ a0 := by omega
theorem oz_ae0d7c4baf {a0 : Int}  : a0 ≤ a0 + 1 := by omega
theorem oz_e4b636adf7 {a0 a1 a2 a3 : Int} (h0 : a2 = a1 - (1 : Int)) (h1 : a0 = a3 + (1 : Int)) (h2 : ¬ a2 ≤ a3) : a0 + 1 ≤ a1 := by omega
theorem oz_b88c2a0b93 {a0 a1 : Int} (h0 : a1 = a0 + (1 : Int)) : a0 ≤ a1 := by omega
theorem oz_00fb2476cd {a0 a1 : Int} (h0 : a0 = a1 + (1 : Int)) : a0 ≤ a1 + 1 := by omega
theorem oz_79534a8250 {a0 : Int} (h0 : a0 ≤ 1) (h1 : 0 ≤ a0) (h2 : ¬ a0 = (0 : Int)) : a0 = 1 := by omega
theorem oz_efca365a44 {a0 : Int}  : a0 = a0 + (0 : Int) := by omega
theorem oz_e663406283 {a0 : Int} (h0 : a0 ≤ 1) : (0 : Int) + a0 ≤ 1 := by omega
theorem oz_b8f9a2d6ab {a0 a1 a2 : Int} (h0 : a2 ≤ 1) (h1 : a0 = a1) (h2 : a2 = 1) : a0 = a1 + 1 - a2 := by omega
theorem oz_f9b42d1b56 {a0 a1 : Int} (h0 : a1 = a0) : a0 ≤ a1 := by omega
theorem oz_1e8f8c9a7c {a0 a1 a2 : Int} (h0 : a0 = a1 + (1 : Int)) (h1 : a2 = (0 : Int)) (h2 : 0 ≤ a2) (h3 : a2 = 0 → 0 ≤ a1 ∧ a1 ≤ 60) : 0 ≤ a0 := by omega
theorem oz_f512825771 {a0 a1 a2 a3 : Int} (h0 : a0 = a1 + (1 : Int)) (h1 : a2 = a1 + a3) (h2 : 1 ≤ a3) (h3 : ¬ (60 : Int) ≤ a2) : a0 ≤ 60 := by omega
theorem oz_99d820e332 {a0 a1 a2 : Int} (h0 : a1 = a2) (h1 : a2 = (0 : Int)) (h2 : 0 ≤ a1) (h3 : a1 = 0 → 0 ≤ a0 ∧ a0 ≤ 60) : 0 ≤ a0 := by omega
theorem oz_55065d7714 {a0 a1 a2 a3 a4 : Int} (h0 : a0 = a1) (h1 : a1 = a2 + (1 : Int)) (h2 : a3 = a2 + a4) (h3 : 1 ≤ a4) (h4 : ¬ (60 : Int) ≤ a3) : a0 ≤ 60 := by omega
theorem oz_569e226cae {a0 a1 a2 a3 a4 : Int} (h0 : a2 = a3) (h1 : a0 ≤ a1 + 1) (h2 : a3 = (0 : Int)) (h3 : 0 ≤ a2) (h4 : a3 = 1 ∨ a1 + 1 < a4) (h5 : a1 + 1 < a4 → a0 = a1 + 1) : a0 = a1 + 1 - a2 := by omega
theorem oz_48bebcf088 {a0 a1 a2 a3 a4 : Int} (h0 : a3 = a1 + (1 : Int)) (h1 : a0 = a3) (h2 : a2 = a4) (h3 : a4 = (0 : Int)) (h4 : 0 ≤ a2) : a0 = a1 + 1 - a2 := by omega
theorem oz_7a6c98ba13 {a0 a1 a2 : Int} (h0 : a2 = a0) (h1 : a1 = 1) : a0 + 1 - a1 ≤ a2 := by omega
theorem oz_6f36359277 {a0 a1 : Int} (h0 : a0 = a1) : a0 ≤ a1 + 1 := by omega
theorem oz_9fa7515a64 {a0 a1 a2 a3 : Int} (h0 : 0 ≤ a1) (h1 : a0 + 1 < a3) (h2 : a0 + 1 < a3 → a2 = a0 + 1) : a0 + 1 - a1 ≤ a2 := by omega
theorem oz_7fdc63a1c9 {a0 a1 a2 : Int} (h0 : a2 = a1) (h1 : a0 = a2 - (1 : Int)) : a0 = a1 - 1 := by omega
/-! THE CURSOR over the tokens: what its methods tell of now, open, failed -/
/-- the last token is the end, or one that can't stand -/
def LastOk (k : Nat → Int32) (c : Int32) : Prop := ∀ x : Int32, x.toInt = c.toInt - 1 → (k x.toNatClampNeg).toInt = 0 ∨ (k x.toNatClampNeg).toInt = 19
def CurOk (x10 x13 x14 x15 x17 : Int32) (k : Nat → Int32) : Prop := (1 ≤ x10.toInt ∧ x10.toInt ≤ 2049) ∧ (0 ≤ x13.toInt ∧ x13.toInt + 1 ≤ x10.toInt) ∧ (0 ≤ x15.toInt ∧ x15.toInt ≤ 1) ∧ 0 ≤ x17.toInt ∧ (x15.toInt = 0 → 0 ≤ x14.toInt ∧ x14.toInt ≤ 60) ∧ LastOk k x10
theorem last_at {k : Nat → Int32} {c x z : Int32} (h : LastOk k c) (e : z = k x.toNatClampNeg) : z.toInt = 0 ∨ z.toInt = 19 ∨ x.toInt ≠ c.toInt - 1 := by
  by_cases hx : x.toInt = c.toInt - 1
  · rcases h x hx with h | h
    · exact Or.inl (by rw [e]; exact h)
    · exact Or.inr (Or.inl (by rw [e]; exact h))
  · exact Or.inr (Or.inr hx)
theorem last_eq {k : Nat → Int32} {c d : Int32} (h : LastOk k c) (e : d.toInt = c.toInt) : LastOk k d := fun x hx => h x (by omega)
set_option maxHeartbeats 4000000 in
set_option maxRecDepth 100000 in
theorem c_tk_kind (l : Launch) (D : va_G) (cs : Nat → ClassId) (ht : Nat) (rt : Nat → Nat) (ot : Nat → Option Nat) (ta : Nat → Nat → Int32) (tg : Nat → Nat → Option Nat) (tf : Nat → Int32)  (hinv0 : CurOk (tf 10) (tf 13) (tf 14) (tf 15) (tf 17) (ta 0)) : MetI l y_Tok_kind b_Tok_kind 1 (.int) D cs 0 0 (0) (0) [.ref ht] [wd_Tok cs ht rt ot tf ta tg] (fun _ => True) (fun v ps => (ps = [wd_Tok cs ht rt ot tf ta tg]) ∧ ((tf 15).toInt = 1 → v.toInt = 19) ∧ (v.toInt = 0 ∨ v.toInt = 19 ∨ (tf 13).toInt + 1 < (tf 10).toInt) ∧ (R_tk_kind ta tf v)) := by
  refine px_enter (by decide) (Nat.le_of_ble_eq_true rfl) ?_
  intro p e s m below meth c A ls hAe S hr hlk hnm hA hT hX hw hl
  have hl : lv_has ls 1 [(0, .ref ht)] := hl
  have cst19 : (19 : Int32).toInt = 19 := rfl
  obtain ⟨⟨o1, o2⟩, ⟨o3, o4⟩, ⟨o5, o6⟩, o7, o8, hlast⟩ := hinv0
  refine lv_aload_n S.x S.b d_Tok_kind_0 rfl (lv_at hl 0 rfl) ?_
  refine px_get S k_Tok hT hw 0 0 15 (v := .int (tf 15)) rfl rfl rfl (by decide) m1_121 d_Tok_kind_1 ?_
  refine lv_if_ne (tgt := 18) S.x S.b d_Tok_kind_4 (by decide) (fun c1 => ?_) (fun c1 => ?_)
  · have nc1 : ¬ (tf 15).toInt = (0 : Int) := mt (i_eq (x := (tf 15)) (y := 0)).mpr c1
    refine lv_bipush (v := 19) S.x S.b d_Tok_kind_18 (by decide) ?_
    refine lv_goto (tgt := 32) S.x S.b d_Tok_kind_20 (by decide) ?_
    exact px_iret (v := 19) S hr rfl hlk hAe hw (Nat.le_of_ble_eq_true rfl) (Nat.le_of_ble_eq_true rfl) (⟨rfl, (show (tf 15).toInt = 1 → (19 : Int) = 19 from by first | exact fun q9 => oz_90eef6f965 | omega), (show (19 : Int) = 0 ∨ (19 : Int) = 19 ∨ (tf 13).toInt + 1 < (tf 10).toInt from by omega), (show R_tk_kind ta tf (19 : Int32) from (Or.inl (Or.inl ⟨nc1, rfl⟩)))⟩) d_Tok_kind_32
  · have nc1 : (tf 15).toInt = (0 : Int) := (i_eq (x := (tf 15)) (y := 0)).mp c1
    refine lv_aload_n S.x S.b d_Tok_kind_7 rfl (lv_at hl 0 rfl) ?_
    refine px_get S k_Tok hT hw 0 0 13 (v := .int (tf 13)) rfl rfl rfl (by decide) m1_118 d_Tok_kind_8 ?_
    refine lv_aload_n S.x S.b d_Tok_kind_11 rfl (lv_at hl 0 rfl) ?_
    refine px_get S k_Tok hT hw 0 0 10 (v := .int (tf 10)) rfl rfl rfl (by decide) m1_113 d_Tok_kind_12 ?_
    refine lv_icmp_lt (tgt := 23) S.x S.b d_Tok_kind_15 (by decide) (fun c3 => ?_) (fun c3 => ?_)
    · have nc3 : (tf 13).toInt < (tf 10).toInt := (i_lt (x := (tf 13)) (y := (tf 10))).mp c3
      refine lv_aload_n S.x S.b d_Tok_kind_23 rfl (lv_at hl 0 rfl) ?_
      refine px_get S k_Tok hT hw 0 0 0 (v := .ref (rt 0)) rfl rfl rfl (by decide) m1_103 d_Tok_kind_24 ?_
      refine lv_aload_n S.x S.b d_Tok_kind_27 rfl (lv_at hl 0 rfl) ?_
      refine px_get S k_Tok hT hw 0 0 13 (v := .int (tf 13)) rfl rfl rfl (by decide) m1_118 d_Tok_kind_28 ?_
      refine px_iald S hT hw 0 1 (n := 2049) (f := (ta 0)) rfl (ga_Tok_0 _ _ _ _ _ _ _) (x := (tf 13)) (vp_in_iff.mpr (by first | exact oz_496ba66a1b o3 o4 o2 | (constructor <;> omega))) d_Tok_kind_31 ?_
      refine lv_topi (fun z5 ez5 => ?_)
      have lz5 := Int32.le_toInt z5
      have uz5 := Int32.toInt_lt z5
      have rz5 := last_at hlast (x := (tf 13)) ez5
      exact px_iret (v := z5) S hr rfl hlk hAe hw (Nat.le_of_ble_eq_true rfl) (Nat.le_of_ble_eq_true rfl) (⟨rfl, (show (tf 15).toInt = 1 → z5.toInt = 19 from by omega), (show z5.toInt = 0 ∨ z5.toInt = 19 ∨ (tf 13).toInt + 1 < (tf 10).toInt from by omega), (show R_tk_kind ta tf z5 from (Or.inl (Or.inr ⟨nc1, Or.inl ⟨nc3, z5, ez5, rfl⟩⟩)))⟩) d_Tok_kind_32
    · have nc3 : ¬ (tf 13).toInt < (tf 10).toInt := mt (i_lt (x := (tf 13)) (y := (tf 10))).mpr c3
      refine lv_bipush (v := 19) S.x S.b d_Tok_kind_18 (by decide) ?_
      refine lv_goto (tgt := 32) S.x S.b d_Tok_kind_20 (by decide) ?_
      exact px_iret (v := 19) S hr rfl hlk hAe hw (Nat.le_of_ble_eq_true rfl) (Nat.le_of_ble_eq_true rfl) (⟨rfl, (show (tf 15).toInt = 1 → (19 : Int) = 19 from by first | exact fun q9 => oz_90eef6f965 | omega), (show (19 : Int) = 0 ∨ (19 : Int) = 19 ∨ (tf 13).toInt + 1 < (tf 10).toInt from by omega), (show R_tk_kind ta tf (19 : Int32) from (Or.inl (Or.inr ⟨nc1, Or.inr ⟨nc3, rfl⟩⟩)))⟩) d_Tok_kind_32
set_option maxHeartbeats 4000000 in
set_option maxRecDepth 100000 in
theorem c_tk_kindBehind (l : Launch) (D : va_G) (cs : Nat → ClassId) (ht : Nat) (rt : Nat → Nat) (ot : Nat → Option Nat) (ta : Nat → Nat → Int32) (tg : Nat → Nat → Option Nat) (tf : Nat → Int32)  (hinv0 : CurOk (tf 10) (tf 13) (tf 14) (tf 15) (tf 17) (ta 0)) : MetI l y_Tok_kindBehind b_Tok_kindBehind 1 (.int) D cs 0 0 (0) (0) [.ref ht] [wd_Tok cs ht rt ot tf ta tg] (fun _ => True) (fun v ps => (ps = [wd_Tok cs ht rt ot tf ta tg]) ∧ (R_tk_kindBehind ta tf v)) := by
  refine px_enter (by decide) (Nat.le_of_ble_eq_true rfl) ?_
  intro p e s m below meth c A ls hAe S hr hlk hnm hA hT hX hw hl
  have hl : lv_has ls 1 [(0, .ref ht)] := hl
  have cst1 : (1 : Int32).toInt = 1 := rfl
  have cst19 : (19 : Int32).toInt = 19 := rfl
  obtain ⟨⟨o1, o2⟩, ⟨o3, o4⟩, ⟨o5, o6⟩, o7, o8, hlast⟩ := hinv0
  refine lv_aload_n S.x S.b d_Tok_kindBehind_0 rfl (lv_at hl 0 rfl) ?_
  refine px_get S k_Tok hT hw 0 0 13 (v := .int (tf 13)) rfl rfl rfl (by decide) m1_118 d_Tok_kindBehind_1 ?_
  refine lv_iconst (v := 1) S.x S.b d_Tok_kindBehind_4 (by decide) ?_
  refine lv_iadd S.x S.b d_Tok_kindBehind_5 ?_
  have lr1 := Int32.le_toInt (tf 13)
  have ur1 := Int32.toInt_lt (tf 13)
  refine lv_topi (fun z2 ez2 => ?_)
  have tz2 : z2.toInt = ((tf 13).toInt + (1 : Int) + 2147483648) % 4294967296 - 2147483648 := by rw [ez2]; exact i_add (tf 13) 1
  have lz2 := Int32.le_toInt z2
  have uz2 := Int32.toInt_lt z2
  try replace tz2 : z2.toInt = (tf 13).toInt + (1 : Int) := by omega
  refine lv_aload_n S.x S.b d_Tok_kindBehind_6 rfl (lv_at hl 0 rfl) ?_
  refine px_get S k_Tok hT hw 0 0 10 (v := .int (tf 10)) rfl rfl rfl (by decide) m1_113 d_Tok_kindBehind_7 ?_
  refine lv_icmp_ge (tgt := 27) S.x S.b d_Tok_kindBehind_10 (by decide) (fun c3 => ?_) (fun c3 => ?_)
  · have nc3 : (tf 10).toInt ≤ z2.toInt := (i_le (x := (tf 10)) (y := z2)).mp c3
    refine lv_bipush (v := 19) S.x S.b d_Tok_kindBehind_27 (by decide) ?_
    exact px_iret (v := 19) S hr rfl hlk hAe hw (Nat.le_of_ble_eq_true rfl) (Nat.le_of_ble_eq_true rfl) (⟨rfl, (show R_tk_kindBehind ta tf (19 : Int32) from (Or.inl ⟨z2, ez2, Or.inl ⟨nc3, rfl⟩⟩))⟩) d_Tok_kindBehind_29
  · have nc3 : ¬ (tf 10).toInt ≤ z2.toInt := mt (i_le (x := (tf 10)) (y := z2)).mpr c3
    refine lv_aload_n S.x S.b d_Tok_kindBehind_13 rfl (lv_at hl 0 rfl) ?_
    refine px_get S k_Tok hT hw 0 0 0 (v := .ref (rt 0)) rfl rfl rfl (by decide) m1_103 d_Tok_kindBehind_14 ?_
    refine lv_aload_n S.x S.b d_Tok_kindBehind_17 rfl (lv_at hl 0 rfl) ?_
    refine px_get S k_Tok hT hw 0 0 13 (v := .int (tf 13)) rfl rfl rfl (by decide) m1_118 d_Tok_kindBehind_18 ?_
    refine lv_iconst (v := 1) S.x S.b d_Tok_kindBehind_21 (by decide) ?_
    refine lv_iadd S.x S.b d_Tok_kindBehind_22 ?_
    have lr5 := Int32.le_toInt (tf 13)
    have ur5 := Int32.toInt_lt (tf 13)
    refine lv_topi (fun z6 ez6 => ?_)
    have tz6 : z6.toInt = ((tf 13).toInt + (1 : Int) + 2147483648) % 4294967296 - 2147483648 := by rw [ez6]; exact i_add (tf 13) 1
    have lz6 := Int32.le_toInt z6
    have uz6 := Int32.toInt_lt z6
    try replace tz6 : z6.toInt = (tf 13).toInt + (1 : Int) := by omega
    refine px_iald S hT hw 0 1 (n := 2049) (f := (ta 0)) rfl (ga_Tok_0 _ _ _ _ _ _ _) (x := z6) (vp_in_iff.mpr (by first | exact oz_c3c7c08c1d tz6 o3 tz2 o2 nc3 | (constructor <;> omega))) d_Tok_kindBehind_23 ?_
    refine lv_topi (fun z7 ez7 => ?_)
    have lz7 := Int32.le_toInt z7
    have uz7 := Int32.toInt_lt z7
    refine lv_goto (tgt := 29) S.x S.b d_Tok_kindBehind_24 (by decide) ?_
    exact px_iret (v := z7) S hr rfl hlk hAe hw (Nat.le_of_ble_eq_true rfl) (Nat.le_of_ble_eq_true rfl) (⟨rfl, (show R_tk_kindBehind ta tf z7 from (Or.inl ⟨z2, ez2, Or.inr ⟨nc3, z6, ez6, z7, ez7, rfl⟩⟩))⟩) d_Tok_kindBehind_29
set_option maxHeartbeats 4000000 in
set_option maxRecDepth 100000 in
theorem c_tk_meaning (l : Launch) (D : va_G) (cs : Nat → ClassId) (ht : Nat) (rt : Nat → Nat) (ot : Nat → Option Nat) (ta : Nat → Nat → Int32) (tg : Nat → Nat → Option Nat) (tf : Nat → Int32)  (hinv0 : CurOk (tf 10) (tf 13) (tf 14) (tf 15) (tf 17) (ta 0)) : MetI l y_Tok_meaning b_Tok_meaning 1 (.int) D cs 0 0 (0) (0) [.ref ht] [wd_Tok cs ht rt ot tf ta tg] (fun _ => True) (fun v ps => (ps = [wd_Tok cs ht rt ot tf ta tg]) ∧ (R_tk_meaning ta tf v)) := by
  refine px_enter (by decide) (Nat.le_of_ble_eq_true rfl) ?_
  intro p e s m below meth c A ls hAe S hr hlk hnm hA hT hX hw hl
  have hl : lv_has ls 1 [(0, .ref ht)] := hl
  have cst0 : (0 : Int32).toInt = 0 := rfl
  obtain ⟨⟨o1, o2⟩, ⟨o3, o4⟩, ⟨o5, o6⟩, o7, o8, hlast⟩ := hinv0
  refine lv_aload_n S.x S.b d_Tok_meaning_0 rfl (lv_at hl 0 rfl) ?_
  refine px_get S k_Tok hT hw 0 0 13 (v := .int (tf 13)) rfl rfl rfl (by decide) m1_118 d_Tok_meaning_1 ?_
  refine lv_aload_n S.x S.b d_Tok_meaning_4 rfl (lv_at hl 0 rfl) ?_
  refine px_get S k_Tok hT hw 0 0 10 (v := .int (tf 10)) rfl rfl rfl (by decide) m1_113 d_Tok_meaning_5 ?_
  refine lv_icmp_ge (tgt := 23) S.x S.b d_Tok_meaning_8 (by decide) (fun c1 => ?_) (fun c1 => ?_)
  · have nc1 : (tf 10).toInt ≤ (tf 13).toInt := (i_le (x := (tf 10)) (y := (tf 13))).mp c1
    refine lv_iconst (v := 0) S.x S.b d_Tok_meaning_23 (by decide) ?_
    exact px_iret (v := 0) S hr rfl hlk hAe hw (Nat.le_of_ble_eq_true rfl) (Nat.le_of_ble_eq_true rfl) (⟨rfl, (show R_tk_meaning ta tf (0 : Int32) from (Or.inl (Or.inl ⟨nc1, rfl⟩)))⟩) d_Tok_meaning_24
  · have nc1 : ¬ (tf 10).toInt ≤ (tf 13).toInt := mt (i_le (x := (tf 10)) (y := (tf 13))).mpr c1
    refine lv_aload_n S.x S.b d_Tok_meaning_11 rfl (lv_at hl 0 rfl) ?_
    refine px_get S k_Tok hT hw 0 0 2 (v := .ref (rt 2)) rfl rfl rfl (by decide) m1_105 d_Tok_meaning_12 ?_
    refine lv_aload_n S.x S.b d_Tok_meaning_15 rfl (lv_at hl 0 rfl) ?_
    refine px_get S k_Tok hT hw 0 0 13 (v := .int (tf 13)) rfl rfl rfl (by decide) m1_118 d_Tok_meaning_16 ?_
    refine px_iald S hT hw 0 3 (n := 2049) (f := (ta 2)) rfl (ga_Tok_2 _ _ _ _ _ _ _) (x := (tf 13)) (vp_in_iff.mpr (by first | exact oz_496ba66a1b o3 o4 o2 | (constructor <;> omega))) d_Tok_meaning_19 ?_
    refine lv_topi (fun z3 ez3 => ?_)
    have lz3 := Int32.le_toInt z3
    have uz3 := Int32.toInt_lt z3
    refine lv_goto (tgt := 24) S.x S.b d_Tok_meaning_20 (by decide) ?_
    exact px_iret (v := z3) S hr rfl hlk hAe hw (Nat.le_of_ble_eq_true rfl) (Nat.le_of_ble_eq_true rfl) (⟨rfl, (show R_tk_meaning ta tf z3 from (Or.inl (Or.inr ⟨nc1, z3, ez3, rfl⟩)))⟩) d_Tok_meaning_24
set_option maxHeartbeats 4000000 in
set_option maxRecDepth 100000 in
theorem c_tk_quotedNumber (l : Launch) (D : va_G) (cs : Nat → ClassId) (ht : Nat) (rt : Nat → Nat) (ot : Nat → Option Nat) (ta : Nat → Nat → Int32) (tg : Nat → Nat → Option Nat) (tf : Nat → Int32) (p0 : Int32)  (hinv0 : CurOk (tf 10) (tf 13) (tf 14) (tf 15) (tf 17) (ta 0)) : MetI l y_Tok_quotedNumber b_Tok_quotedNumber 2 (.int) D cs 0 0 (0) (0) [.ref ht, .int p0] [wd_Tok cs ht rt ot tf ta tg] (fun _ => True) (fun v ps => (ps = [wd_Tok cs ht rt ot tf ta tg]) ∧ (R_tk_quotedNumber ta p0 v)) := by
  refine px_enter (by decide) (Nat.le_of_ble_eq_true rfl) ?_
  intro p e s m below meth c A ls hAe S hr hlk hnm hA hT hX hw hl
  have hl : lv_has ls 2 [(0, .ref ht), (1, .int p0)] := hl
  have lp0 := Int32.le_toInt p0
  have up0 := Int32.toInt_lt p0
  have cst0 : (0 : Int32).toInt = 0 := rfl
  obtain ⟨⟨o1, o2⟩, ⟨o3, o4⟩, ⟨o5, o6⟩, o7, o8, hlast⟩ := hinv0
  refine lv_iload_n S.x S.b d_Tok_quotedNumber_0 rfl (lv_at hl 1 rfl) ?_
  refine lv_if_lt (tgt := 22) S.x S.b d_Tok_quotedNumber_1 (by decide) (fun c1 => ?_) (fun c1 => ?_)
  · have nc1 : p0.toInt < (0 : Int) := (i_lt (x := p0) (y := 0)).mp c1
    refine lv_iconst (v := 0) S.x S.b d_Tok_quotedNumber_22 (by decide) ?_
    exact px_iret (v := 0) S hr rfl hlk hAe hw (Nat.le_of_ble_eq_true rfl) (Nat.le_of_ble_eq_true rfl) (⟨rfl, (show R_tk_quotedNumber ta p0 (0 : Int32) from (Or.inl (Or.inl ⟨nc1, rfl⟩)))⟩) d_Tok_quotedNumber_23
  · have nc1 : ¬ p0.toInt < (0 : Int) := mt (i_lt (x := p0) (y := 0)).mpr c1
    refine lv_iload_n S.x S.b d_Tok_quotedNumber_4 rfl (lv_at hl 1 rfl) ?_
    refine lv_aload_n S.x S.b d_Tok_quotedNumber_5 rfl (lv_at hl 0 rfl) ?_
    refine px_get S k_Tok hT hw 0 0 5 (v := .ref (rt 5)) rfl rfl rfl (by decide) m1_108 d_Tok_quotedNumber_6 ?_
    refine px_len S hT hw 0 6 0 rfl rfl rfl (v := 2048) rfl d_Tok_quotedNumber_9 ?_
    refine lv_icmp_ge (tgt := 22) S.x S.b d_Tok_quotedNumber_10 (by decide) (fun c3 => ?_) (fun c3 => ?_)
    · have nc3 : (2048 : Int) ≤ p0.toInt := (i_le (x := 2048) (y := p0)).mp c3
      refine lv_iconst (v := 0) S.x S.b d_Tok_quotedNumber_22 (by decide) ?_
      exact px_iret (v := 0) S hr rfl hlk hAe hw (Nat.le_of_ble_eq_true rfl) (Nat.le_of_ble_eq_true rfl) (⟨rfl, (show R_tk_quotedNumber ta p0 (0 : Int32) from (Or.inl (Or.inr ⟨nc1, Or.inl ⟨nc3, rfl⟩⟩)))⟩) d_Tok_quotedNumber_23
    · have nc3 : ¬ (2048 : Int) ≤ p0.toInt := mt (i_le (x := 2048) (y := p0)).mpr c3
      refine lv_aload_n S.x S.b d_Tok_quotedNumber_13 rfl (lv_at hl 0 rfl) ?_
      refine px_get S k_Tok hT hw 0 0 5 (v := .ref (rt 5)) rfl rfl rfl (by decide) m1_108 d_Tok_quotedNumber_14 ?_
      refine lv_iload_n S.x S.b d_Tok_quotedNumber_17 rfl (lv_at hl 1 rfl) ?_
      refine px_iald S hT hw 0 6 (n := 2048) (f := (ta 5)) rfl (ga_Tok_5 _ _ _ _ _ _ _) (x := p0) (vp_in_iff.mpr (by first | exact oz_f4db95235a nc1 nc3 | (constructor <;> omega))) d_Tok_quotedNumber_18 ?_
      refine lv_topi (fun z5 ez5 => ?_)
      have lz5 := Int32.le_toInt z5
      have uz5 := Int32.toInt_lt z5
      refine lv_goto (tgt := 23) S.x S.b d_Tok_quotedNumber_19 (by decide) ?_
      exact px_iret (v := z5) S hr rfl hlk hAe hw (Nat.le_of_ble_eq_true rfl) (Nat.le_of_ble_eq_true rfl) (⟨rfl, (show R_tk_quotedNumber ta p0 z5 from (Or.inl (Or.inr ⟨nc1, Or.inr ⟨nc3, z5, ez5, rfl⟩⟩)))⟩) d_Tok_quotedNumber_23
set_option maxHeartbeats 4000000 in
set_option maxRecDepth 100000 in
theorem c_tk_last (l : Launch) (D : va_G) (cs : Nat → ClassId) (ht : Nat) (rt : Nat → Nat) (ot : Nat → Option Nat) (ta : Nat → Nat → Int32) (tg : Nat → Nat → Option Nat) (tf : Nat → Int32)  (hinv0 : CurOk (tf 10) (tf 13) (tf 14) (tf 15) (tf 17) (ta 0)) : MetI l y_Tok_last b_Tok_last 1 (.int) D cs 0 0 (0) (0) [.ref ht] [wd_Tok cs ht rt ot tf ta tg] (fun _ => True) (fun v ps => (ps = [wd_Tok cs ht rt ot tf ta tg]) ∧ (v.toInt = (tf 10).toInt - 1) ∧ (R_tk_last tf v)) := by
  refine px_enter (by decide) (Nat.le_of_ble_eq_true rfl) ?_
  intro p e s m below meth c A ls hAe S hr hlk hnm hA hT hX hw hl
  have hl : lv_has ls 1 [(0, .ref ht)] := hl
  have cst1 : (1 : Int32).toInt = 1 := rfl
  obtain ⟨⟨o1, o2⟩, ⟨o3, o4⟩, ⟨o5, o6⟩, o7, o8, hlast⟩ := hinv0
  refine lv_aload_n S.x S.b d_Tok_last_0 rfl (lv_at hl 0 rfl) ?_
  refine px_get S k_Tok hT hw 0 0 10 (v := .int (tf 10)) rfl rfl rfl (by decide) m1_113 d_Tok_last_1 ?_
  refine lv_iconst (v := 1) S.x S.b d_Tok_last_4 (by decide) ?_
  refine lv_isub S.x S.b d_Tok_last_5 ?_
  have lr1 := Int32.le_toInt (tf 10)
  have ur1 := Int32.toInt_lt (tf 10)
  refine lv_topi (fun z2 ez2 => ?_)
  have tz2 : z2.toInt = ((tf 10).toInt - (1 : Int) + 2147483648) % 4294967296 - 2147483648 := by rw [ez2]; exact i_sub (tf 10) 1
  have lz2 := Int32.le_toInt z2
  have uz2 := Int32.toInt_lt z2
  try replace tz2 : z2.toInt = (tf 10).toInt - (1 : Int) := by omega
  exact px_iret (v := z2) S hr rfl hlk hAe hw (Nat.le_of_ble_eq_true rfl) (Nat.le_of_ble_eq_true rfl) (⟨rfl, (show z2.toInt = (tf 10).toInt - 1 from by first | exact oz_cfe616fd96 tz2 | omega), (show R_tk_last tf z2 from (Or.inl ⟨z2, ez2, rfl⟩))⟩) d_Tok_last_6
set_option maxHeartbeats 4000000 in
set_option maxRecDepth 100000 in
theorem c_tk_step (l : Launch) (D : va_G) (cs : Nat → ClassId) (ht : Nat) (rt : Nat → Nat) (ot : Nat → Option Nat) (ta : Nat → Nat → Int32) (tg : Nat → Nat → Option Nat) (tf : Nat → Int32)  (hinv0 : CurOk (tf 10) (tf 13) (tf 14) (tf 15) (tf 17) (ta 0)) : MetV l y_Tok_step b_Tok_step 1 D cs 0 0 (0) (0) [.ref ht] [wd_Tok cs ht rt ot tf ta tg] (fun _ => True) (fun ps => ∃ (tf' : Nat → Int32), (ps = [wd_Tok cs ht rt ot tf' ta tg]) ∧ (CurOk (tf' 10) (tf' 13) (tf' 14) (tf' 15) (tf' 17) (ta 0)) ∧ ((tf' 10).toInt = (tf 10).toInt) ∧ ((tf' 14).toInt = (tf 14).toInt) ∧ ((tf' 15).toInt = (tf 15).toInt) ∧ ((tf 13).toInt ≤ (tf' 13).toInt) ∧ ((tf' 13).toInt ≤ (tf 13).toInt + 1) ∧ ((tf 13).toInt + 1 < (tf 10).toInt → (tf' 13).toInt = (tf 13).toInt + 1) ∧ (R_tk_step tf tf')) := by
  refine px_enter (by decide) (Nat.le_of_ble_eq_true rfl) ?_
  intro p e s m below meth c A ls hAe S hr hlk hnm hA hT hX hw hl
  have hl : lv_has ls 1 [(0, .ref ht)] := hl
  have cst1 : (1 : Int32).toInt = 1 := rfl
  obtain ⟨⟨o1, o2⟩, ⟨o3, o4⟩, ⟨o5, o6⟩, o7, o8, hlast⟩ := hinv0
  refine lv_aload_n S.x S.b d_Tok_step_0 rfl (lv_at hl 0 rfl) ?_
  refine px_get S k_Tok hT hw 0 0 13 (v := .int (tf 13)) rfl rfl rfl (by decide) m1_118 d_Tok_step_1 ?_
  refine lv_aload_n S.x S.b d_Tok_step_4 rfl (lv_at hl 0 rfl) ?_
  refine px_get S k_Tok hT hw 0 0 10 (v := .int (tf 10)) rfl rfl rfl (by decide) m1_113 d_Tok_step_5 ?_
  refine lv_iconst (v := 1) S.x S.b d_Tok_step_8 (by decide) ?_
  refine lv_isub S.x S.b d_Tok_step_9 ?_
  have lr1 := Int32.le_toInt (tf 10)
  have ur1 := Int32.toInt_lt (tf 10)
  refine lv_topi (fun z2 ez2 => ?_)
  have tz2 : z2.toInt = ((tf 10).toInt - (1 : Int) + 2147483648) % 4294967296 - 2147483648 := by rw [ez2]; exact i_sub (tf 10) 1
  have lz2 := Int32.le_toInt z2
  have uz2 := Int32.toInt_lt z2
  try replace tz2 : z2.toInt = (tf 10).toInt - (1 : Int) := by omega
  refine lv_icmp_ge (tgt := 23) S.x S.b d_Tok_step_10 (by decide) (fun c3 => ?_) (fun c3 => ?_)
  · have nc3 : z2.toInt ≤ (tf 13).toInt := (i_le (x := z2) (y := (tf 13))).mp c3
    exact px_vret S hr hlk hAe hw (Nat.le_of_ble_eq_true rfl) (Nat.le_of_ble_eq_true rfl) (⟨tf, rfl, (show CurOk (tf 10) (tf 13) (tf 14) (tf 15) (tf 17) (ta 0) from ⟨⟨by first | exact o1 | omega, by first | exact o2 | omega⟩, ⟨by first | exact o3 | omega, by first | exact o4 | omega⟩, ⟨by first | exact o5 | omega, by first | exact o6 | omega⟩, by first | exact o7 | omega, by omega, last_eq hlast (rfl)⟩), (show (tf 10).toInt = (tf 10).toInt from rfl), (show (tf 14).toInt = (tf 14).toInt from rfl), (show (tf 15).toInt = (tf 15).toInt from rfl), (show (tf 13).toInt ≤ (tf 13).toInt from by first | exact oz_1cb5f934a5 | omega), (show (tf 13).toInt ≤ (tf 13).toInt + 1 from by first | exact oz_ae0d7c4baf | omega), (show (tf 13).toInt + 1 < (tf 10).toInt → (tf 13).toInt = (tf 13).toInt + 1 from by omega), (show R_tk_step tf tf from (Or.inl ⟨z2, ez2, Or.inl ⟨nc3, rfl⟩⟩))⟩) d_Tok_step_23
  · have nc3 : ¬ z2.toInt ≤ (tf 13).toInt := mt (i_le (x := z2) (y := (tf 13))).mpr c3
    refine lv_aload_n S.x S.b d_Tok_step_13 rfl (lv_at hl 0 rfl) ?_
    refine lv_dup S.x S.b d_Tok_step_14 rfl ?_
    refine px_get S k_Tok hT hw 0 0 13 (v := .int (tf 13)) rfl rfl rfl (by decide) m1_118 d_Tok_step_15 ?_
    refine lv_iconst (v := 1) S.x S.b d_Tok_step_18 (by decide) ?_
    refine lv_iadd S.x S.b d_Tok_step_19 ?_
    have lr5 := Int32.le_toInt (tf 13)
    have ur5 := Int32.toInt_lt (tf 13)
    refine lv_topi (fun z6 ez6 => ?_)
    have tz6 : z6.toInt = ((tf 13).toInt + (1 : Int) + 2147483648) % 4294967296 - 2147483648 := by rw [ez6]; exact i_add (tf 13) 1
    have lz6 := Int32.le_toInt z6
    have uz6 := Int32.toInt_lt z6
    try replace tz6 : z6.toInt = (tf 13).toInt + (1 : Int) := by omega
    refine px_put S k_Tok hT hw 0 0 13 rfl rfl (by decide) m1_118 rfl rfl rfl (Nat.le_of_ble_eq_true rfl) d_Tok_step_20 (w' := wd_Tok cs ht rt ot (upd tf 13 z6) ta tg) (ps' := [wd_Tok cs ht rt ot (upd tf 13 z6) ta tg]) rfl rfl (fun H locs hw => ?_)
    exact px_vret S hr hlk hAe hw (Nat.le_of_ble_eq_true rfl) (Nat.le_of_ble_eq_true rfl) (⟨(upd tf 13 z6), rfl, (show CurOk (tf 10) z6 (tf 14) (tf 15) (tf 17) (ta 0) from ⟨⟨by first | exact o1 | omega, by first | exact o2 | omega⟩, ⟨by first | exact oz_b3b25f0e49 tz6 o3 | omega, by first | exact oz_e4b636adf7 tz2 tz6 nc3 | omega⟩, ⟨by first | exact o5 | omega, by first | exact o6 | omega⟩, by first | exact o7 | omega, by omega, last_eq hlast (rfl)⟩), (show (tf 10).toInt = (tf 10).toInt from rfl), (show (tf 14).toInt = (tf 14).toInt from rfl), (show (tf 15).toInt = (tf 15).toInt from rfl), (show (tf 13).toInt ≤ z6.toInt from by first | exact oz_b88c2a0b93 tz6 | omega), (show z6.toInt ≤ (tf 13).toInt + 1 from by first | exact oz_00fb2476cd tz6 | omega), (show (tf 13).toInt + 1 < (tf 10).toInt → z6.toInt = (tf 13).toInt + 1 from by first | exact fun q9 => oz_037caa6b79 tz6 | omega), (show R_tk_step tf (upd tf 13 z6) from (Or.inl ⟨z2, ez2, Or.inr ⟨nc3, z6, ez6, rfl⟩⟩))⟩) d_Tok_step_23
set_option maxHeartbeats 4000000 in
set_option maxRecDepth 100000 in
theorem c_tk_fail (l : Launch) (D : va_G) (cs : Nat → ClassId) (ht : Nat) (rt : Nat → Nat) (ot : Nat → Option Nat) (ta : Nat → Nat → Int32) (tg : Nat → Nat → Option Nat) (tf : Nat → Int32)  (hinv0 : CurOk (tf 10) (tf 13) (tf 14) (tf 15) (tf 17) (ta 0)) : MetV l y_Tok_fail b_Tok_fail 1 D cs 0 0 (0) (0) [.ref ht] [wd_Tok cs ht rt ot tf ta tg] (fun _ => True) (fun ps => ∃ (tf' : Nat → Int32), (ps = [wd_Tok cs ht rt ot tf' ta tg]) ∧ (CurOk (tf' 10) (tf' 13) (tf' 14) (tf' 15) (tf' 17) (ta 0)) ∧ ((tf' 10).toInt = (tf 10).toInt) ∧ ((tf' 14).toInt = (tf 14).toInt) ∧ ((tf' 13).toInt = (tf 13).toInt) ∧ ((tf' 15).toInt = 1) ∧ (R_tk_fail ta tf tf')) := by
  refine px_enter (by decide) (Nat.le_of_ble_eq_true rfl) ?_
  intro p e s m below meth c A ls hAe S hr hlk hnm hA hT hX hw hl
  have hl : lv_has ls 1 [(0, .ref ht)] := hl
  have cst1 : (1 : Int32).toInt = 1 := rfl
  obtain ⟨⟨o1, o2⟩, ⟨o3, o4⟩, ⟨o5, o6⟩, o7, o8, hlast⟩ := hinv0
  refine lv_aload_n S.x S.b d_Tok_fail_0 rfl (lv_at hl 0 rfl) ?_
  refine px_get S k_Tok hT hw 0 0 15 (v := .int (tf 15)) rfl rfl rfl (by decide) m1_121 d_Tok_fail_1 ?_
  refine lv_if_ne (tgt := 43) S.x S.b d_Tok_fail_4 (by decide) (fun c1 => ?_) (fun c1 => ?_)
  · have nc1 : ¬ (tf 15).toInt = (0 : Int) := mt (i_eq (x := (tf 15)) (y := 0)).mpr c1
    exact px_vret S hr hlk hAe hw (Nat.le_of_ble_eq_true rfl) (Nat.le_of_ble_eq_true rfl) (⟨tf, rfl, (show CurOk (tf 10) (tf 13) (tf 14) (tf 15) (tf 17) (ta 0) from ⟨⟨by first | exact o1 | omega, by first | exact o2 | omega⟩, ⟨by first | exact o3 | omega, by first | exact o4 | omega⟩, ⟨by first | exact o5 | omega, by first | exact o6 | omega⟩, by first | exact o7 | omega, by omega, last_eq hlast (rfl)⟩), (show (tf 10).toInt = (tf 10).toInt from rfl), (show (tf 14).toInt = (tf 14).toInt from rfl), (show (tf 13).toInt = (tf 13).toInt from rfl), (show (tf 15).toInt = 1 from by first | exact oz_79534a8250 o6 o5 nc1 | omega), (show R_tk_fail ta tf tf from (Or.inl (Or.inl ⟨nc1, rfl⟩)))⟩) d_Tok_fail_43
  · have nc1 : (tf 15).toInt = (0 : Int) := (i_eq (x := (tf 15)) (y := 0)).mp c1
    refine lv_aload_n S.x S.b d_Tok_fail_7 rfl (lv_at hl 0 rfl) ?_
    refine lv_iconst (v := 1) S.x S.b d_Tok_fail_8 (by decide) ?_
    refine px_put S k_Tok hT hw 0 0 15 rfl rfl (by decide) m1_121 rfl rfl rfl (Nat.le_of_ble_eq_true rfl) d_Tok_fail_9 (w' := wd_Tok cs ht rt ot (upd tf 15 1) ta tg) (ps' := [wd_Tok cs ht rt ot (upd tf 15 1) ta tg]) rfl rfl (fun H locs hw => ?_)
    refine lv_aload_n S.x S.b d_Tok_fail_12 rfl (lv_at hl 0 rfl) ?_
    refine lv_aload_n S.x S.b d_Tok_fail_13 rfl (lv_at hl 0 rfl) ?_
    refine px_get S k_Tok hT hw 0 0 13 (v := .int (tf 13)) rfl rfl rfl (by decide) m1_118 d_Tok_fail_14 ?_
    refine lv_aload_n S.x S.b d_Tok_fail_17 rfl (lv_at hl 0 rfl) ?_
    refine px_get S k_Tok hT hw 0 0 10 (v := .int (tf 10)) rfl rfl rfl (by decide) m1_113 d_Tok_fail_18 ?_
    refine lv_icmp_ge (tgt := 36) S.x S.b d_Tok_fail_21 (by decide) (fun c3 => ?_) (fun c3 => ?_)
    · have nc3 : (tf 10).toInt ≤ (tf 13).toInt := (i_le (x := (tf 10)) (y := (tf 13))).mp c3
      refine lv_aload_n S.x S.b d_Tok_fail_36 rfl (lv_at hl 0 rfl) ?_
      refine px_get S k_Tok hT hw 0 0 7 (v := .int (tf 7)) rfl rfl rfl (by decide) m1_110 d_Tok_fail_37 ?_
      refine px_put S k_Tok hT hw 0 0 16 rfl rfl (by decide) m1_122 rfl rfl rfl (Nat.le_of_ble_eq_true rfl) d_Tok_fail_40 (w' := wd_Tok cs ht rt ot (upd (upd tf 15 1) 16 (tf 7)) ta tg) (ps' := [wd_Tok cs ht rt ot (upd (upd tf 15 1) 16 (tf 7)) ta tg]) rfl rfl (fun H locs hw => ?_)
      exact px_vret S hr hlk hAe hw (Nat.le_of_ble_eq_true rfl) (Nat.le_of_ble_eq_true rfl) (⟨(upd (upd tf 15 1) 16 (tf 7)), rfl, (show CurOk (tf 10) (tf 13) (tf 14) 1 (tf 17) (ta 0) from ⟨⟨by first | exact o1 | omega, by first | exact o2 | omega⟩, ⟨by first | exact o3 | omega, by first | exact o4 | omega⟩, ⟨by omega, by omega⟩, by first | exact o7 | omega, by omega, last_eq hlast (rfl)⟩), (show (tf 10).toInt = (tf 10).toInt from rfl), (show (tf 14).toInt = (tf 14).toInt from rfl), (show (tf 13).toInt = (tf 13).toInt from rfl), (show (1 : Int) = 1 from by first | exact oz_1285e5f113 | omega), (show R_tk_fail ta tf (upd (upd tf 15 1) 16 (tf 7)) from (Or.inl (Or.inr ⟨nc1, Or.inl ⟨nc3, rfl⟩⟩)))⟩) d_Tok_fail_43
    · have nc3 : ¬ (tf 10).toInt ≤ (tf 13).toInt := mt (i_le (x := (tf 10)) (y := (tf 13))).mpr c3
      refine lv_aload_n S.x S.b d_Tok_fail_24 rfl (lv_at hl 0 rfl) ?_
      refine px_get S k_Tok hT hw 0 0 1 (v := .ref (rt 1)) rfl rfl rfl (by decide) m1_104 d_Tok_fail_25 ?_
      refine lv_aload_n S.x S.b d_Tok_fail_28 rfl (lv_at hl 0 rfl) ?_
      refine px_get S k_Tok hT hw 0 0 13 (v := .int (tf 13)) rfl rfl rfl (by decide) m1_118 d_Tok_fail_29 ?_
      refine px_iald S hT hw 0 2 (n := 2049) (f := (ta 1)) rfl (ga_Tok_1 _ _ _ _ _ _ _) (x := (tf 13)) (vp_in_iff.mpr (by first | exact oz_496ba66a1b o3 o4 o2 | (constructor <;> omega))) d_Tok_fail_32 ?_
      refine lv_topi (fun z5 ez5 => ?_)
      have lz5 := Int32.le_toInt z5
      have uz5 := Int32.toInt_lt z5
      refine lv_goto (tgt := 40) S.x S.b d_Tok_fail_33 (by decide) ?_
      refine px_put S k_Tok hT hw 0 0 16 rfl rfl (by decide) m1_122 rfl rfl rfl (Nat.le_of_ble_eq_true rfl) d_Tok_fail_40 (w' := wd_Tok cs ht rt ot (upd (upd tf 15 1) 16 z5) ta tg) (ps' := [wd_Tok cs ht rt ot (upd (upd tf 15 1) 16 z5) ta tg]) rfl rfl (fun H locs hw => ?_)
      exact px_vret S hr hlk hAe hw (Nat.le_of_ble_eq_true rfl) (Nat.le_of_ble_eq_true rfl) (⟨(upd (upd tf 15 1) 16 z5), rfl, (show CurOk (tf 10) (tf 13) (tf 14) 1 (tf 17) (ta 0) from ⟨⟨by first | exact o1 | omega, by first | exact o2 | omega⟩, ⟨by first | exact o3 | omega, by first | exact o4 | omega⟩, ⟨by omega, by omega⟩, by first | exact o7 | omega, by omega, last_eq hlast (rfl)⟩), (show (tf 10).toInt = (tf 10).toInt from rfl), (show (tf 14).toInt = (tf 14).toInt from rfl), (show (tf 13).toInt = (tf 13).toInt from rfl), (show (1 : Int) = 1 from by first | exact oz_1285e5f113 | omega), (show R_tk_fail ta tf (upd (upd tf 15 1) 16 z5) from (Or.inl (Or.inr ⟨nc1, Or.inr ⟨nc3, z5, ez5, rfl⟩⟩)))⟩) d_Tok_fail_43
set_option maxHeartbeats 4000000 in
set_option maxRecDepth 100000 in
theorem c_tk_accept (l : Launch) (D : va_G) (cs : Nat → ClassId) (ht : Nat) (rt : Nat → Nat) (ot : Nat → Option Nat) (ta : Nat → Nat → Int32) (tg : Nat → Nat → Option Nat) (tf : Nat → Int32) (p0 : Int32)  (hinv0 : CurOk (tf 10) (tf 13) (tf 14) (tf 15) (tf 17) (ta 0)) (g0 : p0.toInt ≠ 0) (g1 : p0.toInt ≠ 19) : MetI l y_Tok_accept b_Tok_accept 3 (.boolean) D cs 1 22 (0) (0) [.ref ht, .int p0] [wd_Tok cs ht rt ot tf ta tg] (fun _ => True) (fun v ps => ∃ (tf' : Nat → Int32), (ps = [wd_Tok cs ht rt ot tf' ta tg]) ∧ (CurOk (tf' 10) (tf' 13) (tf' 14) (tf' 15) (tf' 17) (ta 0)) ∧ ((tf' 10).toInt = (tf 10).toInt) ∧ (v = 0 ∨ v = 1) ∧ ((tf' 14).toInt = (tf 14).toInt) ∧ ((tf' 15).toInt = (tf 15).toInt) ∧ ((tf' 13).toInt = (tf 13).toInt + v.toInt) ∧ (v.toInt + (tf 15).toInt ≤ 1) ∧ (R_tk_accept ta p0 tf tf' v)) := by
  refine px_enter (by decide) (Nat.le_of_ble_eq_true rfl) ?_
  intro p e s m below meth c A ls hAe S hr hlk hnm hA hT hX hw hl
  have hl : lv_has ls 3 [(0, .ref ht), (1, .int p0)] := hl
  have lp0 := Int32.le_toInt p0
  have up0 := Int32.toInt_lt p0
  have cst0 : (0 : Int32).toInt = 0 := rfl
  have cst1 : (1 : Int32).toInt = 1 := rfl
  obtain ⟨⟨o1, o2⟩, ⟨o3, o4⟩, ⟨o5, o6⟩, o7, o8, hlast⟩ := hinv0
  refine lv_aload_n S.x S.b d_Tok_accept_0 rfl (lv_at hl 0 rfl) ?_
  refine px_calli (pr := []) (px_runV (As := []) (rest := []) S (c_tk_kind l D cs ht rt ot ta tg tf   (show CurOk (tf 10) (tf 13) (tf 14) (tf 15) (tf 17) (ta 0) from ⟨⟨by first | exact o1 | omega, by first | exact o2 | omega⟩, ⟨by first | exact o3 | omega, by first | exact o4 | omega⟩, ⟨by first | exact o5 | omega, by first | exact o6 | omega⟩, by first | exact o7 | omega, by omega, last_eq hlast (rfl)⟩) _) hT (pr := []) (pcs := [wd_Tok cs ht rt ot tf ta tg]) hw px_X.tt (px_recv hT hw 0 0 rfl rfl rfl) m4_108 m4_125 m4_106 m4_107 m1_2 q_Tok_kind ⟨Nat.le_of_ble_eq_true rfl, Nat.le_of_ble_eq_true rfl⟩ hl.1 rfl (Nat.le_of_ble_eq_true rfl) d_Tok_accept_1 ⟨Nat.le_of_ble_eq_true rfl, Nat.le_of_ble_eq_true rfl⟩) hw hA (fun v2 p1 H locs hp1 hw => ?_)
  obtain ⟨rfl, e3, e4, e5⟩ := hp1
  have e3 : (tf 15).toInt = 1 → v2.toInt = 19 := e3
  have e4 : v2.toInt = 0 ∨ v2.toInt = 19 ∨ (tf 13).toInt + 1 < (tf 10).toInt := e4
  have e5 : R_tk_kind ta tf v2 := e5
  have hw : pw D A s.heap H locs [wd_Tok cs ht rt ot tf ta tg] := hw
  have lv2 := Int32.le_toInt v2
  have uv2 := Int32.toInt_lt v2
  refine lv_iload_n S.x S.b d_Tok_accept_4 rfl (lv_at hl 1 rfl) ?_
  refine lv_icmp_ne (tgt := 12) S.x S.b d_Tok_accept_5 (by decide) (fun c6 => ?_) (fun c6 => ?_)
  · have nc6 : ¬ v2.toInt = p0.toInt := mt (i_eq (x := v2) (y := p0)).mpr c6
    refine lv_iconst (v := 0) S.x S.b d_Tok_accept_12 (by decide) ?_
    refine lv_istore_n (lv' := [(2, .int 0), (0, .ref ht), (1, .int p0)]) S.x S.b d_Tok_accept_13 rfl hl (by decide) rfl (fun ls hl => ?_)
    refine lv_iload_n S.x S.b d_Tok_accept_14 rfl (lv_at hl 0 rfl) ?_
    refine lv_if_eq (tgt := 22) S.x S.b d_Tok_accept_15 (by decide) (fun c8 => ?_) (fun c8 => ?_)
    ·
      refine lv_iload_n S.x S.b d_Tok_accept_22 rfl (lv_at hl 0 rfl) ?_
      exact px_iret (v := 0) S hr rfl hlk hAe hw (Nat.le_of_ble_eq_true rfl) (Nat.le_of_ble_eq_true rfl) (⟨tf, rfl, (show CurOk (tf 10) (tf 13) (tf 14) (tf 15) (tf 17) (ta 0) from ⟨⟨by first | exact o1 | omega, by first | exact o2 | omega⟩, ⟨by first | exact o3 | omega, by first | exact o4 | omega⟩, ⟨by first | exact o5 | omega, by first | exact o6 | omega⟩, by first | exact o7 | omega, by omega, last_eq hlast (rfl)⟩), (show (tf 10).toInt = (tf 10).toInt from rfl), (show (0 : Int32) = 0 ∨ (0 : Int32) = 1 from by first | exact Or.inl rfl | exact Or.inr rfl | exact z_or (by omega)), (show (tf 14).toInt = (tf 14).toInt from rfl), (show (tf 15).toInt = (tf 15).toInt from rfl), (show (tf 13).toInt = (tf 13).toInt + (0 : Int) from by first | exact oz_efca365a44 | omega), (show (0 : Int) + (tf 15).toInt ≤ 1 from by first | exact oz_e663406283 o6 | omega), (show R_tk_accept ta p0 tf tf (0 : Int32) from (Or.inl ⟨v2, e5, Or.inl ⟨nc6, rfl, rfl⟩⟩))⟩) d_Tok_accept_23
    · exact absurd c8 (by decide)
  · have nc6 : v2.toInt = p0.toInt := (i_eq (x := v2) (y := p0)).mp c6
    refine lv_iconst (v := 1) S.x S.b d_Tok_accept_8 (by decide) ?_
    refine lv_goto (tgt := 13) S.x S.b d_Tok_accept_9 (by decide) ?_
    refine lv_istore_n (lv' := [(2, .int 1), (0, .ref ht), (1, .int p0)]) S.x S.b d_Tok_accept_13 rfl hl (by decide) rfl (fun ls hl => ?_)
    refine lv_iload_n S.x S.b d_Tok_accept_14 rfl (lv_at hl 0 rfl) ?_
    refine lv_if_eq (tgt := 22) S.x S.b d_Tok_accept_15 (by decide) (fun c9 => ?_) (fun c9 => ?_)
    · exact absurd c9 (by decide)
    ·
      refine lv_aload_n S.x S.b d_Tok_accept_18 rfl (lv_at hl 1 rfl) ?_
      refine px_callv (pr := []) (px_runV (As := []) (rest := []) S (c_tk_step l D cs ht rt ot ta tg tf   (show CurOk (tf 10) (tf 13) (tf 14) (tf 15) (tf 17) (ta 0) from ⟨⟨by first | exact o1 | omega, by first | exact o2 | omega⟩, ⟨by first | exact o3 | omega, by first | exact o4 | omega⟩, ⟨by first | exact o5 | omega, by first | exact o6 | omega⟩, by first | exact o7 | omega, by omega, last_eq hlast (rfl)⟩) _) hT (pr := []) (pcs := [wd_Tok cs ht rt ot tf ta tg]) hw px_X.tt (px_recv hT hw 0 0 rfl rfl rfl) m4_120 m4_126 m4_118 m4_119 m1_2 q_Tok_step ⟨Nat.le_of_ble_eq_true rfl, Nat.le_of_ble_eq_true rfl⟩ hl.1 rfl (Nat.le_of_ble_eq_true rfl) d_Tok_accept_19 ⟨Nat.le_of_ble_eq_true rfl, Nat.le_of_ble_eq_true rfl⟩) hw hA (fun p11 H locs hp11 hw => ?_)
      obtain ⟨tf10, rfl, h20, e13, e14, e15, e16, e17, e18, e19⟩ := hp11
      obtain ⟨⟨o1, o2⟩, ⟨o3, o4⟩, ⟨o5, o6⟩, o7, o8, hlast⟩ := h20
      have e13 : (tf10 10).toInt = (tf 10).toInt := e13
      have e14 : (tf10 14).toInt = (tf 14).toInt := e14
      have e15 : (tf10 15).toInt = (tf 15).toInt := e15
      have e16 : (tf 13).toInt ≤ (tf10 13).toInt := e16
      have e17 : (tf10 13).toInt ≤ (tf 13).toInt + 1 := e17
      have e18 : (tf 13).toInt + 1 < (tf 10).toInt → (tf10 13).toInt = (tf 13).toInt + 1 := e18
      have e19 : R_tk_step tf tf10 := e19
      have hw : pw D A s.heap H locs [wd_Tok cs ht rt ot tf10 ta tg] := hw
      refine lv_iload_n S.x S.b d_Tok_accept_22 rfl (lv_at hl 0 rfl) ?_
      exact px_iret (v := 1) S hr rfl hlk hAe hw (Nat.le_of_ble_eq_true rfl) (Nat.le_of_ble_eq_true rfl) (⟨tf10, rfl, (show CurOk (tf10 10) (tf10 13) (tf10 14) (tf10 15) (tf10 17) (ta 0) from ⟨⟨by first | exact o1 | omega, by first | exact o2 | omega⟩, ⟨by first | exact o3 | omega, by first | exact o4 | omega⟩, ⟨by first | exact o5 | omega, by first | exact o6 | omega⟩, by first | exact o7 | omega, by omega, last_eq hlast (rfl)⟩), (show (tf10 10).toInt = (tf 10).toInt from by first | exact e13 | omega), (show (1 : Int32) = 0 ∨ (1 : Int32) = 1 from by first | exact Or.inl rfl | exact Or.inr rfl | exact z_or (by omega)), (show (tf10 14).toInt = (tf 14).toInt from by first | exact e14 | omega), (show (tf10 15).toInt = (tf 15).toInt from by first | exact e15 | omega), (show (tf10 13).toInt = (tf 13).toInt + (1 : Int) from by omega), (show (1 : Int) + (tf 15).toInt ≤ 1 from by omega), (show R_tk_accept ta p0 tf tf10 (1 : Int32) from (Or.inl ⟨v2, e5, Or.inr ⟨nc6, tf10, e19, rfl, rfl⟩⟩))⟩) d_Tok_accept_23
set_option maxHeartbeats 4000000 in
set_option maxRecDepth 100000 in
theorem c_tk_expect (l : Launch) (D : va_G) (cs : Nat → ClassId) (ht : Nat) (rt : Nat → Nat) (ot : Nat → Option Nat) (ta : Nat → Nat → Int32) (tg : Nat → Nat → Option Nat) (tf : Nat → Int32) (p0 : Int32)  (hinv0 : CurOk (tf 10) (tf 13) (tf 14) (tf 15) (tf 17) (ta 0)) (g0 : p0.toInt ≠ 0) (g1 : p0.toInt ≠ 19) : MetV l y_Tok_expect b_Tok_expect 2 D cs 1 22 (0) (0) [.ref ht, .int p0] [wd_Tok cs ht rt ot tf ta tg] (fun _ => True) (fun ps => ∃ (tf' : Nat → Int32), (ps = [wd_Tok cs ht rt ot tf' ta tg]) ∧ (CurOk (tf' 10) (tf' 13) (tf' 14) (tf' 15) (tf' 17) (ta 0)) ∧ ((tf' 10).toInt = (tf 10).toInt) ∧ ((tf' 14).toInt = (tf 14).toInt) ∧ ((tf 15).toInt ≤ (tf' 15).toInt) ∧ ((tf' 13).toInt = (tf 13).toInt + 1 - (tf' 15).toInt) ∧ (R_tk_expect ta p0 tf tf')) := by
  refine px_enter (by decide) (Nat.le_of_ble_eq_true rfl) ?_
  intro p e s m below meth c A ls hAe S hr hlk hnm hA hT hX hw hl
  have hl : lv_has ls 2 [(0, .ref ht), (1, .int p0)] := hl
  have lp0 := Int32.le_toInt p0
  have up0 := Int32.toInt_lt p0
  obtain ⟨⟨o1, o2⟩, ⟨o3, o4⟩, ⟨o5, o6⟩, o7, o8, hlast⟩ := hinv0
  refine lv_aload_n S.x S.b d_Tok_expect_0 rfl (lv_at hl 0 rfl) ?_
  refine px_calli (pr := []) (px_runV (As := []) (rest := []) S (c_tk_kind l D cs ht rt ot ta tg tf   (show CurOk (tf 10) (tf 13) (tf 14) (tf 15) (tf 17) (ta 0) from ⟨⟨by first | exact o1 | omega, by first | exact o2 | omega⟩, ⟨by first | exact o3 | omega, by first | exact o4 | omega⟩, ⟨by first | exact o5 | omega, by first | exact o6 | omega⟩, by first | exact o7 | omega, by omega, last_eq hlast (rfl)⟩) _) hT (pr := []) (pcs := [wd_Tok cs ht rt ot tf ta tg]) hw px_X.tt (px_recv hT hw 0 0 rfl rfl rfl) m4_108 m4_125 m4_106 m4_107 m1_2 q_Tok_kind ⟨Nat.le_of_ble_eq_true rfl, Nat.le_of_ble_eq_true rfl⟩ hl.1 rfl (Nat.le_of_ble_eq_true rfl) d_Tok_expect_1 ⟨Nat.le_of_ble_eq_true rfl, Nat.le_of_ble_eq_true rfl⟩) hw hA (fun v2 p1 H locs hp1 hw => ?_)
  obtain ⟨rfl, e3, e4, e5⟩ := hp1
  have e3 : (tf 15).toInt = 1 → v2.toInt = 19 := e3
  have e4 : v2.toInt = 0 ∨ v2.toInt = 19 ∨ (tf 13).toInt + 1 < (tf 10).toInt := e4
  have e5 : R_tk_kind ta tf v2 := e5
  have hw : pw D A s.heap H locs [wd_Tok cs ht rt ot tf ta tg] := hw
  have lv2 := Int32.le_toInt v2
  have uv2 := Int32.toInt_lt v2
  refine lv_iload_n S.x S.b d_Tok_expect_4 rfl (lv_at hl 1 rfl) ?_
  refine lv_icmp_ne (tgt := 15) S.x S.b d_Tok_expect_5 (by decide) (fun c6 => ?_) (fun c6 => ?_)
  · have nc6 : ¬ v2.toInt = p0.toInt := mt (i_eq (x := v2) (y := p0)).mpr c6
    refine lv_aload_n S.x S.b d_Tok_expect_15 rfl (lv_at hl 0 rfl) ?_
    refine px_callv (pr := []) (px_runV (As := []) (rest := []) S (c_tk_fail l D cs ht rt ot ta tg tf   (show CurOk (tf 10) (tf 13) (tf 14) (tf 15) (tf 17) (ta 0) from ⟨⟨by first | exact o1 | omega, by first | exact o2 | omega⟩, ⟨by first | exact o3 | omega, by first | exact o4 | omega⟩, ⟨by first | exact o5 | omega, by first | exact o6 | omega⟩, by first | exact o7 | omega, by omega, last_eq hlast (rfl)⟩) _) hT (pr := []) (pcs := [wd_Tok cs ht rt ot tf ta tg]) hw px_X.tt (px_recv hT hw 0 0 rfl rfl rfl) m4_130 m4_127 m4_128 m4_129 m1_2 q_Tok_fail ⟨Nat.le_of_ble_eq_true rfl, Nat.le_of_ble_eq_true rfl⟩ hl.1 rfl (Nat.le_of_ble_eq_true rfl) d_Tok_expect_16 ⟨Nat.le_of_ble_eq_true rfl, Nat.le_of_ble_eq_true rfl⟩) hw hA (fun p9 H locs hp9 hw => ?_)
    obtain ⟨tf8, rfl, h16, e11, e12, e13, e14, e15⟩ := hp9
    obtain ⟨⟨o1, o2⟩, ⟨o3, o4⟩, ⟨o5, o6⟩, o7, o8, hlast⟩ := h16
    have e11 : (tf8 10).toInt = (tf 10).toInt := e11
    have e12 : (tf8 14).toInt = (tf 14).toInt := e12
    have e13 : (tf8 13).toInt = (tf 13).toInt := e13
    have e14 : (tf8 15).toInt = 1 := e14
    have e15 : R_tk_fail ta tf tf8 := e15
    have hw : pw D A s.heap H locs [wd_Tok cs ht rt ot tf8 ta tg] := hw
    exact px_vret S hr hlk hAe hw (Nat.le_of_ble_eq_true rfl) (Nat.le_of_ble_eq_true rfl) (⟨tf8, rfl, (show CurOk (tf8 10) (tf8 13) (tf8 14) (tf8 15) (tf8 17) (ta 0) from ⟨⟨by first | exact o1 | omega, by first | exact o2 | omega⟩, ⟨by first | exact o3 | omega, by first | exact o4 | omega⟩, ⟨by first | exact o5 | omega, by first | exact o6 | omega⟩, by first | exact o7 | omega, by omega, last_eq hlast (rfl)⟩), (show (tf8 10).toInt = (tf 10).toInt from by first | exact e11 | omega), (show (tf8 14).toInt = (tf 14).toInt from by first | exact e12 | omega), (show (tf 15).toInt ≤ (tf8 15).toInt from by omega), (show (tf8 13).toInt = (tf 13).toInt + 1 - (tf8 15).toInt from by first | exact oz_b8f9a2d6ab o6 e13 e14 | omega), (show R_tk_expect ta p0 tf tf8 from (Or.inl ⟨v2, e5, Or.inl ⟨nc6, tf8, e15, rfl⟩⟩))⟩) d_Tok_expect_19
  · have nc6 : v2.toInt = p0.toInt := (i_eq (x := v2) (y := p0)).mp c6
    refine lv_aload_n S.x S.b d_Tok_expect_8 rfl (lv_at hl 0 rfl) ?_
    refine px_callv (pr := []) (px_runV (As := []) (rest := []) S (c_tk_step l D cs ht rt ot ta tg tf   (show CurOk (tf 10) (tf 13) (tf 14) (tf 15) (tf 17) (ta 0) from ⟨⟨by first | exact o1 | omega, by first | exact o2 | omega⟩, ⟨by first | exact o3 | omega, by first | exact o4 | omega⟩, ⟨by first | exact o5 | omega, by first | exact o6 | omega⟩, by first | exact o7 | omega, by omega, last_eq hlast (rfl)⟩) _) hT (pr := []) (pcs := [wd_Tok cs ht rt ot tf ta tg]) hw px_X.tt (px_recv hT hw 0 0 rfl rfl rfl) m4_120 m4_126 m4_118 m4_119 m1_2 q_Tok_step ⟨Nat.le_of_ble_eq_true rfl, Nat.le_of_ble_eq_true rfl⟩ hl.1 rfl (Nat.le_of_ble_eq_true rfl) d_Tok_expect_9 ⟨Nat.le_of_ble_eq_true rfl, Nat.le_of_ble_eq_true rfl⟩) hw hA (fun p18 H locs hp18 hw => ?_)
    obtain ⟨tf17, rfl, h27, e20, e21, e22, e23, e24, e25, e26⟩ := hp18
    obtain ⟨⟨o1, o2⟩, ⟨o3, o4⟩, ⟨o5, o6⟩, o7, o8, hlast⟩ := h27
    have e20 : (tf17 10).toInt = (tf 10).toInt := e20
    have e21 : (tf17 14).toInt = (tf 14).toInt := e21
    have e22 : (tf17 15).toInt = (tf 15).toInt := e22
    have e23 : (tf 13).toInt ≤ (tf17 13).toInt := e23
    have e24 : (tf17 13).toInt ≤ (tf 13).toInt + 1 := e24
    have e25 : (tf 13).toInt + 1 < (tf 10).toInt → (tf17 13).toInt = (tf 13).toInt + 1 := e25
    have e26 : R_tk_step tf tf17 := e26
    have hw : pw D A s.heap H locs [wd_Tok cs ht rt ot tf17 ta tg] := hw
    refine lv_goto (tgt := 19) S.x S.b d_Tok_expect_12 (by decide) ?_
    exact px_vret S hr hlk hAe hw (Nat.le_of_ble_eq_true rfl) (Nat.le_of_ble_eq_true rfl) (⟨tf17, rfl, (show CurOk (tf17 10) (tf17 13) (tf17 14) (tf17 15) (tf17 17) (ta 0) from ⟨⟨by first | exact o1 | omega, by first | exact o2 | omega⟩, ⟨by first | exact o3 | omega, by first | exact o4 | omega⟩, ⟨by first | exact o5 | omega, by first | exact o6 | omega⟩, by first | exact o7 | omega, by omega, last_eq hlast (rfl)⟩), (show (tf17 10).toInt = (tf 10).toInt from by first | exact e20 | omega), (show (tf17 14).toInt = (tf 14).toInt from by first | exact e21 | omega), (show (tf 15).toInt ≤ (tf17 15).toInt from by first | exact oz_f9b42d1b56 e22 | omega), (show (tf17 13).toInt = (tf 13).toInt + 1 - (tf17 15).toInt from by omega), (show R_tk_expect ta p0 tf tf17 from (Or.inl ⟨v2, e5, Or.inr ⟨nc6, tf17, e26, rfl⟩⟩))⟩) d_Tok_expect_19
set_option maxHeartbeats 4000000 in
set_option maxRecDepth 100000 in
theorem c_tk_open (l : Launch) (D : va_G) (cs : Nat → ClassId) (ht : Nat) (rt : Nat → Nat) (ot : Nat → Option Nat) (ta : Nat → Nat → Int32) (tg : Nat → Nat → Option Nat) (tf : Nat → Int32) (p0 : Int32)  (hinv0 : CurOk (tf 10) (tf 13) (tf 14) (tf 15) (tf 17) (ta 0)) (g0 : p0.toInt ≠ 0) (g1 : p0.toInt ≠ 19) : MetV l y_Tok_open b_Tok_open 2 D cs 1 22 (0) (0) [.ref ht, .int p0] [wd_Tok cs ht rt ot tf ta tg] (fun _ => True) (fun ps => ∃ (tf' : Nat → Int32), (ps = [wd_Tok cs ht rt ot tf' ta tg]) ∧ (CurOk (tf' 10) (tf' 13) (tf' 14) (tf' 15) (tf' 17) (ta 0)) ∧ ((tf' 10).toInt = (tf 10).toInt) ∧ ((tf 15).toInt ≤ (tf' 15).toInt) ∧ ((tf' 13).toInt = (tf 13).toInt + 1 - (tf' 15).toInt) ∧ ((tf' 14).toInt = (tf 14).toInt + 1 - (tf' 15).toInt) ∧ (R_tk_open ta p0 tf tf')) := by
  refine px_enter (by decide) (Nat.le_of_ble_eq_true rfl) ?_
  intro p e s m below meth c A ls hAe S hr hlk hnm hA hT hX hw hl
  have hl : lv_has ls 2 [(0, .ref ht), (1, .int p0)] := hl
  have lp0 := Int32.le_toInt p0
  have up0 := Int32.toInt_lt p0
  have cst1 : (1 : Int32).toInt = 1 := rfl
  have cst60 : (60 : Int32).toInt = 60 := rfl
  obtain ⟨⟨o1, o2⟩, ⟨o3, o4⟩, ⟨o5, o6⟩, o7, o8, hlast⟩ := hinv0
  refine lv_aload_n S.x S.b d_Tok_open_0 rfl (lv_at hl 0 rfl) ?_
  refine px_calli (pr := []) (px_runV (As := []) (rest := []) S (c_tk_kind l D cs ht rt ot ta tg tf   (show CurOk (tf 10) (tf 13) (tf 14) (tf 15) (tf 17) (ta 0) from ⟨⟨by first | exact o1 | omega, by first | exact o2 | omega⟩, ⟨by first | exact o3 | omega, by first | exact o4 | omega⟩, ⟨by first | exact o5 | omega, by first | exact o6 | omega⟩, by first | exact o7 | omega, by omega, last_eq hlast (rfl)⟩) _) hT (pr := []) (pcs := [wd_Tok cs ht rt ot tf ta tg]) hw px_X.tt (px_recv hT hw 0 0 rfl rfl rfl) m4_108 m4_125 m4_106 m4_107 m1_2 q_Tok_kind ⟨Nat.le_of_ble_eq_true rfl, Nat.le_of_ble_eq_true rfl⟩ hl.1 rfl (Nat.le_of_ble_eq_true rfl) d_Tok_open_1 ⟨Nat.le_of_ble_eq_true rfl, Nat.le_of_ble_eq_true rfl⟩) hw hA (fun v2 p1 H locs hp1 hw => ?_)
  obtain ⟨rfl, e3, e4, e5⟩ := hp1
  have e3 : (tf 15).toInt = 1 → v2.toInt = 19 := e3
  have e4 : v2.toInt = 0 ∨ v2.toInt = 19 ∨ (tf 13).toInt + 1 < (tf 10).toInt := e4
  have e5 : R_tk_kind ta tf v2 := e5
  have hw : pw D A s.heap H locs [wd_Tok cs ht rt ot tf ta tg] := hw
  have lv2 := Int32.le_toInt v2
  have uv2 := Int32.toInt_lt v2
  refine lv_iload_n S.x S.b d_Tok_open_4 rfl (lv_at hl 1 rfl) ?_
  refine lv_icmp_ne (tgt := 34) S.x S.b d_Tok_open_5 (by decide) (fun c6 => ?_) (fun c6 => ?_)
  · have nc6 : ¬ v2.toInt = p0.toInt := mt (i_eq (x := v2) (y := p0)).mpr c6
    refine lv_aload_n S.x S.b d_Tok_open_34 rfl (lv_at hl 0 rfl) ?_
    refine px_callv (pr := []) (px_runV (As := []) (rest := []) S (c_tk_fail l D cs ht rt ot ta tg tf   (show CurOk (tf 10) (tf 13) (tf 14) (tf 15) (tf 17) (ta 0) from ⟨⟨by first | exact o1 | omega, by first | exact o2 | omega⟩, ⟨by first | exact o3 | omega, by first | exact o4 | omega⟩, ⟨by first | exact o5 | omega, by first | exact o6 | omega⟩, by first | exact o7 | omega, by omega, last_eq hlast (rfl)⟩) _) hT (pr := []) (pcs := [wd_Tok cs ht rt ot tf ta tg]) hw px_X.tt (px_recv hT hw 0 0 rfl rfl rfl) m4_130 m4_127 m4_128 m4_129 m1_2 q_Tok_fail ⟨Nat.le_of_ble_eq_true rfl, Nat.le_of_ble_eq_true rfl⟩ hl.1 rfl (Nat.le_of_ble_eq_true rfl) d_Tok_open_35 ⟨Nat.le_of_ble_eq_true rfl, Nat.le_of_ble_eq_true rfl⟩) hw hA (fun p9 H locs hp9 hw => ?_)
    obtain ⟨tf8, rfl, h16, e11, e12, e13, e14, e15⟩ := hp9
    obtain ⟨⟨o1, o2⟩, ⟨o3, o4⟩, ⟨o5, o6⟩, o7, o8, hlast⟩ := h16
    have e11 : (tf8 10).toInt = (tf 10).toInt := e11
    have e12 : (tf8 14).toInt = (tf 14).toInt := e12
    have e13 : (tf8 13).toInt = (tf 13).toInt := e13
    have e14 : (tf8 15).toInt = 1 := e14
    have e15 : R_tk_fail ta tf tf8 := e15
    have hw : pw D A s.heap H locs [wd_Tok cs ht rt ot tf8 ta tg] := hw
    exact px_vret S hr hlk hAe hw (Nat.le_of_ble_eq_true rfl) (Nat.le_of_ble_eq_true rfl) (⟨tf8, rfl, (show CurOk (tf8 10) (tf8 13) (tf8 14) (tf8 15) (tf8 17) (ta 0) from ⟨⟨by first | exact o1 | omega, by first | exact o2 | omega⟩, ⟨by first | exact o3 | omega, by first | exact o4 | omega⟩, ⟨by first | exact o5 | omega, by first | exact o6 | omega⟩, by first | exact o7 | omega, by omega, last_eq hlast (rfl)⟩), (show (tf8 10).toInt = (tf 10).toInt from by first | exact e11 | omega), (show (tf 15).toInt ≤ (tf8 15).toInt from by omega), (show (tf8 13).toInt = (tf 13).toInt + 1 - (tf8 15).toInt from by first | exact oz_b8f9a2d6ab o6 e13 e14 | omega), (show (tf8 14).toInt = (tf 14).toInt + 1 - (tf8 15).toInt from by first | exact oz_b8f9a2d6ab o6 e12 e14 | omega), (show R_tk_open ta p0 tf tf8 from (Or.inl ⟨v2, e5, Or.inl ⟨nc6, tf8, e15, rfl⟩⟩))⟩) d_Tok_open_38
  · have nc6 : v2.toInt = p0.toInt := (i_eq (x := v2) (y := p0)).mp c6
    refine lv_aload_n S.x S.b d_Tok_open_8 rfl (lv_at hl 0 rfl) ?_
    refine px_get S k_Tok hT hw 0 0 14 (v := .int (tf 14)) rfl rfl rfl (by decide) m1_119 d_Tok_open_9 ?_
    refine lv_bipush (v := 60) S.x S.b d_Tok_open_12 (by decide) ?_
    refine lv_icmp_ge (tgt := 34) S.x S.b d_Tok_open_14 (by decide) (fun c17 => ?_) (fun c17 => ?_)
    · have nc17 : (60 : Int) ≤ (tf 14).toInt := (i_le (x := 60) (y := (tf 14))).mp c17
      refine lv_aload_n S.x S.b d_Tok_open_34 rfl (lv_at hl 0 rfl) ?_
      refine px_callv (pr := []) (px_runV (As := []) (rest := []) S (c_tk_fail l D cs ht rt ot ta tg tf   (show CurOk (tf 10) (tf 13) (tf 14) (tf 15) (tf 17) (ta 0) from ⟨⟨by first | exact o1 | omega, by first | exact o2 | omega⟩, ⟨by first | exact o3 | omega, by first | exact o4 | omega⟩, ⟨by first | exact o5 | omega, by first | exact o6 | omega⟩, by first | exact o7 | omega, by omega, last_eq hlast (rfl)⟩) _) hT (pr := []) (pcs := [wd_Tok cs ht rt ot tf ta tg]) hw px_X.tt (px_recv hT hw 0 0 rfl rfl rfl) m4_130 m4_127 m4_128 m4_129 m1_2 q_Tok_fail ⟨Nat.le_of_ble_eq_true rfl, Nat.le_of_ble_eq_true rfl⟩ hl.1 rfl (Nat.le_of_ble_eq_true rfl) d_Tok_open_35 ⟨Nat.le_of_ble_eq_true rfl, Nat.le_of_ble_eq_true rfl⟩) hw hA (fun p20 H locs hp20 hw => ?_)
      obtain ⟨tf19, rfl, h27, e22, e23, e24, e25, e26⟩ := hp20
      obtain ⟨⟨o1, o2⟩, ⟨o3, o4⟩, ⟨o5, o6⟩, o7, o8, hlast⟩ := h27
      have e22 : (tf19 10).toInt = (tf 10).toInt := e22
      have e23 : (tf19 14).toInt = (tf 14).toInt := e23
      have e24 : (tf19 13).toInt = (tf 13).toInt := e24
      have e25 : (tf19 15).toInt = 1 := e25
      have e26 : R_tk_fail ta tf tf19 := e26
      have hw : pw D A s.heap H locs [wd_Tok cs ht rt ot tf19 ta tg] := hw
      exact px_vret S hr hlk hAe hw (Nat.le_of_ble_eq_true rfl) (Nat.le_of_ble_eq_true rfl) (⟨tf19, rfl, (show CurOk (tf19 10) (tf19 13) (tf19 14) (tf19 15) (tf19 17) (ta 0) from ⟨⟨by first | exact o1 | omega, by first | exact o2 | omega⟩, ⟨by first | exact o3 | omega, by first | exact o4 | omega⟩, ⟨by first | exact o5 | omega, by first | exact o6 | omega⟩, by first | exact o7 | omega, by omega, last_eq hlast (rfl)⟩), (show (tf19 10).toInt = (tf 10).toInt from by first | exact e22 | omega), (show (tf 15).toInt ≤ (tf19 15).toInt from by omega), (show (tf19 13).toInt = (tf 13).toInt + 1 - (tf19 15).toInt from by first | exact oz_b8f9a2d6ab o6 e24 e25 | omega), (show (tf19 14).toInt = (tf 14).toInt + 1 - (tf19 15).toInt from by first | exact oz_b8f9a2d6ab o6 e23 e25 | omega), (show R_tk_open ta p0 tf tf19 from (Or.inl ⟨v2, e5, Or.inr ⟨nc6, Or.inl ⟨nc17, tf19, e26, rfl⟩⟩⟩))⟩) d_Tok_open_38
    · have nc17 : ¬ (60 : Int) ≤ (tf 14).toInt := mt (i_le (x := 60) (y := (tf 14))).mpr c17
      refine lv_aload_n S.x S.b d_Tok_open_17 rfl (lv_at hl 0 rfl) ?_
      refine lv_dup S.x S.b d_Tok_open_18 rfl ?_
      refine px_get S k_Tok hT hw 0 0 14 (v := .int (tf 14)) rfl rfl rfl (by decide) m1_119 d_Tok_open_19 ?_
      refine lv_iconst (v := 1) S.x S.b d_Tok_open_22 (by decide) ?_
      refine lv_iadd S.x S.b d_Tok_open_23 ?_
      have lr28 := Int32.le_toInt (tf 14)
      have ur28 := Int32.toInt_lt (tf 14)
      refine lv_topi (fun z29 ez29 => ?_)
      have tz29 : z29.toInt = ((tf 14).toInt + (1 : Int) + 2147483648) % 4294967296 - 2147483648 := by rw [ez29]; exact i_add (tf 14) 1
      have lz29 := Int32.le_toInt z29
      have uz29 := Int32.toInt_lt z29
      try replace tz29 : z29.toInt = (tf 14).toInt + (1 : Int) := by omega
      refine px_put S k_Tok hT hw 0 0 14 rfl rfl (by decide) m1_119 rfl rfl rfl (Nat.le_of_ble_eq_true rfl) d_Tok_open_24 (w' := wd_Tok cs ht rt ot (upd tf 14 z29) ta tg) (ps' := [wd_Tok cs ht rt ot (upd tf 14 z29) ta tg]) rfl rfl (fun H locs hw => ?_)
      refine lv_aload_n S.x S.b d_Tok_open_27 rfl (lv_at hl 0 rfl) ?_
      refine px_callv (pr := []) (px_runV (As := []) (rest := []) S (c_tk_step l D cs ht rt ot ta tg (upd tf 14 z29)   (show CurOk (tf 10) (tf 13) z29 (tf 15) (tf 17) (ta 0) from ⟨⟨by first | exact o1 | omega, by first | exact o2 | omega⟩, ⟨by first | exact o3 | omega, by first | exact o4 | omega⟩, ⟨by first | exact o5 | omega, by first | exact o6 | omega⟩, by first | exact o7 | omega, by omega, last_eq hlast (rfl)⟩) _) hT (pr := []) (pcs := [wd_Tok cs ht rt ot (upd tf 14 z29) ta tg]) hw px_X.tt (px_recv hT hw 0 0 rfl rfl rfl) m4_120 m4_126 m4_118 m4_119 m1_2 q_Tok_step ⟨Nat.le_of_ble_eq_true rfl, Nat.le_of_ble_eq_true rfl⟩ hl.1 rfl (Nat.le_of_ble_eq_true rfl) d_Tok_open_28 ⟨Nat.le_of_ble_eq_true rfl, Nat.le_of_ble_eq_true rfl⟩) hw hA (fun p31 H locs hp31 hw => ?_)
      obtain ⟨tf30, rfl, h40, e33, e34, e35, e36, e37, e38, e39⟩ := hp31
      obtain ⟨⟨o1, o2⟩, ⟨o3, o4⟩, ⟨o5, o6⟩, o7, o8, hlast⟩ := h40
      have e33 : (tf30 10).toInt = (tf 10).toInt := e33
      have e34 : (tf30 14).toInt = z29.toInt := e34
      have e35 : (tf30 15).toInt = (tf 15).toInt := e35
      have e36 : (tf 13).toInt ≤ (tf30 13).toInt := e36
      have e37 : (tf30 13).toInt ≤ (tf 13).toInt + 1 := e37
      have e38 : (tf 13).toInt + 1 < (tf 10).toInt → (tf30 13).toInt = (tf 13).toInt + 1 := e38
      have e39 : R_tk_step (upd tf 14 z29) tf30 := e39
      have hw : pw D A s.heap H locs [wd_Tok cs ht rt ot tf30 ta tg] := hw
      refine lv_goto (tgt := 38) S.x S.b d_Tok_open_31 (by decide) ?_
      exact px_vret S hr hlk hAe hw (Nat.le_of_ble_eq_true rfl) (Nat.le_of_ble_eq_true rfl) (⟨tf30, rfl, (show CurOk (tf30 10) (tf30 13) (tf30 14) (tf30 15) (tf30 17) (ta 0) from ⟨⟨by first | exact o1 | omega, by first | exact o2 | omega⟩, ⟨by first | exact o3 | omega, by first | exact o4 | omega⟩, ⟨by first | exact o5 | omega, by first | exact o6 | omega⟩, by first | exact o7 | omega, by omega, last_eq hlast (rfl)⟩), (show (tf30 10).toInt = (tf 10).toInt from by first | exact e33 | omega), (show (tf 15).toInt ≤ (tf30 15).toInt from by first | exact oz_f9b42d1b56 e35 | omega), (show (tf30 13).toInt = (tf 13).toInt + 1 - (tf30 15).toInt from by omega), (show (tf30 14).toInt = (tf 14).toInt + 1 - (tf30 15).toInt from by omega), (show R_tk_open ta p0 tf tf30 from (Or.inl ⟨v2, e5, Or.inr ⟨nc6, Or.inr ⟨nc17, z29, ez29, tf30, e39, rfl⟩⟩⟩))⟩) d_Tok_open_38
set_option maxHeartbeats 4000000 in
set_option maxRecDepth 100000 in
theorem c_tk_openBehind (l : Launch) (D : va_G) (cs : Nat → ClassId) (ht : Nat) (rt : Nat → Nat) (ot : Nat → Option Nat) (ta : Nat → Nat → Int32) (tg : Nat → Nat → Option Nat) (tf : Nat → Int32) (p0 : Int32)  (hinv0 : CurOk (tf 10) (tf 13) (tf 14) (tf 15) (tf 17) (ta 0)) (g0 : 1 ≤ p0.toInt) (g1 : p0.toInt ≤ 1000000) (g2 : (tf 15).toInt = 1 ∨ (tf 13).toInt + 1 < (tf 10).toInt) : MetV l y_Tok_openBehind b_Tok_openBehind 2 D cs 1 22 (0) (0) [.ref ht, .int p0] [wd_Tok cs ht rt ot tf ta tg] (fun _ => True) (fun ps => ∃ (tf' : Nat → Int32), (ps = [wd_Tok cs ht rt ot tf' ta tg]) ∧ (CurOk (tf' 10) (tf' 13) (tf' 14) (tf' 15) (tf' 17) (ta 0)) ∧ ((tf' 10).toInt = (tf 10).toInt) ∧ ((tf 15).toInt ≤ (tf' 15).toInt) ∧ ((tf' 13).toInt = (tf 13).toInt + 1 - (tf' 15).toInt) ∧ ((tf' 14).toInt = (tf 14).toInt + 1 - (tf' 15).toInt) ∧ (R_tk_openBehind ta p0 tf tf')) := by
  refine px_enter (by decide) (Nat.le_of_ble_eq_true rfl) ?_
  intro p e s m below meth c A ls hAe S hr hlk hnm hA hT hX hw hl
  have hl : lv_has ls 2 [(0, .ref ht), (1, .int p0)] := hl
  have lp0 := Int32.le_toInt p0
  have up0 := Int32.toInt_lt p0
  have cst1 : (1 : Int32).toInt = 1 := rfl
  have cst60 : (60 : Int32).toInt = 60 := rfl
  obtain ⟨⟨o1, o2⟩, ⟨o3, o4⟩, ⟨o5, o6⟩, o7, o8, hlast⟩ := hinv0
  refine lv_aload_n S.x S.b d_Tok_openBehind_0 rfl (lv_at hl 0 rfl) ?_
  refine px_get S k_Tok hT hw 0 0 14 (v := .int (tf 14)) rfl rfl rfl (by decide) m1_119 d_Tok_openBehind_1 ?_
  refine lv_iload_n S.x S.b d_Tok_openBehind_4 rfl (lv_at hl 1 rfl) ?_
  refine lv_iadd S.x S.b d_Tok_openBehind_5 ?_
  have lr1 := Int32.le_toInt (tf 14)
  have ur1 := Int32.toInt_lt (tf 14)
  refine lv_topi (fun z2 ez2 => ?_)
  have tz2 : z2.toInt = ((tf 14).toInt + p0.toInt + 2147483648) % 4294967296 - 2147483648 := by rw [ez2]; exact i_add (tf 14) p0
  have lz2 := Int32.le_toInt z2
  have uz2 := Int32.toInt_lt z2
  try replace tz2 : z2.toInt = (tf 14).toInt + p0.toInt := by omega
  refine lv_bipush (v := 60) S.x S.b d_Tok_openBehind_6 (by decide) ?_
  refine lv_icmp_ge (tgt := 35) S.x S.b d_Tok_openBehind_8 (by decide) (fun c3 => ?_) (fun c3 => ?_)
  · have nc3 : (60 : Int) ≤ z2.toInt := (i_le (x := 60) (y := z2)).mp c3
    refine lv_aload_n S.x S.b d_Tok_openBehind_35 rfl (lv_at hl 0 rfl) ?_
    refine px_callv (pr := []) (px_runV (As := []) (rest := []) S (c_tk_fail l D cs ht rt ot ta tg tf   (show CurOk (tf 10) (tf 13) (tf 14) (tf 15) (tf 17) (ta 0) from ⟨⟨by first | exact o1 | omega, by first | exact o2 | omega⟩, ⟨by first | exact o3 | omega, by first | exact o4 | omega⟩, ⟨by first | exact o5 | omega, by first | exact o6 | omega⟩, by first | exact o7 | omega, by omega, last_eq hlast (rfl)⟩) _) hT (pr := []) (pcs := [wd_Tok cs ht rt ot tf ta tg]) hw px_X.tt (px_recv hT hw 0 0 rfl rfl rfl) m4_130 m4_127 m4_128 m4_129 m1_2 q_Tok_fail ⟨Nat.le_of_ble_eq_true rfl, Nat.le_of_ble_eq_true rfl⟩ hl.1 rfl (Nat.le_of_ble_eq_true rfl) d_Tok_openBehind_36 ⟨Nat.le_of_ble_eq_true rfl, Nat.le_of_ble_eq_true rfl⟩) hw hA (fun p6 H locs hp6 hw => ?_)
    obtain ⟨tf5, rfl, h13, e8, e9, e10, e11, e12⟩ := hp6
    obtain ⟨⟨o1, o2⟩, ⟨o3, o4⟩, ⟨o5, o6⟩, o7, o8, hlast⟩ := h13
    have e8 : (tf5 10).toInt = (tf 10).toInt := e8
    have e9 : (tf5 14).toInt = (tf 14).toInt := e9
    have e10 : (tf5 13).toInt = (tf 13).toInt := e10
    have e11 : (tf5 15).toInt = 1 := e11
    have e12 : R_tk_fail ta tf tf5 := e12
    have hw : pw D A s.heap H locs [wd_Tok cs ht rt ot tf5 ta tg] := hw
    exact px_vret S hr hlk hAe hw (Nat.le_of_ble_eq_true rfl) (Nat.le_of_ble_eq_true rfl) (⟨tf5, rfl, (show CurOk (tf5 10) (tf5 13) (tf5 14) (tf5 15) (tf5 17) (ta 0) from ⟨⟨by first | exact o1 | omega, by first | exact o2 | omega⟩, ⟨by first | exact o3 | omega, by first | exact o4 | omega⟩, ⟨by first | exact o5 | omega, by first | exact o6 | omega⟩, by first | exact o7 | omega, by omega, last_eq hlast (rfl)⟩), (show (tf5 10).toInt = (tf 10).toInt from by first | exact e8 | omega), (show (tf 15).toInt ≤ (tf5 15).toInt from by omega), (show (tf5 13).toInt = (tf 13).toInt + 1 - (tf5 15).toInt from by first | exact oz_b8f9a2d6ab o6 e10 e11 | omega), (show (tf5 14).toInt = (tf 14).toInt + 1 - (tf5 15).toInt from by first | exact oz_b8f9a2d6ab o6 e9 e11 | omega), (show R_tk_openBehind ta p0 tf tf5 from (Or.inl ⟨z2, ez2, Or.inl ⟨nc3, tf5, e12, rfl⟩⟩))⟩) d_Tok_openBehind_39
  · have nc3 : ¬ (60 : Int) ≤ z2.toInt := mt (i_le (x := 60) (y := z2)).mpr c3
    refine lv_aload_n S.x S.b d_Tok_openBehind_11 rfl (lv_at hl 0 rfl) ?_
    refine px_get S k_Tok hT hw 0 0 15 (v := .int (tf 15)) rfl rfl rfl (by decide) m1_121 d_Tok_openBehind_12 ?_
    refine lv_if_ne (tgt := 35) S.x S.b d_Tok_openBehind_15 (by decide) (fun c14 => ?_) (fun c14 => ?_)
    · have nc14 : ¬ (tf 15).toInt = (0 : Int) := mt (i_eq (x := (tf 15)) (y := 0)).mpr c14
      refine lv_aload_n S.x S.b d_Tok_openBehind_35 rfl (lv_at hl 0 rfl) ?_
      refine px_callv (pr := []) (px_runV (As := []) (rest := []) S (c_tk_fail l D cs ht rt ot ta tg tf   (show CurOk (tf 10) (tf 13) (tf 14) (tf 15) (tf 17) (ta 0) from ⟨⟨by first | exact o1 | omega, by first | exact o2 | omega⟩, ⟨by first | exact o3 | omega, by first | exact o4 | omega⟩, ⟨by first | exact o5 | omega, by first | exact o6 | omega⟩, by first | exact o7 | omega, by omega, last_eq hlast (rfl)⟩) _) hT (pr := []) (pcs := [wd_Tok cs ht rt ot tf ta tg]) hw px_X.tt (px_recv hT hw 0 0 rfl rfl rfl) m4_130 m4_127 m4_128 m4_129 m1_2 q_Tok_fail ⟨Nat.le_of_ble_eq_true rfl, Nat.le_of_ble_eq_true rfl⟩ hl.1 rfl (Nat.le_of_ble_eq_true rfl) d_Tok_openBehind_36 ⟨Nat.le_of_ble_eq_true rfl, Nat.le_of_ble_eq_true rfl⟩) hw hA (fun p17 H locs hp17 hw => ?_)
      obtain ⟨tf16, rfl, h24, e19, e20, e21, e22, e23⟩ := hp17
      obtain ⟨⟨o1, o2⟩, ⟨o3, o4⟩, ⟨o5, o6⟩, o7, o8, hlast⟩ := h24
      have e19 : (tf16 10).toInt = (tf 10).toInt := e19
      have e20 : (tf16 14).toInt = (tf 14).toInt := e20
      have e21 : (tf16 13).toInt = (tf 13).toInt := e21
      have e22 : (tf16 15).toInt = 1 := e22
      have e23 : R_tk_fail ta tf tf16 := e23
      have hw : pw D A s.heap H locs [wd_Tok cs ht rt ot tf16 ta tg] := hw
      exact px_vret S hr hlk hAe hw (Nat.le_of_ble_eq_true rfl) (Nat.le_of_ble_eq_true rfl) (⟨tf16, rfl, (show CurOk (tf16 10) (tf16 13) (tf16 14) (tf16 15) (tf16 17) (ta 0) from ⟨⟨by first | exact o1 | omega, by first | exact o2 | omega⟩, ⟨by first | exact o3 | omega, by first | exact o4 | omega⟩, ⟨by first | exact o5 | omega, by first | exact o6 | omega⟩, by first | exact o7 | omega, by omega, last_eq hlast (rfl)⟩), (show (tf16 10).toInt = (tf 10).toInt from by first | exact e19 | omega), (show (tf 15).toInt ≤ (tf16 15).toInt from by omega), (show (tf16 13).toInt = (tf 13).toInt + 1 - (tf16 15).toInt from by first | exact oz_b8f9a2d6ab o6 e21 e22 | omega), (show (tf16 14).toInt = (tf 14).toInt + 1 - (tf16 15).toInt from by first | exact oz_b8f9a2d6ab o6 e20 e22 | omega), (show R_tk_openBehind ta p0 tf tf16 from (Or.inl ⟨z2, ez2, Or.inr ⟨nc3, Or.inl ⟨nc14, tf16, e23, rfl⟩⟩⟩))⟩) d_Tok_openBehind_39
    · have nc14 : (tf 15).toInt = (0 : Int) := (i_eq (x := (tf 15)) (y := 0)).mp c14
      refine lv_aload_n S.x S.b d_Tok_openBehind_18 rfl (lv_at hl 0 rfl) ?_
      refine lv_dup S.x S.b d_Tok_openBehind_19 rfl ?_
      refine px_get S k_Tok hT hw 0 0 14 (v := .int (tf 14)) rfl rfl rfl (by decide) m1_119 d_Tok_openBehind_20 ?_
      refine lv_iconst (v := 1) S.x S.b d_Tok_openBehind_23 (by decide) ?_
      refine lv_iadd S.x S.b d_Tok_openBehind_24 ?_
      have lr25 := Int32.le_toInt (tf 14)
      have ur25 := Int32.toInt_lt (tf 14)
      refine lv_topi (fun z26 ez26 => ?_)
      have tz26 : z26.toInt = ((tf 14).toInt + (1 : Int) + 2147483648) % 4294967296 - 2147483648 := by rw [ez26]; exact i_add (tf 14) 1
      have lz26 := Int32.le_toInt z26
      have uz26 := Int32.toInt_lt z26
      try replace tz26 : z26.toInt = (tf 14).toInt + (1 : Int) := by omega
      refine px_put S k_Tok hT hw 0 0 14 rfl rfl (by decide) m1_119 rfl rfl rfl (Nat.le_of_ble_eq_true rfl) d_Tok_openBehind_25 (w' := wd_Tok cs ht rt ot (upd tf 14 z26) ta tg) (ps' := [wd_Tok cs ht rt ot (upd tf 14 z26) ta tg]) rfl rfl (fun H locs hw => ?_)
      refine lv_aload_n S.x S.b d_Tok_openBehind_28 rfl (lv_at hl 0 rfl) ?_
      refine px_callv (pr := []) (px_runV (As := []) (rest := []) S (c_tk_step l D cs ht rt ot ta tg (upd tf 14 z26)   (show CurOk (tf 10) (tf 13) z26 (tf 15) (tf 17) (ta 0) from ⟨⟨by first | exact o1 | omega, by first | exact o2 | omega⟩, ⟨by first | exact o3 | omega, by first | exact o4 | omega⟩, ⟨by first | exact o5 | omega, by first | exact o6 | omega⟩, by first | exact o7 | omega, by first | exact fun q9 => ⟨oz_1e8f8c9a7c tz26 nc14 o5 o8, oz_f512825771 tz26 tz2 g0 nc3⟩ | omega, last_eq hlast (rfl)⟩) _) hT (pr := []) (pcs := [wd_Tok cs ht rt ot (upd tf 14 z26) ta tg]) hw px_X.tt (px_recv hT hw 0 0 rfl rfl rfl) m4_120 m4_126 m4_118 m4_119 m1_2 q_Tok_step ⟨Nat.le_of_ble_eq_true rfl, Nat.le_of_ble_eq_true rfl⟩ hl.1 rfl (Nat.le_of_ble_eq_true rfl) d_Tok_openBehind_29 ⟨Nat.le_of_ble_eq_true rfl, Nat.le_of_ble_eq_true rfl⟩) hw hA (fun p28 H locs hp28 hw => ?_)
      obtain ⟨tf27, rfl, h37, e30, e31, e32, e33, e34, e35, e36⟩ := hp28
      obtain ⟨⟨o1, o2⟩, ⟨o3, o4⟩, ⟨o5, o6⟩, o7, o8, hlast⟩ := h37
      have e30 : (tf27 10).toInt = (tf 10).toInt := e30
      have e31 : (tf27 14).toInt = z26.toInt := e31
      have e32 : (tf27 15).toInt = (tf 15).toInt := e32
      have e33 : (tf 13).toInt ≤ (tf27 13).toInt := e33
      have e34 : (tf27 13).toInt ≤ (tf 13).toInt + 1 := e34
      have e35 : (tf 13).toInt + 1 < (tf 10).toInt → (tf27 13).toInt = (tf 13).toInt + 1 := e35
      have e36 : R_tk_step (upd tf 14 z26) tf27 := e36
      have hw : pw D A s.heap H locs [wd_Tok cs ht rt ot tf27 ta tg] := hw
      refine lv_goto (tgt := 39) S.x S.b d_Tok_openBehind_32 (by decide) ?_
      exact px_vret S hr hlk hAe hw (Nat.le_of_ble_eq_true rfl) (Nat.le_of_ble_eq_true rfl) (⟨tf27, rfl, (show CurOk (tf27 10) (tf27 13) (tf27 14) (tf27 15) (tf27 17) (ta 0) from ⟨⟨by first | exact o1 | omega, by first | exact o2 | omega⟩, ⟨by first | exact o3 | omega, by first | exact o4 | omega⟩, ⟨by first | exact o5 | omega, by first | exact o6 | omega⟩, by first | exact o7 | omega, by first | exact fun q9 => ⟨oz_99d820e332 e32 nc14 o5 o8, oz_55065d7714 e31 tz26 tz2 g0 nc3⟩ | omega, last_eq hlast (rfl)⟩), (show (tf27 10).toInt = (tf 10).toInt from by first | exact e30 | omega), (show (tf 15).toInt ≤ (tf27 15).toInt from by first | exact oz_f9b42d1b56 e32 | omega), (show (tf27 13).toInt = (tf 13).toInt + 1 - (tf27 15).toInt from by first | exact oz_569e226cae e32 e34 nc14 o5 g2 e35 | omega), (show (tf27 14).toInt = (tf 14).toInt + 1 - (tf27 15).toInt from by first | exact oz_48bebcf088 tz26 e31 e32 nc14 o5 | omega), (show R_tk_openBehind ta p0 tf tf27 from (Or.inl ⟨z2, ez2, Or.inr ⟨nc3, Or.inr ⟨nc14, z26, ez26, tf27, e36, rfl⟩⟩⟩))⟩) d_Tok_openBehind_39
set_option maxHeartbeats 4000000 in
set_option maxRecDepth 100000 in
theorem c_tk_stepBehind (l : Launch) (D : va_G) (cs : Nat → ClassId) (ht : Nat) (rt : Nat → Nat) (ot : Nat → Option Nat) (ta : Nat → Nat → Int32) (tg : Nat → Nat → Option Nat) (tf : Nat → Int32) (p0 : Int32)  (hinv0 : CurOk (tf 10) (tf 13) (tf 14) (tf 15) (tf 17) (ta 0)) (g0 : 1 ≤ p0.toInt) (g1 : p0.toInt ≤ 1000000) (g2 : (tf 13).toInt + 1 < (tf 10).toInt) : MetV l y_Tok_stepBehind b_Tok_stepBehind 2 D cs 1 22 (0) (0) [.ref ht, .int p0] [wd_Tok cs ht rt ot tf ta tg] (fun _ => True) (fun ps => ∃ (tf' : Nat → Int32), (ps = [wd_Tok cs ht rt ot tf' ta tg]) ∧ (CurOk (tf' 10) (tf' 13) (tf' 14) (tf' 15) (tf' 17) (ta 0)) ∧ ((tf' 10).toInt = (tf 10).toInt) ∧ ((tf' 14).toInt = (tf 14).toInt) ∧ ((tf 15).toInt ≤ (tf' 15).toInt) ∧ ((tf 13).toInt + 1 - (tf' 15).toInt ≤ (tf' 13).toInt) ∧ ((tf' 13).toInt ≤ (tf 13).toInt + 1) ∧ (R_tk_stepBehind ta p0 tf tf')) := by
  refine px_enter (by decide) (Nat.le_of_ble_eq_true rfl) ?_
  intro p e s m below meth c A ls hAe S hr hlk hnm hA hT hX hw hl
  have hl : lv_has ls 2 [(0, .ref ht), (1, .int p0)] := hl
  have lp0 := Int32.le_toInt p0
  have up0 := Int32.toInt_lt p0
  have cst60 : (60 : Int32).toInt = 60 := rfl
  obtain ⟨⟨o1, o2⟩, ⟨o3, o4⟩, ⟨o5, o6⟩, o7, o8, hlast⟩ := hinv0
  refine lv_aload_n S.x S.b d_Tok_stepBehind_0 rfl (lv_at hl 0 rfl) ?_
  refine px_get S k_Tok hT hw 0 0 14 (v := .int (tf 14)) rfl rfl rfl (by decide) m1_119 d_Tok_stepBehind_1 ?_
  refine lv_iload_n S.x S.b d_Tok_stepBehind_4 rfl (lv_at hl 1 rfl) ?_
  refine lv_iadd S.x S.b d_Tok_stepBehind_5 ?_
  have lr1 := Int32.le_toInt (tf 14)
  have ur1 := Int32.toInt_lt (tf 14)
  refine lv_topi (fun z2 ez2 => ?_)
  have tz2 : z2.toInt = ((tf 14).toInt + p0.toInt + 2147483648) % 4294967296 - 2147483648 := by rw [ez2]; exact i_add (tf 14) p0
  have lz2 := Int32.le_toInt z2
  have uz2 := Int32.toInt_lt z2
  try replace tz2 : z2.toInt = (tf 14).toInt + p0.toInt := by omega
  refine lv_bipush (v := 60) S.x S.b d_Tok_stepBehind_6 (by decide) ?_
  refine lv_icmp_ge (tgt := 18) S.x S.b d_Tok_stepBehind_8 (by decide) (fun c3 => ?_) (fun c3 => ?_)
  · have nc3 : (60 : Int) ≤ z2.toInt := (i_le (x := 60) (y := z2)).mp c3
    refine lv_aload_n S.x S.b d_Tok_stepBehind_18 rfl (lv_at hl 0 rfl) ?_
    refine px_callv (pr := []) (px_runV (As := []) (rest := []) S (c_tk_fail l D cs ht rt ot ta tg tf   (show CurOk (tf 10) (tf 13) (tf 14) (tf 15) (tf 17) (ta 0) from ⟨⟨by first | exact o1 | omega, by first | exact o2 | omega⟩, ⟨by first | exact o3 | omega, by first | exact o4 | omega⟩, ⟨by first | exact o5 | omega, by first | exact o6 | omega⟩, by first | exact o7 | omega, by omega, last_eq hlast (rfl)⟩) _) hT (pr := []) (pcs := [wd_Tok cs ht rt ot tf ta tg]) hw px_X.tt (px_recv hT hw 0 0 rfl rfl rfl) m4_130 m4_127 m4_128 m4_129 m1_2 q_Tok_fail ⟨Nat.le_of_ble_eq_true rfl, Nat.le_of_ble_eq_true rfl⟩ hl.1 rfl (Nat.le_of_ble_eq_true rfl) d_Tok_stepBehind_19 ⟨Nat.le_of_ble_eq_true rfl, Nat.le_of_ble_eq_true rfl⟩) hw hA (fun p6 H locs hp6 hw => ?_)
    obtain ⟨tf5, rfl, h13, e8, e9, e10, e11, e12⟩ := hp6
    obtain ⟨⟨o1, o2⟩, ⟨o3, o4⟩, ⟨o5, o6⟩, o7, o8, hlast⟩ := h13
    have e8 : (tf5 10).toInt = (tf 10).toInt := e8
    have e9 : (tf5 14).toInt = (tf 14).toInt := e9
    have e10 : (tf5 13).toInt = (tf 13).toInt := e10
    have e11 : (tf5 15).toInt = 1 := e11
    have e12 : R_tk_fail ta tf tf5 := e12
    have hw : pw D A s.heap H locs [wd_Tok cs ht rt ot tf5 ta tg] := hw
    exact px_vret S hr hlk hAe hw (Nat.le_of_ble_eq_true rfl) (Nat.le_of_ble_eq_true rfl) (⟨tf5, rfl, (show CurOk (tf5 10) (tf5 13) (tf5 14) (tf5 15) (tf5 17) (ta 0) from ⟨⟨by first | exact o1 | omega, by first | exact o2 | omega⟩, ⟨by first | exact o3 | omega, by first | exact o4 | omega⟩, ⟨by first | exact o5 | omega, by first | exact o6 | omega⟩, by first | exact o7 | omega, by omega, last_eq hlast (rfl)⟩), (show (tf5 10).toInt = (tf 10).toInt from by first | exact e8 | omega), (show (tf5 14).toInt = (tf 14).toInt from by first | exact e9 | omega), (show (tf 15).toInt ≤ (tf5 15).toInt from by omega), (show (tf 13).toInt + 1 - (tf5 15).toInt ≤ (tf5 13).toInt from by first | exact oz_7a6c98ba13 e10 e11 | omega), (show (tf5 13).toInt ≤ (tf 13).toInt + 1 from by first | exact oz_6f36359277 e10 | omega), (show R_tk_stepBehind ta p0 tf tf5 from (Or.inl ⟨z2, ez2, Or.inl ⟨nc3, tf5, e12, rfl⟩⟩))⟩) d_Tok_stepBehind_22
  · have nc3 : ¬ (60 : Int) ≤ z2.toInt := mt (i_le (x := 60) (y := z2)).mpr c3
    refine lv_aload_n S.x S.b d_Tok_stepBehind_11 rfl (lv_at hl 0 rfl) ?_
    refine px_callv (pr := []) (px_runV (As := []) (rest := []) S (c_tk_step l D cs ht rt ot ta tg tf   (show CurOk (tf 10) (tf 13) (tf 14) (tf 15) (tf 17) (ta 0) from ⟨⟨by first | exact o1 | omega, by first | exact o2 | omega⟩, ⟨by first | exact o3 | omega, by first | exact o4 | omega⟩, ⟨by first | exact o5 | omega, by first | exact o6 | omega⟩, by first | exact o7 | omega, by omega, last_eq hlast (rfl)⟩) _) hT (pr := []) (pcs := [wd_Tok cs ht rt ot tf ta tg]) hw px_X.tt (px_recv hT hw 0 0 rfl rfl rfl) m4_120 m4_126 m4_118 m4_119 m1_2 q_Tok_step ⟨Nat.le_of_ble_eq_true rfl, Nat.le_of_ble_eq_true rfl⟩ hl.1 rfl (Nat.le_of_ble_eq_true rfl) d_Tok_stepBehind_12 ⟨Nat.le_of_ble_eq_true rfl, Nat.le_of_ble_eq_true rfl⟩) hw hA (fun p15 H locs hp15 hw => ?_)
    obtain ⟨tf14, rfl, h24, e17, e18, e19, e20, e21, e22, e23⟩ := hp15
    obtain ⟨⟨o1, o2⟩, ⟨o3, o4⟩, ⟨o5, o6⟩, o7, o8, hlast⟩ := h24
    have e17 : (tf14 10).toInt = (tf 10).toInt := e17
    have e18 : (tf14 14).toInt = (tf 14).toInt := e18
    have e19 : (tf14 15).toInt = (tf 15).toInt := e19
    have e20 : (tf 13).toInt ≤ (tf14 13).toInt := e20
    have e21 : (tf14 13).toInt ≤ (tf 13).toInt + 1 := e21
    have e22 : (tf 13).toInt + 1 < (tf 10).toInt → (tf14 13).toInt = (tf 13).toInt + 1 := e22
    have e23 : R_tk_step tf tf14 := e23
    have hw : pw D A s.heap H locs [wd_Tok cs ht rt ot tf14 ta tg] := hw
    refine lv_goto (tgt := 22) S.x S.b d_Tok_stepBehind_15 (by decide) ?_
    exact px_vret S hr hlk hAe hw (Nat.le_of_ble_eq_true rfl) (Nat.le_of_ble_eq_true rfl) (⟨tf14, rfl, (show CurOk (tf14 10) (tf14 13) (tf14 14) (tf14 15) (tf14 17) (ta 0) from ⟨⟨by first | exact o1 | omega, by first | exact o2 | omega⟩, ⟨by first | exact o3 | omega, by first | exact o4 | omega⟩, ⟨by first | exact o5 | omega, by first | exact o6 | omega⟩, by first | exact o7 | omega, by omega, last_eq hlast (rfl)⟩), (show (tf14 10).toInt = (tf 10).toInt from by first | exact e17 | omega), (show (tf14 14).toInt = (tf 14).toInt from by first | exact e18 | omega), (show (tf 15).toInt ≤ (tf14 15).toInt from by first | exact oz_f9b42d1b56 e19 | omega), (show (tf 13).toInt + 1 - (tf14 15).toInt ≤ (tf14 13).toInt from by first | exact oz_9fa7515a64 o5 g2 e22 | omega), (show (tf14 13).toInt ≤ (tf 13).toInt + 1 from by first | exact e21 | omega), (show R_tk_stepBehind ta p0 tf tf14 from (Or.inl ⟨z2, ez2, Or.inr ⟨nc3, tf14, e23, rfl⟩⟩))⟩) d_Tok_stepBehind_22
set_option maxHeartbeats 4000000 in
set_option maxRecDepth 100000 in
theorem c_tk_close (l : Launch) (D : va_G) (cs : Nat → ClassId) (ht : Nat) (rt : Nat → Nat) (ot : Nat → Option Nat) (ta : Nat → Nat → Int32) (tg : Nat → Nat → Option Nat) (tf : Nat → Int32) (p0 : Int32)  (hinv0 : CurOk (tf 10) (tf 13) (tf 14) (tf 15) (tf 17) (ta 0)) (g0 : p0.toInt ≠ 0) (g1 : p0.toInt ≠ 19) (g2 : (tf 15).toInt = 1 ∨ 1 ≤ (tf 14).toInt) : MetV l y_Tok_close b_Tok_close 2 D cs 1 22 (0) (0) [.ref ht, .int p0] [wd_Tok cs ht rt ot tf ta tg] (fun _ => True) (fun ps => ∃ (tf' : Nat → Int32), (ps = [wd_Tok cs ht rt ot tf' ta tg]) ∧ (CurOk (tf' 10) (tf' 13) (tf' 14) (tf' 15) (tf' 17) (ta 0)) ∧ ((tf' 10).toInt = (tf 10).toInt) ∧ ((tf 15).toInt ≤ (tf' 15).toInt) ∧ ((tf' 13).toInt = (tf 13).toInt + 1 - (tf' 15).toInt) ∧ ((tf' 15).toInt = 0 → (tf' 14).toInt = (tf 14).toInt - 1) ∧ (R_tk_close ta p0 tf tf')) := by
  refine px_enter (by decide) (Nat.le_of_ble_eq_true rfl) ?_
  intro p e s m below meth c A ls hAe S hr hlk hnm hA hT hX hw hl
  have hl : lv_has ls 2 [(0, .ref ht), (1, .int p0)] := hl
  have lp0 := Int32.le_toInt p0
  have up0 := Int32.toInt_lt p0
  have cst1 : (1 : Int32).toInt = 1 := rfl
  obtain ⟨⟨o1, o2⟩, ⟨o3, o4⟩, ⟨o5, o6⟩, o7, o8, hlast⟩ := hinv0
  refine lv_aload_n S.x S.b d_Tok_close_0 rfl (lv_at hl 0 rfl) ?_
  refine px_calli (pr := []) (px_runV (As := []) (rest := []) S (c_tk_kind l D cs ht rt ot ta tg tf   (show CurOk (tf 10) (tf 13) (tf 14) (tf 15) (tf 17) (ta 0) from ⟨⟨by first | exact o1 | omega, by first | exact o2 | omega⟩, ⟨by first | exact o3 | omega, by first | exact o4 | omega⟩, ⟨by first | exact o5 | omega, by first | exact o6 | omega⟩, by first | exact o7 | omega, by omega, last_eq hlast (rfl)⟩) _) hT (pr := []) (pcs := [wd_Tok cs ht rt ot tf ta tg]) hw px_X.tt (px_recv hT hw 0 0 rfl rfl rfl) m4_108 m4_125 m4_106 m4_107 m1_2 q_Tok_kind ⟨Nat.le_of_ble_eq_true rfl, Nat.le_of_ble_eq_true rfl⟩ hl.1 rfl (Nat.le_of_ble_eq_true rfl) d_Tok_close_1 ⟨Nat.le_of_ble_eq_true rfl, Nat.le_of_ble_eq_true rfl⟩) hw hA (fun v2 p1 H locs hp1 hw => ?_)
  obtain ⟨rfl, e3, e4, e5⟩ := hp1
  have e3 : (tf 15).toInt = 1 → v2.toInt = 19 := e3
  have e4 : v2.toInt = 0 ∨ v2.toInt = 19 ∨ (tf 13).toInt + 1 < (tf 10).toInt := e4
  have e5 : R_tk_kind ta tf v2 := e5
  have hw : pw D A s.heap H locs [wd_Tok cs ht rt ot tf ta tg] := hw
  have lv2 := Int32.le_toInt v2
  have uv2 := Int32.toInt_lt v2
  refine lv_iload_n S.x S.b d_Tok_close_4 rfl (lv_at hl 1 rfl) ?_
  refine lv_icmp_ne (tgt := 15) S.x S.b d_Tok_close_5 (by decide) (fun c6 => ?_) (fun c6 => ?_)
  · have nc6 : ¬ v2.toInt = p0.toInt := mt (i_eq (x := v2) (y := p0)).mpr c6
    refine lv_aload_n S.x S.b d_Tok_close_15 rfl (lv_at hl 0 rfl) ?_
    refine px_callv (pr := []) (px_runV (As := []) (rest := []) S (c_tk_fail l D cs ht rt ot ta tg tf   (show CurOk (tf 10) (tf 13) (tf 14) (tf 15) (tf 17) (ta 0) from ⟨⟨by first | exact o1 | omega, by first | exact o2 | omega⟩, ⟨by first | exact o3 | omega, by first | exact o4 | omega⟩, ⟨by first | exact o5 | omega, by first | exact o6 | omega⟩, by first | exact o7 | omega, by omega, last_eq hlast (rfl)⟩) _) hT (pr := []) (pcs := [wd_Tok cs ht rt ot tf ta tg]) hw px_X.tt (px_recv hT hw 0 0 rfl rfl rfl) m4_130 m4_127 m4_128 m4_129 m1_2 q_Tok_fail ⟨Nat.le_of_ble_eq_true rfl, Nat.le_of_ble_eq_true rfl⟩ hl.1 rfl (Nat.le_of_ble_eq_true rfl) d_Tok_close_16 ⟨Nat.le_of_ble_eq_true rfl, Nat.le_of_ble_eq_true rfl⟩) hw hA (fun p9 H locs hp9 hw => ?_)
    obtain ⟨tf8, rfl, h16, e11, e12, e13, e14, e15⟩ := hp9
    obtain ⟨⟨o1, o2⟩, ⟨o3, o4⟩, ⟨o5, o6⟩, o7, o8, hlast⟩ := h16
    have e11 : (tf8 10).toInt = (tf 10).toInt := e11
    have e12 : (tf8 14).toInt = (tf 14).toInt := e12
    have e13 : (tf8 13).toInt = (tf 13).toInt := e13
    have e14 : (tf8 15).toInt = 1 := e14
    have e15 : R_tk_fail ta tf tf8 := e15
    have hw : pw D A s.heap H locs [wd_Tok cs ht rt ot tf8 ta tg] := hw
    refine lv_aload_n S.x S.b d_Tok_close_19 rfl (lv_at hl 0 rfl) ?_
    refine lv_dup S.x S.b d_Tok_close_20 rfl ?_
    refine px_get S k_Tok hT hw 0 0 14 (v := .int (tf8 14)) rfl rfl rfl (by decide) m1_119 d_Tok_close_21 ?_
    refine lv_iconst (v := 1) S.x S.b d_Tok_close_24 (by decide) ?_
    refine lv_isub S.x S.b d_Tok_close_25 ?_
    have lr17 := Int32.le_toInt (tf8 14)
    have ur17 := Int32.toInt_lt (tf8 14)
    refine lv_topi (fun z18 ez18 => ?_)
    have tz18 : z18.toInt = ((tf8 14).toInt - (1 : Int) + 2147483648) % 4294967296 - 2147483648 := by rw [ez18]; exact i_sub (tf8 14) 1
    have lz18 := Int32.le_toInt z18
    have uz18 := Int32.toInt_lt z18
    try replace tz18 : z18.toInt = (tf8 14).toInt - (1 : Int) := by omega
    refine px_put S k_Tok hT hw 0 0 14 rfl rfl (by decide) m1_119 rfl rfl rfl (Nat.le_of_ble_eq_true rfl) d_Tok_close_26 (w' := wd_Tok cs ht rt ot (upd tf8 14 z18) ta tg) (ps' := [wd_Tok cs ht rt ot (upd tf8 14 z18) ta tg]) rfl rfl (fun H locs hw => ?_)
    exact px_vret S hr hlk hAe hw (Nat.le_of_ble_eq_true rfl) (Nat.le_of_ble_eq_true rfl) (⟨(upd tf8 14 z18), rfl, (show CurOk (tf8 10) (tf8 13) z18 (tf8 15) (tf8 17) (ta 0) from ⟨⟨by first | exact o1 | omega, by first | exact o2 | omega⟩, ⟨by first | exact o3 | omega, by first | exact o4 | omega⟩, ⟨by first | exact o5 | omega, by first | exact o6 | omega⟩, by first | exact o7 | omega, by omega, last_eq hlast (rfl)⟩), (show (tf8 10).toInt = (tf 10).toInt from by first | exact e11 | omega), (show (tf 15).toInt ≤ (tf8 15).toInt from by omega), (show (tf8 13).toInt = (tf 13).toInt + 1 - (tf8 15).toInt from by first | exact oz_b8f9a2d6ab o6 e13 e14 | omega), (show (tf8 15).toInt = 0 → z18.toInt = (tf 14).toInt - 1 from by first | exact fun q9 => oz_7fdc63a1c9 e12 tz18 | omega), (show R_tk_close ta p0 tf (upd tf8 14 z18) from (Or.inl ⟨v2, e5, Or.inl ⟨nc6, tf8, e15, z18, ez18, rfl⟩⟩))⟩) d_Tok_close_29
  · have nc6 : v2.toInt = p0.toInt := (i_eq (x := v2) (y := p0)).mp c6
    refine lv_aload_n S.x S.b d_Tok_close_8 rfl (lv_at hl 0 rfl) ?_
    refine px_callv (pr := []) (px_runV (As := []) (rest := []) S (c_tk_step l D cs ht rt ot ta tg tf   (show CurOk (tf 10) (tf 13) (tf 14) (tf 15) (tf 17) (ta 0) from ⟨⟨by first | exact o1 | omega, by first | exact o2 | omega⟩, ⟨by first | exact o3 | omega, by first | exact o4 | omega⟩, ⟨by first | exact o5 | omega, by first | exact o6 | omega⟩, by first | exact o7 | omega, by omega, last_eq hlast (rfl)⟩) _) hT (pr := []) (pcs := [wd_Tok cs ht rt ot tf ta tg]) hw px_X.tt (px_recv hT hw 0 0 rfl rfl rfl) m4_120 m4_126 m4_118 m4_119 m1_2 q_Tok_step ⟨Nat.le_of_ble_eq_true rfl, Nat.le_of_ble_eq_true rfl⟩ hl.1 rfl (Nat.le_of_ble_eq_true rfl) d_Tok_close_9 ⟨Nat.le_of_ble_eq_true rfl, Nat.le_of_ble_eq_true rfl⟩) hw hA (fun p20 H locs hp20 hw => ?_)
    obtain ⟨tf19, rfl, h29, e22, e23, e24, e25, e26, e27, e28⟩ := hp20
    obtain ⟨⟨o1, o2⟩, ⟨o3, o4⟩, ⟨o5, o6⟩, o7, o8, hlast⟩ := h29
    have e22 : (tf19 10).toInt = (tf 10).toInt := e22
    have e23 : (tf19 14).toInt = (tf 14).toInt := e23
    have e24 : (tf19 15).toInt = (tf 15).toInt := e24
    have e25 : (tf 13).toInt ≤ (tf19 13).toInt := e25
    have e26 : (tf19 13).toInt ≤ (tf 13).toInt + 1 := e26
    have e27 : (tf 13).toInt + 1 < (tf 10).toInt → (tf19 13).toInt = (tf 13).toInt + 1 := e27
    have e28 : R_tk_step tf tf19 := e28
    have hw : pw D A s.heap H locs [wd_Tok cs ht rt ot tf19 ta tg] := hw
    refine lv_goto (tgt := 19) S.x S.b d_Tok_close_12 (by decide) ?_
    refine lv_aload_n S.x S.b d_Tok_close_19 rfl (lv_at hl 0 rfl) ?_
    refine lv_dup S.x S.b d_Tok_close_20 rfl ?_
    refine px_get S k_Tok hT hw 0 0 14 (v := .int (tf19 14)) rfl rfl rfl (by decide) m1_119 d_Tok_close_21 ?_
    refine lv_iconst (v := 1) S.x S.b d_Tok_close_24 (by decide) ?_
    refine lv_isub S.x S.b d_Tok_close_25 ?_
    have lr30 := Int32.le_toInt (tf19 14)
    have ur30 := Int32.toInt_lt (tf19 14)
    refine lv_topi (fun z31 ez31 => ?_)
    have tz31 : z31.toInt = ((tf19 14).toInt - (1 : Int) + 2147483648) % 4294967296 - 2147483648 := by rw [ez31]; exact i_sub (tf19 14) 1
    have lz31 := Int32.le_toInt z31
    have uz31 := Int32.toInt_lt z31
    try replace tz31 : z31.toInt = (tf19 14).toInt - (1 : Int) := by omega
    refine px_put S k_Tok hT hw 0 0 14 rfl rfl (by decide) m1_119 rfl rfl rfl (Nat.le_of_ble_eq_true rfl) d_Tok_close_26 (w' := wd_Tok cs ht rt ot (upd tf19 14 z31) ta tg) (ps' := [wd_Tok cs ht rt ot (upd tf19 14 z31) ta tg]) rfl rfl (fun H locs hw => ?_)
    exact px_vret S hr hlk hAe hw (Nat.le_of_ble_eq_true rfl) (Nat.le_of_ble_eq_true rfl) (⟨(upd tf19 14 z31), rfl, (show CurOk (tf19 10) (tf19 13) z31 (tf19 15) (tf19 17) (ta 0) from ⟨⟨by first | exact o1 | omega, by first | exact o2 | omega⟩, ⟨by first | exact o3 | omega, by first | exact o4 | omega⟩, ⟨by first | exact o5 | omega, by first | exact o6 | omega⟩, by first | exact o7 | omega, by omega, last_eq hlast (rfl)⟩), (show (tf19 10).toInt = (tf 10).toInt from by first | exact e22 | omega), (show (tf 15).toInt ≤ (tf19 15).toInt from by first | exact oz_f9b42d1b56 e24 | omega), (show (tf19 13).toInt = (tf 13).toInt + 1 - (tf19 15).toInt from by omega), (show (tf19 15).toInt = 0 → z31.toInt = (tf 14).toInt - 1 from by first | exact fun q9 => oz_7fdc63a1c9 e23 tz31 | omega), (show R_tk_close ta p0 tf (upd tf19 14 z31) from (Or.inl ⟨v2, e5, Or.inr ⟨nc6, tf19, e28, z31, ez31, rfl⟩⟩))⟩) d_Tok_close_29
set_option maxHeartbeats 4000000 in
set_option maxRecDepth 100000 in
theorem c_tk_shut (l : Launch) (D : va_G) (cs : Nat → ClassId) (ht : Nat) (rt : Nat → Nat) (ot : Nat → Option Nat) (ta : Nat → Nat → Int32) (tg : Nat → Nat → Option Nat) (tf : Nat → Int32)  (hinv0 : CurOk (tf 10) (tf 13) (tf 14) (tf 15) (tf 17) (ta 0)) (g0 : (tf 15).toInt = 1 ∨ 1 ≤ (tf 14).toInt) : MetV l y_Tok_shut b_Tok_shut 1 D cs 0 0 (0) (0) [.ref ht] [wd_Tok cs ht rt ot tf ta tg] (fun _ => True) (fun ps => ∃ (tf' : Nat → Int32), (ps = [wd_Tok cs ht rt ot tf' ta tg]) ∧ (CurOk (tf' 10) (tf' 13) (tf' 14) (tf' 15) (tf' 17) (ta 0)) ∧ ((tf' 10).toInt = (tf 10).toInt) ∧ ((tf' 13).toInt = (tf 13).toInt) ∧ ((tf' 15).toInt = (tf 15).toInt) ∧ ((tf' 15).toInt = 0 → (tf' 14).toInt = (tf 14).toInt - 1) ∧ (R_tk_shut tf tf')) := by
  refine px_enter (by decide) (Nat.le_of_ble_eq_true rfl) ?_
  intro p e s m below meth c A ls hAe S hr hlk hnm hA hT hX hw hl
  have hl : lv_has ls 1 [(0, .ref ht)] := hl
  have cst1 : (1 : Int32).toInt = 1 := rfl
  obtain ⟨⟨o1, o2⟩, ⟨o3, o4⟩, ⟨o5, o6⟩, o7, o8, hlast⟩ := hinv0
  refine lv_aload_n S.x S.b d_Tok_shut_0 rfl (lv_at hl 0 rfl) ?_
  refine lv_dup S.x S.b d_Tok_shut_1 rfl ?_
  refine px_get S k_Tok hT hw 0 0 14 (v := .int (tf 14)) rfl rfl rfl (by decide) m1_119 d_Tok_shut_2 ?_
  refine lv_iconst (v := 1) S.x S.b d_Tok_shut_5 (by decide) ?_
  refine lv_isub S.x S.b d_Tok_shut_6 ?_
  have lr1 := Int32.le_toInt (tf 14)
  have ur1 := Int32.toInt_lt (tf 14)
  refine lv_topi (fun z2 ez2 => ?_)
  have tz2 : z2.toInt = ((tf 14).toInt - (1 : Int) + 2147483648) % 4294967296 - 2147483648 := by rw [ez2]; exact i_sub (tf 14) 1
  have lz2 := Int32.le_toInt z2
  have uz2 := Int32.toInt_lt z2
  try replace tz2 : z2.toInt = (tf 14).toInt - (1 : Int) := by omega
  refine px_put S k_Tok hT hw 0 0 14 rfl rfl (by decide) m1_119 rfl rfl rfl (Nat.le_of_ble_eq_true rfl) d_Tok_shut_7 (w' := wd_Tok cs ht rt ot (upd tf 14 z2) ta tg) (ps' := [wd_Tok cs ht rt ot (upd tf 14 z2) ta tg]) rfl rfl (fun H locs hw => ?_)
  exact px_vret S hr hlk hAe hw (Nat.le_of_ble_eq_true rfl) (Nat.le_of_ble_eq_true rfl) (⟨(upd tf 14 z2), rfl, (show CurOk (tf 10) (tf 13) z2 (tf 15) (tf 17) (ta 0) from ⟨⟨by first | exact o1 | omega, by first | exact o2 | omega⟩, ⟨by first | exact o3 | omega, by first | exact o4 | omega⟩, ⟨by first | exact o5 | omega, by first | exact o6 | omega⟩, by first | exact o7 | omega, by omega, last_eq hlast (rfl)⟩), (show (tf 10).toInt = (tf 10).toInt from rfl), (show (tf 13).toInt = (tf 13).toInt from rfl), (show (tf 15).toInt = (tf 15).toInt from rfl), (show (tf 15).toInt = 0 → z2.toInt = (tf 14).toInt - 1 from by first | exact fun q9 => oz_cfe616fd96 tz2 | omega), (show R_tk_shut tf (upd tf 14 z2) from (Or.inl ⟨z2, ez2, rfl⟩))⟩) d_Tok_shut_10
set_option maxHeartbeats 4000000 in
set_option maxRecDepth 100000 in
theorem c_tk_blame (l : Launch) (D : va_G) (cs : Nat → ClassId) (ht : Nat) (rt : Nat → Nat) (ot : Nat → Option Nat) (ta : Nat → Nat → Int32) (tg : Nat → Nat → Option Nat) (tf : Nat → Int32) (p0 p1 : Int32)  (hinv0 : CurOk (tf 10) (tf 13) (tf 14) (tf 15) (tf 17) (ta 0)) (g0 : 0 ≤ p1.toInt) : MetV l y_Tok_blame b_Tok_blame 3 D cs 0 0 (0) (0) [.ref ht, .int p0, .int p1] [wd_Tok cs ht rt ot tf ta tg] (fun _ => True) (fun ps => ∃ (tf' : Nat → Int32), (ps = [wd_Tok cs ht rt ot tf' ta tg]) ∧ (CurOk (tf' 10) (tf' 13) (tf' 14) (tf' 15) (tf' 17) (ta 0)) ∧ ((tf' 10).toInt = (tf 10).toInt) ∧ ((tf' 14).toInt = (tf 14).toInt) ∧ ((tf' 15).toInt = (tf 15).toInt) ∧ ((tf' 13).toInt = (tf 13).toInt) ∧ (R_tk_blame p0 p1 tf tf')) := by
  refine px_enter (by decide) (Nat.le_of_ble_eq_true rfl) ?_
  intro p e s m below meth c A ls hAe S hr hlk hnm hA hT hX hw hl
  have hl : lv_has ls 3 [(0, .ref ht), (1, .int p0), (2, .int p1)] := hl
  have lp0 := Int32.le_toInt p0
  have up0 := Int32.toInt_lt p0
  have lp1 := Int32.le_toInt p1
  have up1 := Int32.toInt_lt p1
  obtain ⟨⟨o1, o2⟩, ⟨o3, o4⟩, ⟨o5, o6⟩, o7, o8, hlast⟩ := hinv0
  refine lv_iload_n S.x S.b d_Tok_blame_0 rfl (lv_at hl 2 rfl) ?_
  refine lv_aload_n S.x S.b d_Tok_blame_1 rfl (lv_at hl 0 rfl) ?_
  refine px_get S k_Tok hT hw 0 0 17 (v := .int (tf 17)) rfl rfl rfl (by decide) m1_123 d_Tok_blame_2 ?_
  refine lv_icmp_lt (tgt := 24) S.x S.b d_Tok_blame_5 (by decide) (fun c1 => ?_) (fun c1 => ?_)
  · have nc1 : p1.toInt < (tf 17).toInt := (i_lt (x := p1) (y := (tf 17))).mp c1
    refine lv_aload_n S.x S.b d_Tok_blame_24 rfl (lv_at hl 0 rfl) ?_
    refine lv_iload_n S.x S.b d_Tok_blame_25 rfl (lv_at hl 2 rfl) ?_
    refine px_put S k_Tok hT hw 0 0 17 rfl rfl (by decide) m1_123 rfl rfl rfl (Nat.le_of_ble_eq_true rfl) d_Tok_blame_26 (w' := wd_Tok cs ht rt ot (upd tf 17 p1) ta tg) (ps' := [wd_Tok cs ht rt ot (upd tf 17 p1) ta tg]) rfl rfl (fun H locs hw => ?_)
    refine lv_aload_n S.x S.b d_Tok_blame_29 rfl (lv_at hl 0 rfl) ?_
    refine lv_iload_n S.x S.b d_Tok_blame_30 rfl (lv_at hl 1 rfl) ?_
    refine px_put S k_Tok hT hw 0 0 18 rfl rfl (by decide) m1_125 rfl rfl rfl (Nat.le_of_ble_eq_true rfl) d_Tok_blame_31 (w' := wd_Tok cs ht rt ot (upd (upd tf 17 p1) 18 p0) ta tg) (ps' := [wd_Tok cs ht rt ot (upd (upd tf 17 p1) 18 p0) ta tg]) rfl rfl (fun H locs hw => ?_)
    exact px_vret S hr hlk hAe hw (Nat.le_of_ble_eq_true rfl) (Nat.le_of_ble_eq_true rfl) (⟨(upd (upd tf 17 p1) 18 p0), rfl, (show CurOk (tf 10) (tf 13) (tf 14) (tf 15) p1 (ta 0) from ⟨⟨by first | exact o1 | omega, by first | exact o2 | omega⟩, ⟨by first | exact o3 | omega, by first | exact o4 | omega⟩, ⟨by first | exact o5 | omega, by first | exact o6 | omega⟩, by first | exact g0 | omega, by omega, last_eq hlast (rfl)⟩), (show (tf 10).toInt = (tf 10).toInt from rfl), (show (tf 14).toInt = (tf 14).toInt from rfl), (show (tf 15).toInt = (tf 15).toInt from rfl), (show (tf 13).toInt = (tf 13).toInt from rfl), (show R_tk_blame p0 p1 tf (upd (upd tf 17 p1) 18 p0) from (Or.inl (Or.inl ⟨nc1, rfl⟩)))⟩) d_Tok_blame_34
  · have nc1 : ¬ p1.toInt < (tf 17).toInt := mt (i_lt (x := p1) (y := (tf 17))).mpr c1
    refine lv_iload_n S.x S.b d_Tok_blame_8 rfl (lv_at hl 2 rfl) ?_
    refine lv_aload_n S.x S.b d_Tok_blame_9 rfl (lv_at hl 0 rfl) ?_
    refine px_get S k_Tok hT hw 0 0 17 (v := .int (tf 17)) rfl rfl rfl (by decide) m1_123 d_Tok_blame_10 ?_
    refine lv_icmp_ne (tgt := 34) S.x S.b d_Tok_blame_13 (by decide) (fun c3 => ?_) (fun c3 => ?_)
    · have nc3 : ¬ p1.toInt = (tf 17).toInt := mt (i_eq (x := p1) (y := (tf 17))).mpr c3
      exact px_vret S hr hlk hAe hw (Nat.le_of_ble_eq_true rfl) (Nat.le_of_ble_eq_true rfl) (⟨tf, rfl, (show CurOk (tf 10) (tf 13) (tf 14) (tf 15) (tf 17) (ta 0) from ⟨⟨by first | exact o1 | omega, by first | exact o2 | omega⟩, ⟨by first | exact o3 | omega, by first | exact o4 | omega⟩, ⟨by first | exact o5 | omega, by first | exact o6 | omega⟩, by first | exact o7 | omega, by omega, last_eq hlast (rfl)⟩), (show (tf 10).toInt = (tf 10).toInt from rfl), (show (tf 14).toInt = (tf 14).toInt from rfl), (show (tf 15).toInt = (tf 15).toInt from rfl), (show (tf 13).toInt = (tf 13).toInt from rfl), (show R_tk_blame p0 p1 tf tf from (Or.inl (Or.inr ⟨nc1, Or.inl ⟨nc3, rfl⟩⟩)))⟩) d_Tok_blame_34
    · have nc3 : p1.toInt = (tf 17).toInt := (i_eq (x := p1) (y := (tf 17))).mp c3
      refine lv_iload_n S.x S.b d_Tok_blame_16 rfl (lv_at hl 1 rfl) ?_
      refine lv_aload_n S.x S.b d_Tok_blame_17 rfl (lv_at hl 0 rfl) ?_
      refine px_get S k_Tok hT hw 0 0 18 (v := .int (tf 18)) rfl rfl rfl (by decide) m1_125 d_Tok_blame_18 ?_
      refine lv_icmp_ge (tgt := 34) S.x S.b d_Tok_blame_21 (by decide) (fun c5 => ?_) (fun c5 => ?_)
      · have nc5 : (tf 18).toInt ≤ p0.toInt := (i_le (x := (tf 18)) (y := p0)).mp c5
        exact px_vret S hr hlk hAe hw (Nat.le_of_ble_eq_true rfl) (Nat.le_of_ble_eq_true rfl) (⟨tf, rfl, (show CurOk (tf 10) (tf 13) (tf 14) (tf 15) (tf 17) (ta 0) from ⟨⟨by first | exact o1 | omega, by first | exact o2 | omega⟩, ⟨by first | exact o3 | omega, by first | exact o4 | omega⟩, ⟨by first | exact o5 | omega, by first | exact o6 | omega⟩, by first | exact o7 | omega, by omega, last_eq hlast (rfl)⟩), (show (tf 10).toInt = (tf 10).toInt from rfl), (show (tf 14).toInt = (tf 14).toInt from rfl), (show (tf 15).toInt = (tf 15).toInt from rfl), (show (tf 13).toInt = (tf 13).toInt from rfl), (show R_tk_blame p0 p1 tf tf from (Or.inl (Or.inr ⟨nc1, Or.inr ⟨nc3, Or.inl ⟨nc5, rfl⟩⟩⟩)))⟩) d_Tok_blame_34
      · have nc5 : ¬ (tf 18).toInt ≤ p0.toInt := mt (i_le (x := (tf 18)) (y := p0)).mpr c5
        refine lv_aload_n S.x S.b d_Tok_blame_24 rfl (lv_at hl 0 rfl) ?_
        refine lv_iload_n S.x S.b d_Tok_blame_25 rfl (lv_at hl 2 rfl) ?_
        refine px_put S k_Tok hT hw 0 0 17 rfl rfl (by decide) m1_123 rfl rfl rfl (Nat.le_of_ble_eq_true rfl) d_Tok_blame_26 (w' := wd_Tok cs ht rt ot (upd tf 17 p1) ta tg) (ps' := [wd_Tok cs ht rt ot (upd tf 17 p1) ta tg]) rfl rfl (fun H locs hw => ?_)
        refine lv_aload_n S.x S.b d_Tok_blame_29 rfl (lv_at hl 0 rfl) ?_
        refine lv_iload_n S.x S.b d_Tok_blame_30 rfl (lv_at hl 1 rfl) ?_
        refine px_put S k_Tok hT hw 0 0 18 rfl rfl (by decide) m1_125 rfl rfl rfl (Nat.le_of_ble_eq_true rfl) d_Tok_blame_31 (w' := wd_Tok cs ht rt ot (upd (upd tf 17 p1) 18 p0) ta tg) (ps' := [wd_Tok cs ht rt ot (upd (upd tf 17 p1) 18 p0) ta tg]) rfl rfl (fun H locs hw => ?_)
        exact px_vret S hr hlk hAe hw (Nat.le_of_ble_eq_true rfl) (Nat.le_of_ble_eq_true rfl) (⟨(upd (upd tf 17 p1) 18 p0), rfl, (show CurOk (tf 10) (tf 13) (tf 14) (tf 15) p1 (ta 0) from ⟨⟨by first | exact o1 | omega, by first | exact o2 | omega⟩, ⟨by first | exact o3 | omega, by first | exact o4 | omega⟩, ⟨by first | exact o5 | omega, by first | exact o6 | omega⟩, by first | exact g0 | omega, by omega, last_eq hlast (rfl)⟩), (show (tf 10).toInt = (tf 10).toInt from rfl), (show (tf 14).toInt = (tf 14).toInt from rfl), (show (tf 15).toInt = (tf 15).toInt from rfl), (show (tf 13).toInt = (tf 13).toInt from rfl), (show R_tk_blame p0 p1 tf (upd (upd tf 17 p1) 18 p0) from (Or.inl (Or.inr ⟨nc1, Or.inr ⟨nc3, Or.inr ⟨nc5, rfl⟩⟩⟩)))⟩) d_Tok_blame_34
