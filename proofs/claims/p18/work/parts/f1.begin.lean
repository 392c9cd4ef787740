theorem oz_10e6b5180a {a0 : Int} (h0 : a0 = 0) : a0 < 62500 := by omega
theorem oz_c4e478ef92 {a0 a1 a2 a3 : Int} (h0 : a0 = a1) (h1 : a2 = (0 : Int)) (h2 : 0 ≤ a2) (h3 : a2 = 0 → a1 = a3) (h4 : 0 ≤ a3) (h5 : a3 ≤ 100) : 0 ≤ a0 ∧ a0 ≤ 1600 := by omega
theorem oz_a7b1c0f89d {a0 a1 : Int} (h0 : a0 = a1 + 1) (h1 : ¬ (32 : Int) ≤ a1) : a0 ≤ 32 := by omega
theorem oz_7cb7114204 {a0 a2 : Int} {n1 : Nat} (h0 : 32 - a2 < ((n1 + 1 : Nat) : Int)) (h1 : a0 = a2 + 1) : 32 - a0 < (n1 : Int) := by omega
theorem oz_28c5becec0 {a0 a1 : Int} (h0 : a0 = a1 + 1) (h1 : ¬ (37000 : Int) ≤ a1) : a0 ≤ 37000 := by omega
theorem oz_0ce7cdf613 {a0 a2 : Int} {n1 : Nat} (h0 : 37000 - a2 < ((n1 + 1 : Nat) : Int)) (h1 : a0 = a2 + 1) : 37000 - a0 < (n1 : Int) := by omega
theorem m11_21 : Cond.fieldLink "HomeSystemModel$Process" 71 "HomeSystemModel$Process" "written" "I" ∈ AL := AL_11 (List.mem_of_getElem? (i := 21) rfl) rfl
theorem m10_50n : Cond.fieldLinkNest "HomeSystemModel$Process" 99 "HomeSystemModel$Program" "textCells" "I" "HomeSystemModel" ∈ tables_1 := by unfold tables_1; exact List.mem_append_right _ (List.mem_append_right _ (List.mem_append_right _ (List.mem_append_right _ (List.mem_append_right _ (List.mem_append_right _ (List.mem_append_right _ (List.mem_append_right _ (List.mem_append_right _ (List.mem_append_left _ (List.mem_of_getElem? (i := 50) rfl))))))))))
theorem m13_156 : Cond.constant "HomeSystemModel$Process" 94 (4194304) ∈ AL := AL_13 (List.mem_of_getElem? (i := 156) rfl) rfl
theorem m13_157 : Cond.constant "HomeSystemModel$Process" 98 (8388608) ∈ AL := AL_13 (List.mem_of_getElem? (i := 157) rfl) rfl
theorem m10_232 : Cond.fieldLink "HomeSystemModel$Process" 59 "HomeSystemModel$Process" "children" "I" ∈ AL := AL_10 (List.mem_of_getElem? (i := 232) rfl) rfl
theorem m10_234 : Cond.fieldLink "HomeSystemModel$Process" 62 "HomeSystemModel$Process" "paid" "Z" ∈ AL := AL_10 (List.mem_of_getElem? (i := 234) rfl) rfl
theorem m11_15 : Cond.fieldLink "HomeSystemModel$Process" 65 "HomeSystemModel$Process" "ups" "I" ∈ AL := AL_11 (List.mem_of_getElem? (i := 15) rfl) rfl
theorem m11_19 : Cond.fieldLink "HomeSystemModel$Process" 68 "HomeSystemModel$Process" "downs" "I" ∈ AL := AL_11 (List.mem_of_getElem? (i := 19) rfl) rfl
theorem m10_66 : Cond.fieldLink "HomeSystemModel$Process" 83 "HomeSystemModel$Program" "sort" "I" ∈ AL := AL_10 (List.mem_of_getElem? (i := 66) rfl) rfl
set_option maxHeartbeats 4000000 in
set_option maxRecDepth 100000 in
theorem c_mq_isGoing (l : Launch) (D : va_G) (cs : Nat → ClassId) (q : Nat) (qr : Nat → Nat) (qg : Nat → Nat → Option Nat) (qo : Nat → Option Nat) (qf : Nat → Int32) (qa : Nat → Nat → Int32)   : MetI l y_Mpr_isGoing b_Mpr_isGoing 1 (.boolean) D cs 0 0 (0) (0) [.ref q] [wd_Mpr cs q qr qo qf qa qg] (fun _ => True) (fun v ps => (ps = [wd_Mpr cs q qr qo qf qa qg]) ∧ (0 ≤ v.toInt) ∧ (v.toInt ≤ 1) ∧ (v.toInt = 1 → (qf 1).toInt ≠ 0) ∧ (v.toInt = 1 → (qf 2).toInt = -2) ∧ ((qf 1).toInt ≠ 0 → (qf 2).toInt = -2 → v.toInt = 1)) := by
  refine px_enter (by decide) (Nat.le_of_ble_eq_true rfl) ?_
  intro p e s m below meth c A ls hAe S hr hlk hnm hA hT hX hw hl
  replace hl : lv_has ls 1 [(0, .ref q)] := hl
  have cstm2 : ((-2) : Int32).toInt = (-2) := rfl
  have cst0 : (0 : Int32).toInt = 0 := rfl
  have cst1 : (1 : Int32).toInt = 1 := rfl
  refine lv_aload_n S.x S.b d_Mpr_isGoing_0 rfl (lv_at hl 0 rfl) ?_
  refine px_get S k_Mpr hT hw 0 0 1 (v := .int (qf 1)) rfl rfl rfl (by decide) m10_223 d_Mpr_isGoing_1 ?_
  refine lv_if_eq (tgt := 20) S.x S.b d_Mpr_isGoing_4 (by decide) (fun c1 => ?_) (fun c1 => ?_)
  · have nc1 : (qf 1).toInt = (0 : Int) := (i_eq (x := (qf 1)) (y := 0)).mp c1
    refine lv_iconst (v := 0) S.x S.b d_Mpr_isGoing_20 (by decide) ?_
    exact px_iret (v := 0) S hr rfl hlk hAe hw (Nat.le_of_ble_eq_true rfl) (Nat.le_of_ble_eq_true rfl) (⟨rfl, (show 0 ≤ (0 : Int) from by first | decide | omega), (show (0 : Int) ≤ 1 from by first | decide | omega), (show (0 : Int) = 1 → (qf 1).toInt ≠ 0 from by first | with_reducible rfl | with_reducible assumption | omega), (show (0 : Int) = 1 → (qf 2).toInt = -2 from by first | with_reducible rfl | with_reducible assumption | omega), (show (qf 1).toInt ≠ 0 → (qf 2).toInt = -2 → (0 : Int) = 1 from by first | with_reducible rfl | with_reducible assumption | omega)⟩) d_Mpr_isGoing_21
  · have nc1 : ¬ (qf 1).toInt = (0 : Int) := mt (i_eq (x := (qf 1)) (y := 0)).mpr c1
    refine lv_aload_n S.x S.b d_Mpr_isGoing_7 rfl (lv_at hl 0 rfl) ?_
    refine px_get S k_Mpr hT hw 0 0 2 (v := .int (qf 2)) rfl rfl rfl (by decide) m10_225 d_Mpr_isGoing_8 ?_
    refine lv_bipush (v := (-2)) S.x S.b d_Mpr_isGoing_11 (by decide) ?_
    refine lv_icmp_ne (tgt := 20) S.x S.b d_Mpr_isGoing_13 (by decide) (fun c2 => ?_) (fun c2 => ?_)
    · have nc2 : ¬ (qf 2).toInt = (-2 : Int) := mt (i_eq (x := (qf 2)) (y := (-2))).mpr c2
      refine lv_iconst (v := 0) S.x S.b d_Mpr_isGoing_20 (by decide) ?_
      exact px_iret (v := 0) S hr rfl hlk hAe hw (Nat.le_of_ble_eq_true rfl) (Nat.le_of_ble_eq_true rfl) (⟨rfl, (show 0 ≤ (0 : Int) from by first | decide | omega), (show (0 : Int) ≤ 1 from by first | decide | omega), (show (0 : Int) = 1 → (qf 1).toInt ≠ 0 from by first | with_reducible rfl | with_reducible assumption | omega), (show (0 : Int) = 1 → (qf 2).toInt = -2 from by first | with_reducible rfl | with_reducible assumption | omega), (show (qf 1).toInt ≠ 0 → (qf 2).toInt = -2 → (0 : Int) = 1 from by first | with_reducible rfl | with_reducible assumption | omega)⟩) d_Mpr_isGoing_21
    · have nc2 : (qf 2).toInt = (-2 : Int) := (i_eq (x := (qf 2)) (y := (-2))).mp c2
      refine lv_iconst (v := 1) S.x S.b d_Mpr_isGoing_16 (by decide) ?_
      refine lv_goto (tgt := 21) S.x S.b d_Mpr_isGoing_17 (by decide) ?_
      exact px_iret (v := 1) S hr rfl hlk hAe hw (Nat.le_of_ble_eq_true rfl) (Nat.le_of_ble_eq_true rfl) (⟨rfl, (show 0 ≤ (1 : Int) from by first | decide | omega), (show (1 : Int) ≤ 1 from by first | decide | omega), (show (1 : Int) = 1 → (qf 1).toInt ≠ 0 from by first | with_reducible rfl | with_reducible assumption | omega), (show (1 : Int) = 1 → (qf 2).toInt = -2 from by first | with_reducible rfl | with_reducible assumption | omega), (show (qf 1).toInt ≠ 0 → (qf 2).toInt = -2 → (1 : Int) = 1 from by first | with_reducible rfl | with_reducible assumption | omega)⟩) d_Mpr_isGoing_21
set_option maxHeartbeats 4000000 in
set_option maxRecDepth 100000 in
theorem c_mq_hasEnded (l : Launch) (D : va_G) (cs : Nat → ClassId) (q : Nat) (qr : Nat → Nat) (qg : Nat → Nat → Option Nat) (qo : Nat → Option Nat) (qf : Nat → Int32) (qa : Nat → Nat → Int32)   : MetI l y_Mpr_hasEnded b_Mpr_hasEnded 1 (.boolean) D cs 0 0 (0) (0) [.ref q] [wd_Mpr cs q qr qo qf qa qg] (fun _ => True) (fun v ps => (ps = [wd_Mpr cs q qr qo qf qa qg]) ∧ (0 ≤ v.toInt) ∧ (v.toInt ≤ 1) ∧ (v.toInt = 1 → (qf 2).toInt ≠ -2)) := by
  refine px_enter (by decide) (Nat.le_of_ble_eq_true rfl) ?_
  intro p e s m below meth c A ls hAe S hr hlk hnm hA hT hX hw hl
  replace hl : lv_has ls 1 [(0, .ref q)] := hl
  have cstm2 : ((-2) : Int32).toInt = (-2) := rfl
  have cst0 : (0 : Int32).toInt = 0 := rfl
  have cst1 : (1 : Int32).toInt = 1 := rfl
  refine lv_aload_n S.x S.b d_Mpr_hasEnded_0 rfl (lv_at hl 0 rfl) ?_
  refine px_get S k_Mpr hT hw 0 0 1 (v := .int (qf 1)) rfl rfl rfl (by decide) m10_223 d_Mpr_hasEnded_1 ?_
  refine lv_if_eq (tgt := 20) S.x S.b d_Mpr_hasEnded_4 (by decide) (fun c1 => ?_) (fun c1 => ?_)
  · have nc1 : (qf 1).toInt = (0 : Int) := (i_eq (x := (qf 1)) (y := 0)).mp c1
    refine lv_iconst (v := 0) S.x S.b d_Mpr_hasEnded_20 (by decide) ?_
    exact px_iret (v := 0) S hr rfl hlk hAe hw (Nat.le_of_ble_eq_true rfl) (Nat.le_of_ble_eq_true rfl) (⟨rfl, (show 0 ≤ (0 : Int) from by first | decide | omega), (show (0 : Int) ≤ 1 from by first | decide | omega), (show (0 : Int) = 1 → (qf 2).toInt ≠ -2 from by first | with_reducible rfl | with_reducible assumption | omega)⟩) d_Mpr_hasEnded_21
  · have nc1 : ¬ (qf 1).toInt = (0 : Int) := mt (i_eq (x := (qf 1)) (y := 0)).mpr c1
    refine lv_aload_n S.x S.b d_Mpr_hasEnded_7 rfl (lv_at hl 0 rfl) ?_
    refine px_get S k_Mpr hT hw 0 0 2 (v := .int (qf 2)) rfl rfl rfl (by decide) m10_225 d_Mpr_hasEnded_8 ?_
    refine lv_bipush (v := (-2)) S.x S.b d_Mpr_hasEnded_11 (by decide) ?_
    refine lv_icmp_eq (tgt := 20) S.x S.b d_Mpr_hasEnded_13 (by decide) (fun c2 => ?_) (fun c2 => ?_)
    · have nc2 : (qf 2).toInt = (-2 : Int) := (i_eq (x := (qf 2)) (y := (-2))).mp c2
      refine lv_iconst (v := 0) S.x S.b d_Mpr_hasEnded_20 (by decide) ?_
      exact px_iret (v := 0) S hr rfl hlk hAe hw (Nat.le_of_ble_eq_true rfl) (Nat.le_of_ble_eq_true rfl) (⟨rfl, (show 0 ≤ (0 : Int) from by first | decide | omega), (show (0 : Int) ≤ 1 from by first | decide | omega), (show (0 : Int) = 1 → (qf 2).toInt ≠ -2 from by first | with_reducible rfl | with_reducible assumption | omega)⟩) d_Mpr_hasEnded_21
    · have nc2 : ¬ (qf 2).toInt = (-2 : Int) := mt (i_eq (x := (qf 2)) (y := (-2))).mpr c2
      refine lv_iconst (v := 1) S.x S.b d_Mpr_hasEnded_16 (by decide) ?_
      refine lv_goto (tgt := 21) S.x S.b d_Mpr_hasEnded_17 (by decide) ?_
      exact px_iret (v := 1) S hr rfl hlk hAe hw (Nat.le_of_ble_eq_true rfl) (Nat.le_of_ble_eq_true rfl) (⟨rfl, (show 0 ≤ (1 : Int) from by first | decide | omega), (show (1 : Int) ≤ 1 from by first | decide | omega), (show (1 : Int) = 1 → (qf 2).toInt ≠ -2 from by first | with_reducible rfl | with_reducible assumption | omega)⟩) d_Mpr_hasEnded_21
set_option maxHeartbeats 4000000 in
set_option maxRecDepth 100000 in
theorem c_mq_give (l : Launch) (D : va_G) (cs : Nat → ClassId) (q : Nat) (qr : Nat → Nat) (qg : Nat → Nat → Option Nat) (qo : Nat → Option Nat) (qf : Nat → Int32) (qa : Nat → Nat → Int32) (p0 : Int32)  (g0 : 0 ≤ (qf 10).toInt) (g1 : (qf 10).toInt < 62500) : MetV l y_Mpr_give b_Mpr_give 2 D cs 0 0 (0) (0) [.ref q, .int p0] [wd_Mpr cs q qr qo qf qa qg] (fun _ => True) (fun ps => ∃ (qf' : Nat → Int32) (qa' : Nat → Nat → Int32), (ps = [wd_Mpr cs q qr qo qf' qa' qg]) ∧ ((qf' 10).toInt = (qf 10).toInt + 1) ∧ ((qf' 1).toInt = (qf 1).toInt) ∧ ((qf' 2).toInt = (qf 2).toInt) ∧ ((qf' 3).toInt = (qf 3).toInt) ∧ ((qf' 4).toInt = (qf 4).toInt) ∧ ((qf' 5).toInt = (qf 5).toInt) ∧ ((qf' 6).toInt = (qf 6).toInt) ∧ ((qf' 7).toInt = (qf 7).toInt) ∧ ((qf' 11).toInt = (qf 11).toInt) ∧ ((qf' 12).toInt = (qf 12).toInt) ∧ ((qf' 13).toInt = (qf 13).toInt) ∧ ((qf' 14).toInt = (qf 14).toInt) ∧ ((qf' 21).toInt = (qf 21).toInt) ∧ ((qf' 23).toInt = (qf 23).toInt) ∧ ((qf' 24).toInt = (qf 24).toInt) ∧ (NuU qa qa' 9 (qf 10).toInt p0)) := by
  refine px_enter (by decide) (Nat.le_of_ble_eq_true rfl) ?_
  intro p e s m below meth c A ls hAe S hr hlk hnm hA hT hX hw hl
  replace hl : lv_has ls 2 [(0, .ref q), (1, .int p0)] := hl
  have lp0 := Int32.le_toInt p0
  have up0 := Int32.toInt_lt p0
  have cst1 : (1 : Int32).toInt = 1 := rfl
  refine lv_aload_n S.x S.b d_Mpr_give_0 rfl (lv_at hl 0 rfl) ?_
  refine px_get S k_Mpr hT hw 0 0 9 (v := .ref (qr 9)) rfl rfl rfl (by decide) m10_238 d_Mpr_give_1 ?_
  refine lv_aload_n S.x S.b d_Mpr_give_4 rfl (lv_at hl 0 rfl) ?_
  refine px_get S k_Mpr hT hw 0 0 10 (v := .int (qf 10)) rfl rfl rfl (by decide) m11_0 d_Mpr_give_5 ?_
  refine lv_iload_n S.x S.b d_Mpr_give_8 rfl (lv_at hl 1 rfl) ?_
  refine px_iast S hT hw 0 2 (n := 62500) (f := (qa 9)) (x := (qf 10)) (y := p0) rfl (ga_Mpr_9 _ _ _ _ _ _ _) (vp_in_iff.mpr (by constructor <;> omega)) d_Mpr_give_9 (w' := wd_Mpr cs q qr qo qf (va_up qa 9 (upd (qa 9) (qf 10).toNatClampNeg p0)) qg) (ps' := [wd_Mpr cs q qr qo qf (va_up qa 9 (upd (qa 9) (qf 10).toNatClampNeg p0)) qg]) (sa_Mpr_9 _ _ _ _ _ _ _ _) rfl (fun H locs hw => ?_)
  refine lv_aload_n S.x S.b d_Mpr_give_10 rfl (lv_at hl 0 rfl) ?_
  refine lv_dup S.x S.b d_Mpr_give_11 rfl ?_
  refine px_get S k_Mpr hT hw 0 0 10 (v := .int (qf 10)) rfl rfl rfl (by decide) m11_0 d_Mpr_give_12 ?_
  refine lv_iconst (v := 1) S.x S.b d_Mpr_give_15 (by decide) ?_
  refine lv_iadd S.x S.b d_Mpr_give_16 ?_
  have lr1 := Int32.le_toInt (qf 10)
  have ur1 := Int32.toInt_lt (qf 10)
  refine lv_topi (fun z2 ez2 => ?_)
  have tz2 : z2.toInt = ((qf 10).toInt + (1 : Int) + 2147483648) % 4294967296 - 2147483648 := by rw [ez2]; exact i_add (qf 10) 1
  have lz2 := Int32.le_toInt z2
  have uz2 := Int32.toInt_lt z2
  try replace tz2 : z2.toInt = (qf 10).toInt + (1 : Int) := by omega
  refine px_put S k_Mpr hT hw 0 0 10 rfl rfl (by decide) m11_0 rfl rfl rfl (Nat.le_of_ble_eq_true rfl) d_Mpr_give_17 (w' := wd_Mpr cs q qr qo (upd qf 10 z2) (va_up qa 9 (upd (qa 9) (qf 10).toNatClampNeg p0)) qg) (ps' := [wd_Mpr cs q qr qo (upd qf 10 z2) (va_up qa 9 (upd (qa 9) (qf 10).toNatClampNeg p0)) qg]) rfl rfl (fun H locs hw => ?_)
  exact px_vret S hr hlk hAe hw (Nat.le_of_ble_eq_true rfl) (Nat.le_of_ble_eq_true rfl) (⟨(upd qf 10 z2), (va_up qa 9 (upd (qa 9) (qf 10).toNatClampNeg p0)), rfl, (show z2.toInt = (qf 10).toInt + 1 from by first | exact oz_037caa6b79 tz2 | omega), (show (qf 1).toInt = (qf 1).toInt from rfl), (show (qf 2).toInt = (qf 2).toInt from rfl), (show (qf 3).toInt = (qf 3).toInt from rfl), (show (qf 4).toInt = (qf 4).toInt from rfl), (show (qf 5).toInt = (qf 5).toInt from rfl), (show (qf 6).toInt = (qf 6).toInt from rfl), (show (qf 7).toInt = (qf 7).toInt from rfl), (show (qf 11).toInt = (qf 11).toInt from rfl), (show (qf 12).toInt = (qf 12).toInt from rfl), (show (qf 13).toInt = (qf 13).toInt from rfl), (show (qf 14).toInt = (qf 14).toInt from rfl), (show (qf 21).toInt = (qf 21).toInt from rfl), (show (qf 23).toInt = (qf 23).toInt from rfl), (show (qf 24).toInt = (qf 24).toInt from rfl), (show NuU qa (va_up qa 9 (upd (qa 9) (qf 10).toNatClampNeg p0)) 9 (qf 10).toInt p0 from (nuu_mk rfl (by omega) (by omega)))⟩) d_Mpr_give_20
set_option maxHeartbeats 4000000 in
set_option maxRecDepth 100000 in
theorem c_mq_end (l : Launch) (D : va_G) (cs : Nat → ClassId) (q : Nat) (qr : Nat → Nat) (qg : Nat → Nat → Option Nat) (qo : Nat → Option Nat) (qa : Nat → Nat → Int32) (qf : Nat → Int32) (p0 p1 : Int32)   : MetV l y_Mpr_end b_Mpr_end 3 D cs 0 0 (0) (0) [.ref q, .int p0, .int p1] [wd_Mpr cs q qr qo qf qa qg] (fun _ => True) (fun ps => ∃ (qf' : Nat → Int32), (ps = [wd_Mpr cs q qr qo qf' qa qg]) ∧ ((qf' 2).toInt = p0.toInt) ∧ ((qf' 1).toInt = (qf 1).toInt) ∧ ((qf' 4).toInt = (qf 4).toInt) ∧ ((qf' 5).toInt = (qf 5).toInt) ∧ ((qf' 6).toInt = (qf 6).toInt) ∧ ((qf' 7).toInt = (qf 7).toInt) ∧ ((qf' 10).toInt = (qf 10).toInt) ∧ ((qf' 11).toInt = (qf 11).toInt) ∧ ((qf' 12).toInt = (qf 12).toInt) ∧ ((qf' 13).toInt = (qf 13).toInt) ∧ ((qf' 14).toInt = (qf 14).toInt) ∧ ((qf' 21).toInt = (qf 21).toInt) ∧ ((qf' 23).toInt = (qf 23).toInt) ∧ ((qf' 24).toInt = (qf 24).toInt)) := by
  refine px_enter (by decide) (Nat.le_of_ble_eq_true rfl) ?_
  intro p e s m below meth c A ls hAe S hr hlk hnm hA hT hX hw hl
  replace hl : lv_has ls 3 [(0, .ref q), (1, .int p0), (2, .int p1)] := hl
  have lp0 := Int32.le_toInt p0
  have up0 := Int32.toInt_lt p0
  have lp1 := Int32.le_toInt p1
  have up1 := Int32.toInt_lt p1
  refine lv_aload_n S.x S.b d_Mpr_end_0 rfl (lv_at hl 0 rfl) ?_
  refine lv_iload_n S.x S.b d_Mpr_end_1 rfl (lv_at hl 1 rfl) ?_
  refine px_put S k_Mpr hT hw 0 0 2 rfl rfl (by decide) m10_225 rfl rfl rfl (Nat.le_of_ble_eq_true rfl) d_Mpr_end_2 (w' := wd_Mpr cs q qr qo (upd qf 2 p0) qa qg) (ps' := [wd_Mpr cs q qr qo (upd qf 2 p0) qa qg]) rfl rfl (fun H locs hw => ?_)
  refine lv_aload_n S.x S.b d_Mpr_end_5 rfl (lv_at hl 0 rfl) ?_
  refine lv_iload_n S.x S.b d_Mpr_end_6 rfl (lv_at hl 2 rfl) ?_
  refine px_put S k_Mpr hT hw 0 0 3 rfl rfl (by decide) m10_227 rfl rfl rfl (Nat.le_of_ble_eq_true rfl) d_Mpr_end_7 (w' := wd_Mpr cs q qr qo (upd (upd qf 2 p0) 3 p1) qa qg) (ps' := [wd_Mpr cs q qr qo (upd (upd qf 2 p0) 3 p1) qa qg]) rfl rfl (fun H locs hw => ?_)
  exact px_vret S hr hlk hAe hw (Nat.le_of_ble_eq_true rfl) (Nat.le_of_ble_eq_true rfl) (⟨(upd (upd qf 2 p0) 3 p1), rfl, (show p0.toInt = p0.toInt from rfl), (show (qf 1).toInt = (qf 1).toInt from rfl), (show (qf 4).toInt = (qf 4).toInt from rfl), (show (qf 5).toInt = (qf 5).toInt from rfl), (show (qf 6).toInt = (qf 6).toInt from rfl), (show (qf 7).toInt = (qf 7).toInt from rfl), (show (qf 10).toInt = (qf 10).toInt from rfl), (show (qf 11).toInt = (qf 11).toInt from rfl), (show (qf 12).toInt = (qf 12).toInt from rfl), (show (qf 13).toInt = (qf 13).toInt from rfl), (show (qf 14).toInt = (qf 14).toInt from rfl), (show (qf 21).toInt = (qf 21).toInt from rfl), (show (qf 23).toInt = (qf 23).toInt from rfl), (show (qf 24).toInt = (qf 24).toInt from rfl)⟩) d_Mpr_end_10
abbrev b_Mpr_write : ByteArray := prog_15_method_7_code
def y_Mpr_write : MethodName := ⟨"HomeSystemModel$Process", "write", "(I)V"⟩
theorem d_Mpr_write_0 : decode b_Mpr_write 0 = .ok (.aload_n 0, 1) := by decide +kernel
theorem d_Mpr_write_1 : decode b_Mpr_write 1 = .ok (.getfield 71, 3) := by decide +kernel
theorem d_Mpr_write_4 : decode b_Mpr_write 4 = .ok (.sipush 256, 3) := by decide +kernel
theorem d_Mpr_write_7 : decode b_Mpr_write 7 = .ok (.if_icmp .ge 13, 3) := by decide +kernel
theorem d_Mpr_write_10 : decode b_Mpr_write 10 = .ok (.aload_n 0, 1) := by decide +kernel
theorem d_Mpr_write_11 : decode b_Mpr_write 11 = .ok (.getfield 41, 3) := by decide +kernel
theorem d_Mpr_write_14 : decode b_Mpr_write 14 = .ok (.aload_n 0, 1) := by decide +kernel
theorem d_Mpr_write_15 : decode b_Mpr_write 15 = .ok (.getfield 71, 3) := by decide +kernel
theorem d_Mpr_write_18 : decode b_Mpr_write 18 = .ok (.iload_n 1, 1) := by decide +kernel
theorem d_Mpr_write_19 : decode b_Mpr_write 19 = .ok (.iastore, 1) := by decide +kernel
theorem d_Mpr_write_20 : decode b_Mpr_write 20 = .ok (.aload_n 0, 1) := by decide +kernel
theorem d_Mpr_write_21 : decode b_Mpr_write 21 = .ok (.dup, 1) := by decide +kernel
theorem d_Mpr_write_22 : decode b_Mpr_write 22 = .ok (.getfield 71, 3) := by decide +kernel
theorem d_Mpr_write_25 : decode b_Mpr_write 25 = .ok (.iconst 1, 1) := by decide +kernel
theorem d_Mpr_write_26 : decode b_Mpr_write 26 = .ok (.iadd, 1) := by decide +kernel
theorem d_Mpr_write_27 : decode b_Mpr_write 27 = .ok (.putfield 71, 3) := by decide +kernel
theorem d_Mpr_write_30 : decode b_Mpr_write 30 = .ok (.return_, 1) := by decide +kernel
theorem q_Mpr_write : px_y y_Mpr_write 1 := by unfold px_y; decide +kernel
set_option maxHeartbeats 4000000 in
set_option maxRecDepth 100000 in
theorem c_mq_write (l : Launch) (D : va_G) (cs : Nat → ClassId) (q : Nat) (qr : Nat → Nat) (qg : Nat → Nat → Option Nat) (qo : Nat → Option Nat) (qf : Nat → Int32) (qa : Nat → Nat → Int32) (p0 : Int32)  (g0 : 0 ≤ (qf 24).toInt) (g1 : (qf 24).toInt ≤ 1000000) : MetV l y_Mpr_write b_Mpr_write 2 D cs 0 0 (0) (0) [.ref q, .int p0] [wd_Mpr cs q qr qo qf qa qg] (fun _ => True) (fun ps => ∃ (qf' : Nat → Int32) (qa' : Nat → Nat → Int32), (ps = [wd_Mpr cs q qr qo qf' qa' qg]) ∧ ((qf' 24).toInt = (qf 24).toInt + 1) ∧ ((qf' 1).toInt = (qf 1).toInt) ∧ ((qf' 2).toInt = (qf 2).toInt) ∧ ((qf' 3).toInt = (qf 3).toInt) ∧ ((qf' 4).toInt = (qf 4).toInt) ∧ ((qf' 5).toInt = (qf 5).toInt) ∧ ((qf' 6).toInt = (qf 6).toInt) ∧ ((qf' 7).toInt = (qf 7).toInt) ∧ ((qf' 10).toInt = (qf 10).toInt) ∧ ((qf' 11).toInt = (qf 11).toInt) ∧ ((qf' 12).toInt = (qf 12).toInt) ∧ ((qf' 13).toInt = (qf 13).toInt) ∧ ((qf' 14).toInt = (qf 14).toInt) ∧ ((qf' 21).toInt = (qf 21).toInt) ∧ ((qf' 23).toInt = (qf 23).toInt) ∧ (∀ k9 : Nat, k9 ≠ 25 → qa' k9 = qa k9)) := by
  refine px_enter (by decide) (Nat.le_of_ble_eq_true rfl) ?_
  intro p e s m below meth c A ls hAe S hr hlk hnm hA hT hX hw hl
  replace hl : lv_has ls 2 [(0, .ref q), (1, .int p0)] := hl
  have lp0 := Int32.le_toInt p0
  have up0 := Int32.toInt_lt p0
  have cst1 : (1 : Int32).toInt = 1 := rfl
  have cst256 : (256 : Int32).toInt = 256 := rfl
  refine lv_aload_n S.x S.b d_Mpr_write_0 rfl (lv_at hl 0 rfl) ?_
  refine px_get S k_Mpr hT hw 0 0 24 (v := .int (qf 24)) rfl rfl rfl (by decide) m11_21 d_Mpr_write_1 ?_
  refine lv_sipush (v := 256) S.x S.b d_Mpr_write_4 (by decide) ?_
  refine lv_icmp_ge (tgt := 20) S.x S.b d_Mpr_write_7 (by decide) (fun c1 => ?_) (fun c1 => ?_)
  · have nc1 : (256 : Int) ≤ (qf 24).toInt := (i_le (x := 256) (y := (qf 24))).mp c1
    refine lv_aload_n S.x S.b d_Mpr_write_20 rfl (lv_at hl 0 rfl) ?_
    refine lv_dup S.x S.b d_Mpr_write_21 rfl ?_
    refine px_get S k_Mpr hT hw 0 0 24 (v := .int (qf 24)) rfl rfl rfl (by decide) m11_21 d_Mpr_write_22 ?_
    refine lv_iconst (v := 1) S.x S.b d_Mpr_write_25 (by decide) ?_
    refine lv_iadd S.x S.b d_Mpr_write_26 ?_
    have lr2 := Int32.le_toInt (qf 24)
    have ur2 := Int32.toInt_lt (qf 24)
    refine lv_topi (fun z3 ez3 => ?_)
    have tz3 : z3.toInt = ((qf 24).toInt + (1 : Int) + 2147483648) % 4294967296 - 2147483648 := by rw [ez3]; exact i_add (qf 24) 1
    have lz3 := Int32.le_toInt z3
    have uz3 := Int32.toInt_lt z3
    try replace tz3 : z3.toInt = (qf 24).toInt + (1 : Int) := by omega
    refine px_put S k_Mpr hT hw 0 0 24 rfl rfl (by decide) m11_21 rfl rfl rfl (Nat.le_of_ble_eq_true rfl) d_Mpr_write_27 (w' := wd_Mpr cs q qr qo (upd qf 24 z3) qa qg) (ps' := [wd_Mpr cs q qr qo (upd qf 24 z3) qa qg]) rfl rfl (fun H locs hw => ?_)
    exact px_vret S hr hlk hAe hw (Nat.le_of_ble_eq_true rfl) (Nat.le_of_ble_eq_true rfl) (⟨(upd qf 24 z3), qa, rfl, (show z3.toInt = (qf 24).toInt + 1 from by first | exact oz_037caa6b79 tz3 | omega), (show (qf 1).toInt = (qf 1).toInt from rfl), (show (qf 2).toInt = (qf 2).toInt from rfl), (show (qf 3).toInt = (qf 3).toInt from rfl), (show (qf 4).toInt = (qf 4).toInt from rfl), (show (qf 5).toInt = (qf 5).toInt from rfl), (show (qf 6).toInt = (qf 6).toInt from rfl), (show (qf 7).toInt = (qf 7).toInt from rfl), (show (qf 10).toInt = (qf 10).toInt from rfl), (show (qf 11).toInt = (qf 11).toInt from rfl), (show (qf 12).toInt = (qf 12).toInt from rfl), (show (qf 13).toInt = (qf 13).toInt from rfl), (show (qf 14).toInt = (qf 14).toInt from rfl), (show (qf 21).toInt = (qf 21).toInt from rfl), (show (qf 23).toInt = (qf 23).toInt from rfl), (show ∀ k9 : Nat, k9 ≠ 25 → qa k9 = qa k9 from (fun _ q9 => by first | rfl | exact va_up_n q9))⟩) d_Mpr_write_30
  · have nc1 : ¬ (256 : Int) ≤ (qf 24).toInt := mt (i_le (x := 256) (y := (qf 24))).mpr c1
    refine lv_aload_n S.x S.b d_Mpr_write_10 rfl (lv_at hl 0 rfl) ?_
    refine px_get S k_Mpr hT hw 0 0 25 (v := .ref (qr 25)) rfl rfl rfl (by decide) m11_23 d_Mpr_write_11 ?_
    refine lv_aload_n S.x S.b d_Mpr_write_14 rfl (lv_at hl 0 rfl) ?_
    refine px_get S k_Mpr hT hw 0 0 24 (v := .int (qf 24)) rfl rfl rfl (by decide) m11_21 d_Mpr_write_15 ?_
    refine lv_iload_n S.x S.b d_Mpr_write_18 rfl (lv_at hl 1 rfl) ?_
    refine px_iast S hT hw 0 10 (n := 256) (f := (qa 25)) (x := (qf 24)) (y := p0) rfl (ga_Mpr_25 _ _ _ _ _ _ _) (vp_in_iff.mpr (by constructor <;> omega)) d_Mpr_write_19 (w' := wd_Mpr cs q qr qo qf (va_up qa 25 (upd (qa 25) (qf 24).toNatClampNeg p0)) qg) (ps' := [wd_Mpr cs q qr qo qf (va_up qa 25 (upd (qa 25) (qf 24).toNatClampNeg p0)) qg]) (sa_Mpr_25 _ _ _ _ _ _ _ _) rfl (fun H locs hw => ?_)
    have ha25 : ∀ k9 : Nat, k9 ≠ 25 → (va_up qa 25 (upd (qa 25) (qf 24).toNatClampNeg p0)) k9 = qa k9 := fun k9 q9 => va_up_n q9
    refine lv_aload_n S.x S.b d_Mpr_write_20 rfl (lv_at hl 0 rfl) ?_
    refine lv_dup S.x S.b d_Mpr_write_21 rfl ?_
    refine px_get S k_Mpr hT hw 0 0 24 (v := .int (qf 24)) rfl rfl rfl (by decide) m11_21 d_Mpr_write_22 ?_
    refine lv_iconst (v := 1) S.x S.b d_Mpr_write_25 (by decide) ?_
    refine lv_iadd S.x S.b d_Mpr_write_26 ?_
    have lr4 := Int32.le_toInt (qf 24)
    have ur4 := Int32.toInt_lt (qf 24)
    refine lv_topi (fun z5 ez5 => ?_)
    have tz5 : z5.toInt = ((qf 24).toInt + (1 : Int) + 2147483648) % 4294967296 - 2147483648 := by rw [ez5]; exact i_add (qf 24) 1
    have lz5 := Int32.le_toInt z5
    have uz5 := Int32.toInt_lt z5
    try replace tz5 : z5.toInt = (qf 24).toInt + (1 : Int) := by omega
    refine px_put S k_Mpr hT hw 0 0 24 rfl rfl (by decide) m11_21 rfl rfl rfl (Nat.le_of_ble_eq_true rfl) d_Mpr_write_27 (w' := wd_Mpr cs q qr qo (upd qf 24 z5) (va_up qa 25 (upd (qa 25) (qf 24).toNatClampNeg p0)) qg) (ps' := [wd_Mpr cs q qr qo (upd qf 24 z5) (va_up qa 25 (upd (qa 25) (qf 24).toNatClampNeg p0)) qg]) rfl rfl (fun H locs hw => ?_)
    exact px_vret S hr hlk hAe hw (Nat.le_of_ble_eq_true rfl) (Nat.le_of_ble_eq_true rfl) (⟨(upd qf 24 z5), (va_up qa 25 (upd (qa 25) (qf 24).toNatClampNeg p0)), rfl, (show z5.toInt = (qf 24).toInt + 1 from by first | exact oz_037caa6b79 tz5 | omega), (show (qf 1).toInt = (qf 1).toInt from rfl), (show (qf 2).toInt = (qf 2).toInt from rfl), (show (qf 3).toInt = (qf 3).toInt from rfl), (show (qf 4).toInt = (qf 4).toInt from rfl), (show (qf 5).toInt = (qf 5).toInt from rfl), (show (qf 6).toInt = (qf 6).toInt from rfl), (show (qf 7).toInt = (qf 7).toInt from rfl), (show (qf 10).toInt = (qf 10).toInt from rfl), (show (qf 11).toInt = (qf 11).toInt from rfl), (show (qf 12).toInt = (qf 12).toInt from rfl), (show (qf 13).toInt = (qf 13).toInt from rfl), (show (qf 14).toInt = (qf 14).toInt from rfl), (show (qf 21).toInt = (qf 21).toInt from rfl), (show (qf 23).toInt = (qf 23).toInt from rfl), (show ∀ k9 : Nat, k9 ≠ 25 → (va_up qa 25 (upd (qa 25) (qf 24).toNatClampNeg p0)) k9 = qa k9 from (fun _ q9 => by first | rfl | exact va_up_n q9))⟩) d_Mpr_write_30
abbrev b_Mpr_begin : ByteArray := prog_15_method_4_code
def y_Mpr_begin : MethodName := ⟨"HomeSystemModel$Process", "begin", "(LHomeSystemModel$Program;III)V"⟩
theorem d_Mpr_begin_0 : decode b_Mpr_begin 0 = .ok (.aload_n 0, 1) := by decide +kernel
theorem d_Mpr_begin_1 : decode b_Mpr_begin 1 = .ok (.aload_n 1, 1) := by decide +kernel
theorem d_Mpr_begin_2 : decode b_Mpr_begin 2 = .ok (.putfield 52, 3) := by decide +kernel
theorem d_Mpr_begin_5 : decode b_Mpr_begin 5 = .ok (.aload_n 0, 1) := by decide +kernel
theorem d_Mpr_begin_6 : decode b_Mpr_begin 6 = .ok (.iconst 1, 1) := by decide +kernel
theorem d_Mpr_begin_7 : decode b_Mpr_begin 7 = .ok (.putfield 44, 3) := by decide +kernel
theorem d_Mpr_begin_10 : decode b_Mpr_begin 10 = .ok (.aload_n 0, 1) := by decide +kernel
theorem d_Mpr_begin_11 : decode b_Mpr_begin 11 = .ok (.bipush (-2), 2) := by decide +kernel
theorem d_Mpr_begin_13 : decode b_Mpr_begin 13 = .ok (.putfield 48, 3) := by decide +kernel
theorem d_Mpr_begin_16 : decode b_Mpr_begin 16 = .ok (.aload_n 0, 1) := by decide +kernel
theorem d_Mpr_begin_17 : decode b_Mpr_begin 17 = .ok (.iconst 0, 1) := by decide +kernel
theorem d_Mpr_begin_18 : decode b_Mpr_begin 18 = .ok (.putfield 56, 3) := by decide +kernel
theorem d_Mpr_begin_21 : decode b_Mpr_begin 21 = .ok (.aload_n 0, 1) := by decide +kernel
theorem d_Mpr_begin_22 : decode b_Mpr_begin 22 = .ok (.iconst 0, 1) := by decide +kernel
theorem d_Mpr_begin_23 : decode b_Mpr_begin 23 = .ok (.putfield 59, 3) := by decide +kernel
theorem d_Mpr_begin_26 : decode b_Mpr_begin 26 = .ok (.aload_n 0, 1) := by decide +kernel
theorem d_Mpr_begin_27 : decode b_Mpr_begin 27 = .ok (.iconst 0, 1) := by decide +kernel
theorem d_Mpr_begin_28 : decode b_Mpr_begin 28 = .ok (.putfield 62, 3) := by decide +kernel
theorem d_Mpr_begin_31 : decode b_Mpr_begin 31 = .ok (.aload_n 0, 1) := by decide +kernel
theorem d_Mpr_begin_32 : decode b_Mpr_begin 32 = .ok (.iconst 0, 1) := by decide +kernel
theorem d_Mpr_begin_33 : decode b_Mpr_begin 33 = .ok (.putfield 65, 3) := by decide +kernel
theorem d_Mpr_begin_36 : decode b_Mpr_begin 36 = .ok (.aload_n 0, 1) := by decide +kernel
theorem d_Mpr_begin_37 : decode b_Mpr_begin 37 = .ok (.iconst 0, 1) := by decide +kernel
theorem d_Mpr_begin_38 : decode b_Mpr_begin 38 = .ok (.putfield 68, 3) := by decide +kernel
theorem d_Mpr_begin_41 : decode b_Mpr_begin 41 = .ok (.aload_n 0, 1) := by decide +kernel
theorem d_Mpr_begin_42 : decode b_Mpr_begin 42 = .ok (.iconst 0, 1) := by decide +kernel
theorem d_Mpr_begin_43 : decode b_Mpr_begin 43 = .ok (.putfield 71, 3) := by decide +kernel
theorem d_Mpr_begin_46 : decode b_Mpr_begin 46 = .ok (.aload_n 0, 1) := by decide +kernel
theorem d_Mpr_begin_47 : decode b_Mpr_begin 47 = .ok (.iconst 0, 1) := by decide +kernel
theorem d_Mpr_begin_48 : decode b_Mpr_begin 48 = .ok (.putfield 74, 3) := by decide +kernel
theorem d_Mpr_begin_51 : decode b_Mpr_begin 51 = .ok (.aload_n 0, 1) := by decide +kernel
theorem d_Mpr_begin_52 : decode b_Mpr_begin 52 = .ok (.iconst 0, 1) := by decide +kernel
theorem d_Mpr_begin_53 : decode b_Mpr_begin 53 = .ok (.putfield 77, 3) := by decide +kernel
theorem d_Mpr_begin_56 : decode b_Mpr_begin 56 = .ok (.aload_n 0, 1) := by decide +kernel
theorem d_Mpr_begin_57 : decode b_Mpr_begin 57 = .ok (.iconst 0, 1) := by decide +kernel
theorem d_Mpr_begin_58 : decode b_Mpr_begin 58 = .ok (.putfield 80, 3) := by decide +kernel
theorem d_Mpr_begin_61 : decode b_Mpr_begin 61 = .ok (.aload_n 1, 1) := by decide +kernel
theorem d_Mpr_begin_62 : decode b_Mpr_begin 62 = .ok (.getfield 83, 3) := by decide +kernel
theorem d_Mpr_begin_65 : decode b_Mpr_begin 65 = .ok (.iconst 2, 1) := by decide +kernel
theorem d_Mpr_begin_66 : decode b_Mpr_begin 66 = .ok (.if_icmp .ne 7, 3) := by decide +kernel
theorem d_Mpr_begin_69 : decode b_Mpr_begin 69 = .ok (.iconst 1, 1) := by decide +kernel
theorem d_Mpr_begin_70 : decode b_Mpr_begin 70 = .ok (.goto 4, 3) := by decide +kernel
theorem d_Mpr_begin_73 : decode b_Mpr_begin 73 = .ok (.iconst 0, 1) := by decide +kernel
theorem d_Mpr_begin_74 : decode b_Mpr_begin 74 = .ok (.istore 5, 2) := by decide +kernel
theorem d_Mpr_begin_76 : decode b_Mpr_begin 76 = .ok (.aload_n 0, 1) := by decide +kernel
theorem d_Mpr_begin_77 : decode b_Mpr_begin 77 = .ok (.iload 5, 2) := by decide +kernel
theorem d_Mpr_begin_79 : decode b_Mpr_begin 79 = .ok (.ifCond .eq 10, 3) := by decide +kernel
theorem d_Mpr_begin_82 : decode b_Mpr_begin 82 = .ok (.bipush 16, 2) := by decide +kernel
theorem d_Mpr_begin_84 : decode b_Mpr_begin 84 = .ok (.iload_n 3, 1) := by decide +kernel
theorem d_Mpr_begin_85 : decode b_Mpr_begin 85 = .ok (.imul, 1) := by decide +kernel
theorem d_Mpr_begin_86 : decode b_Mpr_begin 86 = .ok (.goto 4, 3) := by decide +kernel
theorem d_Mpr_begin_89 : decode b_Mpr_begin 89 = .ok (.iload_n 3, 1) := by decide +kernel
theorem d_Mpr_begin_90 : decode b_Mpr_begin 90 = .ok (.putfield 88, 3) := by decide +kernel
theorem d_Mpr_begin_93 : decode b_Mpr_begin 93 = .ok (.aload_n 0, 1) := by decide +kernel
theorem d_Mpr_begin_94 : decode b_Mpr_begin 94 = .ok (.iload 4, 2) := by decide +kernel
theorem d_Mpr_begin_96 : decode b_Mpr_begin 96 = .ok (.putfield 91, 3) := by decide +kernel
theorem d_Mpr_begin_99 : decode b_Mpr_begin 99 = .ok (.iconst 0, 1) := by decide +kernel
theorem d_Mpr_begin_100 : decode b_Mpr_begin 100 = .ok (.istore 6, 2) := by decide +kernel
theorem d_Mpr_begin_102 : decode b_Mpr_begin 102 = .ok (.iload 6, 2) := by decide +kernel
theorem d_Mpr_begin_104 : decode b_Mpr_begin 104 = .ok (.ldc 9, 2) := by decide +kernel
theorem d_Mpr_begin_106 : decode b_Mpr_begin 106 = .ok (.if_icmp .ge 17, 3) := by decide +kernel
theorem d_Mpr_begin_109 : decode b_Mpr_begin 109 = .ok (.aload_n 0, 1) := by decide +kernel
theorem d_Mpr_begin_110 : decode b_Mpr_begin 110 = .ok (.getfield 10, 3) := by decide +kernel
theorem d_Mpr_begin_113 : decode b_Mpr_begin 113 = .ok (.iload 6, 2) := by decide +kernel
theorem d_Mpr_begin_115 : decode b_Mpr_begin 115 = .ok (.iconst 0, 1) := by decide +kernel
theorem d_Mpr_begin_116 : decode b_Mpr_begin 116 = .ok (.iastore, 1) := by decide +kernel
theorem d_Mpr_begin_117 : decode b_Mpr_begin 117 = .ok (.iinc 6 1, 3) := by decide +kernel
theorem d_Mpr_begin_120 : decode b_Mpr_begin 120 = .ok (.goto (-18), 3) := by decide +kernel
theorem d_Mpr_begin_123 : decode b_Mpr_begin 123 = .ok (.iconst 0, 1) := by decide +kernel
theorem d_Mpr_begin_124 : decode b_Mpr_begin 124 = .ok (.istore 6, 2) := by decide +kernel
theorem d_Mpr_begin_126 : decode b_Mpr_begin 126 = .ok (.iload 6, 2) := by decide +kernel
theorem d_Mpr_begin_128 : decode b_Mpr_begin 128 = .ok (.bipush 32, 2) := by decide +kernel
theorem d_Mpr_begin_130 : decode b_Mpr_begin 130 = .ok (.if_icmp .ge 17, 3) := by decide +kernel
theorem d_Mpr_begin_133 : decode b_Mpr_begin 133 = .ok (.aload_n 0, 1) := by decide +kernel
theorem d_Mpr_begin_134 : decode b_Mpr_begin 134 = .ok (.getfield 32, 3) := by decide +kernel
theorem d_Mpr_begin_137 : decode b_Mpr_begin 137 = .ok (.iload 6, 2) := by decide +kernel
theorem d_Mpr_begin_139 : decode b_Mpr_begin 139 = .ok (.iconst 0, 1) := by decide +kernel
theorem d_Mpr_begin_140 : decode b_Mpr_begin 140 = .ok (.iastore, 1) := by decide +kernel
theorem d_Mpr_begin_141 : decode b_Mpr_begin 141 = .ok (.iinc 6 1, 3) := by decide +kernel
theorem d_Mpr_begin_144 : decode b_Mpr_begin 144 = .ok (.goto (-18), 3) := by decide +kernel
theorem d_Mpr_begin_147 : decode b_Mpr_begin 147 = .ok (.iload 5, 2) := by decide +kernel
theorem d_Mpr_begin_149 : decode b_Mpr_begin 149 = .ok (.ifCond .eq 28, 3) := by decide +kernel
theorem d_Mpr_begin_152 : decode b_Mpr_begin 152 = .ok (.aload_n 0, 1) := by decide +kernel
theorem d_Mpr_begin_153 : decode b_Mpr_begin 153 = .ok (.ldc 94, 2) := by decide +kernel
theorem d_Mpr_begin_155 : decode b_Mpr_begin 155 = .ok (.putfield 95, 3) := by decide +kernel
theorem d_Mpr_begin_158 : decode b_Mpr_begin 158 = .ok (.aload_n 0, 1) := by decide +kernel
theorem d_Mpr_begin_159 : decode b_Mpr_begin 159 = .ok (.getfield 32, 3) := by decide +kernel
theorem d_Mpr_begin_162 : decode b_Mpr_begin 162 = .ok (.iconst 2, 1) := by decide +kernel
theorem d_Mpr_begin_163 : decode b_Mpr_begin 163 = .ok (.ldc 98, 2) := by decide +kernel
theorem d_Mpr_begin_165 : decode b_Mpr_begin 165 = .ok (.iastore, 1) := by decide +kernel
theorem d_Mpr_begin_166 : decode b_Mpr_begin 166 = .ok (.aload_n 0, 1) := by decide +kernel
theorem d_Mpr_begin_167 : decode b_Mpr_begin 167 = .ok (.getfield 32, 3) := by decide +kernel
theorem d_Mpr_begin_170 : decode b_Mpr_begin 170 = .ok (.bipush 10, 2) := by decide +kernel
theorem d_Mpr_begin_172 : decode b_Mpr_begin 172 = .ok (.iload_n 2, 1) := by decide +kernel
theorem d_Mpr_begin_173 : decode b_Mpr_begin 173 = .ok (.iastore, 1) := by decide +kernel
theorem d_Mpr_begin_174 : decode b_Mpr_begin 174 = .ok (.goto 29, 3) := by decide +kernel
theorem d_Mpr_begin_177 : decode b_Mpr_begin 177 = .ok (.aload_n 0, 1) := by decide +kernel
theorem d_Mpr_begin_178 : decode b_Mpr_begin 178 = .ok (.iconst 0, 1) := by decide +kernel
theorem d_Mpr_begin_179 : decode b_Mpr_begin 179 = .ok (.putfield 95, 3) := by decide +kernel
theorem d_Mpr_begin_182 : decode b_Mpr_begin 182 = .ok (.aload_n 0, 1) := by decide +kernel
theorem d_Mpr_begin_183 : decode b_Mpr_begin 183 = .ok (.aload_n 1, 1) := by decide +kernel
theorem d_Mpr_begin_184 : decode b_Mpr_begin 184 = .ok (.getfield 99, 3) := by decide +kernel
theorem d_Mpr_begin_187 : decode b_Mpr_begin 187 = .ok (.putfield 80, 3) := by decide +kernel
theorem d_Mpr_begin_190 : decode b_Mpr_begin 190 = .ok (.aload_n 0, 1) := by decide +kernel
theorem d_Mpr_begin_191 : decode b_Mpr_begin 191 = .ok (.aload_n 1, 1) := by decide +kernel
theorem d_Mpr_begin_192 : decode b_Mpr_begin 192 = .ok (.getfield 99, 3) := by decide +kernel
theorem d_Mpr_begin_195 : decode b_Mpr_begin 195 = .ok (.putfield 102, 3) := by decide +kernel
theorem d_Mpr_begin_198 : decode b_Mpr_begin 198 = .ok (.aload_n 0, 1) := by decide +kernel
theorem d_Mpr_begin_199 : decode b_Mpr_begin 199 = .ok (.iload_n 2, 1) := by decide +kernel
theorem d_Mpr_begin_200 : decode b_Mpr_begin 200 = .ok (.invokevirtual 105, 3) := by decide +kernel
theorem d_Mpr_begin_203 : decode b_Mpr_begin 203 = .ok (.return_, 1) := by decide +kernel
theorem q_Mpr_begin : px_y y_Mpr_begin 4 := by unfold px_y; decide +kernel
set_option maxHeartbeats 4000000 in
set_option maxRecDepth 100000 in
theorem c_mq_begin (l : Launch) (D : va_G) (cs : Nat → ClassId) (q : Nat) (qr : Nat → Nat) (qg : Nat → Nat → Option Nat) (qo : Nat → Option Nat) (qf : Nat → Int32) (qa : Nat → Nat → Int32) (h : Nat) (r : Nat → Nat) (g : Nat → Nat → Option Nat) (tf : Nat → Int32) (ta : Nat → Nat → Int32) (pf : Nat → Int32) (na : Nat → Nat → Int32) (ma : Nat → Nat → Int32) (wa : Nat → Nat → Int32) (cf : Nat → Int32) (ca : Nat → Nat → Int32) (ef : Nat → Int32) (ea : Nat → Nat → Int32) (xf : Nat → Int32) (xa : Nat → Nat → Int32) (p0 p1 p2 : Int32)  (g0 : 0 ≤ p1.toInt) (g1 : p1.toInt ≤ 100) (g2 : 0 ≤ p2.toInt) (g3 : p2.toInt ≤ 512) (hpg : (xf 66).toInt = 1 → PgT tf cf ef ta na ma ca ea) : MetV l y_Mpr_begin b_Mpr_begin 7 D cs 1 30 (0) (0) [.ref q, .ref h, .int p0, .int p1, .int p2] [wd_Mpr cs q qr qo qf qa qg, wdP cs h r g tf ta pf na ma wa cf ca ef ea xf xa] (fun _ => True) (fun ps => ∃ (qo' : Nat → Option Nat) (qf' : Nat → Int32) (qa' : Nat → Nat → Int32), (ps = [wd_Mpr cs q qr qo' qf' qa' qg, wdP cs h r g tf ta pf na ma wa cf ca ef ea xf xa]) ∧ (OpS qo' h) ∧ ((qf' 1).toInt = 1) ∧ ((qf' 2).toInt = -2) ∧ ((qf' 3).toInt = 0) ∧ ((qf' 6).toInt = 0) ∧ ((qf' 7).toInt = 0) ∧ ((qf' 21).toInt = 0) ∧ ((qf' 23).toInt = 0) ∧ ((qf' 24).toInt = 0) ∧ ((xf 66).toInt = 2 → 0 ≤ (qf' 4).toInt ∧ (qf' 4).toInt ≤ 1600) ∧ (PsQ (xf 66).toInt (PsT ⟨h, r, g, tf, ta, pf, na, ma, wa, cf, ca, ef, ea, xf, xa⟩ (RMX - 1) qf' qa'))) := by
  refine px_enter (by decide) (Nat.le_of_ble_eq_true rfl) ?_
  intro p e s m below meth c A ls hAe S hr hlk hnm hA hT hX hw hl
  replace hl : lv_has ls 7 [(0, .ref q), (1, .ref h), (2, .int p0), (3, .int p1), (4, .int p2)] := hl
  have lp0 := Int32.le_toInt p0
  have up0 := Int32.toInt_lt p0
  have lp1 := Int32.le_toInt p1
  have up1 := Int32.toInt_lt p1
  have lp2 := Int32.le_toInt p2
  have up2 := Int32.toInt_lt p2
  have cstm2 : ((-2) : Int32).toInt = (-2) := rfl
  have cst0 : (0 : Int32).toInt = 0 := rfl
  have cst1 : (1 : Int32).toInt = 1 := rfl
  have cst2 : (2 : Int32).toInt = 2 := rfl
  have cst10 : (10 : Int32).toInt = 10 := rfl
  have cst16 : (16 : Int32).toInt = 16 := rfl
  have cst32 : (32 : Int32).toInt = 32 := rfl
  have J126 : ∀ (n_126 : Nat) (qo_126 : Nat → Option Nat) (qf_126 : Nat → Int32) (qa_126 : Nat → Nat → Int32) (x126_5 x126_6 : Int32) (H : Heap) (locs : List Loc) (ls : Array Slot), (OpS qo_126 h) → ((qf_126 1).toInt = 1) → ((qf_126 2).toInt = -2) → ((qf_126 3).toInt = 0) → ((qf_126 6).toInt = 0) → ((qf_126 7).toInt = 0) → ((qf_126 21).toInt = 0) → ((qf_126 23).toInt = 0) → ((qf_126 24).toInt = 0) → ((qf_126 10).toInt = 0) → ((qf_126 14).toInt = 0) → ((qf_126 5).toInt = p2.toInt) → (0 ≤ x126_5.toInt) → (x126_5.toInt ≤ 1) → (x126_5.toInt = 1 → (xf 66).toInt = 2) → (x126_5.toInt = 0 → (xf 66).toInt ≠ 2) → (x126_5.toInt = 1 → (qf_126 4).toInt = 16 * p1.toInt) → (x126_5.toInt = 0 → (qf_126 4).toInt = p1.toInt) → (0 ≤ x126_6.toInt) → (x126_6.toInt ≤ 32) → 32 - x126_6.toInt < (n_126 : Int) → pw D A s.heap H locs [wd_Mpr cs q qr qo_126 qf_126 qa_126 qg, wdP cs h r g tf ta pf na ma wa cf ca ef ea xf xa] → lv_has ls 7 [(0, .ref q), (1, .ref h), (2, .int p0), (3, .int p1), (4, .int p2), (5, .int x126_5), (6, .int x126_6)] → W p l e { frames := 1, cells := 0, slots := 0, locals := 30 } s m [.ref q, .ref h, .int p0, .int p1, .int p2].toArray below meth c H locs 0 0 (MQ below (va_Qv (fun ps => ∃ (qo' : Nat → Option Nat) (qf' : Nat → Int32) (qa' : Nat → Nat → Int32), (ps = [wd_Mpr cs q qr qo' qf' qa' qg, wdP cs h r g tf ta pf na ma wa cf ca ef ea xf xa]) ∧ (OpS qo' h) ∧ ((qf' 1).toInt = 1) ∧ ((qf' 2).toInt = -2) ∧ ((qf' 3).toInt = 0) ∧ ((qf' 6).toInt = 0) ∧ ((qf' 7).toInt = 0) ∧ ((qf' 21).toInt = 0) ∧ ((qf' 23).toInt = 0) ∧ ((qf' 24).toInt = 0) ∧ ((xf 66).toInt = 2 → 0 ≤ (qf' 4).toInt ∧ (qf' 4).toInt ≤ 1600) ∧ (PsQ (xf 66).toInt (PsT ⟨h, r, g, tf, ta, pf, na, ma, wa, cf, ca, ef, ea, xf, xa⟩ (RMX - 1) qf' qa'))) (pc_B D (va_A ([wd_Mpr cs q qr qo qf qa qg, wdP cs h r g tf ta pf na ma wa cf ca ef ea xf xa] : List va_W).flatten s.heap.size)) (va_A ([wd_Mpr cs q qr qo qf qa qg, wdP cs h r g tf ta pf na ma wa cf ca ef ea xf xa] : List va_W).flatten s.heap.size)) [.ref q, .ref h, .int p0, .int p1, .int p2].toArray s 0 0 A) (F0 m 126 ls []) := by
    intro  n_126
    induction n_126 with
    | zero =>
      intro qo_126 qf_126 qa_126 x126_5 x126_6 H locs ls k126_0 k126_1 k126_2 k126_3 k126_4 k126_5 k126_6 k126_7 k126_8 k126_9 k126_10 k126_11 k126_12 k126_13 k126_14 k126_15 k126_16 k126_17 k126_18 k126_19 hm hw hl
      have lx126_5 := Int32.le_toInt x126_5
      have ux126_5 := Int32.toInt_lt x126_5
      have lx126_6 := Int32.le_toInt x126_6
      have ux126_6 := Int32.toInt_lt x126_6
      have hop := k126_0
      exact absurd hm (by omega)
    | succ n_126 ih126 =>
      intro qo_126 qf_126 qa_126 x126_5 x126_6 H locs ls k126_0 k126_1 k126_2 k126_3 k126_4 k126_5 k126_6 k126_7 k126_8 k126_9 k126_10 k126_11 k126_12 k126_13 k126_14 k126_15 k126_16 k126_17 k126_18 k126_19 hm hw hl
      have lx126_5 := Int32.le_toInt x126_5
      have ux126_5 := Int32.toInt_lt x126_5
      have lx126_6 := Int32.le_toInt x126_6
      have ux126_6 := Int32.toInt_lt x126_6
      have hop := k126_0
      refine lv_iload S.x S.b d_Mpr_begin_126 (lv_at hl 6 rfl) ?_
      refine lv_bipush (v := 32) S.x S.b d_Mpr_begin_128 (by decide) ?_
      refine lv_icmp_ge (tgt := 147) S.x S.b d_Mpr_begin_130 (by decide) (fun c1 => ?_) (fun c1 => ?_)
      · have nc1 : (32 : Int) ≤ x126_6.toInt := (i_le (x := 32) (y := x126_6)).mp c1
        refine lv_iload S.x S.b d_Mpr_begin_147 (lv_at hl 5 rfl) ?_
        refine lv_if_eq (tgt := 177) S.x S.b d_Mpr_begin_149 (by decide) (fun c2 => ?_) (fun c2 => ?_)
        · have nc2 : x126_5.toInt = (0 : Int) := (i_eq (x := x126_5) (y := 0)).mp c2
          refine lv_aload_n S.x S.b d_Mpr_begin_177 rfl (lv_at hl 0 rfl) ?_
          refine lv_iconst (v := 0) S.x S.b d_Mpr_begin_178 (by decide) ?_
          refine px_put S k_Mpr hT hw 0 0 11 rfl rfl (by decide) m11_2 rfl rfl rfl (Nat.le_of_ble_eq_true rfl) d_Mpr_begin_179 (w' := wd_Mpr cs q qr qo_126 (upd qf_126 11 0) qa_126 qg) (ps' := [wd_Mpr cs q qr qo_126 (upd qf_126 11 0) qa_126 qg, wdP cs h r g tf ta pf na ma wa cf ca ef ea xf xa]) rfl rfl (fun H locs hw => ?_)
          refine lv_aload_n S.x S.b d_Mpr_begin_182 rfl (lv_at hl 0 rfl) ?_
          refine lv_aload_n S.x S.b d_Mpr_begin_183 rfl (lv_at hl 1 rfl) ?_
          refine px_getN S k_Mpg hT hw 1 0 55 (v := .int (cf 55)) rfl rfl rfl (by decide) m10_50n d_Mpr_begin_184 ?_
          refine px_put S k_Mpr hT hw 0 0 12 rfl rfl (by decide) m11_4 rfl rfl rfl (Nat.le_of_ble_eq_true rfl) d_Mpr_begin_187 (w' := wd_Mpr cs q qr qo_126 (upd (upd qf_126 11 0) 12 (cf 55)) qa_126 qg) (ps' := [wd_Mpr cs q qr qo_126 (upd (upd qf_126 11 0) 12 (cf 55)) qa_126 qg, wdP cs h r g tf ta pf na ma wa cf ca ef ea xf xa]) rfl rfl (fun H locs hw => ?_)
          refine lv_aload_n S.x S.b d_Mpr_begin_190 rfl (lv_at hl 0 rfl) ?_
          refine lv_aload_n S.x S.b d_Mpr_begin_191 rfl (lv_at hl 1 rfl) ?_
          refine px_getN S k_Mpg hT hw 1 0 55 (v := .int (cf 55)) rfl rfl rfl (by decide) m10_50n d_Mpr_begin_192 ?_
          refine px_put S k_Mpr hT hw 0 0 13 rfl rfl (by decide) m11_5 rfl rfl rfl (Nat.le_of_ble_eq_true rfl) d_Mpr_begin_195 (w' := wd_Mpr cs q qr qo_126 (upd (upd (upd qf_126 11 0) 12 (cf 55)) 13 (cf 55)) qa_126 qg) (ps' := [wd_Mpr cs q qr qo_126 (upd (upd (upd qf_126 11 0) 12 (cf 55)) 13 (cf 55)) qa_126 qg, wdP cs h r g tf ta pf na ma wa cf ca ef ea xf xa]) rfl rfl (fun H locs hw => ?_)
          refine lv_aload_n S.x S.b d_Mpr_begin_198 rfl (lv_at hl 0 rfl) ?_
          refine lv_iload_n S.x S.b d_Mpr_begin_199 rfl (lv_at hl 2 rfl) ?_
          have hw : pw D A s.heap _ _ [wdP cs h r g tf ta pf na ma wa cf ca ef ea xf xa, wd_Mpr cs q qr qo_126 (upd (upd (upd qf_126 11 0) 12 (cf 55)) 13 (cf 55)) qa_126 qg] := hw.sub [1, 0] rfl rfl
          refine px_callv (pr := [wdP cs h r g tf ta pf na ma wa cf ca ef ea xf xa]) (px_runV (As := [.int p0]) (rest := []) S (c_mq_give l D cs q qr qg qo_126 (upd (upd (upd qf_126 11 0) 12 (cf 55)) 13 (cf 55)) qa_126 p0  (show 0 ≤ (qf_126 10).toInt from by first | exact oz_b1de7dbe7e k126_9 | omega) (show (qf_126 10).toInt < 62500 from by first | exact oz_10e6b5180a k126_9 | omega) _) hT (pr := [wdP cs h r g tf ta pf na ma wa cf ca ef ea xf xa]) (pcs := [wd_Mpr cs q qr qo_126 (upd (upd (upd qf_126 11 0) 12 (cf 55)) 13 (cf 55)) qa_126 qg]) hw px_X.tt (px_recv hT hw 1 0 rfl rfl rfl) m13_161 m13_158 m13_159 m13_160 m1_22 q_Mpr_give ⟨Nat.le_of_ble_eq_true rfl, Nat.le_of_ble_eq_true rfl⟩ hl.1 rfl (Nat.le_of_ble_eq_true rfl) d_Mpr_begin_200 ⟨Nat.le_of_ble_eq_true rfl, Nat.le_of_ble_eq_true rfl⟩) hw hA (fun p7 H locs hp7 hw => ?_)
          obtain ⟨qf5, qa6, rfl, e9, e10, e11, e12, e13, e14, e15, e16, e17, e18, e19, e20, e21, e22, e23, e24⟩ := hp7
          replace e9 : (qf5 10).toInt = (qf_126 10).toInt + 1 := e9
          replace e10 : (qf5 1).toInt = (qf_126 1).toInt := e10
          replace e11 : (qf5 2).toInt = (qf_126 2).toInt := e11
          replace e12 : (qf5 3).toInt = (qf_126 3).toInt := e12
          replace e13 : (qf5 4).toInt = (qf_126 4).toInt := e13
          replace e14 : (qf5 5).toInt = (qf_126 5).toInt := e14
          replace e15 : (qf5 6).toInt = (qf_126 6).toInt := e15
          replace e16 : (qf5 7).toInt = (qf_126 7).toInt := e16
          replace e17 : (qf5 11).toInt = (0 : Int) := e17
          replace e18 : (qf5 12).toInt = (cf 55).toInt := e18
          replace e19 : (qf5 13).toInt = (cf 55).toInt := e19
          replace e20 : (qf5 14).toInt = (qf_126 14).toInt := e20
          replace e21 : (qf5 21).toInt = (qf_126 21).toInt := e21
          replace e22 : (qf5 23).toInt = (qf_126 23).toInt := e22
          replace e23 : (qf5 24).toInt = (qf_126 24).toInt := e23
          replace e24 : NuU qa_126 qa6 9 (qf_126 10).toInt p0 := e24
          skip
          replace hw : pw D A s.heap H locs [wdP cs h r g tf ta pf na ma wa cf ca ef ea xf xa, wd_Mpr cs q qr qo_126 qf5 qa6 qg] := hw
          have hw : pw D A s.heap _ _ [wd_Mpr cs q qr qo_126 qf5 qa6 qg, wdP cs h r g tf ta pf na ma wa cf ca ef ea xf xa] := hw.sub [1, 0] rfl rfl
          exact px_vret S hr hlk hAe hw (Nat.le_of_ble_eq_true rfl) (Nat.le_of_ble_eq_true rfl) (⟨qo_126, qf5, qa6, rfl, (show OpS qo_126 h from hop), (show (qf5 1).toInt = 1 from by first | exact oz_e863b17997 e10 k126_1 | omega), (show (qf5 2).toInt = -2 from by first | exact oz_c63343e2a8 e11 k126_2 | omega), (show (qf5 3).toInt = 0 from by first | exact oz_4193540c58 e12 k126_3 | omega), (show (qf5 6).toInt = 0 from by first | exact oz_4193540c58 e15 k126_4 | omega), (show (qf5 7).toInt = 0 from by first | exact oz_4193540c58 e16 k126_5 | omega), (show (qf5 21).toInt = 0 from by first | exact oz_4193540c58 e21 k126_6 | omega), (show (qf5 23).toInt = 0 from by first | exact oz_4193540c58 e22 k126_7 | omega), (show (qf5 24).toInt = 0 from by first | exact oz_4193540c58 e23 k126_8 | omega), (show (xf 66).toInt = 2 → 0 ≤ (qf5 4).toInt ∧ (qf5 4).toInt ≤ 1600 from by first | exact fun q9 => oz_c4e478ef92 e13 nc2 k126_12 k126_17 g0 g1 | omega), (show PsQ (xf 66).toInt (PsT ⟨h, r, g, tf, ta, pf, na, ma, wa, cf, ca, ef, ea, xf, xa⟩ (RMX - 1) qf5 qa6) from (fun q9 => bg_T (g := ⟨h, r, g, tf, ta, pf, na, ma, wa, cf, ca, ef, ea, xf, xa⟩) (hpg q9) (by omega) (by omega) (by omega) (by omega) (by omega) (by omega) (by omega) (by omega) (by omega)))⟩) d_Mpr_begin_203
        · have nc2 : ¬ x126_5.toInt = (0 : Int) := mt (i_eq (x := x126_5) (y := 0)).mpr c2
          refine lv_aload_n S.x S.b d_Mpr_begin_152 rfl (lv_at hl 0 rfl) ?_
          refine lv_ldc (v := 4194304) S.x S.b S.own (S.w m13_156) d_Mpr_begin_153 ?_
          refine px_put S k_Mpr hT hw 0 0 11 rfl rfl (by decide) m11_2 rfl rfl rfl (Nat.le_of_ble_eq_true rfl) d_Mpr_begin_155 (w' := wd_Mpr cs q qr qo_126 (upd qf_126 11 4194304) qa_126 qg) (ps' := [wd_Mpr cs q qr qo_126 (upd qf_126 11 4194304) qa_126 qg, wdP cs h r g tf ta pf na ma wa cf ca ef ea xf xa]) rfl rfl (fun H locs hw => ?_)
          refine lv_aload_n S.x S.b d_Mpr_begin_158 rfl (lv_at hl 0 rfl) ?_
          refine px_get S k_Mpr hT hw 0 0 19 (v := .ref (qr 19)) rfl rfl rfl (by decide) m11_11 d_Mpr_begin_159 ?_
          refine lv_iconst (v := 2) S.x S.b d_Mpr_begin_162 (by decide) ?_
          refine lv_ldc (v := 8388608) S.x S.b S.own (S.w m13_157) d_Mpr_begin_163 ?_
          refine px_iast S hT hw 0 7 (n := 32) (f := (qa_126 19)) (x := 2) (y := 8388608) rfl (ga_Mpr_19 _ _ _ _ _ _ _) (vp_in_iff.mpr (by constructor <;> omega)) d_Mpr_begin_165 (w' := wd_Mpr cs q qr qo_126 (upd qf_126 11 4194304) (va_up qa_126 19 (upd (qa_126 19) (2 : Int32).toNatClampNeg 8388608)) qg) (ps' := [wd_Mpr cs q qr qo_126 (upd qf_126 11 4194304) (va_up qa_126 19 (upd (qa_126 19) (2 : Int32).toNatClampNeg 8388608)) qg, wdP cs h r g tf ta pf na ma wa cf ca ef ea xf xa]) (sa_Mpr_19 _ _ _ _ _ _ _ _) rfl (fun H locs hw => ?_)
          refine lv_aload_n S.x S.b d_Mpr_begin_166 rfl (lv_at hl 0 rfl) ?_
          refine px_get S k_Mpr hT hw 0 0 19 (v := .ref (qr 19)) rfl rfl rfl (by decide) m11_11 d_Mpr_begin_167 ?_
          refine lv_bipush (v := 10) S.x S.b d_Mpr_begin_170 (by decide) ?_
          refine lv_iload_n S.x S.b d_Mpr_begin_172 rfl (lv_at hl 2 rfl) ?_
          refine px_iast S hT hw 0 7 (n := 32) (f := ((va_up qa_126 19 (upd (qa_126 19) (2 : Int32).toNatClampNeg 8388608)) 19)) (x := 10) (y := p0) rfl (ga_Mpr_19 _ _ _ _ _ _ _) (vp_in_iff.mpr (by constructor <;> omega)) d_Mpr_begin_173 (w' := wd_Mpr cs q qr qo_126 (upd qf_126 11 4194304) (va_up (va_up qa_126 19 (upd (qa_126 19) (2 : Int32).toNatClampNeg 8388608)) 19 (upd ((va_up qa_126 19 (upd (qa_126 19) (2 : Int32).toNatClampNeg 8388608)) 19) (10 : Int32).toNatClampNeg p0)) qg) (ps' := [wd_Mpr cs q qr qo_126 (upd qf_126 11 4194304) (va_up (va_up qa_126 19 (upd (qa_126 19) (2 : Int32).toNatClampNeg 8388608)) 19 (upd ((va_up qa_126 19 (upd (qa_126 19) (2 : Int32).toNatClampNeg 8388608)) 19) (10 : Int32).toNatClampNeg p0)) qg, wdP cs h r g tf ta pf na ma wa cf ca ef ea xf xa]) (sa_Mpr_19 _ _ _ _ _ _ _ _) rfl (fun H locs hw => ?_)
          refine lv_goto (tgt := 203) S.x S.b d_Mpr_begin_174 (by decide) ?_
          exact px_vret S hr hlk hAe hw (Nat.le_of_ble_eq_true rfl) (Nat.le_of_ble_eq_true rfl) (⟨qo_126, (upd qf_126 11 4194304), (va_up (va_up qa_126 19 (upd (qa_126 19) (2 : Int32).toNatClampNeg 8388608)) 19 (upd ((va_up qa_126 19 (upd (qa_126 19) (2 : Int32).toNatClampNeg 8388608)) 19) (10 : Int32).toNatClampNeg p0)), rfl, (show OpS qo_126 h from hop), (show (qf_126 1).toInt = 1 from by first | exact k126_1 | omega), (show (qf_126 2).toInt = -2 from by first | exact k126_2 | omega), (show (qf_126 3).toInt = 0 from by first | exact k126_3 | omega), (show (qf_126 6).toInt = 0 from by first | exact k126_4 | omega), (show (qf_126 7).toInt = 0 from by first | exact k126_5 | omega), (show (qf_126 21).toInt = 0 from by first | exact k126_6 | omega), (show (qf_126 23).toInt = 0 from by first | exact k126_7 | omega), (show (qf_126 24).toInt = 0 from by first | exact k126_8 | omega), (show (xf 66).toInt = 2 → 0 ≤ (qf_126 4).toInt ∧ (qf_126 4).toInt ≤ 1600 from by first | with_reducible rfl | with_reducible assumption | omega), (show PsQ (xf 66).toInt (PsT ⟨h, r, g, tf, ta, pf, na, ma, wa, cf, ca, ef, ea, xf, xa⟩ (RMX - 1) (upd qf_126 11 4194304) (va_up (va_up qa_126 19 (upd (qa_126 19) (2 : Int32).toNatClampNeg 8388608)) 19 (upd ((va_up qa_126 19 (upd (qa_126 19) (2 : Int32).toNatClampNeg 8388608)) 19) (10 : Int32).toNatClampNeg p0))) from (fun q9 => absurd q9 (by omega)))⟩) d_Mpr_begin_203
      · have nc1 : ¬ (32 : Int) ≤ x126_6.toInt := mt (i_le (x := 32) (y := x126_6)).mpr c1
        refine lv_aload_n S.x S.b d_Mpr_begin_133 rfl (lv_at hl 0 rfl) ?_
        refine px_get S k_Mpr hT hw 0 0 19 (v := .ref (qr 19)) rfl rfl rfl (by decide) m11_11 d_Mpr_begin_134 ?_
        refine lv_iload S.x S.b d_Mpr_begin_137 (lv_at hl 6 rfl) ?_
        refine lv_iconst (v := 0) S.x S.b d_Mpr_begin_139 (by decide) ?_
        refine px_iast S hT hw 0 7 (n := 32) (f := (qa_126 19)) (x := x126_6) (y := 0) rfl (ga_Mpr_19 _ _ _ _ _ _ _) (vp_in_iff.mpr (by constructor <;> omega)) d_Mpr_begin_140 (w' := wd_Mpr cs q qr qo_126 qf_126 (va_up qa_126 19 (upd (qa_126 19) x126_6.toNatClampNeg 0)) qg) (ps' := [wd_Mpr cs q qr qo_126 qf_126 (va_up qa_126 19 (upd (qa_126 19) x126_6.toNatClampNeg 0)) qg, wdP cs h r g tf ta pf na ma wa cf ca ef ea xf xa]) (sa_Mpr_19 _ _ _ _ _ _ _ _) rfl (fun H locs hw => ?_)
        obtain ⟨z25, ez25⟩ : ∃ y : Int32, y = x126_6 + 1 := ⟨_, rfl⟩
        have tz25 : z25.toInt = (x126_6.toInt + 1 + 2147483648) % 4294967296 - 2147483648 := by rw [ez25]; exact i_add x126_6 1
        have lz25 := Int32.le_toInt z25
        have uz25 := Int32.toInt_lt z25
        try replace tz25 : z25.toInt = x126_6.toInt + 1 := by omega
        refine lv_iinc (v := z25) (lv' := [(6, .int z25), (0, .ref q), (1, .ref h), (2, .int p0), (3, .int p1), (4, .int p2), (5, .int x126_5)]) S.x S.b d_Mpr_begin_141 hl (k := 6) rfl (by rw [ez25]; rfl) (by decide) rfl (fun ls hl => ?_)
        refine lv_goto (tgt := 126) S.x S.b d_Mpr_begin_144 (by decide) ?_
        exact ih126 qo_126 qf_126 (va_up qa_126 19 (upd (qa_126 19) x126_6.toNatClampNeg 0)) x126_5 z25 _ _ ls (show OpS qo_126 h from hop) (show (qf_126 1).toInt = 1 from by first | exact k126_1 | omega) (show (qf_126 2).toInt = -2 from by first | exact k126_2 | omega) (show (qf_126 3).toInt = 0 from by first | exact k126_3 | omega) (show (qf_126 6).toInt = 0 from by first | exact k126_4 | omega) (show (qf_126 7).toInt = 0 from by first | exact k126_5 | omega) (show (qf_126 21).toInt = 0 from by first | exact k126_6 | omega) (show (qf_126 23).toInt = 0 from by first | exact k126_7 | omega) (show (qf_126 24).toInt = 0 from by first | exact k126_8 | omega) (show (qf_126 10).toInt = 0 from by first | exact k126_9 | omega) (show (qf_126 14).toInt = 0 from by first | exact k126_10 | omega) (show (qf_126 5).toInt = p2.toInt from by first | exact k126_11 | omega) (show 0 ≤ x126_5.toInt from by first | exact k126_12 | omega) (show x126_5.toInt ≤ 1 from by first | exact k126_13 | omega) (show x126_5.toInt = 1 → (xf 66).toInt = 2 from by first | exact k126_14 | omega) (show x126_5.toInt = 0 → (xf 66).toInt ≠ 2 from by first | exact k126_15 | omega) (show x126_5.toInt = 1 → (qf_126 4).toInt = 16 * p1.toInt from by first | exact k126_16 | omega) (show x126_5.toInt = 0 → (qf_126 4).toInt = p1.toInt from by first | exact k126_17 | omega) (show 0 ≤ z25.toInt from by first | exact oz_ae613611c0 tz25 k126_18 | omega) (show z25.toInt ≤ 32 from by first | exact oz_a7b1c0f89d tz25 nc1 | omega) (show 32 - z25.toInt < (n_126 : Int) from by first | exact oz_7cb7114204 hm tz25 | omega) hw (lv_sub hl [1, 2, 3, 4, 5, 6, 0] rfl)
  have J102 : ∀ (n_102 : Nat) (qo_102 : Nat → Option Nat) (qf_102 : Nat → Int32) (qa_102 : Nat → Nat → Int32) (x102_5 x102_6 : Int32) (H : Heap) (locs : List Loc) (ls : Array Slot), (OpS qo_102 h) → ((qf_102 1).toInt = 1) → ((qf_102 2).toInt = -2) → ((qf_102 3).toInt = 0) → ((qf_102 6).toInt = 0) → ((qf_102 7).toInt = 0) → ((qf_102 21).toInt = 0) → ((qf_102 23).toInt = 0) → ((qf_102 24).toInt = 0) → ((qf_102 10).toInt = 0) → ((qf_102 14).toInt = 0) → ((qf_102 5).toInt = p2.toInt) → (0 ≤ x102_5.toInt) → (x102_5.toInt ≤ 1) → (x102_5.toInt = 1 → (xf 66).toInt = 2) → (x102_5.toInt = 0 → (xf 66).toInt ≠ 2) → (x102_5.toInt = 1 → (qf_102 4).toInt = 16 * p1.toInt) → (x102_5.toInt = 0 → (qf_102 4).toInt = p1.toInt) → (0 ≤ x102_6.toInt) → (x102_6.toInt ≤ 37000) → 37000 - x102_6.toInt < (n_102 : Int) → pw D A s.heap H locs [wd_Mpr cs q qr qo_102 qf_102 qa_102 qg, wdP cs h r g tf ta pf na ma wa cf ca ef ea xf xa] → lv_has ls 7 [(0, .ref q), (1, .ref h), (2, .int p0), (3, .int p1), (4, .int p2), (5, .int x102_5), (6, .int x102_6)] → W p l e { frames := 1, cells := 0, slots := 0, locals := 30 } s m [.ref q, .ref h, .int p0, .int p1, .int p2].toArray below meth c H locs 0 0 (MQ below (va_Qv (fun ps => ∃ (qo' : Nat → Option Nat) (qf' : Nat → Int32) (qa' : Nat → Nat → Int32), (ps = [wd_Mpr cs q qr qo' qf' qa' qg, wdP cs h r g tf ta pf na ma wa cf ca ef ea xf xa]) ∧ (OpS qo' h) ∧ ((qf' 1).toInt = 1) ∧ ((qf' 2).toInt = -2) ∧ ((qf' 3).toInt = 0) ∧ ((qf' 6).toInt = 0) ∧ ((qf' 7).toInt = 0) ∧ ((qf' 21).toInt = 0) ∧ ((qf' 23).toInt = 0) ∧ ((qf' 24).toInt = 0) ∧ ((xf 66).toInt = 2 → 0 ≤ (qf' 4).toInt ∧ (qf' 4).toInt ≤ 1600) ∧ (PsQ (xf 66).toInt (PsT ⟨h, r, g, tf, ta, pf, na, ma, wa, cf, ca, ef, ea, xf, xa⟩ (RMX - 1) qf' qa'))) (pc_B D (va_A ([wd_Mpr cs q qr qo qf qa qg, wdP cs h r g tf ta pf na ma wa cf ca ef ea xf xa] : List va_W).flatten s.heap.size)) (va_A ([wd_Mpr cs q qr qo qf qa qg, wdP cs h r g tf ta pf na ma wa cf ca ef ea xf xa] : List va_W).flatten s.heap.size)) [.ref q, .ref h, .int p0, .int p1, .int p2].toArray s 0 0 A) (F0 m 102 ls []) := by
    intro  n_102
    induction n_102 with
    | zero =>
      intro qo_102 qf_102 qa_102 x102_5 x102_6 H locs ls k102_0 k102_1 k102_2 k102_3 k102_4 k102_5 k102_6 k102_7 k102_8 k102_9 k102_10 k102_11 k102_12 k102_13 k102_14 k102_15 k102_16 k102_17 k102_18 k102_19 hm hw hl
      have lx102_5 := Int32.le_toInt x102_5
      have ux102_5 := Int32.toInt_lt x102_5
      have lx102_6 := Int32.le_toInt x102_6
      have ux102_6 := Int32.toInt_lt x102_6
      have hop := k102_0
      exact absurd hm (by omega)
    | succ n_102 ih102 =>
      intro qo_102 qf_102 qa_102 x102_5 x102_6 H locs ls k102_0 k102_1 k102_2 k102_3 k102_4 k102_5 k102_6 k102_7 k102_8 k102_9 k102_10 k102_11 k102_12 k102_13 k102_14 k102_15 k102_16 k102_17 k102_18 k102_19 hm hw hl
      have lx102_5 := Int32.le_toInt x102_5
      have ux102_5 := Int32.toInt_lt x102_5
      have lx102_6 := Int32.le_toInt x102_6
      have ux102_6 := Int32.toInt_lt x102_6
      have hop := k102_0
      refine lv_iload S.x S.b d_Mpr_begin_102 (lv_at hl 6 rfl) ?_
      refine lv_ldc (v := 37000) S.x S.b S.own (S.w m10_219) d_Mpr_begin_104 ?_
      refine lv_icmp_ge (tgt := 123) S.x S.b d_Mpr_begin_106 (by decide) (fun c26 => ?_) (fun c26 => ?_)
      · have nc26 : (37000 : Int) ≤ x102_6.toInt := (i_le (x := 37000) (y := x102_6)).mp c26
        refine lv_iconst (v := 0) S.x S.b d_Mpr_begin_123 (by decide) ?_
        refine lv_istore (lv' := [(6, .int 0), (0, .ref q), (1, .ref h), (2, .int p0), (3, .int p1), (4, .int p2), (5, .int x102_5)]) S.x S.b d_Mpr_begin_124 hl (by decide) rfl (fun ls hl => ?_)
        exact J126 ((32 - (0 : Int)).toNat + 1) qo_102 qf_102 qa_102 x102_5 (0 : Int32) _ _ ls (show OpS qo_102 h from hop) (show (qf_102 1).toInt = 1 from by first | exact k102_1 | omega) (show (qf_102 2).toInt = -2 from by first | exact k102_2 | omega) (show (qf_102 3).toInt = 0 from by first | exact k102_3 | omega) (show (qf_102 6).toInt = 0 from by first | exact k102_4 | omega) (show (qf_102 7).toInt = 0 from by first | exact k102_5 | omega) (show (qf_102 21).toInt = 0 from by first | exact k102_6 | omega) (show (qf_102 23).toInt = 0 from by first | exact k102_7 | omega) (show (qf_102 24).toInt = 0 from by first | exact k102_8 | omega) (show (qf_102 10).toInt = 0 from by first | exact k102_9 | omega) (show (qf_102 14).toInt = 0 from by first | exact k102_10 | omega) (show (qf_102 5).toInt = p2.toInt from by first | exact k102_11 | omega) (show 0 ≤ x102_5.toInt from by first | exact k102_12 | omega) (show x102_5.toInt ≤ 1 from by first | exact k102_13 | omega) (show x102_5.toInt = 1 → (xf 66).toInt = 2 from by first | exact k102_14 | omega) (show x102_5.toInt = 0 → (xf 66).toInt ≠ 2 from by first | exact k102_15 | omega) (show x102_5.toInt = 1 → (qf_102 4).toInt = 16 * p1.toInt from by first | exact k102_16 | omega) (show x102_5.toInt = 0 → (qf_102 4).toInt = p1.toInt from by first | exact k102_17 | omega) (show 0 ≤ (0 : Int) from by first | decide | omega) (show (0 : Int) ≤ 32 from by first | decide | omega) (show 32 - (0 : Int) < ((((32 - (0 : Int)).toNat + 1 : Nat) : Int) : Int) from by first | exact oz_natlt | omega) hw (lv_sub hl [1, 2, 3, 4, 5, 6, 0] rfl)
      · have nc26 : ¬ (37000 : Int) ≤ x102_6.toInt := mt (i_le (x := 37000) (y := x102_6)).mpr c26
        refine lv_aload_n S.x S.b d_Mpr_begin_109 rfl (lv_at hl 0 rfl) ?_
        refine px_get S k_Mpr hT hw 0 0 8 (v := .ref (qr 8)) rfl rfl rfl (by decide) m10_236 d_Mpr_begin_110 ?_
        refine lv_iload S.x S.b d_Mpr_begin_113 (lv_at hl 6 rfl) ?_
        refine lv_iconst (v := 0) S.x S.b d_Mpr_begin_115 (by decide) ?_
        refine px_iast S hT hw 0 1 (n := 37000) (f := (qa_102 8)) (x := x102_6) (y := 0) rfl (ga_Mpr_8 _ _ _ _ _ _ _) (vp_in_iff.mpr (by constructor <;> omega)) d_Mpr_begin_116 (w' := wd_Mpr cs q qr qo_102 qf_102 (va_up qa_102 8 (upd (qa_102 8) x102_6.toNatClampNeg 0)) qg) (ps' := [wd_Mpr cs q qr qo_102 qf_102 (va_up qa_102 8 (upd (qa_102 8) x102_6.toNatClampNeg 0)) qg, wdP cs h r g tf ta pf na ma wa cf ca ef ea xf xa]) (sa_Mpr_8 _ _ _ _ _ _ _ _) rfl (fun H locs hw => ?_)
        obtain ⟨z27, ez27⟩ : ∃ y : Int32, y = x102_6 + 1 := ⟨_, rfl⟩
        have tz27 : z27.toInt = (x102_6.toInt + 1 + 2147483648) % 4294967296 - 2147483648 := by rw [ez27]; exact i_add x102_6 1
        have lz27 := Int32.le_toInt z27
        have uz27 := Int32.toInt_lt z27
        try replace tz27 : z27.toInt = x102_6.toInt + 1 := by omega
        refine lv_iinc (v := z27) (lv' := [(6, .int z27), (0, .ref q), (1, .ref h), (2, .int p0), (3, .int p1), (4, .int p2), (5, .int x102_5)]) S.x S.b d_Mpr_begin_117 hl (k := 6) rfl (by rw [ez27]; rfl) (by decide) rfl (fun ls hl => ?_)
        refine lv_goto (tgt := 102) S.x S.b d_Mpr_begin_120 (by decide) ?_
        exact ih102 qo_102 qf_102 (va_up qa_102 8 (upd (qa_102 8) x102_6.toNatClampNeg 0)) x102_5 z27 _ _ ls (show OpS qo_102 h from hop) (show (qf_102 1).toInt = 1 from by first | exact k102_1 | omega) (show (qf_102 2).toInt = -2 from by first | exact k102_2 | omega) (show (qf_102 3).toInt = 0 from by first | exact k102_3 | omega) (show (qf_102 6).toInt = 0 from by first | exact k102_4 | omega) (show (qf_102 7).toInt = 0 from by first | exact k102_5 | omega) (show (qf_102 21).toInt = 0 from by first | exact k102_6 | omega) (show (qf_102 23).toInt = 0 from by first | exact k102_7 | omega) (show (qf_102 24).toInt = 0 from by first | exact k102_8 | omega) (show (qf_102 10).toInt = 0 from by first | exact k102_9 | omega) (show (qf_102 14).toInt = 0 from by first | exact k102_10 | omega) (show (qf_102 5).toInt = p2.toInt from by first | exact k102_11 | omega) (show 0 ≤ x102_5.toInt from by first | exact k102_12 | omega) (show x102_5.toInt ≤ 1 from by first | exact k102_13 | omega) (show x102_5.toInt = 1 → (xf 66).toInt = 2 from by first | exact k102_14 | omega) (show x102_5.toInt = 0 → (xf 66).toInt ≠ 2 from by first | exact k102_15 | omega) (show x102_5.toInt = 1 → (qf_102 4).toInt = 16 * p1.toInt from by first | exact k102_16 | omega) (show x102_5.toInt = 0 → (qf_102 4).toInt = p1.toInt from by first | exact k102_17 | omega) (show 0 ≤ z27.toInt from by first | exact oz_ae613611c0 tz27 k102_18 | omega) (show z27.toInt ≤ 37000 from by first | exact oz_28c5becec0 tz27 nc26 | omega) (show 37000 - z27.toInt < (n_102 : Int) from by first | exact oz_0ce7cdf613 hm tz27 | omega) hw (lv_sub hl [1, 2, 3, 4, 5, 6, 0] rfl)
  refine lv_aload_n S.x S.b d_Mpr_begin_0 rfl (lv_at hl 0 rfl) ?_
  refine lv_aload_n S.x S.b d_Mpr_begin_1 rfl (lv_at hl 1 rfl) ?_
  refine px_put S k_Mpr hT hw 0 0 0 rfl rfl (by decide) m10_221 rfl rfl rfl (Nat.le_of_ble_eq_true rfl) d_Mpr_begin_2 (w' := wd_Mpr cs q qr (va_up qo 0 (some h)) qf qa qg) (ps' := [wd_Mpr cs q qr (va_up qo 0 (some h)) qf qa qg, wdP cs h r g tf ta pf na ma wa cf ca ef ea xf xa]) rfl rfl (fun H locs hw => ?_)
  refine lv_aload_n S.x S.b d_Mpr_begin_5 rfl (lv_at hl 0 rfl) ?_
  refine lv_iconst (v := 1) S.x S.b d_Mpr_begin_6 (by decide) ?_
  refine px_put S k_Mpr hT hw 0 0 1 rfl rfl (by decide) m10_223 rfl rfl rfl (Nat.le_of_ble_eq_true rfl) d_Mpr_begin_7 (w' := wd_Mpr cs q qr (va_up qo 0 (some h)) (upd qf 1 1) qa qg) (ps' := [wd_Mpr cs q qr (va_up qo 0 (some h)) (upd qf 1 1) qa qg, wdP cs h r g tf ta pf na ma wa cf ca ef ea xf xa]) rfl rfl (fun H locs hw => ?_)
  refine lv_aload_n S.x S.b d_Mpr_begin_10 rfl (lv_at hl 0 rfl) ?_
  refine lv_bipush (v := (-2)) S.x S.b d_Mpr_begin_11 (by decide) ?_
  refine px_put S k_Mpr hT hw 0 0 2 rfl rfl (by decide) m10_225 rfl rfl rfl (Nat.le_of_ble_eq_true rfl) d_Mpr_begin_13 (w' := wd_Mpr cs q qr (va_up qo 0 (some h)) (upd (upd qf 1 1) 2 (-2)) qa qg) (ps' := [wd_Mpr cs q qr (va_up qo 0 (some h)) (upd (upd qf 1 1) 2 (-2)) qa qg, wdP cs h r g tf ta pf na ma wa cf ca ef ea xf xa]) rfl rfl (fun H locs hw => ?_)
  refine lv_aload_n S.x S.b d_Mpr_begin_16 rfl (lv_at hl 0 rfl) ?_
  refine lv_iconst (v := 0) S.x S.b d_Mpr_begin_17 (by decide) ?_
  refine px_put S k_Mpr hT hw 0 0 3 rfl rfl (by decide) m10_227 rfl rfl rfl (Nat.le_of_ble_eq_true rfl) d_Mpr_begin_18 (w' := wd_Mpr cs q qr (va_up qo 0 (some h)) (upd (upd (upd qf 1 1) 2 (-2)) 3 0) qa qg) (ps' := [wd_Mpr cs q qr (va_up qo 0 (some h)) (upd (upd (upd qf 1 1) 2 (-2)) 3 0) qa qg, wdP cs h r g tf ta pf na ma wa cf ca ef ea xf xa]) rfl rfl (fun H locs hw => ?_)
  refine lv_aload_n S.x S.b d_Mpr_begin_21 rfl (lv_at hl 0 rfl) ?_
  refine lv_iconst (v := 0) S.x S.b d_Mpr_begin_22 (by decide) ?_
  refine px_put S k_Mpr hT hw 0 0 6 rfl rfl (by decide) m10_232 rfl rfl rfl (Nat.le_of_ble_eq_true rfl) d_Mpr_begin_23 (w' := wd_Mpr cs q qr (va_up qo 0 (some h)) (upd (upd (upd (upd qf 1 1) 2 (-2)) 3 0) 6 0) qa qg) (ps' := [wd_Mpr cs q qr (va_up qo 0 (some h)) (upd (upd (upd (upd qf 1 1) 2 (-2)) 3 0) 6 0) qa qg, wdP cs h r g tf ta pf na ma wa cf ca ef ea xf xa]) rfl rfl (fun H locs hw => ?_)
  refine lv_aload_n S.x S.b d_Mpr_begin_26 rfl (lv_at hl 0 rfl) ?_
  refine lv_iconst (v := 0) S.x S.b d_Mpr_begin_27 (by decide) ?_
  refine px_put S k_Mpr hT hw 0 0 7 rfl rfl (by decide) m10_234 rfl rfl rfl (Nat.le_of_ble_eq_true rfl) d_Mpr_begin_28 (w' := wd_Mpr cs q qr (va_up qo 0 (some h)) (upd (upd (upd (upd (upd qf 1 1) 2 (-2)) 3 0) 6 0) 7 0) qa qg) (ps' := [wd_Mpr cs q qr (va_up qo 0 (some h)) (upd (upd (upd (upd (upd qf 1 1) 2 (-2)) 3 0) 6 0) 7 0) qa qg, wdP cs h r g tf ta pf na ma wa cf ca ef ea xf xa]) rfl rfl (fun H locs hw => ?_)
  refine lv_aload_n S.x S.b d_Mpr_begin_31 rfl (lv_at hl 0 rfl) ?_
  refine lv_iconst (v := 0) S.x S.b d_Mpr_begin_32 (by decide) ?_
  refine px_put S k_Mpr hT hw 0 0 21 rfl rfl (by decide) m11_15 rfl rfl rfl (Nat.le_of_ble_eq_true rfl) d_Mpr_begin_33 (w' := wd_Mpr cs q qr (va_up qo 0 (some h)) (upd (upd (upd (upd (upd (upd qf 1 1) 2 (-2)) 3 0) 6 0) 7 0) 21 0) qa qg) (ps' := [wd_Mpr cs q qr (va_up qo 0 (some h)) (upd (upd (upd (upd (upd (upd qf 1 1) 2 (-2)) 3 0) 6 0) 7 0) 21 0) qa qg, wdP cs h r g tf ta pf na ma wa cf ca ef ea xf xa]) rfl rfl (fun H locs hw => ?_)
  refine lv_aload_n S.x S.b d_Mpr_begin_36 rfl (lv_at hl 0 rfl) ?_
  refine lv_iconst (v := 0) S.x S.b d_Mpr_begin_37 (by decide) ?_
  refine px_put S k_Mpr hT hw 0 0 23 rfl rfl (by decide) m11_19 rfl rfl rfl (Nat.le_of_ble_eq_true rfl) d_Mpr_begin_38 (w' := wd_Mpr cs q qr (va_up qo 0 (some h)) (upd (upd (upd (upd (upd (upd (upd qf 1 1) 2 (-2)) 3 0) 6 0) 7 0) 21 0) 23 0) qa qg) (ps' := [wd_Mpr cs q qr (va_up qo 0 (some h)) (upd (upd (upd (upd (upd (upd (upd qf 1 1) 2 (-2)) 3 0) 6 0) 7 0) 21 0) 23 0) qa qg, wdP cs h r g tf ta pf na ma wa cf ca ef ea xf xa]) rfl rfl (fun H locs hw => ?_)
  refine lv_aload_n S.x S.b d_Mpr_begin_41 rfl (lv_at hl 0 rfl) ?_
  refine lv_iconst (v := 0) S.x S.b d_Mpr_begin_42 (by decide) ?_
  refine px_put S k_Mpr hT hw 0 0 24 rfl rfl (by decide) m11_21 rfl rfl rfl (Nat.le_of_ble_eq_true rfl) d_Mpr_begin_43 (w' := wd_Mpr cs q qr (va_up qo 0 (some h)) (upd (upd (upd (upd (upd (upd (upd (upd qf 1 1) 2 (-2)) 3 0) 6 0) 7 0) 21 0) 23 0) 24 0) qa qg) (ps' := [wd_Mpr cs q qr (va_up qo 0 (some h)) (upd (upd (upd (upd (upd (upd (upd (upd qf 1 1) 2 (-2)) 3 0) 6 0) 7 0) 21 0) 23 0) 24 0) qa qg, wdP cs h r g tf ta pf na ma wa cf ca ef ea xf xa]) rfl rfl (fun H locs hw => ?_)
  refine lv_aload_n S.x S.b d_Mpr_begin_46 rfl (lv_at hl 0 rfl) ?_
  refine lv_iconst (v := 0) S.x S.b d_Mpr_begin_47 (by decide) ?_
  refine px_put S k_Mpr hT hw 0 0 10 rfl rfl (by decide) m11_0 rfl rfl rfl (Nat.le_of_ble_eq_true rfl) d_Mpr_begin_48 (w' := wd_Mpr cs q qr (va_up qo 0 (some h)) (upd (upd (upd (upd (upd (upd (upd (upd (upd qf 1 1) 2 (-2)) 3 0) 6 0) 7 0) 10 0) 21 0) 23 0) 24 0) qa qg) (ps' := [wd_Mpr cs q qr (va_up qo 0 (some h)) (upd (upd (upd (upd (upd (upd (upd (upd (upd qf 1 1) 2 (-2)) 3 0) 6 0) 7 0) 10 0) 21 0) 23 0) 24 0) qa qg, wdP cs h r g tf ta pf na ma wa cf ca ef ea xf xa]) rfl rfl (fun H locs hw => ?_)
  refine lv_aload_n S.x S.b d_Mpr_begin_51 rfl (lv_at hl 0 rfl) ?_
  refine lv_iconst (v := 0) S.x S.b d_Mpr_begin_52 (by decide) ?_
  refine px_put S k_Mpr hT hw 0 0 14 rfl rfl (by decide) m11_6 rfl rfl rfl (Nat.le_of_ble_eq_true rfl) d_Mpr_begin_53 (w' := wd_Mpr cs q qr (va_up qo 0 (some h)) (upd (upd (upd (upd (upd (upd (upd (upd (upd (upd qf 1 1) 2 (-2)) 3 0) 6 0) 7 0) 10 0) 14 0) 21 0) 23 0) 24 0) qa qg) (ps' := [wd_Mpr cs q qr (va_up qo 0 (some h)) (upd (upd (upd (upd (upd (upd (upd (upd (upd (upd qf 1 1) 2 (-2)) 3 0) 6 0) 7 0) 10 0) 14 0) 21 0) 23 0) 24 0) qa qg, wdP cs h r g tf ta pf na ma wa cf ca ef ea xf xa]) rfl rfl (fun H locs hw => ?_)
  refine lv_aload_n S.x S.b d_Mpr_begin_56 rfl (lv_at hl 0 rfl) ?_
  refine lv_iconst (v := 0) S.x S.b d_Mpr_begin_57 (by decide) ?_
  refine px_put S k_Mpr hT hw 0 0 12 rfl rfl (by decide) m11_4 rfl rfl rfl (Nat.le_of_ble_eq_true rfl) d_Mpr_begin_58 (w' := wd_Mpr cs q qr (va_up qo 0 (some h)) (upd (upd (upd (upd (upd (upd (upd (upd (upd (upd (upd qf 1 1) 2 (-2)) 3 0) 6 0) 7 0) 10 0) 12 0) 14 0) 21 0) 23 0) 24 0) qa qg) (ps' := [wd_Mpr cs q qr (va_up qo 0 (some h)) (upd (upd (upd (upd (upd (upd (upd (upd (upd (upd (upd qf 1 1) 2 (-2)) 3 0) 6 0) 7 0) 10 0) 12 0) 14 0) 21 0) 23 0) 24 0) qa qg, wdP cs h r g tf ta pf na ma wa cf ca ef ea xf xa]) rfl rfl (fun H locs hw => ?_)
  refine lv_aload_n S.x S.b d_Mpr_begin_61 rfl (lv_at hl 1 rfl) ?_
  refine px_get S k_Mpg hT hw 1 0 66 (v := .int (xf 66)) rfl rfl rfl (by decide) m10_66 d_Mpr_begin_62 ?_
  refine lv_iconst (v := 2) S.x S.b d_Mpr_begin_65 (by decide) ?_
  refine lv_icmp_ne (tgt := 73) S.x S.b d_Mpr_begin_66 (by decide) (fun c28 => ?_) (fun c28 => ?_)
  · have nc28 : ¬ (xf 66).toInt = (2 : Int) := mt (i_eq (x := (xf 66)) (y := 2)).mpr c28
    refine lv_iconst (v := 0) S.x S.b d_Mpr_begin_73 (by decide) ?_
    refine lv_istore (lv' := [(5, .int 0), (0, .ref q), (1, .ref h), (2, .int p0), (3, .int p1), (4, .int p2)]) S.x S.b d_Mpr_begin_74 hl (by decide) rfl (fun ls hl => ?_)
    refine lv_aload_n S.x S.b d_Mpr_begin_76 rfl (lv_at hl 1 rfl) ?_
    refine lv_iload S.x S.b d_Mpr_begin_77 (lv_at hl 0 rfl) ?_
    refine lv_if_eq (tgt := 89) S.x S.b d_Mpr_begin_79 (by decide) (fun c29 => ?_) (fun c29 => ?_)
    ·
      refine lv_iload_n S.x S.b d_Mpr_begin_89 rfl (lv_at hl 4 rfl) ?_
      refine px_put S k_Mpr hT hw 0 0 4 rfl rfl (by decide) m10_229 rfl rfl rfl (Nat.le_of_ble_eq_true rfl) d_Mpr_begin_90 (w' := wd_Mpr cs q qr (va_up qo 0 (some h)) (upd (upd (upd (upd (upd (upd (upd (upd (upd (upd (upd (upd qf 1 1) 2 (-2)) 3 0) 4 p1) 6 0) 7 0) 10 0) 12 0) 14 0) 21 0) 23 0) 24 0) qa qg) (ps' := [wd_Mpr cs q qr (va_up qo 0 (some h)) (upd (upd (upd (upd (upd (upd (upd (upd (upd (upd (upd (upd qf 1 1) 2 (-2)) 3 0) 4 p1) 6 0) 7 0) 10 0) 12 0) 14 0) 21 0) 23 0) 24 0) qa qg, wdP cs h r g tf ta pf na ma wa cf ca ef ea xf xa]) rfl rfl (fun H locs hw => ?_)
      refine lv_aload_n S.x S.b d_Mpr_begin_93 rfl (lv_at hl 1 rfl) ?_
      refine lv_iload S.x S.b d_Mpr_begin_94 (lv_at hl 5 rfl) ?_
      refine px_put S k_Mpr hT hw 0 0 5 rfl rfl (by decide) m10_231 rfl rfl rfl (Nat.le_of_ble_eq_true rfl) d_Mpr_begin_96 (w' := wd_Mpr cs q qr (va_up qo 0 (some h)) (upd (upd (upd (upd (upd (upd (upd (upd (upd (upd (upd (upd (upd qf 1 1) 2 (-2)) 3 0) 4 p1) 5 p2) 6 0) 7 0) 10 0) 12 0) 14 0) 21 0) 23 0) 24 0) qa qg) (ps' := [wd_Mpr cs q qr (va_up qo 0 (some h)) (upd (upd (upd (upd (upd (upd (upd (upd (upd (upd (upd (upd (upd qf 1 1) 2 (-2)) 3 0) 4 p1) 5 p2) 6 0) 7 0) 10 0) 12 0) 14 0) 21 0) 23 0) 24 0) qa qg, wdP cs h r g tf ta pf na ma wa cf ca ef ea xf xa]) rfl rfl (fun H locs hw => ?_)
      refine lv_iconst (v := 0) S.x S.b d_Mpr_begin_99 (by decide) ?_
      refine lv_istore (lv' := [(6, .int 0), (5, .int 0), (0, .ref q), (1, .ref h), (2, .int p0), (3, .int p1), (4, .int p2)]) S.x S.b d_Mpr_begin_100 hl (by decide) rfl (fun ls hl => ?_)
      exact J102 ((37000 - (0 : Int)).toNat + 1) (va_up qo 0 (some h)) (upd (upd (upd (upd (upd (upd (upd (upd (upd (upd (upd (upd (upd qf 1 1) 2 (-2)) 3 0) 4 p1) 5 p2) 6 0) 7 0) 10 0) 12 0) 14 0) 21 0) 23 0) 24 0) qa (0 : Int32) (0 : Int32) _ _ ls (show OpS (va_up qo 0 (some h)) h from va_up_s) (show (1 : Int) = 1 from by first | decide | omega) (show (-2 : Int) = -2 from by first | decide | omega) (show (0 : Int) = 0 from by first | decide | omega) (show (0 : Int) = 0 from by first | decide | omega) (show (0 : Int) = 0 from by first | decide | omega) (show (0 : Int) = 0 from by first | decide | omega) (show (0 : Int) = 0 from by first | decide | omega) (show (0 : Int) = 0 from by first | decide | omega) (show (0 : Int) = 0 from by first | decide | omega) (show (0 : Int) = 0 from by first | decide | omega) (show p2.toInt = p2.toInt from rfl) (show 0 ≤ (0 : Int) from by first | decide | omega) (show (0 : Int) ≤ 1 from by first | decide | omega) (show (0 : Int) = 1 → (xf 66).toInt = 2 from by first | with_reducible rfl | with_reducible assumption | omega) (show (0 : Int) = 0 → (xf 66).toInt ≠ 2 from by first | with_reducible rfl | with_reducible assumption | omega) (show (0 : Int) = 1 → p1.toInt = 16 * p1.toInt from by first | with_reducible rfl | with_reducible assumption | omega) (show (0 : Int) = 0 → p1.toInt = p1.toInt from by first | with_reducible rfl | with_reducible assumption | omega) (show 0 ≤ (0 : Int) from by first | decide | omega) (show (0 : Int) ≤ 37000 from by first | decide | omega) (show 37000 - (0 : Int) < ((((37000 - (0 : Int)).toNat + 1 : Nat) : Int) : Int) from by first | exact oz_natlt | omega) hw (lv_sub hl [2, 3, 4, 5, 6, 1, 0] rfl)
    · exact absurd c29 (by decide)
  · have nc28 : (xf 66).toInt = (2 : Int) := (i_eq (x := (xf 66)) (y := 2)).mp c28
    refine lv_iconst (v := 1) S.x S.b d_Mpr_begin_69 (by decide) ?_
    refine lv_goto (tgt := 74) S.x S.b d_Mpr_begin_70 (by decide) ?_
    refine lv_istore (lv' := [(5, .int 1), (0, .ref q), (1, .ref h), (2, .int p0), (3, .int p1), (4, .int p2)]) S.x S.b d_Mpr_begin_74 hl (by decide) rfl (fun ls hl => ?_)
    refine lv_aload_n S.x S.b d_Mpr_begin_76 rfl (lv_at hl 1 rfl) ?_
    refine lv_iload S.x S.b d_Mpr_begin_77 (lv_at hl 0 rfl) ?_
    refine lv_if_eq (tgt := 89) S.x S.b d_Mpr_begin_79 (by decide) (fun c30 => ?_) (fun c30 => ?_)
    · exact absurd c30 (by decide)
    ·
      refine lv_bipush (v := 16) S.x S.b d_Mpr_begin_82 (by decide) ?_
      refine lv_iload_n S.x S.b d_Mpr_begin_84 rfl (lv_at hl 4 rfl) ?_
      refine lv_imul S.x S.b d_Mpr_begin_85 ?_
      refine lv_topi (fun z31 ez31 => ?_)
      have lz31 := Int32.le_toInt z31
      have uz31 := Int32.toInt_lt z31
      have tz31 : -2147483648 ≤ 16 * p1.toInt → 16 * p1.toInt < 2147483648 → z31.toInt = 16 * p1.toInt := by rw [ez31]; exact i_mulc 16 p1 (by decide)
      try replace tz31 : z31.toInt = 16 * p1.toInt := by omega
      refine lv_goto (tgt := 90) S.x S.b d_Mpr_begin_86 (by decide) ?_
      refine px_put S k_Mpr hT hw 0 0 4 rfl rfl (by decide) m10_229 rfl rfl rfl (Nat.le_of_ble_eq_true rfl) d_Mpr_begin_90 (w' := wd_Mpr cs q qr (va_up qo 0 (some h)) (upd (upd (upd (upd (upd (upd (upd (upd (upd (upd (upd (upd qf 1 1) 2 (-2)) 3 0) 4 z31) 6 0) 7 0) 10 0) 12 0) 14 0) 21 0) 23 0) 24 0) qa qg) (ps' := [wd_Mpr cs q qr (va_up qo 0 (some h)) (upd (upd (upd (upd (upd (upd (upd (upd (upd (upd (upd (upd qf 1 1) 2 (-2)) 3 0) 4 z31) 6 0) 7 0) 10 0) 12 0) 14 0) 21 0) 23 0) 24 0) qa qg, wdP cs h r g tf ta pf na ma wa cf ca ef ea xf xa]) rfl rfl (fun H locs hw => ?_)
      refine lv_aload_n S.x S.b d_Mpr_begin_93 rfl (lv_at hl 1 rfl) ?_
      refine lv_iload S.x S.b d_Mpr_begin_94 (lv_at hl 5 rfl) ?_
      refine px_put S k_Mpr hT hw 0 0 5 rfl rfl (by decide) m10_231 rfl rfl rfl (Nat.le_of_ble_eq_true rfl) d_Mpr_begin_96 (w' := wd_Mpr cs q qr (va_up qo 0 (some h)) (upd (upd (upd (upd (upd (upd (upd (upd (upd (upd (upd (upd (upd qf 1 1) 2 (-2)) 3 0) 4 z31) 5 p2) 6 0) 7 0) 10 0) 12 0) 14 0) 21 0) 23 0) 24 0) qa qg) (ps' := [wd_Mpr cs q qr (va_up qo 0 (some h)) (upd (upd (upd (upd (upd (upd (upd (upd (upd (upd (upd (upd (upd qf 1 1) 2 (-2)) 3 0) 4 z31) 5 p2) 6 0) 7 0) 10 0) 12 0) 14 0) 21 0) 23 0) 24 0) qa qg, wdP cs h r g tf ta pf na ma wa cf ca ef ea xf xa]) rfl rfl (fun H locs hw => ?_)
      refine lv_iconst (v := 0) S.x S.b d_Mpr_begin_99 (by decide) ?_
      refine lv_istore (lv' := [(6, .int 0), (5, .int 1), (0, .ref q), (1, .ref h), (2, .int p0), (3, .int p1), (4, .int p2)]) S.x S.b d_Mpr_begin_100 hl (by decide) rfl (fun ls hl => ?_)
      exact J102 ((37000 - (0 : Int)).toNat + 1) (va_up qo 0 (some h)) (upd (upd (upd (upd (upd (upd (upd (upd (upd (upd (upd (upd (upd qf 1 1) 2 (-2)) 3 0) 4 z31) 5 p2) 6 0) 7 0) 10 0) 12 0) 14 0) 21 0) 23 0) 24 0) qa (1 : Int32) (0 : Int32) _ _ ls (show OpS (va_up qo 0 (some h)) h from va_up_s) (show (1 : Int) = 1 from by first | decide | omega) (show (-2 : Int) = -2 from by first | decide | omega) (show (0 : Int) = 0 from by first | decide | omega) (show (0 : Int) = 0 from by first | decide | omega) (show (0 : Int) = 0 from by first | decide | omega) (show (0 : Int) = 0 from by first | decide | omega) (show (0 : Int) = 0 from by first | decide | omega) (show (0 : Int) = 0 from by first | decide | omega) (show (0 : Int) = 0 from by first | decide | omega) (show (0 : Int) = 0 from by first | decide | omega) (show p2.toInt = p2.toInt from rfl) (show 0 ≤ (1 : Int) from by first | decide | omega) (show (1 : Int) ≤ 1 from by first | decide | omega) (show (1 : Int) = 1 → (xf 66).toInt = 2 from by first | with_reducible rfl | with_reducible assumption | omega) (show (1 : Int) = 0 → (xf 66).toInt ≠ 2 from by first | with_reducible rfl | with_reducible assumption | omega) (show (1 : Int) = 1 → z31.toInt = 16 * p1.toInt from by first | with_reducible rfl | with_reducible assumption | omega) (show (1 : Int) = 0 → z31.toInt = p1.toInt from by first | with_reducible rfl | with_reducible assumption | omega) (show 0 ≤ (0 : Int) from by first | decide | omega) (show (0 : Int) ≤ 37000 from by first | decide | omega) (show 37000 - (0 : Int) < ((((37000 - (0 : Int)).toNat + 1 : Nat) : Int) : Int) from by first | exact oz_natlt | omega) hw (lv_sub hl [2, 3, 4, 5, 6, 1, 0] rfl)
