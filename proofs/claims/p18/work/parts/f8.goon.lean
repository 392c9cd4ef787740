theorem oz_c494451c9b {a0 a1 a3 a4 : Int} {n2 : Nat} (h0 : 2 * a3 + a4 < ((n2 + 1 : Nat) : Int)) (h1 : a0 + a1 ≤ a3) (h2 : a0 ≤ a3) (h3 : 1 ≤ a4) : 2 * a0 + a1 < (n2 : Int) := by omega
theorem oz_d5c43516a3 {a0 : Int} (h0 : a0 = -2) : a0 = -2 := by omega
theorem oz_3985e2c510 {a0 a1 : Int} (h0 : a1 ≤ 1) : (a0 - 1) + a1 ≤ a0 := by omega
theorem oz_f81ab12e42 {a0 : Int}  : (a0 - 1) ≤ a0 := by omega
theorem oz_e213b53fb9 {a0 : Int} (h0 : a0 = 1) : a0 = 1 := by omega
theorem oz_9af69b5cb8 {a0 : Int}  : (a0 - 1) + (1 : Int) ≤ a0 := by omega
theorem oz_4b2a01afc9 {a0 a1 a2 a3 a4 a5 a6 : Int}  : a0 = a0 ∧ a1 = a1 ∧ a2 = a2 ∧ a3 = a3 ∧ a4 = a4 ∧ a5 = a5 ∧ a6 = a6 := by omega
theorem oz_b2552476a0 {a0 a1 : Int} (h0 : a0 = a1) (h1 : a1 ≤ 100) : a0 ≤ 100 := by omega
theorem oz_5926d5b85b {a0 a1 : Int} (h0 : a0 = a1) (h1 : a1 ≤ 512) : a0 ≤ 512 := by omega
theorem oz_28eebd5525 {a0 a1 a2 a3 a4 a5 : Int}  : a0 = a0 ∧ a1 = a1 ∧ a2 = a2 ∧ a3 = a3 ∧ a4 = a4 ∧ a5 = a5 := by omega
theorem oz_b005c07786 {a0 a1 a2 a3 a4 a5 a6 a7 a8 a9 a10 a11 a12 a13 : Int} (h0 : a0 = a1) (h1 : a2 = a3) (h2 : a4 = a5) (h3 : a6 = a7) (h4 : a8 = a9) (h5 : a10 = a11) (h6 : a12 = a13) : a0 = a1 ∧ a2 = a3 ∧ a4 = a5 ∧ a6 = a7 ∧ a8 = a9 ∧ a10 = a11 ∧ a12 = a13 := by omega
theorem oz_154b4b53d6 {a0 a1 a2 a3 : Int} (h0 : a0 = a1) (h1 : a1 = a2) (h2 : a2 = a3) (h3 : a3 = 1) : a0 = 1 := by omega
theorem m14_170 : Cond.methodLink "HomeSystemModel" 224 ⟨"HomeSystemModel", "close", "(I)V"⟩ ∈ AL := AL_14 (List.mem_of_getElem? (i := 170) rfl) rfl
theorem m14_173 : Cond.code ⟨"HomeSystemModel", "close", "(I)V"⟩ prog_14_method_12_code 3 (Option.none : Option Jvm.ClassFile.FieldType) ∈ AL := AL_14 (List.mem_of_getElem? (i := 173) rfl) rfl
theorem ms_17_6 : Cond.selects "HomeSystemModel" ⟨"HomeSystemModel", "close", "(I)V"⟩ ⟨"HomeSystemModel", "close", "(I)V"⟩ ∈ AL := AL_p (q := (⟨"HomeSystemModel", "close", "(I)V"⟩, 11)) (by unfold lw_privs; exact List.mem_append_right _ (List.mem_append_right _ (List.mem_append_right _ (List.mem_append_right _ (List.mem_append_right _ (List.mem_append_right _ (List.mem_append_right _ (List.mem_append_right _ (List.mem_append_right _ (List.mem_append_right _ (List.mem_append_right _ (List.mem_append_right _ (List.mem_append_right _ (List.mem_append_right _ (List.mem_append_right _ (List.mem_append_right _ (List.mem_of_getElem? (i := 6) rfl)))))))))))))))))
theorem m14_172 : Cond.instanceMethod ⟨"HomeSystemModel", "close", "(I)V"⟩ ∈ AL := AL_14 (List.mem_of_getElem? (i := 172) rfl) rfl
theorem m10_222 : Cond.fieldLink "HomeSystemModel" 199 "HomeSystemModel$Process" "program" "LHomeSystemModel$Program;" ∈ AL := AL_10 (List.mem_of_getElem? (i := 222) rfl) rfl
theorem m10_59n : Cond.fieldLinkNest "HomeSystemModel" 209 "HomeSystemModel$Program" "code" "[I" "HomeSystemModel" ∈ tables_1 := by unfold tables_1; exact List.mem_append_right _ (List.mem_append_right _ (List.mem_append_right _ (List.mem_append_right _ (List.mem_append_right _ (List.mem_append_right _ (List.mem_append_right _ (List.mem_append_right _ (List.mem_append_right _ (List.mem_append_left _ (List.mem_of_getElem? (i := 59) rfl))))))))))
theorem m14_112 : Cond.methodLink "HomeSystemModel" 221 ⟨"HomeSystemModel$Process", "step", "(III)V"⟩ ∈ AL := AL_14 (List.mem_of_getElem? (i := 112) rfl) rfl
theorem m14_115 : Cond.code ⟨"HomeSystemModel$Process", "step", "(III)V"⟩ prog_15_method_15_code 10 (Option.none : Option Jvm.ClassFile.FieldType) ∈ AL := AL_14 (List.mem_of_getElem? (i := 115) rfl) rfl
theorem m14_114 : Cond.selects "HomeSystemModel$Process" ⟨"HomeSystemModel$Process", "step", "(III)V"⟩ ⟨"HomeSystemModel$Process", "step", "(III)V"⟩ ∈ AL := AL_14 (List.mem_of_getElem? (i := 114) rfl) rfl
theorem m14_113 : Cond.instanceMethod ⟨"HomeSystemModel$Process", "step", "(III)V"⟩ ∈ AL := AL_14 (List.mem_of_getElem? (i := 113) rfl) rfl
theorem m10_235 : Cond.fieldLink "HomeSystemModel" 212 "HomeSystemModel$Process" "paid" "Z" ∈ AL := AL_10 (List.mem_of_getElem? (i := 235) rfl) rfl
theorem m14_103 : Cond.methodLink "HomeSystemModel" 218 ⟨"HomeSystemModel", "ownCall", "(II)Z"⟩ ∈ AL := AL_14 (List.mem_of_getElem? (i := 103) rfl) rfl
theorem m14_106 : Cond.code ⟨"HomeSystemModel", "ownCall", "(II)Z"⟩ prog_14_method_23_code 8 (Option.some FieldType.boolean) ∈ AL := AL_14 (List.mem_of_getElem? (i := 106) rfl) rfl
theorem ms_16_9 : Cond.selects "HomeSystemModel" ⟨"HomeSystemModel", "ownCall", "(II)Z"⟩ ⟨"HomeSystemModel", "ownCall", "(II)Z"⟩ ∈ AL := AL_p (q := (⟨"HomeSystemModel", "ownCall", "(II)Z"⟩, 11)) (by unfold lw_privs; exact List.mem_append_right _ (List.mem_append_right _ (List.mem_append_right _ (List.mem_append_right _ (List.mem_append_right _ (List.mem_append_right _ (List.mem_append_right _ (List.mem_append_right _ (List.mem_append_right _ (List.mem_append_right _ (List.mem_append_right _ (List.mem_append_right _ (List.mem_append_right _ (List.mem_append_right _ (List.mem_append_right _ (List.mem_append_left _ (List.mem_of_getElem? (i := 9) rfl)))))))))))))))))
theorem m14_105 : Cond.instanceMethod ⟨"HomeSystemModel", "ownCall", "(II)Z"⟩ ∈ AL := AL_14 (List.mem_of_getElem? (i := 105) rfl) rfl
theorem m14_99 : Cond.methodLink "HomeSystemModel" 215 ⟨"HomeSystemModel$Process", "takesWork", "()Z"⟩ ∈ AL := AL_14 (List.mem_of_getElem? (i := 99) rfl) rfl
theorem m13_170 : Cond.methodLink "HomeSystemModel" 203 ⟨"HomeSystemModel$Process", "rawStep", "()Z"⟩ ∈ AL := AL_13 (List.mem_of_getElem? (i := 170) rfl) rfl
theorem m13_173 : Cond.code ⟨"HomeSystemModel$Process", "rawStep", "()Z"⟩ prog_15_method_32_code 3 (Option.some FieldType.boolean) ∈ AL := AL_13 (List.mem_of_getElem? (i := 173) rfl) rfl
theorem m13_172 : Cond.selects "HomeSystemModel$Process" ⟨"HomeSystemModel$Process", "rawStep", "()Z"⟩ ⟨"HomeSystemModel$Process", "rawStep", "()Z"⟩ ∈ AL := AL_13 (List.mem_of_getElem? (i := 172) rfl) rfl
theorem m13_171 : Cond.instanceMethod ⟨"HomeSystemModel$Process", "rawStep", "()Z"⟩ ∈ AL := AL_13 (List.mem_of_getElem? (i := 171) rfl) rfl
theorem m14_31 : Cond.methodLink "HomeSystemModel" 206 ⟨"HomeSystemModel", "rawCall", "(I)Z"⟩ ∈ AL := AL_14 (List.mem_of_getElem? (i := 31) rfl) rfl
theorem m14_34 : Cond.code ⟨"HomeSystemModel", "rawCall", "(I)Z"⟩ prog_14_method_25_code 7 (Option.some FieldType.boolean) ∈ AL := AL_14 (List.mem_of_getElem? (i := 34) rfl) rfl
theorem ms_15_12 : Cond.selects "HomeSystemModel" ⟨"HomeSystemModel", "rawCall", "(I)Z"⟩ ⟨"HomeSystemModel", "rawCall", "(I)Z"⟩ ∈ AL := AL_p (q := (⟨"HomeSystemModel", "rawCall", "(I)Z"⟩, 11)) (by unfold lw_privs; exact List.mem_append_right _ (List.mem_append_right _ (List.mem_append_right _ (List.mem_append_right _ (List.mem_append_right _ (List.mem_append_right _ (List.mem_append_right _ (List.mem_append_right _ (List.mem_append_right _ (List.mem_append_right _ (List.mem_append_right _ (List.mem_append_right _ (List.mem_append_right _ (List.mem_append_right _ (List.mem_append_left _ (List.mem_of_getElem? (i := 12) rfl))))))))))))))))
theorem m14_33 : Cond.instanceMethod ⟨"HomeSystemModel", "rawCall", "(I)Z"⟩ ∈ AL := AL_14 (List.mem_of_getElem? (i := 33) rfl) rfl
def Hid (P : Prop) : Prop := P
theorem Hid.o {P : Prop} (h : Hid P) : P := h
def IgV (v a b : Int) : Prop := (v = 1 ∧ a ≠ 0 ∧ b = -2) ∨ (v = 0 ∧ (a = 0 ∨ b ≠ -2))
def TkZ (v w' w o' o : Int) : Prop := (v = 1 ∧ w' = w - 1 ∧ o' = o ∧ 1 ≤ w) ∨ (v = 0 ∧ o' = 5 ∧ w' = w)
def RsV (v o' w' w : Int) : Prop := (v = 1 ∧ o' = -2 ∧ w' = w ∧ 1 ≤ w) ∨ (v = 0 ∧ (o' ≠ -2 ∨ w' = w - 1) ∧ 0 ≤ w' ∧ w' ≤ w)
set_option maxHeartbeats 4000000 in
set_option maxRecDepth 100000 in
theorem c_mqq_isGoing (l : Launch) (D : va_G) (cs : Nat → ClassId) (q : Nat) (qr : Nat → Nat) (qg : Nat → Nat → Option Nat) (qo : Nat → Option Nat) (qf : Nat → Int32) (qa : Nat → Nat → Int32)   : MetI l y_Mpr_isGoing b_Mpr_isGoing 1 (.boolean) D cs 0 0 (0) (0) [.ref q] [wd_Mpr cs q qr qo qf qa qg] (fun _ => True) (fun v ps => (ps = [wd_Mpr cs q qr qo qf qa qg]) ∧ (0 ≤ v.toInt) ∧ (v.toInt ≤ 1) ∧ (IgV v.toInt (qf 1).toInt (qf 2).toInt)) := by
  refine px_enter (by decide) (Nat.le_of_ble_eq_true rfl) ?_
  intro p e s m below meth c A ls hAe S hr hlk hnm hA hT hX hw hl
  have hl : lv_has ls 1 [(0, .ref q)] := hl
  have cstm2 : ((-2) : Int32).toInt = (-2) := rfl
  have cst0 : (0 : Int32).toInt = 0 := rfl
  have cst1 : (1 : Int32).toInt = 1 := rfl
  refine lv_aload_n S.x S.b d_Mpr_isGoing_0 rfl (lv_at hl 0 rfl) ?_
  refine px_get S k_Mpr hT hw 0 0 1 (v := .int (qf 1)) rfl rfl rfl (by decide) m10_223 d_Mpr_isGoing_1 ?_
  refine lv_if_eq (tgt := 20) S.x S.b d_Mpr_isGoing_4 (by decide) (fun c1 => ?_) (fun c1 => ?_)
  · have nc1 : (qf 1).toInt = (0 : Int) := (i_eq (x := (qf 1)) (y := 0)).mp c1
    refine lv_iconst (v := 0) S.x S.b d_Mpr_isGoing_20 (by decide) ?_
    exact px_iret (v := 0) S hr rfl hlk hAe hw (Nat.le_of_ble_eq_true rfl) (Nat.le_of_ble_eq_true rfl) (⟨rfl, (show 0 ≤ (0 : Int) from by first | exact oz_5a341f00aa | omega), (show (0 : Int) ≤ 1 from by first | exact oz_6e68cd0f48 | omega), (show IgV (0 : Int) (qf 1).toInt (qf 2).toInt from (by unfold IgV; omega))⟩) d_Mpr_isGoing_21
  · have nc1 : ¬ (qf 1).toInt = (0 : Int) := mt (i_eq (x := (qf 1)) (y := 0)).mpr c1
    refine lv_aload_n S.x S.b d_Mpr_isGoing_7 rfl (lv_at hl 0 rfl) ?_
    refine px_get S k_Mpr hT hw 0 0 2 (v := .int (qf 2)) rfl rfl rfl (by decide) m10_225 d_Mpr_isGoing_8 ?_
    refine lv_bipush (v := (-2)) S.x S.b d_Mpr_isGoing_11 (by decide) ?_
    refine lv_icmp_ne (tgt := 20) S.x S.b d_Mpr_isGoing_13 (by decide) (fun c3 => ?_) (fun c3 => ?_)
    · have nc3 : ¬ (qf 2).toInt = (-2 : Int) := mt (i_eq (x := (qf 2)) (y := (-2))).mpr c3
      refine lv_iconst (v := 0) S.x S.b d_Mpr_isGoing_20 (by decide) ?_
      exact px_iret (v := 0) S hr rfl hlk hAe hw (Nat.le_of_ble_eq_true rfl) (Nat.le_of_ble_eq_true rfl) (⟨rfl, (show 0 ≤ (0 : Int) from by first | exact oz_5a341f00aa | omega), (show (0 : Int) ≤ 1 from by first | exact oz_6e68cd0f48 | omega), (show IgV (0 : Int) (qf 1).toInt (qf 2).toInt from (by unfold IgV; omega))⟩) d_Mpr_isGoing_21
    · have nc3 : (qf 2).toInt = (-2 : Int) := (i_eq (x := (qf 2)) (y := (-2))).mp c3
      refine lv_iconst (v := 1) S.x S.b d_Mpr_isGoing_16 (by decide) ?_
      refine lv_goto (tgt := 21) S.x S.b d_Mpr_isGoing_17 (by decide) ?_
      exact px_iret (v := 1) S hr rfl hlk hAe hw (Nat.le_of_ble_eq_true rfl) (Nat.le_of_ble_eq_true rfl) (⟨rfl, (show 0 ≤ (1 : Int) from by first | exact oz_19c3a41681 | omega), (show (1 : Int) ≤ 1 from by first | exact oz_f9181dc4bb | omega), (show IgV (1 : Int) (qf 1).toInt (qf 2).toInt from (by unfold IgV; omega))⟩) d_Mpr_isGoing_21
set_option maxHeartbeats 4000000 in
set_option maxRecDepth 100000 in
theorem c_mqq_hasEnded (l : Launch) (D : va_G) (cs : Nat → ClassId) (q : Nat) (qr : Nat → Nat) (qg : Nat → Nat → Option Nat) (qo : Nat → Option Nat) (qf : Nat → Int32) (qa : Nat → Nat → Int32)   : MetI l y_Mpr_hasEnded b_Mpr_hasEnded 1 (.boolean) D cs 0 0 (0) (0) [.ref q] [wd_Mpr cs q qr qo qf qa qg] (fun _ => True) (fun v ps => (ps = [wd_Mpr cs q qr qo qf qa qg]) ∧ (0 ≤ v.toInt) ∧ (v.toInt ≤ 1)) := by
  refine px_enter (by decide) (Nat.le_of_ble_eq_true rfl) ?_
  intro p e s m below meth c A ls hAe S hr hlk hnm hA hT hX hw hl
  have hl : lv_has ls 1 [(0, .ref q)] := hl
  have cstm2 : ((-2) : Int32).toInt = (-2) := rfl
  have cst0 : (0 : Int32).toInt = 0 := rfl
  have cst1 : (1 : Int32).toInt = 1 := rfl
  refine lv_aload_n S.x S.b d_Mpr_hasEnded_0 rfl (lv_at hl 0 rfl) ?_
  refine px_get S k_Mpr hT hw 0 0 1 (v := .int (qf 1)) rfl rfl rfl (by decide) m10_223 d_Mpr_hasEnded_1 ?_
  refine lv_if_eq (tgt := 20) S.x S.b d_Mpr_hasEnded_4 (by decide) (fun c1 => ?_) (fun c1 => ?_)
  · have nc1 : (qf 1).toInt = (0 : Int) := (i_eq (x := (qf 1)) (y := 0)).mp c1
    refine lv_iconst (v := 0) S.x S.b d_Mpr_hasEnded_20 (by decide) ?_
    exact px_iret (v := 0) S hr rfl hlk hAe hw (Nat.le_of_ble_eq_true rfl) (Nat.le_of_ble_eq_true rfl) (⟨rfl, (show 0 ≤ (0 : Int) from by first | exact oz_5a341f00aa | omega), (show (0 : Int) ≤ 1 from by first | exact oz_6e68cd0f48 | omega)⟩) d_Mpr_hasEnded_21
  · have nc1 : ¬ (qf 1).toInt = (0 : Int) := mt (i_eq (x := (qf 1)) (y := 0)).mpr c1
    refine lv_aload_n S.x S.b d_Mpr_hasEnded_7 rfl (lv_at hl 0 rfl) ?_
    refine px_get S k_Mpr hT hw 0 0 2 (v := .int (qf 2)) rfl rfl rfl (by decide) m10_225 d_Mpr_hasEnded_8 ?_
    refine lv_bipush (v := (-2)) S.x S.b d_Mpr_hasEnded_11 (by decide) ?_
    refine lv_icmp_eq (tgt := 20) S.x S.b d_Mpr_hasEnded_13 (by decide) (fun c3 => ?_) (fun c3 => ?_)
    · have nc3 : (qf 2).toInt = (-2 : Int) := (i_eq (x := (qf 2)) (y := (-2))).mp c3
      refine lv_iconst (v := 0) S.x S.b d_Mpr_hasEnded_20 (by decide) ?_
      exact px_iret (v := 0) S hr rfl hlk hAe hw (Nat.le_of_ble_eq_true rfl) (Nat.le_of_ble_eq_true rfl) (⟨rfl, (show 0 ≤ (0 : Int) from by first | exact oz_5a341f00aa | omega), (show (0 : Int) ≤ 1 from by first | exact oz_6e68cd0f48 | omega)⟩) d_Mpr_hasEnded_21
    · have nc3 : ¬ (qf 2).toInt = (-2 : Int) := mt (i_eq (x := (qf 2)) (y := (-2))).mpr c3
      refine lv_iconst (v := 1) S.x S.b d_Mpr_hasEnded_16 (by decide) ?_
      refine lv_goto (tgt := 21) S.x S.b d_Mpr_hasEnded_17 (by decide) ?_
      exact px_iret (v := 1) S hr rfl hlk hAe hw (Nat.le_of_ble_eq_true rfl) (Nat.le_of_ble_eq_true rfl) (⟨rfl, (show 0 ≤ (1 : Int) from by first | exact oz_19c3a41681 | omega), (show (1 : Int) ≤ 1 from by first | exact oz_f9181dc4bb | omega)⟩) d_Mpr_hasEnded_21
set_option maxHeartbeats 4000000 in
set_option maxRecDepth 100000 in
theorem c_mrr_takesWork (l : Launch) (D : va_G) (cs : Nat → ClassId) (nf : Int) (q : Nat) (qr : Nat → Nat) (qg : Nat → Nat → Option Nat) (qa : Nat → Nat → Int32) (qf : Nat → Int32) (h : Nat) (r : Nat → Nat) (g : Nat → Nat → Option Nat) (tf : Nat → Int32) (ta : Nat → Nat → Int32) (pf : Nat → Int32) (na : Nat → Nat → Int32) (ma : Nat → Nat → Int32) (wa : Nat → Nat → Int32) (cf : Nat → Int32) (ca : Nat → Nat → Int32) (ef : Nat → Int32) (ea : Nat → Nat → Int32) (xf : Nat → Int32) (xa : Nat → Nat → Int32)  (g0 : 0 ≤ (qf 4).toInt) : MetI l y_Mpr_takesWork b_Mpr_takesWork 1 (.boolean) D cs 1 30 (0) (0) [.ref q] [wd_Mpr cs q qr (fun k => if k = 0 then (some h) else none) qf qa qg, wdP cs h r g tf ta pf na ma wa cf ca ef ea xf xa] (oX (fun A U H => (oP A g U H)) [wd_Mpr cs q qr (fun k => if k = 0 then (some h) else none) qf qa qg, wdP cs h r g tf ta pf na ma wa cf ca ef ea xf xa]) (fun v ps => ∃ (qf' : Nat → Int32), (ps = [wd_Mpr cs q qr (fun k => if k = 0 then (some h) else none) qf' qa qg, wdP cs h r g tf ta pf na ma wa cf ca ef ea xf xa]) ∧ (0 ≤ v.toInt) ∧ (v.toInt ≤ 1) ∧ (TkZ v.toInt (qf' 4).toInt (qf 4).toInt (qf' 2).toInt (qf 2).toInt) ∧ ((qf' 1).toInt = (qf 1).toInt) ∧ ((qf' 5).toInt = (qf 5).toInt) ∧ ((qf' 6).toInt = (qf 6).toInt) ∧ ((qf' 7).toInt = (qf 7).toInt) ∧ ((qf' 10).toInt = (qf 10).toInt) ∧ ((qf' 11).toInt = (qf 11).toInt) ∧ ((qf' 12).toInt = (qf 12).toInt) ∧ ((qf' 13).toInt = (qf 13).toInt) ∧ ((qf' 14).toInt = (qf 14).toInt) ∧ ((qf' 21).toInt = (qf 21).toInt) ∧ ((qf' 23).toInt = (qf 23).toInt) ∧ ((qf' 24).toInt = (qf 24).toInt)) := by
  refine px_enter (by decide) (Nat.le_of_ble_eq_true rfl) ?_
  intro p e s m below meth c A ls hAe S hr hlk hnm hA hT hX hw hl
  have hl : lv_has ls 1 [(0, .ref q)] := hl
  have cst0 : (0 : Int32).toInt = 0 := rfl
  have cst1 : (1 : Int32).toInt = 1 := rfl
  have cst5 : (5 : Int32).toInt = 5 := rfl
  have hX : (fun A U H => (oP A g U H)) A s s.heap := by rw [hAe]; exact hX
  have hP := hX
  have hZ := hP.1
  have hF0 := hP.2.1
  refine lv_aload_n S.x S.b d_Mpr_takesWork_0 rfl (lv_at hl 0 rfl) ?_
  refine px_get S k_Mpr hT hw 0 0 4 (v := .int (qf 4)) rfl rfl rfl (by decide) m10_229 d_Mpr_takesWork_1 ?_
  refine lv_if_ne (tgt := 15) S.x S.b d_Mpr_takesWork_4 (by decide) (fun c1 => ?_) (fun c1 => ?_)
  · have nc1 : ¬ (qf 4).toInt = (0 : Int) := mt (i_eq (x := (qf 4)) (y := 0)).mpr c1
    refine lv_aload_n S.x S.b d_Mpr_takesWork_15 rfl (lv_at hl 0 rfl) ?_
    refine lv_dup S.x S.b d_Mpr_takesWork_16 rfl ?_
    refine px_get S k_Mpr hT hw 0 0 4 (v := .int (qf 4)) rfl rfl rfl (by decide) m10_229 d_Mpr_takesWork_17 ?_
    refine lv_iconst (v := 1) S.x S.b d_Mpr_takesWork_20 (by decide) ?_
    refine lv_isub S.x S.b d_Mpr_takesWork_21 ?_
    have lr3 := Int32.le_toInt (qf 4)
    have ur3 := Int32.toInt_lt (qf 4)
    refine lv_topi (fun z4 ez4 => ?_)
    have tz4 : z4.toInt = ((qf 4).toInt - (1 : Int) + 2147483648) % 4294967296 - 2147483648 := by rw [ez4]; exact i_sub (qf 4) 1
    have lz4 := Int32.le_toInt z4
    have uz4 := Int32.toInt_lt z4
    try replace tz4 : z4.toInt = (qf 4).toInt - (1 : Int) := by omega
    refine px_put S k_Mpr hT hw 0 0 4 rfl rfl (by decide) m10_229 rfl rfl rfl (Nat.le_of_ble_eq_true rfl) d_Mpr_takesWork_22 (w' := wd_Mpr cs q qr (fun k => if k = 0 then (some h) else none) (upd qf 4 z4) qa qg) (ps' := [wd_Mpr cs q qr (fun k => if k = 0 then (some h) else none) (upd qf 4 z4) qa qg, wdP cs h r g tf ta pf na ma wa cf ca ef ea xf xa]) rfl rfl (fun H locs hw => ?_)
    refine lv_iconst (v := 1) S.x S.b d_Mpr_takesWork_25 (by decide) ?_
    exact px_iret (v := 1) S hr rfl hlk hAe hw (Nat.le_of_ble_eq_true rfl) (Nat.le_of_ble_eq_true rfl) (⟨(upd qf 4 z4), rfl, (show 0 ≤ (1 : Int) from by first | exact oz_19c3a41681 | omega), (show (1 : Int) ≤ 1 from by first | exact oz_f9181dc4bb | omega), (show TkZ (1 : Int) z4.toInt (qf 4).toInt (qf 2).toInt (qf 2).toInt from (by unfold TkZ; omega)), (show (qf 1).toInt = (qf 1).toInt from rfl), (show (qf 5).toInt = (qf 5).toInt from rfl), (show (qf 6).toInt = (qf 6).toInt from rfl), (show (qf 7).toInt = (qf 7).toInt from rfl), (show (qf 10).toInt = (qf 10).toInt from rfl), (show (qf 11).toInt = (qf 11).toInt from rfl), (show (qf 12).toInt = (qf 12).toInt from rfl), (show (qf 13).toInt = (qf 13).toInt from rfl), (show (qf 14).toInt = (qf 14).toInt from rfl), (show (qf 21).toInt = (qf 21).toInt from rfl), (show (qf 23).toInt = (qf 23).toInt from rfl), (show (qf 24).toInt = (qf 24).toInt from rfl)⟩) d_Mpr_takesWork_26
  · have nc1 : (qf 4).toInt = (0 : Int) := (i_eq (x := (qf 4)) (y := 0)).mp c1
    refine lv_aload_n S.x S.b d_Mpr_takesWork_7 rfl (lv_at hl 0 rfl) ?_
    refine lv_iconst (v := 5) S.x S.b d_Mpr_takesWork_8 (by decide) ?_
    refine lv_iconst (v := 0) S.x S.b d_Mpr_takesWork_9 (by decide) ?_
    refine px_callv (pr := []) (px_runV (As := [.int 5, .int 0]) (rest := []) S (c_mr_end l D cs (0 : Int) q qr qg qa qf h r g tf ta pf na ma wa cf ca ef ea xf xa 5 0   _) hT (pr := []) (pcs := [wd_Mpr cs q qr (fun k => if k = 0 then (some h) else none) qf qa qg, wdP cs h r g tf ta pf na ma wa cf ca ef ea xf xa]) hw (oX_call (P := (fun A U H => (oP A g U H))) (pr := []) oG_P hw hA hP) (px_recv hT hw 0 0 rfl rfl rfl) m13_177 m13_174 m13_175 m13_176 m1_22 q_Mpr_end ⟨Nat.le_of_ble_eq_true rfl, Nat.le_of_ble_eq_true rfl⟩ hl.1 rfl (Nat.le_of_ble_eq_true rfl) d_Mpr_takesWork_10 ⟨Nat.le_of_ble_eq_true rfl, Nat.le_of_ble_eq_true rfl⟩) hw hA (fun p7 H locs hp7 hw => ?_)
    obtain ⟨qf6, rfl, e9, e10, e11, e12, e13, e14, e15, e16, e17, e18, e19, e20, e21, e22, e23⟩ := hp7
    have e9 : (qf6 2).toInt = (5 : Int) := e9
    have e10 : (qf6 3).toInt = (0 : Int) := e10
    have e11 : (qf6 1).toInt = (qf 1).toInt := e11
    have e12 : (qf6 4).toInt = (qf 4).toInt := e12
    have e13 : (qf6 5).toInt = (qf 5).toInt := e13
    have e14 : (qf6 6).toInt = (qf 6).toInt := e14
    have e15 : (qf6 7).toInt = (qf 7).toInt := e15
    have e16 : (qf6 10).toInt = (qf 10).toInt := e16
    have e17 : (qf6 11).toInt = (qf 11).toInt := e17
    have e18 : (qf6 12).toInt = (qf 12).toInt := e18
    have e19 : (qf6 13).toInt = (qf 13).toInt := e19
    have e20 : (qf6 14).toInt = (qf 14).toInt := e20
    have e21 : (qf6 21).toInt = (qf 21).toInt := e21
    have e22 : (qf6 23).toInt = (qf 23).toInt := e22
    have e23 : (qf6 24).toInt = (qf 24).toInt := e23
    have hw : pw D A s.heap H locs [wd_Mpr cs q qr (fun k => if k = 0 then (some h) else none) qf6 qa qg, wdP cs h r g tf ta pf na ma wa cf ca ef ea xf xa] := hw
    refine lv_iconst (v := 0) S.x S.b d_Mpr_takesWork_13 (by decide) ?_
    exact px_iret (v := 0) S hr rfl hlk hAe hw (Nat.le_of_ble_eq_true rfl) (Nat.le_of_ble_eq_true rfl) (⟨qf6, rfl, (show 0 ≤ (0 : Int) from by first | exact oz_5a341f00aa | omega), (show (0 : Int) ≤ 1 from by first | exact oz_6e68cd0f48 | omega), (show TkZ (0 : Int) (qf6 4).toInt (qf 4).toInt (qf6 2).toInt (qf 2).toInt from (by unfold TkZ; omega)), (show (qf6 1).toInt = (qf 1).toInt from by first | exact e11 | omega), (show (qf6 5).toInt = (qf 5).toInt from by first | exact e13 | omega), (show (qf6 6).toInt = (qf 6).toInt from by first | exact e14 | omega), (show (qf6 7).toInt = (qf 7).toInt from by first | exact e15 | omega), (show (qf6 10).toInt = (qf 10).toInt from by first | exact e16 | omega), (show (qf6 11).toInt = (qf 11).toInt from by first | exact e17 | omega), (show (qf6 12).toInt = (qf 12).toInt from by first | exact e18 | omega), (show (qf6 13).toInt = (qf 13).toInt from by first | exact e19 | omega), (show (qf6 14).toInt = (qf 14).toInt from by first | exact e20 | omega), (show (qf6 21).toInt = (qf 21).toInt from by first | exact e21 | omega), (show (qf6 23).toInt = (qf 23).toInt from by first | exact e22 | omega), (show (qf6 24).toInt = (qf 24).toInt from by first | exact e23 | omega)⟩) d_Mpr_takesWork_14
set_option maxHeartbeats 4000000 in
set_option maxRecDepth 100000 in
theorem c_mrr_rawStep (l : Launch) (D : va_G) (cs : Nat → ClassId) (nf : Int) (q : Nat) (qr : Nat → Nat) (qg : Nat → Nat → Option Nat) (qf : Nat → Int32) (qa : Nat → Nat → Int32) (h : Nat) (r : Nat → Nat) (g : Nat → Nat → Option Nat) (tf : Nat → Int32) (ta : Nat → Nat → Int32) (pf : Nat → Int32) (na : Nat → Nat → Int32) (ma : Nat → Nat → Int32) (wa : Nat → Nat → Int32) (cf : Nat → Int32) (ca : Nat → Nat → Int32) (ef : Nat → Int32) (ea : Nat → Nat → Int32) (xf : Nat → Int32) (xa : Nat → Nat → Int32)  (g0 : 0 ≤ (xf 68).toInt) (g1 : (xf 68).toInt ≤ 512) (g2 : (qf 2).toInt = -2) (g3 : 0 ≤ (qf 4).toInt) : MetI l y_Mpr_rawStep b_Mpr_rawStep 3 (.boolean) D cs 6 210 (0) (0) [.ref q] [wd_Mpr cs q qr (fun k => if k = 0 then (some h) else none) qf qa qg, wdP cs h r g tf ta pf na ma wa cf ca ef ea xf xa] (oX (fun A U H => (oP A g U H)) [wd_Mpr cs q qr (fun k => if k = 0 then (some h) else none) qf qa qg, wdP cs h r g tf ta pf na ma wa cf ca ef ea xf xa]) (fun v ps => ∃ (qf' : Nat → Int32) (qa' : Nat → Nat → Int32), (ps = [wd_Mpr cs q qr (fun k => if k = 0 then (some h) else none) qf' qa' qg, wdP cs h r g tf ta pf na ma wa cf ca ef ea xf xa]) ∧ (0 ≤ v.toInt) ∧ (v.toInt ≤ 1) ∧ (RsV v.toInt (qf' 2).toInt (qf' 4).toInt (qf 4).toInt) ∧ ((qf' 1).toInt = (qf 1).toInt) ∧ ((qf' 5).toInt = (qf 5).toInt) ∧ ((qf' 6).toInt = (qf 6).toInt) ∧ ((qf' 7).toInt = (qf 7).toInt) ∧ ((qf' 10).toInt = (qf 10).toInt) ∧ ((qf' 12).toInt = (qf 12).toInt) ∧ ((qf' 13).toInt = (qf 13).toInt) ∧ ((qf' 14).toInt = (qf 14).toInt) ∧ ((qf' 21).toInt = (qf 21).toInt) ∧ ((qf' 23).toInt = (qf 23).toInt) ∧ ((qf' 24).toInt = (qf 24).toInt)) := by
  refine px_enter (by decide) (Nat.le_of_ble_eq_true rfl) ?_
  intro p e s m below meth c A ls hAe S hr hlk hnm hA hT hX hw hl
  have hl : lv_has ls 3 [(0, .ref q)] := hl
  have cstm2 : ((-2) : Int32).toInt = (-2) := rfl
  have cst0 : (0 : Int32).toInt = 0 := rfl
  have cst1 : (1 : Int32).toInt = 1 := rfl
  have cst4 : (4 : Int32).toInt = 4 := rfl
  have cst5 : (5 : Int32).toInt = 5 := rfl
  have cst115 : (115 : Int32).toInt = 115 := rfl
  have hX : (fun A U H => (oP A g U H)) A s s.heap := by rw [hAe]; exact hX
  have hP := hX
  have hZ := hP.1
  have hF0 := hP.2.1
  refine lv_aload_n S.x S.b d_Mpr_rawStep_0 rfl (lv_at hl 0 rfl) ?_
  refine px_get S k_Mpr hT hw 0 0 4 (v := .int (qf 4)) rfl rfl rfl (by decide) m10_229 d_Mpr_rawStep_1 ?_
  refine lv_if_ne (tgt := 15) S.x S.b d_Mpr_rawStep_4 (by decide) (fun c1 => ?_) (fun c1 => ?_)
  · have nc1 : ¬ (qf 4).toInt = (0 : Int) := mt (i_eq (x := (qf 4)) (y := 0)).mpr c1
    refine lv_aload_n S.x S.b d_Mpr_rawStep_15 rfl (lv_at hl 0 rfl) ?_
    refine lv_aload_n S.x S.b d_Mpr_rawStep_16 rfl (lv_at hl 0 rfl) ?_
    refine px_get S k_Mpr hT hw 0 0 11 (v := .int (qf 11)) rfl rfl rfl (by decide) m11_2 d_Mpr_rawStep_17 ?_
    refine px_calli (pr := []) (px_runV (As := [.int (qf 11)]) (rest := []) S (c_mr_isText l D cs (0 : Int) q qr qg qf qa h r g tf ta pf na ma wa cf ca ef ea xf xa (qf 11)  (show 0 ≤ (xf 68).toInt from by first | exact g0 | omega) (show (xf 68).toInt ≤ 512 from by first | exact g1 | omega) _) hT (pr := []) (pcs := [wd_Mpr cs q qr (fun k => if k = 0 then (some h) else none) qf qa qg, wdP cs h r g tf ta pf na ma wa cf ca ef ea xf xa]) hw (oX_call (P := (fun A U H => (oP A g U H))) (pr := []) oG_P hw hA hP) (px_recv hT hw 0 0 rfl rfl rfl) m13_181 m13_178 m13_180 ms_15_0 m1_22 q_Mpr_isText ⟨Nat.le_of_ble_eq_true rfl, Nat.le_of_ble_eq_true rfl⟩ hl.1 rfl (Nat.le_of_ble_eq_true rfl) d_Mpr_rawStep_20 ⟨Nat.le_of_ble_eq_true rfl, Nat.le_of_ble_eq_true rfl⟩) hw hA (fun v4 p3 H locs hp3 hw => ?_)
    obtain ⟨rfl, e5, e6, e7, e8⟩ := hp3
    have e5 : 0 ≤ v4.toInt := e5
    have e6 : v4.toInt ≤ 1 := e6
    have e7 : v4.toInt = 1 → (4194304 ≤ (qf 11).toInt % 4294967296 ∧ (qf 11).toInt % 4294967296 < 4194304 + (4 * (xf 68).toInt + 4095) / 4096 * 4096) := e7
    have e8 : (4194304 ≤ (qf 11).toInt % 4294967296 ∧ (qf 11).toInt % 4294967296 < 4194304 + (4 * (xf 68).toInt + 4095) / 4096 * 4096) → v4.toInt = 1 := e8
    have hw : pw D A s.heap H locs [wd_Mpr cs q qr (fun k => if k = 0 then (some h) else none) qf qa qg, wdP cs h r g tf ta pf na ma wa cf ca ef ea xf xa] := hw
    have lv4 := Int32.le_toInt v4
    have uv4 := Int32.toInt_lt v4
    refine lv_if_eq (tgt := 35) S.x S.b d_Mpr_rawStep_23 (by decide) (fun c9 => ?_) (fun c9 => ?_)
    · have nc9 : v4.toInt = (0 : Int) := (i_eq (x := v4) (y := 0)).mp c9
      refine lv_aload_n S.x S.b d_Mpr_rawStep_35 rfl (lv_at hl 0 rfl) ?_
      refine px_callv (pr := []) (px_runV (As := []) (rest := []) S (c_mr_fault l D cs (0 : Int) q qr qg qa qf h r g tf ta pf na ma wa cf ca ef ea xf xa    _) hT (pr := []) (pcs := [wd_Mpr cs q qr (fun k => if k = 0 then (some h) else none) qf qa qg, wdP cs h r g tf ta pf na ma wa cf ca ef ea xf xa]) hw (oX_call (P := (fun A U H => (oP A g U H))) (pr := []) oG_P hw hA hP) (px_recv hT hw 0 0 rfl rfl rfl) m13_193 m13_190 m13_192 ms_15_1 m1_22 q_Mpr_fault ⟨Nat.le_of_ble_eq_true rfl, Nat.le_of_ble_eq_true rfl⟩ hl.1 rfl (Nat.le_of_ble_eq_true rfl) d_Mpr_rawStep_36 ⟨Nat.le_of_ble_eq_true rfl, Nat.le_of_ble_eq_true rfl⟩) hw hA (fun p13 H locs hp13 hw => ?_)
      obtain ⟨qf12, rfl, e15, e16, e17, e18, e19, e20, e21, e22, e23, e24, e25, e26, e27, e28⟩ := hp13
      have e15 : (qf12 2).toInt = 7 := e15
      have e16 : (qf12 1).toInt = (qf 1).toInt := e16
      have e17 : (qf12 4).toInt = (qf 4).toInt := e17
      have e18 : (qf12 5).toInt = (qf 5).toInt := e18
      have e19 : (qf12 6).toInt = (qf 6).toInt := e19
      have e20 : (qf12 7).toInt = (qf 7).toInt := e20
      have e21 : (qf12 10).toInt = (qf 10).toInt := e21
      have e22 : (qf12 11).toInt = (qf 11).toInt := e22
      have e23 : (qf12 12).toInt = (qf 12).toInt := e23
      have e24 : (qf12 13).toInt = (qf 13).toInt := e24
      have e25 : (qf12 14).toInt = (qf 14).toInt := e25
      have e26 : (qf12 21).toInt = (qf 21).toInt := e26
      have e27 : (qf12 23).toInt = (qf 23).toInt := e27
      have e28 : (qf12 24).toInt = (qf 24).toInt := e28
      have hw : pw D A s.heap H locs [wd_Mpr cs q qr (fun k => if k = 0 then (some h) else none) qf12 qa qg, wdP cs h r g tf ta pf na ma wa cf ca ef ea xf xa] := hw
      refine lv_iconst (v := 0) S.x S.b d_Mpr_rawStep_39 (by decide) ?_
      exact px_iret (v := 0) S hr rfl hlk hAe hw (Nat.le_of_ble_eq_true rfl) (Nat.le_of_ble_eq_true rfl) (⟨qf12, qa, rfl, (show 0 ≤ (0 : Int) from by first | exact oz_5a341f00aa | omega), (show (0 : Int) ≤ 1 from by first | exact oz_6e68cd0f48 | omega), (show RsV (0 : Int) (qf12 2).toInt (qf12 4).toInt (qf 4).toInt from (by unfold RsV; omega)), (show (qf12 1).toInt = (qf 1).toInt from by first | exact e16 | omega), (show (qf12 5).toInt = (qf 5).toInt from by first | exact e18 | omega), (show (qf12 6).toInt = (qf 6).toInt from by first | exact e19 | omega), (show (qf12 7).toInt = (qf 7).toInt from by first | exact e20 | omega), (show (qf12 10).toInt = (qf 10).toInt from by first | exact e21 | omega), (show (qf12 12).toInt = (qf 12).toInt from by first | exact e23 | omega), (show (qf12 13).toInt = (qf 13).toInt from by first | exact e24 | omega), (show (qf12 14).toInt = (qf 14).toInt from by first | exact e25 | omega), (show (qf12 21).toInt = (qf 21).toInt from by first | exact e26 | omega), (show (qf12 23).toInt = (qf 23).toInt from by first | exact e27 | omega), (show (qf12 24).toInt = (qf 24).toInt from by first | exact e28 | omega)⟩) d_Mpr_rawStep_40
    · have nc9 : ¬ v4.toInt = (0 : Int) := mt (i_eq (x := v4) (y := 0)).mpr c9
      refine lv_aload_n S.x S.b d_Mpr_rawStep_26 rfl (lv_at hl 0 rfl) ?_
      refine px_get S k_Mpr hT hw 0 0 11 (v := .int (qf 11)) rfl rfl rfl (by decide) m11_2 d_Mpr_rawStep_27 ?_
      refine lv_iconst (v := 4) S.x S.b d_Mpr_rawStep_30 (by decide) ?_
      refine lv_irem S.x S.b d_Mpr_rawStep_31 (fun hz0 => by have hz1 := i_eq.mp hz0; omega) ?_
      refine lv_topi (fun z29 ez29 => ?_)
      have lz29 := Int32.le_toInt z29
      have uz29 := Int32.toInt_lt z29
      refine lv_if_eq (tgt := 41) S.x S.b d_Mpr_rawStep_32 (by decide) (fun c30 => ?_) (fun c30 => ?_)
      · have nc30 : z29.toInt = (0 : Int) := (i_eq (x := z29) (y := 0)).mp c30
        refine lv_aload_n S.x S.b d_Mpr_rawStep_41 rfl (lv_at hl 0 rfl) ?_
        refine lv_aload_n S.x S.b d_Mpr_rawStep_42 rfl (lv_at hl 0 rfl) ?_
        refine px_get S k_Mpr hT hw 0 0 11 (v := .int (qf 11)) rfl rfl rfl (by decide) m11_2 d_Mpr_rawStep_43 ?_
        refine px_calli (pr := []) (px_runV (As := [.int (qf 11)]) (rest := []) S (c_mr_wordAt l D cs (0 : Int) q qr qg qf qa h r g tf ta pf na ma wa cf ca ef ea xf xa (qf 11)  (show 0 ≤ (xf 68).toInt from by first | exact g0 | omega) (show (xf 68).toInt ≤ 512 from by first | exact g1 | omega) (show (4194304 ≤ (qf 11).toInt % 4294967296 ∧ (qf 11).toInt % 4294967296 < 4194304 + (4 * (xf 68).toInt + 4095) / 4096 * 4096) ∨ (5242880 ≤ (qf 11).toInt % 4294967296 ∧ (qf 11).toInt % 4294967296 < 5259264) ∨ (8257536 ≤ (qf 11).toInt % 4294967296 ∧ (qf 11).toInt % 4294967296 < 8388608) from by omega) _) hT (pr := []) (pcs := [wd_Mpr cs q qr (fun k => if k = 0 then (some h) else none) qf qa qg, wdP cs h r g tf ta pf na ma wa cf ca ef ea xf xa]) hw (oX_call (P := (fun A U H => (oP A g U H))) (pr := []) oG_P hw hA hP) (px_recv hT hw 0 0 rfl rfl rfl) m13_197 m13_194 m13_195 m13_196 m1_22 q_Mpr_wordAt ⟨Nat.le_of_ble_eq_true rfl, Nat.le_of_ble_eq_true rfl⟩ hl.1 rfl (Nat.le_of_ble_eq_true rfl) d_Mpr_rawStep_46 ⟨Nat.le_of_ble_eq_true rfl, Nat.le_of_ble_eq_true rfl⟩) hw hA (fun v33 p32 H locs hp32 hw => ?_)
        subst hp32
        have hw : pw D A s.heap H locs [wd_Mpr cs q qr (fun k => if k = 0 then (some h) else none) qf qa qg, wdP cs h r g tf ta pf na ma wa cf ca ef ea xf xa] := hw
        have lv33 := Int32.le_toInt v33
        have uv33 := Int32.toInt_lt v33
        refine lv_istore_n (lv' := [(1, .int v33), (0, .ref q)]) S.x S.b d_Mpr_rawStep_49 rfl hl (by decide) rfl (fun ls hl => ?_)
        refine lv_iload_n S.x S.b d_Mpr_rawStep_50 rfl (lv_at hl 0 rfl) ?_
        refine lv_bipush (v := 115) S.x S.b d_Mpr_rawStep_51 (by decide) ?_
        refine lv_icmp_ne (tgt := 58) S.x S.b d_Mpr_rawStep_53 (by decide) (fun c34 => ?_) (fun c34 => ?_)
        · have nc34 : ¬ v33.toInt = (115 : Int) := mt (i_eq (x := v33) (y := 115)).mpr c34
          refine lv_aload_n S.x S.b d_Mpr_rawStep_58 rfl (lv_at hl 1 rfl) ?_
          refine lv_iload_n S.x S.b d_Mpr_rawStep_59 rfl (lv_at hl 0 rfl) ?_
          refine px_calli (pr := []) (px_runV (As := [.int v33]) (rest := []) S (c_mr_perform l D cs (0 : Int) q qr qg qf qa h r g tf ta pf na ma wa cf ca ef ea xf xa v33  (show 0 ≤ (xf 68).toInt from by first | exact g0 | omega) (show (xf 68).toInt ≤ 512 from by first | exact g1 | omega) _) hT (pr := []) (pcs := [wd_Mpr cs q qr (fun k => if k = 0 then (some h) else none) qf qa qg, wdP cs h r g tf ta pf na ma wa cf ca ef ea xf xa]) hw (oX_call (P := (fun A U H => (oP A g U H))) (pr := []) oG_P hw hA hP) (px_recv hT hw 0 0 rfl rfl rfl) m13_209 m13_206 m13_208 ms_15_3 m1_22 q_Mpr_perform ⟨Nat.le_of_ble_eq_true rfl, Nat.le_of_ble_eq_true rfl⟩ hl.1 rfl (Nat.le_of_ble_eq_true rfl) d_Mpr_rawStep_60 ⟨Nat.le_of_ble_eq_true rfl, Nat.le_of_ble_eq_true rfl⟩) hw hA (fun v41 p40 H locs hp40 hw => ?_)
          obtain ⟨qf38, qa39, rfl, e42, e43, e44, e45, e46, e47, e48, e49, e50, e51, e52, e53, e54, e55⟩ := hp40
          have e42 : (qf38 2).toInt = (qf 2).toInt ∨ (qf38 2).toInt = 7 := e42
          have e43 : (qf38 1).toInt = (qf 1).toInt := e43
          have e44 : (qf38 4).toInt = (qf 4).toInt := e44
          have e45 : (qf38 5).toInt = (qf 5).toInt := e45
          have e46 : (qf38 6).toInt = (qf 6).toInt := e46
          have e47 : (qf38 7).toInt = (qf 7).toInt := e47
          have e48 : (qf38 10).toInt = (qf 10).toInt := e48
          have e49 : (qf38 11).toInt = (qf 11).toInt := e49
          have e50 : (qf38 12).toInt = (qf 12).toInt := e50
          have e51 : (qf38 13).toInt = (qf 13).toInt := e51
          have e52 : (qf38 14).toInt = (qf 14).toInt := e52
          have e53 : (qf38 21).toInt = (qf 21).toInt := e53
          have e54 : (qf38 23).toInt = (qf 23).toInt := e54
          have e55 : (qf38 24).toInt = (qf 24).toInt := e55
          have hw : pw D A s.heap H locs [wd_Mpr cs q qr (fun k => if k = 0 then (some h) else none) qf38 qa39 qg, wdP cs h r g tf ta pf na ma wa cf ca ef ea xf xa] := hw
          have lv41 := Int32.le_toInt v41
          have uv41 := Int32.toInt_lt v41
          refine lv_istore_n (lv' := [(2, .int v41), (1, .int v33), (0, .ref q)]) S.x S.b d_Mpr_rawStep_63 rfl hl (by decide) rfl (fun ls hl => ?_)
          refine lv_aload_n S.x S.b d_Mpr_rawStep_64 rfl (lv_at hl 2 rfl) ?_
          refine px_get S k_Mpr hT hw 0 0 2 (v := .int (qf38 2)) rfl rfl rfl (by decide) m10_225 d_Mpr_rawStep_65 ?_
          refine lv_bipush (v := (-2)) S.x S.b d_Mpr_rawStep_68 (by decide) ?_
          refine lv_icmp_ne (tgt := 88) S.x S.b d_Mpr_rawStep_70 (by decide) (fun c56 => ?_) (fun c56 => ?_)
          · have nc56 : ¬ (qf38 2).toInt = (-2 : Int) := mt (i_eq (x := (qf38 2)) (y := (-2))).mpr c56
            refine lv_iconst (v := 0) S.x S.b d_Mpr_rawStep_88 (by decide) ?_
            exact px_iret (v := 0) S hr rfl hlk hAe hw (Nat.le_of_ble_eq_true rfl) (Nat.le_of_ble_eq_true rfl) (⟨qf38, qa39, rfl, (show 0 ≤ (0 : Int) from by first | exact oz_5a341f00aa | omega), (show (0 : Int) ≤ 1 from by first | exact oz_6e68cd0f48 | omega), (show RsV (0 : Int) (qf38 2).toInt (qf38 4).toInt (qf 4).toInt from (by unfold RsV; omega)), (show (qf38 1).toInt = (qf 1).toInt from by first | exact e43 | omega), (show (qf38 5).toInt = (qf 5).toInt from by first | exact e45 | omega), (show (qf38 6).toInt = (qf 6).toInt from by first | exact e46 | omega), (show (qf38 7).toInt = (qf 7).toInt from by first | exact e47 | omega), (show (qf38 10).toInt = (qf 10).toInt from by first | exact e48 | omega), (show (qf38 12).toInt = (qf 12).toInt from by first | exact e50 | omega), (show (qf38 13).toInt = (qf 13).toInt from by first | exact e51 | omega), (show (qf38 14).toInt = (qf 14).toInt from by first | exact e52 | omega), (show (qf38 21).toInt = (qf 21).toInt from by first | exact e53 | omega), (show (qf38 23).toInt = (qf 23).toInt from by first | exact e54 | omega), (show (qf38 24).toInt = (qf 24).toInt from by first | exact e55 | omega)⟩) d_Mpr_rawStep_89
          · have nc56 : (qf38 2).toInt = (-2 : Int) := (i_eq (x := (qf38 2)) (y := (-2))).mp c56
            refine lv_aload_n S.x S.b d_Mpr_rawStep_73 rfl (lv_at hl 2 rfl) ?_
            refine lv_dup S.x S.b d_Mpr_rawStep_74 rfl ?_
            refine px_get S k_Mpr hT hw 0 0 4 (v := .int (qf38 4)) rfl rfl rfl (by decide) m10_229 d_Mpr_rawStep_75 ?_
            refine lv_iconst (v := 1) S.x S.b d_Mpr_rawStep_78 (by decide) ?_
            refine lv_isub S.x S.b d_Mpr_rawStep_79 ?_
            have lr58 := Int32.le_toInt (qf38 4)
            have ur58 := Int32.toInt_lt (qf38 4)
            refine lv_topi (fun z59 ez59 => ?_)
            have tz59 : z59.toInt = ((qf38 4).toInt - (1 : Int) + 2147483648) % 4294967296 - 2147483648 := by rw [ez59]; exact i_sub (qf38 4) 1
            have lz59 := Int32.le_toInt z59
            have uz59 := Int32.toInt_lt z59
            try replace tz59 : z59.toInt = (qf38 4).toInt - (1 : Int) := by omega
            refine px_put S k_Mpr hT hw 0 0 4 rfl rfl (by decide) m10_229 rfl rfl rfl (Nat.le_of_ble_eq_true rfl) d_Mpr_rawStep_80 (w' := wd_Mpr cs q qr (fun k => if k = 0 then (some h) else none) (upd qf38 4 z59) qa39 qg) (ps' := [wd_Mpr cs q qr (fun k => if k = 0 then (some h) else none) (upd qf38 4 z59) qa39 qg, wdP cs h r g tf ta pf na ma wa cf ca ef ea xf xa]) rfl rfl (fun H locs hw => ?_)
            refine lv_aload_n S.x S.b d_Mpr_rawStep_83 rfl (lv_at hl 2 rfl) ?_
            refine lv_iload_n S.x S.b d_Mpr_rawStep_84 rfl (lv_at hl 0 rfl) ?_
            refine px_put S k_Mpr hT hw 0 0 11 rfl rfl (by decide) m11_2 rfl rfl rfl (Nat.le_of_ble_eq_true rfl) d_Mpr_rawStep_85 (w' := wd_Mpr cs q qr (fun k => if k = 0 then (some h) else none) (upd (upd qf38 4 z59) 11 v41) qa39 qg) (ps' := [wd_Mpr cs q qr (fun k => if k = 0 then (some h) else none) (upd (upd qf38 4 z59) 11 v41) qa39 qg, wdP cs h r g tf ta pf na ma wa cf ca ef ea xf xa]) rfl rfl (fun H locs hw => ?_)
            refine lv_iconst (v := 0) S.x S.b d_Mpr_rawStep_88 (by decide) ?_
            exact px_iret (v := 0) S hr rfl hlk hAe hw (Nat.le_of_ble_eq_true rfl) (Nat.le_of_ble_eq_true rfl) (⟨(upd (upd qf38 4 z59) 11 v41), qa39, rfl, (show 0 ≤ (0 : Int) from by first | exact oz_5a341f00aa | omega), (show (0 : Int) ≤ 1 from by first | exact oz_6e68cd0f48 | omega), (show RsV (0 : Int) (qf38 2).toInt z59.toInt (qf 4).toInt from (by unfold RsV; omega)), (show (qf38 1).toInt = (qf 1).toInt from by first | exact e43 | omega), (show (qf38 5).toInt = (qf 5).toInt from by first | exact e45 | omega), (show (qf38 6).toInt = (qf 6).toInt from by first | exact e46 | omega), (show (qf38 7).toInt = (qf 7).toInt from by first | exact e47 | omega), (show (qf38 10).toInt = (qf 10).toInt from by first | exact e48 | omega), (show (qf38 12).toInt = (qf 12).toInt from by first | exact e50 | omega), (show (qf38 13).toInt = (qf 13).toInt from by first | exact e51 | omega), (show (qf38 14).toInt = (qf 14).toInt from by first | exact e52 | omega), (show (qf38 21).toInt = (qf 21).toInt from by first | exact e53 | omega), (show (qf38 23).toInt = (qf 23).toInt from by first | exact e54 | omega), (show (qf38 24).toInt = (qf 24).toInt from by first | exact e55 | omega)⟩) d_Mpr_rawStep_89
        · have nc34 : v33.toInt = (115 : Int) := (i_eq (x := v33) (y := 115)).mp c34
          refine lv_iconst (v := 1) S.x S.b d_Mpr_rawStep_56 (by decide) ?_
          exact px_iret (v := 1) S hr rfl hlk hAe hw (Nat.le_of_ble_eq_true rfl) (Nat.le_of_ble_eq_true rfl) (⟨qf, qa, rfl, (show 0 ≤ (1 : Int) from by first | exact oz_19c3a41681 | omega), (show (1 : Int) ≤ 1 from by first | exact oz_f9181dc4bb | omega), (show RsV (1 : Int) (qf 2).toInt (qf 4).toInt (qf 4).toInt from (by unfold RsV; omega)), (show (qf 1).toInt = (qf 1).toInt from rfl), (show (qf 5).toInt = (qf 5).toInt from rfl), (show (qf 6).toInt = (qf 6).toInt from rfl), (show (qf 7).toInt = (qf 7).toInt from rfl), (show (qf 10).toInt = (qf 10).toInt from rfl), (show (qf 12).toInt = (qf 12).toInt from rfl), (show (qf 13).toInt = (qf 13).toInt from rfl), (show (qf 14).toInt = (qf 14).toInt from rfl), (show (qf 21).toInt = (qf 21).toInt from rfl), (show (qf 23).toInt = (qf 23).toInt from rfl), (show (qf 24).toInt = (qf 24).toInt from rfl)⟩) d_Mpr_rawStep_57
      · have nc30 : ¬ z29.toInt = (0 : Int) := mt (i_eq (x := z29) (y := 0)).mpr c30
        refine lv_aload_n S.x S.b d_Mpr_rawStep_35 rfl (lv_at hl 0 rfl) ?_
        refine px_callv (pr := []) (px_runV (As := []) (rest := []) S (c_mr_fault l D cs (0 : Int) q qr qg qa qf h r g tf ta pf na ma wa cf ca ef ea xf xa    _) hT (pr := []) (pcs := [wd_Mpr cs q qr (fun k => if k = 0 then (some h) else none) qf qa qg, wdP cs h r g tf ta pf na ma wa cf ca ef ea xf xa]) hw (oX_call (P := (fun A U H => (oP A g U H))) (pr := []) oG_P hw hA hP) (px_recv hT hw 0 0 rfl rfl rfl) m13_193 m13_190 m13_192 ms_15_1 m1_22 q_Mpr_fault ⟨Nat.le_of_ble_eq_true rfl, Nat.le_of_ble_eq_true rfl⟩ hl.1 rfl (Nat.le_of_ble_eq_true rfl) d_Mpr_rawStep_36 ⟨Nat.le_of_ble_eq_true rfl, Nat.le_of_ble_eq_true rfl⟩) hw hA (fun p62 H locs hp62 hw => ?_)
        obtain ⟨qf61, rfl, e64, e65, e66, e67, e68, e69, e70, e71, e72, e73, e74, e75, e76, e77⟩ := hp62
        have e64 : (qf61 2).toInt = 7 := e64
        have e65 : (qf61 1).toInt = (qf 1).toInt := e65
        have e66 : (qf61 4).toInt = (qf 4).toInt := e66
        have e67 : (qf61 5).toInt = (qf 5).toInt := e67
        have e68 : (qf61 6).toInt = (qf 6).toInt := e68
        have e69 : (qf61 7).toInt = (qf 7).toInt := e69
        have e70 : (qf61 10).toInt = (qf 10).toInt := e70
        have e71 : (qf61 11).toInt = (qf 11).toInt := e71
        have e72 : (qf61 12).toInt = (qf 12).toInt := e72
        have e73 : (qf61 13).toInt = (qf 13).toInt := e73
        have e74 : (qf61 14).toInt = (qf 14).toInt := e74
        have e75 : (qf61 21).toInt = (qf 21).toInt := e75
        have e76 : (qf61 23).toInt = (qf 23).toInt := e76
        have e77 : (qf61 24).toInt = (qf 24).toInt := e77
        have hw : pw D A s.heap H locs [wd_Mpr cs q qr (fun k => if k = 0 then (some h) else none) qf61 qa qg, wdP cs h r g tf ta pf na ma wa cf ca ef ea xf xa] := hw
        refine lv_iconst (v := 0) S.x S.b d_Mpr_rawStep_39 (by decide) ?_
        exact px_iret (v := 0) S hr rfl hlk hAe hw (Nat.le_of_ble_eq_true rfl) (Nat.le_of_ble_eq_true rfl) (⟨qf61, qa, rfl, (show 0 ≤ (0 : Int) from by first | exact oz_5a341f00aa | omega), (show (0 : Int) ≤ 1 from by first | exact oz_6e68cd0f48 | omega), (show RsV (0 : Int) (qf61 2).toInt (qf61 4).toInt (qf 4).toInt from (by unfold RsV; omega)), (show (qf61 1).toInt = (qf 1).toInt from by first | exact e65 | omega), (show (qf61 5).toInt = (qf 5).toInt from by first | exact e67 | omega), (show (qf61 6).toInt = (qf 6).toInt from by first | exact e68 | omega), (show (qf61 7).toInt = (qf 7).toInt from by first | exact e69 | omega), (show (qf61 10).toInt = (qf 10).toInt from by first | exact e70 | omega), (show (qf61 12).toInt = (qf 12).toInt from by first | exact e72 | omega), (show (qf61 13).toInt = (qf 13).toInt from by first | exact e73 | omega), (show (qf61 14).toInt = (qf 14).toInt from by first | exact e74 | omega), (show (qf61 21).toInt = (qf 21).toInt from by first | exact e75 | omega), (show (qf61 23).toInt = (qf 23).toInt from by first | exact e76 | omega), (show (qf61 24).toInt = (qf 24).toInt from by first | exact e77 | omega)⟩) d_Mpr_rawStep_40
  · have nc1 : (qf 4).toInt = (0 : Int) := (i_eq (x := (qf 4)) (y := 0)).mp c1
    refine lv_aload_n S.x S.b d_Mpr_rawStep_7 rfl (lv_at hl 0 rfl) ?_
    refine lv_iconst (v := 5) S.x S.b d_Mpr_rawStep_8 (by decide) ?_
    refine lv_iconst (v := 0) S.x S.b d_Mpr_rawStep_9 (by decide) ?_
    refine px_callv (pr := []) (px_runV (As := [.int 5, .int 0]) (rest := []) S (c_mr_end l D cs (0 : Int) q qr qg qa qf h r g tf ta pf na ma wa cf ca ef ea xf xa 5 0   _) hT (pr := []) (pcs := [wd_Mpr cs q qr (fun k => if k = 0 then (some h) else none) qf qa qg, wdP cs h r g tf ta pf na ma wa cf ca ef ea xf xa]) hw (oX_call (P := (fun A U H => (oP A g U H))) (pr := []) oG_P hw hA hP) (px_recv hT hw 0 0 rfl rfl rfl) m13_177 m13_174 m13_175 m13_176 m1_22 q_Mpr_end ⟨Nat.le_of_ble_eq_true rfl, Nat.le_of_ble_eq_true rfl⟩ hl.1 rfl (Nat.le_of_ble_eq_true rfl) d_Mpr_rawStep_10 ⟨Nat.le_of_ble_eq_true rfl, Nat.le_of_ble_eq_true rfl⟩) hw hA (fun p80 H locs hp80 hw => ?_)
    obtain ⟨qf79, rfl, e82, e83, e84, e85, e86, e87, e88, e89, e90, e91, e92, e93, e94, e95, e96⟩ := hp80
    have e82 : (qf79 2).toInt = (5 : Int) := e82
    have e83 : (qf79 3).toInt = (0 : Int) := e83
    have e84 : (qf79 1).toInt = (qf 1).toInt := e84
    have e85 : (qf79 4).toInt = (qf 4).toInt := e85
    have e86 : (qf79 5).toInt = (qf 5).toInt := e86
    have e87 : (qf79 6).toInt = (qf 6).toInt := e87
    have e88 : (qf79 7).toInt = (qf 7).toInt := e88
    have e89 : (qf79 10).toInt = (qf 10).toInt := e89
    have e90 : (qf79 11).toInt = (qf 11).toInt := e90
    have e91 : (qf79 12).toInt = (qf 12).toInt := e91
    have e92 : (qf79 13).toInt = (qf 13).toInt := e92
    have e93 : (qf79 14).toInt = (qf 14).toInt := e93
    have e94 : (qf79 21).toInt = (qf 21).toInt := e94
    have e95 : (qf79 23).toInt = (qf 23).toInt := e95
    have e96 : (qf79 24).toInt = (qf 24).toInt := e96
    have hw : pw D A s.heap H locs [wd_Mpr cs q qr (fun k => if k = 0 then (some h) else none) qf79 qa qg, wdP cs h r g tf ta pf na ma wa cf ca ef ea xf xa] := hw
    refine lv_iconst (v := 0) S.x S.b d_Mpr_rawStep_13 (by decide) ?_
    exact px_iret (v := 0) S hr rfl hlk hAe hw (Nat.le_of_ble_eq_true rfl) (Nat.le_of_ble_eq_true rfl) (⟨qf79, qa, rfl, (show 0 ≤ (0 : Int) from by first | exact oz_5a341f00aa | omega), (show (0 : Int) ≤ 1 from by first | exact oz_6e68cd0f48 | omega), (show RsV (0 : Int) (qf79 2).toInt (qf79 4).toInt (qf 4).toInt from (by unfold RsV; omega)), (show (qf79 1).toInt = (qf 1).toInt from by first | exact e84 | omega), (show (qf79 5).toInt = (qf 5).toInt from by first | exact e86 | omega), (show (qf79 6).toInt = (qf 6).toInt from by first | exact e87 | omega), (show (qf79 7).toInt = (qf 7).toInt from by first | exact e88 | omega), (show (qf79 10).toInt = (qf 10).toInt from by first | exact e89 | omega), (show (qf79 12).toInt = (qf 12).toInt from by first | exact e91 | omega), (show (qf79 13).toInt = (qf 13).toInt from by first | exact e92 | omega), (show (qf79 14).toInt = (qf 14).toInt from by first | exact e93 | omega), (show (qf79 21).toInt = (qf 21).toInt from by first | exact e94 | omega), (show (qf79 23).toInt = (qf 23).toInt from by first | exact e95 | omega), (show (qf79 24).toInt = (qf 24).toInt from by first | exact e96 | omega)⟩) d_Mpr_rawStep_14
abbrev b_Mo_goOn : ByteArray := prog_14_method_27_code
def y_Mo_goOn : MethodName := ⟨"HomeSystemModel", "goOn", "(I)Z"⟩
theorem d_Mo_goOn_0 : decode b_Mo_goOn 0 = .ok (.aload_n 0, 1) := by decide +kernel
theorem d_Mo_goOn_1 : decode b_Mo_goOn 1 = .ok (.getfield 21, 3) := by decide +kernel
theorem d_Mo_goOn_4 : decode b_Mo_goOn 4 = .ok (.iload_n 1, 1) := by decide +kernel
theorem d_Mo_goOn_5 : decode b_Mo_goOn 5 = .ok (.aaload, 1) := by decide +kernel
theorem d_Mo_goOn_6 : decode b_Mo_goOn 6 = .ok (.astore_n 2, 1) := by decide +kernel
theorem d_Mo_goOn_7 : decode b_Mo_goOn 7 = .ok (.iconst 0, 1) := by decide +kernel
theorem d_Mo_goOn_8 : decode b_Mo_goOn 8 = .ok (.istore_n 3, 1) := by decide +kernel
theorem d_Mo_goOn_9 : decode b_Mo_goOn 9 = .ok (.iconst 1, 1) := by decide +kernel
theorem d_Mo_goOn_10 : decode b_Mo_goOn 10 = .ok (.istore 4, 2) := by decide +kernel
theorem d_Mo_goOn_12 : decode b_Mo_goOn 12 = .ok (.iload 4, 2) := by decide +kernel
theorem d_Mo_goOn_14 : decode b_Mo_goOn 14 = .ok (.ifCond .eq 245, 3) := by decide +kernel
theorem d_Mo_goOn_17 : decode b_Mo_goOn 17 = .ok (.aload_n 2, 1) := by decide +kernel
theorem d_Mo_goOn_18 : decode b_Mo_goOn 18 = .ok (.invokevirtual 178, 3) := by decide +kernel
theorem d_Mo_goOn_21 : decode b_Mo_goOn 21 = .ok (.ifCond .eq 238, 3) := by decide +kernel
theorem d_Mo_goOn_24 : decode b_Mo_goOn 24 = .ok (.aload_n 2, 1) := by decide +kernel
theorem d_Mo_goOn_25 : decode b_Mo_goOn 25 = .ok (.getfield 199, 3) := by decide +kernel
theorem d_Mo_goOn_28 : decode b_Mo_goOn 28 = .ok (.getfield 61, 3) := by decide +kernel
theorem d_Mo_goOn_31 : decode b_Mo_goOn 31 = .ok (.iconst 2, 1) := by decide +kernel
theorem d_Mo_goOn_32 : decode b_Mo_goOn 32 = .ok (.if_icmp .ne 32, 3) := by decide +kernel
theorem d_Mo_goOn_35 : decode b_Mo_goOn 35 = .ok (.aload_n 2, 1) := by decide +kernel
theorem d_Mo_goOn_36 : decode b_Mo_goOn 36 = .ok (.invokevirtual 203, 3) := by decide +kernel
theorem d_Mo_goOn_39 : decode b_Mo_goOn 39 = .ok (.istore 5, 2) := by decide +kernel
theorem d_Mo_goOn_41 : decode b_Mo_goOn 41 = .ok (.iload 5, 2) := by decide +kernel
theorem d_Mo_goOn_43 : decode b_Mo_goOn 43 = .ok (.ifCond .eq 11, 3) := by decide +kernel
theorem d_Mo_goOn_46 : decode b_Mo_goOn 46 = .ok (.aload_n 0, 1) := by decide +kernel
theorem d_Mo_goOn_47 : decode b_Mo_goOn 47 = .ok (.iload_n 1, 1) := by decide +kernel
theorem d_Mo_goOn_48 : decode b_Mo_goOn 48 = .ok (.invokevirtual 206, 3) := by decide +kernel
theorem d_Mo_goOn_51 : decode b_Mo_goOn 51 = .ok (.ifCond .eq 7, 3) := by decide +kernel
theorem d_Mo_goOn_54 : decode b_Mo_goOn 54 = .ok (.iconst 1, 1) := by decide +kernel
theorem d_Mo_goOn_55 : decode b_Mo_goOn 55 = .ok (.goto 4, 3) := by decide +kernel
theorem d_Mo_goOn_58 : decode b_Mo_goOn 58 = .ok (.iconst 0, 1) := by decide +kernel
theorem d_Mo_goOn_59 : decode b_Mo_goOn 59 = .ok (.istore 4, 2) := by decide +kernel
theorem d_Mo_goOn_61 : decode b_Mo_goOn 61 = .ok (.goto 180, 3) := by decide +kernel
theorem d_Mo_goOn_64 : decode b_Mo_goOn 64 = .ok (.aload_n 2, 1) := by decide +kernel
theorem d_Mo_goOn_65 : decode b_Mo_goOn 65 = .ok (.getfield 199, 3) := by decide +kernel
theorem d_Mo_goOn_68 : decode b_Mo_goOn 68 = .ok (.getfield 209, 3) := by decide +kernel
theorem d_Mo_goOn_71 : decode b_Mo_goOn 71 = .ok (.iconst 3, 1) := by decide +kernel
theorem d_Mo_goOn_72 : decode b_Mo_goOn 72 = .ok (.aload_n 2, 1) := by decide +kernel
theorem d_Mo_goOn_73 : decode b_Mo_goOn 73 = .ok (.getfield 181, 3) := by decide +kernel
theorem d_Mo_goOn_76 : decode b_Mo_goOn 76 = .ok (.imul, 1) := by decide +kernel
theorem d_Mo_goOn_77 : decode b_Mo_goOn 77 = .ok (.iaload, 1) := by decide +kernel
theorem d_Mo_goOn_78 : decode b_Mo_goOn 78 = .ok (.istore 5, 2) := by decide +kernel
theorem d_Mo_goOn_80 : decode b_Mo_goOn 80 = .ok (.aload_n 2, 1) := by decide +kernel
theorem d_Mo_goOn_81 : decode b_Mo_goOn 81 = .ok (.getfield 199, 3) := by decide +kernel
theorem d_Mo_goOn_84 : decode b_Mo_goOn 84 = .ok (.getfield 209, 3) := by decide +kernel
theorem d_Mo_goOn_87 : decode b_Mo_goOn 87 = .ok (.iconst 3, 1) := by decide +kernel
theorem d_Mo_goOn_88 : decode b_Mo_goOn 88 = .ok (.aload_n 2, 1) := by decide +kernel
theorem d_Mo_goOn_89 : decode b_Mo_goOn 89 = .ok (.getfield 181, 3) := by decide +kernel
theorem d_Mo_goOn_92 : decode b_Mo_goOn 92 = .ok (.imul, 1) := by decide +kernel
theorem d_Mo_goOn_93 : decode b_Mo_goOn 93 = .ok (.iconst 1, 1) := by decide +kernel
theorem d_Mo_goOn_94 : decode b_Mo_goOn 94 = .ok (.iadd, 1) := by decide +kernel
theorem d_Mo_goOn_95 : decode b_Mo_goOn 95 = .ok (.iaload, 1) := by decide +kernel
theorem d_Mo_goOn_96 : decode b_Mo_goOn 96 = .ok (.istore 6, 2) := by decide +kernel
theorem d_Mo_goOn_98 : decode b_Mo_goOn 98 = .ok (.aload_n 2, 1) := by decide +kernel
theorem d_Mo_goOn_99 : decode b_Mo_goOn 99 = .ok (.getfield 199, 3) := by decide +kernel
theorem d_Mo_goOn_102 : decode b_Mo_goOn 102 = .ok (.getfield 209, 3) := by decide +kernel
theorem d_Mo_goOn_105 : decode b_Mo_goOn 105 = .ok (.iconst 3, 1) := by decide +kernel
theorem d_Mo_goOn_106 : decode b_Mo_goOn 106 = .ok (.aload_n 2, 1) := by decide +kernel
theorem d_Mo_goOn_107 : decode b_Mo_goOn 107 = .ok (.getfield 181, 3) := by decide +kernel
theorem d_Mo_goOn_110 : decode b_Mo_goOn 110 = .ok (.imul, 1) := by decide +kernel
theorem d_Mo_goOn_111 : decode b_Mo_goOn 111 = .ok (.iconst 2, 1) := by decide +kernel
theorem d_Mo_goOn_112 : decode b_Mo_goOn 112 = .ok (.iadd, 1) := by decide +kernel
theorem d_Mo_goOn_113 : decode b_Mo_goOn 113 = .ok (.iaload, 1) := by decide +kernel
theorem d_Mo_goOn_114 : decode b_Mo_goOn 114 = .ok (.istore 7, 2) := by decide +kernel
theorem d_Mo_goOn_116 : decode b_Mo_goOn 116 = .ok (.iload 5, 2) := by decide +kernel
theorem d_Mo_goOn_118 : decode b_Mo_goOn 118 = .ok (.bipush 16, 2) := by decide +kernel
theorem d_Mo_goOn_120 : decode b_Mo_goOn 120 = .ok (.if_icmp .ne 101, 3) := by decide +kernel
theorem d_Mo_goOn_123 : decode b_Mo_goOn 123 = .ok (.aload_n 2, 1) := by decide +kernel
theorem d_Mo_goOn_124 : decode b_Mo_goOn 124 = .ok (.aload_n 2, 1) := by decide +kernel
theorem d_Mo_goOn_125 : decode b_Mo_goOn 125 = .ok (.getfield 212, 3) := by decide +kernel
theorem d_Mo_goOn_128 : decode b_Mo_goOn 128 = .ok (.ifCond .ne 15, 3) := by decide +kernel
theorem d_Mo_goOn_131 : decode b_Mo_goOn 131 = .ok (.iload 6, 2) := by decide +kernel
theorem d_Mo_goOn_133 : decode b_Mo_goOn 133 = .ok (.ifCond .eq 10, 3) := by decide +kernel
theorem d_Mo_goOn_136 : decode b_Mo_goOn 136 = .ok (.aload_n 2, 1) := by decide +kernel
theorem d_Mo_goOn_137 : decode b_Mo_goOn 137 = .ok (.invokevirtual 215, 3) := by decide +kernel
theorem d_Mo_goOn_140 : decode b_Mo_goOn 140 = .ok (.ifCond .eq 7, 3) := by decide +kernel
theorem d_Mo_goOn_143 : decode b_Mo_goOn 143 = .ok (.iconst 1, 1) := by decide +kernel
theorem d_Mo_goOn_144 : decode b_Mo_goOn 144 = .ok (.goto 4, 3) := by decide +kernel
theorem d_Mo_goOn_147 : decode b_Mo_goOn 147 = .ok (.iconst 0, 1) := by decide +kernel
theorem d_Mo_goOn_148 : decode b_Mo_goOn 148 = .ok (.putfield 212, 3) := by decide +kernel
theorem d_Mo_goOn_151 : decode b_Mo_goOn 151 = .ok (.aload_n 2, 1) := by decide +kernel
theorem d_Mo_goOn_152 : decode b_Mo_goOn 152 = .ok (.invokevirtual 178, 3) := by decide +kernel
theorem d_Mo_goOn_155 : decode b_Mo_goOn 155 = .ok (.ifCond .eq 13, 3) := by decide +kernel
theorem d_Mo_goOn_158 : decode b_Mo_goOn 158 = .ok (.aload_n 0, 1) := by decide +kernel
theorem d_Mo_goOn_159 : decode b_Mo_goOn 159 = .ok (.iload_n 1, 1) := by decide +kernel
theorem d_Mo_goOn_160 : decode b_Mo_goOn 160 = .ok (.iload 6, 2) := by decide +kernel
theorem d_Mo_goOn_162 : decode b_Mo_goOn 162 = .ok (.invokevirtual 218, 3) := by decide +kernel
theorem d_Mo_goOn_165 : decode b_Mo_goOn 165 = .ok (.ifCond .eq 7, 3) := by decide +kernel
theorem d_Mo_goOn_168 : decode b_Mo_goOn 168 = .ok (.iconst 1, 1) := by decide +kernel
theorem d_Mo_goOn_169 : decode b_Mo_goOn 169 = .ok (.goto 4, 3) := by decide +kernel
theorem d_Mo_goOn_172 : decode b_Mo_goOn 172 = .ok (.iconst 0, 1) := by decide +kernel
theorem d_Mo_goOn_173 : decode b_Mo_goOn 173 = .ok (.istore 4, 2) := by decide +kernel
theorem d_Mo_goOn_175 : decode b_Mo_goOn 175 = .ok (.aload_n 2, 1) := by decide +kernel
theorem d_Mo_goOn_176 : decode b_Mo_goOn 176 = .ok (.iload 4, 2) := by decide +kernel
theorem d_Mo_goOn_178 : decode b_Mo_goOn 178 = .ok (.ifCond .eq 12, 3) := by decide +kernel
theorem d_Mo_goOn_181 : decode b_Mo_goOn 181 = .ok (.aload_n 2, 1) := by decide +kernel
theorem d_Mo_goOn_182 : decode b_Mo_goOn 182 = .ok (.getfield 181, 3) := by decide +kernel
theorem d_Mo_goOn_185 : decode b_Mo_goOn 185 = .ok (.iconst 1, 1) := by decide +kernel
theorem d_Mo_goOn_186 : decode b_Mo_goOn 186 = .ok (.iadd, 1) := by decide +kernel
theorem d_Mo_goOn_187 : decode b_Mo_goOn 187 = .ok (.goto 7, 3) := by decide +kernel
theorem d_Mo_goOn_190 : decode b_Mo_goOn 190 = .ok (.aload_n 2, 1) := by decide +kernel
theorem d_Mo_goOn_191 : decode b_Mo_goOn 191 = .ok (.getfield 181, 3) := by decide +kernel
theorem d_Mo_goOn_194 : decode b_Mo_goOn 194 = .ok (.putfield 181, 3) := by decide +kernel
theorem d_Mo_goOn_197 : decode b_Mo_goOn 197 = .ok (.aload_n 2, 1) := by decide +kernel
theorem d_Mo_goOn_198 : decode b_Mo_goOn 198 = .ok (.aload_n 2, 1) := by decide +kernel
theorem d_Mo_goOn_199 : decode b_Mo_goOn 199 = .ok (.getfield 212, 3) := by decide +kernel
theorem d_Mo_goOn_202 : decode b_Mo_goOn 202 = .ok (.ifCond .eq 12, 3) := by decide +kernel
theorem d_Mo_goOn_205 : decode b_Mo_goOn 205 = .ok (.iload 4, 2) := by decide +kernel
theorem d_Mo_goOn_207 : decode b_Mo_goOn 207 = .ok (.ifCond .ne 7, 3) := by decide +kernel
theorem d_Mo_goOn_210 : decode b_Mo_goOn 210 = .ok (.iconst 1, 1) := by decide +kernel
theorem d_Mo_goOn_211 : decode b_Mo_goOn 211 = .ok (.goto 4, 3) := by decide +kernel
theorem d_Mo_goOn_214 : decode b_Mo_goOn 214 = .ok (.iconst 0, 1) := by decide +kernel
theorem d_Mo_goOn_215 : decode b_Mo_goOn 215 = .ok (.putfield 212, 3) := by decide +kernel
theorem d_Mo_goOn_218 : decode b_Mo_goOn 218 = .ok (.goto 23, 3) := by decide +kernel
theorem d_Mo_goOn_221 : decode b_Mo_goOn 221 = .ok (.aload_n 2, 1) := by decide +kernel
theorem d_Mo_goOn_222 : decode b_Mo_goOn 222 = .ok (.dup, 1) := by decide +kernel
theorem d_Mo_goOn_223 : decode b_Mo_goOn 223 = .ok (.getfield 181, 3) := by decide +kernel
theorem d_Mo_goOn_226 : decode b_Mo_goOn 226 = .ok (.iconst 1, 1) := by decide +kernel
theorem d_Mo_goOn_227 : decode b_Mo_goOn 227 = .ok (.iadd, 1) := by decide +kernel
theorem d_Mo_goOn_228 : decode b_Mo_goOn 228 = .ok (.putfield 181, 3) := by decide +kernel
theorem d_Mo_goOn_231 : decode b_Mo_goOn 231 = .ok (.aload_n 2, 1) := by decide +kernel
theorem d_Mo_goOn_232 : decode b_Mo_goOn 232 = .ok (.iload 5, 2) := by decide +kernel
theorem d_Mo_goOn_234 : decode b_Mo_goOn 234 = .ok (.iload 6, 2) := by decide +kernel
theorem d_Mo_goOn_236 : decode b_Mo_goOn 236 = .ok (.iload 7, 2) := by decide +kernel
theorem d_Mo_goOn_238 : decode b_Mo_goOn 238 = .ok (.invokevirtual 221, 3) := by decide +kernel
theorem d_Mo_goOn_241 : decode b_Mo_goOn 241 = .ok (.iload_n 3, 1) := by decide +kernel
theorem d_Mo_goOn_242 : decode b_Mo_goOn 242 = .ok (.ifCond .ne 8, 3) := by decide +kernel
theorem d_Mo_goOn_245 : decode b_Mo_goOn 245 = .ok (.iload 4, 2) := by decide +kernel
theorem d_Mo_goOn_247 : decode b_Mo_goOn 247 = .ok (.ifCond .eq 7, 3) := by decide +kernel
theorem d_Mo_goOn_250 : decode b_Mo_goOn 250 = .ok (.iconst 1, 1) := by decide +kernel
theorem d_Mo_goOn_251 : decode b_Mo_goOn 251 = .ok (.goto 4, 3) := by decide +kernel
theorem d_Mo_goOn_254 : decode b_Mo_goOn 254 = .ok (.iconst 0, 1) := by decide +kernel
theorem d_Mo_goOn_255 : decode b_Mo_goOn 255 = .ok (.istore_n 3, 1) := by decide +kernel
theorem d_Mo_goOn_256 : decode b_Mo_goOn 256 = .ok (.goto (-244), 3) := by decide +kernel
theorem d_Mo_goOn_259 : decode b_Mo_goOn 259 = .ok (.aload_n 2, 1) := by decide +kernel
theorem d_Mo_goOn_260 : decode b_Mo_goOn 260 = .ok (.invokevirtual 97, 3) := by decide +kernel
theorem d_Mo_goOn_263 : decode b_Mo_goOn 263 = .ok (.ifCond .eq 8, 3) := by decide +kernel
theorem d_Mo_goOn_266 : decode b_Mo_goOn 266 = .ok (.aload_n 0, 1) := by decide +kernel
theorem d_Mo_goOn_267 : decode b_Mo_goOn 267 = .ok (.iload_n 1, 1) := by decide +kernel
theorem d_Mo_goOn_268 : decode b_Mo_goOn 268 = .ok (.invokevirtual 224, 3) := by decide +kernel
theorem d_Mo_goOn_271 : decode b_Mo_goOn 271 = .ok (.iload_n 3, 1) := by decide +kernel
theorem d_Mo_goOn_272 : decode b_Mo_goOn 272 = .ok (.ireturn, 1) := by decide +kernel
theorem q_Mo_goOn : px_y y_Mo_goOn 1 := by unfold px_y; decide +kernel
set_option maxHeartbeats 4000000 in
set_option maxRecDepth 100000 in
theorem c_mo_goOn (l : Launch) (D : va_G) (cs : Nat → ClassId) (RR : Nat → Int) (mo : Nat) (mr : Nat → Nat) (mf : Nat → Int32) (md : Nat → Nat → Int32) (hq : Nat → Nat) (qr : Nat → Nat → Nat) (QO : Nat → Option Nat) (QF : Nat → Nat → Int32) (QA : Nat → Nat → Nat → Int32) (PG : Nat → Pgs) (p0 : Int32)  (g0 : 0 ≤ p0.toInt) (g1 : p0.toInt < 13) (g2 : 0 ≤ (mf 7).toInt) (g3 : (mf 7).toInt ≤ 100) (g4 : 0 ≤ (mf 8).toInt) (g5 : (mf 8).toInt ≤ 512) (hpr : PrA PG RR QO QF QA) (hpg : PgA PG) : MetI l y_Mo_goOn b_Mo_goOn 8 (.boolean) D cs 12 500 (0) (0) [.ref mo, .int p0] [wd_Mo cs mo mr (fun _ => none) mf md (gMo PG hq), fm 13 (fPr cs hq qr QO QF QA), fm 8 (fPg cs PG)] (oX (fun A U H => (∀ j : Nat, j < 8 → oP A (PG j).g U H) ∧ (oLW A U H)) [wd_Mo cs mo mr (fun _ => none) mf md (gMo PG hq), fm 13 (fPr cs hq qr QO QF QA), fm 8 (fPg cs PG)]) (fun v ps => ∃ (mf' : Nat → Int32) (md' : Nat → Nat → Int32) (QO' : Nat → Option Nat) (QF' : Nat → Nat → Int32) (QA' : Nat → Nat → Nat → Int32), (ps = [wd_Mo cs mo mr (fun _ => none) mf' md' (gMo PG hq), fm 13 (fPr cs hq qr QO' QF' QA'), fm 8 (fPg cs PG)]) ∧ (0 ≤ v.toInt) ∧ (v.toInt ≤ 1) ∧ (PrA PG (va_up RR p0.toNatClampNeg (RR p0.toNatClampNeg - v.toInt)) QO' QF' QA') ∧ ((mf' 0).toInt = (mf 0).toInt) ∧ ((mf' 2).toInt = (mf 2).toInt) ∧ ((mf' 3).toInt = (mf 3).toInt) ∧ ((mf' 7).toInt = (mf 7).toInt) ∧ ((mf' 8).toInt = (mf 8).toInt) ∧ ((mf' 10).toInt = (mf 10).toInt) ∧ (Md1 md md')) := by
  refine px_enter (by decide) (Nat.le_of_ble_eq_true rfl) ?_
  intro p e s m below meth c A ls hAe S hr hlk hnm hA hT hX hw hl
  have hl : lv_has ls 8 [(0, .ref mo), (1, .int p0)] := hl
  have lp0 := Int32.le_toInt p0
  have up0 := Int32.toInt_lt p0
  have cst0 : (0 : Int32).toInt = 0 := rfl
  have cst1 : (1 : Int32).toInt = 1 := rfl
  have cst2 : (2 : Int32).toInt = 2 := rfl
  have cst3 : (3 : Int32).toInt = 3 := rfl
  have cst16 : (16 : Int32).toInt = 16 := rfl
  have hX : (fun A U H => (∀ j : Nat, j < 8 → oP A (PG j).g U H) ∧ (oLW A U H)) A s s.heap := by rw [hAe]; exact hX
  obtain ⟨hGG, hSh⟩ := hX
  have hmdq : Md1 md md := rfl
  have J12 : ∀ (n_12 : Nat) (mf_12 : Nat → Int32) (md_12 : Nat → Nat → Int32) (QO_12 : Nat → Option Nat) (QF_12 : Nat → Nat → Int32) (QA_12 : Nat → Nat → Nat → Int32) (R_12 : Int) (x12_3 x12_4 : Int32) (H : Heap) (locs : List Loc) (ls : Array Slot), (PrA PG (va_up RR p0.toNatClampNeg R_12) QO_12 QF_12 QA_12) → ((mf_12 0).toInt = (mf 0).toInt) → ((mf_12 2).toInt = (mf 2).toInt) → ((mf_12 3).toInt = (mf 3).toInt) → ((mf_12 7).toInt = (mf 7).toInt) → ((mf_12 8).toInt = (mf 8).toInt) → ((mf_12 10).toInt = (mf 10).toInt) → (Md1 md md_12) → (0 ≤ x12_3.toInt) → (x12_3.toInt ≤ 1) → (0 ≤ x12_4.toInt) → (x12_4.toInt ≤ 1) → (R_12 + x12_3.toInt ≤ RR p0.toNatClampNeg) → 2 * R_12 + x12_4.toInt < (n_12 : Int) → pw D A s.heap H locs [wd_Mo cs mo mr (fun _ => none) mf_12 md_12 (gMo PG hq), fm 13 (fPr cs hq qr QO_12 QF_12 QA_12), fm 8 (fPg cs PG)] → lv_has ls 8 [(0, .ref mo), (1, .int p0), (2, .ref (hq p0.toNatClampNeg)), (3, .int x12_3), (4, .int x12_4)] → W p l e { frames := 12, cells := 0, slots := 0, locals := 500 } s m [.ref mo, .int p0].toArray below meth c H locs 0 0 (MQ below (va_Qi (fun v ps => ∃ (mf' : Nat → Int32) (md' : Nat → Nat → Int32) (QO' : Nat → Option Nat) (QF' : Nat → Nat → Int32) (QA' : Nat → Nat → Nat → Int32), (ps = [wd_Mo cs mo mr (fun _ => none) mf' md' (gMo PG hq), fm 13 (fPr cs hq qr QO' QF' QA'), fm 8 (fPg cs PG)]) ∧ (0 ≤ v.toInt) ∧ (v.toInt ≤ 1) ∧ (PrA PG (va_up RR p0.toNatClampNeg (RR p0.toNatClampNeg - v.toInt)) QO' QF' QA') ∧ ((mf' 0).toInt = (mf 0).toInt) ∧ ((mf' 2).toInt = (mf 2).toInt) ∧ ((mf' 3).toInt = (mf 3).toInt) ∧ ((mf' 7).toInt = (mf 7).toInt) ∧ ((mf' 8).toInt = (mf 8).toInt) ∧ ((mf' 10).toInt = (mf 10).toInt) ∧ (Md1 md md')) (pc_B D (va_A ([wd_Mo cs mo mr (fun _ => none) mf md (gMo PG hq), fm 13 (fPr cs hq qr QO QF QA), fm 8 (fPg cs PG)] : List va_W).flatten s.heap.size)) (va_A ([wd_Mo cs mo mr (fun _ => none) mf md (gMo PG hq), fm 13 (fPr cs hq qr QO QF QA), fm 8 (fPg cs PG)] : List va_W).flatten s.heap.size)) [.ref mo, .int p0].toArray s 0 0 A) (F0 m 12 ls []) := by
    intro  n_12
    induction n_12 with
    | zero =>
      intro mf_12 md_12 QO_12 QF_12 QA_12 R_12 x12_3 x12_4 H locs ls k12_0 k12_1 k12_2 k12_3 k12_4 k12_5 k12_6 k12_7 k12_8 k12_9 k12_10 k12_11 k12_12 hm hw hl
      have lx12_3 := Int32.le_toInt x12_3
      have ux12_3 := Int32.toInt_lt x12_3
      have lx12_4 := Int32.le_toInt x12_4
      have ux12_4 := Int32.toInt_lt x12_4
      have hpr := k12_0
      have hcp := cl_nat (x := p0) (by first | exact g0 | omega)
      have hR0_k12_0 := (hpr.1 p0.toNatClampNeg (by omega)).2.1
      rw [va_up_s] at hR0_k12_0
      have hmdq := k12_7
      exact absurd hm (by omega)
    | succ n_12 ih12 =>
      intro mf_12 md_12 QO_12 QF_12 QA_12 R_12 x12_3 x12_4 H locs ls k12_0 k12_1 k12_2 k12_3 k12_4 k12_5 k12_6 k12_7 k12_8 k12_9 k12_10 k12_11 k12_12 hm hw hl
      have lx12_3 := Int32.le_toInt x12_3
      have ux12_3 := Int32.toInt_lt x12_3
      have lx12_4 := Int32.le_toInt x12_4
      have ux12_4 := Int32.toInt_lt x12_4
      have hpr := k12_0
      have hcp := cl_nat (x := p0) (by first | exact g0 | omega)
      have hR0_k12_0 := (hpr.1 p0.toNatClampNeg (by omega)).2.1
      rw [va_up_s] at hR0_k12_0
      have hmdq := k12_7
      have J241 : ∀ (mf_241 : Nat → Int32) (md_241 : Nat → Nat → Int32) (QO_241 : Nat → Option Nat) (QF_241 : Nat → Nat → Int32) (QA_241 : Nat → Nat → Nat → Int32) (S_241 : Int) (x241_3 x241_4 : Int32) (H : Heap) (locs : List Loc) (ls : Array Slot), (PrA PG (va_up RR p0.toNatClampNeg S_241) QO_241 QF_241 QA_241) → ((mf_241 0).toInt = (mf 0).toInt) → ((mf_241 2).toInt = (mf 2).toInt) → ((mf_241 3).toInt = (mf 3).toInt) → ((mf_241 7).toInt = (mf 7).toInt) → ((mf_241 8).toInt = (mf 8).toInt) → ((mf_241 10).toInt = (mf 10).toInt) → (Md1 md md_241) → (x241_3.toInt = x12_3.toInt) → (0 ≤ x241_4.toInt) → (x241_4.toInt ≤ 1) → (S_241 + x241_4.toInt ≤ R_12) → (S_241 ≤ R_12) → (1 ≤ x12_4.toInt) → pw D A s.heap H locs [wd_Mo cs mo mr (fun _ => none) mf_241 md_241 (gMo PG hq), fm 13 (fPr cs hq qr QO_241 QF_241 QA_241), fm 8 (fPg cs PG)] → lv_has ls 8 [(0, .ref mo), (1, .int p0), (2, .ref (hq p0.toNatClampNeg)), (3, .int x241_3), (4, .int x241_4)] → W p l e { frames := 12, cells := 0, slots := 0, locals := 500 } s m [.ref mo, .int p0].toArray below meth c H locs 0 0 (MQ below (va_Qi (fun v ps => ∃ (mf' : Nat → Int32) (md' : Nat → Nat → Int32) (QO' : Nat → Option Nat) (QF' : Nat → Nat → Int32) (QA' : Nat → Nat → Nat → Int32), (ps = [wd_Mo cs mo mr (fun _ => none) mf' md' (gMo PG hq), fm 13 (fPr cs hq qr QO' QF' QA'), fm 8 (fPg cs PG)]) ∧ (0 ≤ v.toInt) ∧ (v.toInt ≤ 1) ∧ (PrA PG (va_up RR p0.toNatClampNeg (RR p0.toNatClampNeg - v.toInt)) QO' QF' QA') ∧ ((mf' 0).toInt = (mf 0).toInt) ∧ ((mf' 2).toInt = (mf 2).toInt) ∧ ((mf' 3).toInt = (mf 3).toInt) ∧ ((mf' 7).toInt = (mf 7).toInt) ∧ ((mf' 8).toInt = (mf 8).toInt) ∧ ((mf' 10).toInt = (mf 10).toInt) ∧ (Md1 md md')) (pc_B D (va_A ([wd_Mo cs mo mr (fun _ => none) mf md (gMo PG hq), fm 13 (fPr cs hq qr QO QF QA), fm 8 (fPg cs PG)] : List va_W).flatten s.heap.size)) (va_A ([wd_Mo cs mo mr (fun _ => none) mf md (gMo PG hq), fm 13 (fPr cs hq qr QO QF QA), fm 8 (fPg cs PG)] : List va_W).flatten s.heap.size)) [.ref mo, .int p0].toArray s 0 0 A) (F0 m 241 ls []) := by
        intro mf_241 md_241 QO_241 QF_241 QA_241 S_241 x241_3 x241_4 H locs ls k241_0 k241_1 k241_2 k241_3 k241_4 k241_5 k241_6 k241_7 k241_8 k241_9 k241_10 k241_11 k241_12 k241_13 hw hl
        have lx241_3 := Int32.le_toInt x241_3
        have ux241_3 := Int32.toInt_lt x241_3
        have lx241_4 := Int32.le_toInt x241_4
        have ux241_4 := Int32.toInt_lt x241_4
        have hpr := k241_0
        have hcp := cl_nat (x := p0) (by first | exact g0 | omega)
        have hR0_k241_0 := (hpr.1 p0.toNatClampNeg (by omega)).2.1
        rw [va_up_s] at hR0_k241_0
        have hmdq := k241_7
        refine lv_iload_n S.x S.b d_Mo_goOn_241 rfl (lv_at hl 3 rfl) ?_
        refine lv_if_ne (tgt := 250) S.x S.b d_Mo_goOn_242 (by decide) (fun c1 => ?_) (fun c1 => ?_)
        · have nc1 : ¬ x241_3.toInt = (0 : Int) := mt (i_eq (x := x241_3) (y := 0)).mpr c1
          refine lv_iconst (v := 1) S.x S.b d_Mo_goOn_250 (by decide) ?_
          refine lv_goto (tgt := 255) S.x S.b d_Mo_goOn_251 (by decide) ?_
          refine lv_istore_n (lv' := [(3, .int 1), (0, .ref mo), (1, .int p0), (2, .ref (hq p0.toNatClampNeg)), (4, .int x241_4)]) S.x S.b d_Mo_goOn_255 rfl hl (by decide) rfl (fun ls hl => ?_)
          refine lv_goto (tgt := 12) S.x S.b d_Mo_goOn_256 (by decide) ?_
          exact ih12 mf_241 md_241 QO_241 QF_241 QA_241 S_241 (1 : Int32) x241_4 _ _ ls (show PrA PG (va_up RR p0.toNatClampNeg S_241) QO_241 QF_241 QA_241 from hpr) (show (mf_241 0).toInt = (mf 0).toInt from by first | exact k241_1 | omega) (show (mf_241 2).toInt = (mf 2).toInt from by first | exact k241_2 | omega) (show (mf_241 3).toInt = (mf 3).toInt from by first | exact k241_3 | omega) (show (mf_241 7).toInt = (mf 7).toInt from by first | exact k241_4 | omega) (show (mf_241 8).toInt = (mf 8).toInt from by first | exact k241_5 | omega) (show (mf_241 10).toInt = (mf 10).toInt from by first | exact k241_6 | omega) (show Md1 md md_241 from hmdq) (show 0 ≤ (1 : Int) from by first | exact oz_19c3a41681 | omega) (show (1 : Int) ≤ 1 from by first | exact oz_f9181dc4bb | omega) (show 0 ≤ x241_4.toInt from by first | exact k241_9 | omega) (show x241_4.toInt ≤ 1 from by first | exact k241_10 | omega) (show S_241 + (1 : Int) ≤ RR p0.toNatClampNeg from by omega) (show 2 * S_241 + x241_4.toInt < (n_12 : Int) from by first | exact oz_c494451c9b hm k241_11 k241_12 k241_13 | omega) hw (lv_sub hl [1, 2, 3, 0, 4] rfl)
        · have nc1 : x241_3.toInt = (0 : Int) := (i_eq (x := x241_3) (y := 0)).mp c1
          refine lv_iload S.x S.b d_Mo_goOn_245 (lv_at hl 4 rfl) ?_
          refine lv_if_eq (tgt := 254) S.x S.b d_Mo_goOn_247 (by decide) (fun c3 => ?_) (fun c3 => ?_)
          · have nc3 : x241_4.toInt = (0 : Int) := (i_eq (x := x241_4) (y := 0)).mp c3
            refine lv_iconst (v := 0) S.x S.b d_Mo_goOn_254 (by decide) ?_
            refine lv_istore_n (lv' := [(3, .int 0), (0, .ref mo), (1, .int p0), (2, .ref (hq p0.toNatClampNeg)), (4, .int x241_4)]) S.x S.b d_Mo_goOn_255 rfl hl (by decide) rfl (fun ls hl => ?_)
            refine lv_goto (tgt := 12) S.x S.b d_Mo_goOn_256 (by decide) ?_
            exact ih12 mf_241 md_241 QO_241 QF_241 QA_241 S_241 (0 : Int32) x241_4 _ _ ls (show PrA PG (va_up RR p0.toNatClampNeg S_241) QO_241 QF_241 QA_241 from hpr) (show (mf_241 0).toInt = (mf 0).toInt from by first | exact k241_1 | omega) (show (mf_241 2).toInt = (mf 2).toInt from by first | exact k241_2 | omega) (show (mf_241 3).toInt = (mf 3).toInt from by first | exact k241_3 | omega) (show (mf_241 7).toInt = (mf 7).toInt from by first | exact k241_4 | omega) (show (mf_241 8).toInt = (mf 8).toInt from by first | exact k241_5 | omega) (show (mf_241 10).toInt = (mf 10).toInt from by first | exact k241_6 | omega) (show Md1 md md_241 from hmdq) (show 0 ≤ (0 : Int) from by first | exact oz_5a341f00aa | omega) (show (0 : Int) ≤ 1 from by first | exact oz_6e68cd0f48 | omega) (show 0 ≤ x241_4.toInt from by first | exact k241_9 | omega) (show x241_4.toInt ≤ 1 from by first | exact k241_10 | omega) (show S_241 + (0 : Int) ≤ RR p0.toNatClampNeg from by omega) (show 2 * S_241 + x241_4.toInt < (n_12 : Int) from by first | exact oz_c494451c9b hm k241_11 k241_12 k241_13 | omega) hw (lv_sub hl [1, 2, 3, 0, 4] rfl)
          · have nc3 : ¬ x241_4.toInt = (0 : Int) := mt (i_eq (x := x241_4) (y := 0)).mpr c3
            refine lv_iconst (v := 1) S.x S.b d_Mo_goOn_250 (by decide) ?_
            refine lv_goto (tgt := 255) S.x S.b d_Mo_goOn_251 (by decide) ?_
            refine lv_istore_n (lv' := [(3, .int 1), (0, .ref mo), (1, .int p0), (2, .ref (hq p0.toNatClampNeg)), (4, .int x241_4)]) S.x S.b d_Mo_goOn_255 rfl hl (by decide) rfl (fun ls hl => ?_)
            refine lv_goto (tgt := 12) S.x S.b d_Mo_goOn_256 (by decide) ?_
            exact ih12 mf_241 md_241 QO_241 QF_241 QA_241 S_241 (1 : Int32) x241_4 _ _ ls (show PrA PG (va_up RR p0.toNatClampNeg S_241) QO_241 QF_241 QA_241 from hpr) (show (mf_241 0).toInt = (mf 0).toInt from by first | exact k241_1 | omega) (show (mf_241 2).toInt = (mf 2).toInt from by first | exact k241_2 | omega) (show (mf_241 3).toInt = (mf 3).toInt from by first | exact k241_3 | omega) (show (mf_241 7).toInt = (mf 7).toInt from by first | exact k241_4 | omega) (show (mf_241 8).toInt = (mf 8).toInt from by first | exact k241_5 | omega) (show (mf_241 10).toInt = (mf 10).toInt from by first | exact k241_6 | omega) (show Md1 md md_241 from hmdq) (show 0 ≤ (1 : Int) from by first | exact oz_19c3a41681 | omega) (show (1 : Int) ≤ 1 from by first | exact oz_f9181dc4bb | omega) (show 0 ≤ x241_4.toInt from by first | exact k241_9 | omega) (show x241_4.toInt ≤ 1 from by first | exact k241_10 | omega) (show S_241 + (1 : Int) ≤ RR p0.toNatClampNeg from by omega) (show 2 * S_241 + x241_4.toInt < (n_12 : Int) from by first | exact oz_c494451c9b hm k241_11 k241_12 k241_13 | omega) hw (lv_sub hl [1, 2, 3, 0, 4] rfl)
      refine lv_iload S.x S.b d_Mo_goOn_12 (lv_at hl 4 rfl) ?_
      refine lv_if_eq (tgt := 259) S.x S.b d_Mo_goOn_14 (by decide) (fun c5 => ?_) (fun c5 => ?_)
      · have nc5 : x12_4.toInt = (0 : Int) := (i_eq (x := x12_4) (y := 0)).mp c5
        refine lv_aload_n S.x S.b d_Mo_goOn_259 rfl (lv_at hl 2 rfl) ?_
        have hw : pw D A s.heap _ _ [wd_Mo cs mo mr (fun _ => none) mf_12 md_12 (gMo PG hq), fm 8 (fPg cs PG), fm 13 (fPr cs hq qr QO_12 QF_12 QA_12)] := hw.sub [0, 2, 1] rfl rfl
        have hc7 := cl_nat (x := p0) (by first | exact g0 | omega)
        have hi7 : p0.toNatClampNeg < 13 := by first | exact oz_9995642664 hcp g1 | omega
        have hw : pw D A s.heap _ _ [wd_Mo cs mo mr (fun _ => none) mf_12 md_12 (gMo PG hq), fm 8 (fPg cs PG), fo 13 (fPr cs hq qr QO_12 QF_12 QA_12) p0.toNatClampNeg, wd_Mpr cs (hq p0.toNatClampNeg) (qr p0.toNatClampNeg) (fun _ => QO_12 p0.toNatClampNeg) (QF_12 p0.toNatClampNeg) (QA_12 p0.toNatClampNeg) (fun _ _ => none)] := fm_out (pr := [wd_Mo cs mo mr (fun _ => none) mf_12 md_12 (gMo PG hq), fm 8 (fPg cs PG)]) (T := fPr cs hq qr QO_12 QF_12 QA_12) hw hi7
        have hps7 := hpr.1 p0.toNatClampNeg hi7
        have hpb7 := hps7.1
        unfold PsB at hpb7
        refine px_calli (pr := [wd_Mo cs mo mr (fun _ => none) mf_12 md_12 (gMo PG hq), fm 8 (fPg cs PG), fo 13 (fPr cs hq qr QO_12 QF_12 QA_12) p0.toNatClampNeg]) (px_runV (As := []) (rest := []) S (c_mqq_hasEnded l D cs (hq p0.toNatClampNeg) (qr p0.toNatClampNeg) (fun _ _ => none) (fun _ => QO_12 p0.toNatClampNeg) (QF_12 p0.toNatClampNeg) (QA_12 p0.toNatClampNeg)    _) hT (pr := [wd_Mo cs mo mr (fun _ => none) mf_12 md_12 (gMo PG hq), fm 8 (fPg cs PG), fo 13 (fPr cs hq qr QO_12 QF_12 QA_12) p0.toNatClampNeg]) (pcs := [wd_Mpr cs (hq p0.toNatClampNeg) (qr p0.toNatClampNeg) (fun _ => QO_12 p0.toNatClampNeg) (QF_12 p0.toNatClampNeg) (QA_12 p0.toNatClampNeg) (fun _ _ => none)]) hw px_X.tt (px_recv hT hw 3 0 rfl rfl rfl) m14_58 m14_55 m14_56 m14_57 m1_22 q_Mpr_hasEnded ⟨Nat.le_of_ble_eq_true rfl, Nat.le_of_ble_eq_true rfl⟩ hl.1 rfl (Nat.le_of_ble_eq_true rfl) d_Mo_goOn_260 ⟨Nat.le_of_ble_eq_true rfl, Nat.le_of_ble_eq_true rfl⟩) hw hA (fun v9 p8 H locs hp8 hw => ?_)
        obtain ⟨rfl, e10, e11⟩ := hp8
        have e10 : 0 ≤ v9.toInt := e10
        have e11 : v9.toInt ≤ 1 := e11
        have hw : pw D A s.heap H locs [wd_Mo cs mo mr (fun _ => none) mf_12 md_12 (gMo PG hq), fm 8 (fPg cs PG), fo 13 (fPr cs hq qr QO_12 QF_12 QA_12) p0.toNatClampNeg, wd_Mpr cs (hq p0.toNatClampNeg) (qr p0.toNatClampNeg) (fun _ => QO_12 p0.toNatClampNeg) (QF_12 p0.toNatClampNeg) (QA_12 p0.toNatClampNeg) (fun _ _ => none)] := hw
        have lv9 := Int32.le_toInt v9
        have uv9 := Int32.toInt_lt v9
        refine lv_if_eq (tgt := 271) S.x S.b d_Mo_goOn_263 (by decide) (fun c12 => ?_) (fun c12 => ?_)
        · have nc12 : v9.toInt = (0 : Int) := (i_eq (x := v9) (y := 0)).mp c12
          refine lv_iload_n S.x S.b d_Mo_goOn_271 rfl (lv_at hl 3 rfl) ?_
          have hw : pw D A s.heap _ _ [wd_Mo cs mo mr (fun _ => none) mf_12 md_12 (gMo PG hq), fm 8 (fPg cs PG), fm 13 (fPr cs hq qr QO_12 QF_12 QA_12)] := fm_back (pr := [wd_Mo cs mo mr (fun _ => none) mf_12 md_12 (gMo PG hq), fm 8 (fPg cs PG)]) (T := fPr cs hq qr QO_12 QF_12 QA_12) hw hi7
          have hw : pw D A s.heap _ _ [wd_Mo cs mo mr (fun _ => none) mf_12 md_12 (gMo PG hq), fm 13 (fPr cs hq qr QO_12 QF_12 QA_12), fm 8 (fPg cs PG)] := hw.sub [0, 2, 1] rfl rfl
          exact px_iret (v := x12_3) S hr (z_nar (by omega)) hlk hAe hw (Nat.le_of_ble_eq_true rfl) (Nat.le_of_ble_eq_true rfl) (⟨mf_12, md_12, QO_12, QF_12, QA_12, rfl, (show 0 ≤ x12_3.toInt from by first | exact k12_8 | omega), (show x12_3.toInt ≤ 1 from by first | exact k12_9 | omega), (show PrA PG (va_up RR p0.toNatClampNeg (RR p0.toNatClampNeg - x12_3.toInt)) QO_12 QF_12 QA_12 from (hpr.ml (by omega))), (show (mf_12 0).toInt = (mf 0).toInt from by first | exact k12_1 | omega), (show (mf_12 2).toInt = (mf 2).toInt from by first | exact k12_2 | omega), (show (mf_12 3).toInt = (mf 3).toInt from by first | exact k12_3 | omega), (show (mf_12 7).toInt = (mf 7).toInt from by first | exact k12_4 | omega), (show (mf_12 8).toInt = (mf 8).toInt from by first | exact k12_5 | omega), (show (mf_12 10).toInt = (mf 10).toInt from by first | exact k12_6 | omega), (show Md1 md md_12 from hmdq)⟩) d_Mo_goOn_272
        · have nc12 : ¬ v9.toInt = (0 : Int) := mt (i_eq (x := v9) (y := 0)).mpr c12
          refine lv_aload_n S.x S.b d_Mo_goOn_266 rfl (lv_at hl 0 rfl) ?_
          refine lv_iload_n S.x S.b d_Mo_goOn_267 rfl (lv_at hl 1 rfl) ?_
          have hw : pw D A s.heap _ _ [wd_Mo cs mo mr (fun _ => none) mf_12 md_12 (gMo PG hq), fm 8 (fPg cs PG), fm 13 (fPr cs hq qr QO_12 QF_12 QA_12)] := fm_back (pr := [wd_Mo cs mo mr (fun _ => none) mf_12 md_12 (gMo PG hq), fm 8 (fPg cs PG)]) (T := fPr cs hq qr QO_12 QF_12 QA_12) hw hi7
          have hw : pw D A s.heap _ _ [wd_Mo cs mo mr (fun _ => none) mf_12 md_12 (gMo PG hq), fm 13 (fPr cs hq qr QO_12 QF_12 QA_12), fm 8 (fPg cs PG)] := hw.sub [0, 2, 1] rfl rfl
          refine px_callv (pr := []) (px_runV (As := [.int p0]) (rest := []) S (c_mo_close l D cs (va_up RR p0.toNatClampNeg R_12) mo mr mf_12 md_12 hq qr QO_12 QF_12 QA_12 PG p0  (show 0 ≤ p0.toInt from by first | exact g0 | omega) (show p0.toInt < 13 from by first | exact g1 | omega) hpr hpg _) hT (pr := []) (pcs := [wd_Mo cs mo mr (fun _ => none) mf_12 md_12 (gMo PG hq), fm 13 (fPr cs hq qr QO_12 QF_12 QA_12), fm 8 (fPg cs PG)]) hw px_X.tt (px_recv hT hw 0 0 rfl rfl rfl) m14_173 m14_170 m14_172 ms_17_6 m1_20 q_Mo_close ⟨Nat.le_of_ble_eq_true rfl, Nat.le_of_ble_eq_true rfl⟩ hl.1 rfl (Nat.le_of_ble_eq_true rfl) d_Mo_goOn_268 ⟨Nat.le_of_ble_eq_true rfl, Nat.le_of_ble_eq_true rfl⟩) hw hA (fun p20 H locs hp20 hw => ?_)
          obtain ⟨QO17, QF18, QA19, rfl, e22, e23⟩ := hp20
          have e22 : PrA PG (va_up RR p0.toNatClampNeg R_12) QO17 QF18 QA19 := e22
          have hpr := e22
          have e23 : KpP QO_12 QF_12 QA_12 QO17 QF18 QA19 p0.toNatClampNeg := e23
          have hkp := e23
          have hw : pw D A s.heap H locs [wd_Mo cs mo mr (fun _ => none) mf_12 md_12 (gMo PG hq), fm 13 (fPr cs hq qr QO17 QF18 QA19), fm 8 (fPg cs PG)] := hw
          refine lv_iload_n S.x S.b d_Mo_goOn_271 rfl (lv_at hl 3 rfl) ?_
          exact px_iret (v := x12_3) S hr (z_nar (by omega)) hlk hAe hw (Nat.le_of_ble_eq_true rfl) (Nat.le_of_ble_eq_true rfl) (⟨mf_12, md_12, QO17, QF18, QA19, rfl, (show 0 ≤ x12_3.toInt from by first | exact k12_8 | omega), (show x12_3.toInt ≤ 1 from by first | exact k12_9 | omega), (show PrA PG (va_up RR p0.toNatClampNeg (RR p0.toNatClampNeg - x12_3.toInt)) QO17 QF18 QA19 from (hpr.ml (by omega))), (show (mf_12 0).toInt = (mf 0).toInt from by first | exact k12_1 | omega), (show (mf_12 2).toInt = (mf 2).toInt from by first | exact k12_2 | omega), (show (mf_12 3).toInt = (mf 3).toInt from by first | exact k12_3 | omega), (show (mf_12 7).toInt = (mf 7).toInt from by first | exact k12_4 | omega), (show (mf_12 8).toInt = (mf 8).toInt from by first | exact k12_5 | omega), (show (mf_12 10).toInt = (mf 10).toInt from by first | exact k12_6 | omega), (show Md1 md md_12 from hmdq)⟩) d_Mo_goOn_272
      · have nc5 : ¬ x12_4.toInt = (0 : Int) := mt (i_eq (x := x12_4) (y := 0)).mpr c5
        refine lv_aload_n S.x S.b d_Mo_goOn_17 rfl (lv_at hl 2 rfl) ?_
        have hw : pw D A s.heap _ _ [wd_Mo cs mo mr (fun _ => none) mf_12 md_12 (gMo PG hq), fm 8 (fPg cs PG), fm 13 (fPr cs hq qr QO_12 QF_12 QA_12)] := hw.sub [0, 2, 1] rfl rfl
        have hc24 := cl_nat (x := p0) (by first | exact g0 | omega)
        have hi24 : p0.toNatClampNeg < 13 := by first | exact oz_9995642664 hcp g1 | omega
        have hw : pw D A s.heap _ _ [wd_Mo cs mo mr (fun _ => none) mf_12 md_12 (gMo PG hq), fm 8 (fPg cs PG), fo 13 (fPr cs hq qr QO_12 QF_12 QA_12) p0.toNatClampNeg, wd_Mpr cs (hq p0.toNatClampNeg) (qr p0.toNatClampNeg) (fun _ => QO_12 p0.toNatClampNeg) (QF_12 p0.toNatClampNeg) (QA_12 p0.toNatClampNeg) (fun _ _ => none)] := fm_out (pr := [wd_Mo cs mo mr (fun _ => none) mf_12 md_12 (gMo PG hq), fm 8 (fPg cs PG)]) (T := fPr cs hq qr QO_12 QF_12 QA_12) hw hi24
        have hps24 := hpr.1 p0.toNatClampNeg hi24
        have hpb24 := hps24.1
        unfold PsB at hpb24
        refine px_calli (pr := [wd_Mo cs mo mr (fun _ => none) mf_12 md_12 (gMo PG hq), fm 8 (fPg cs PG), fo 13 (fPr cs hq qr QO_12 QF_12 QA_12) p0.toNatClampNeg]) (px_runV (As := []) (rest := []) S (c_mqq_isGoing l D cs (hq p0.toNatClampNeg) (qr p0.toNatClampNeg) (fun _ _ => none) (fun _ => QO_12 p0.toNatClampNeg) (QF_12 p0.toNatClampNeg) (QA_12 p0.toNatClampNeg)    _) hT (pr := [wd_Mo cs mo mr (fun _ => none) mf_12 md_12 (gMo PG hq), fm 8 (fPg cs PG), fo 13 (fPr cs hq qr QO_12 QF_12 QA_12) p0.toNatClampNeg]) (pcs := [wd_Mpr cs (hq p0.toNatClampNeg) (qr p0.toNatClampNeg) (fun _ => QO_12 p0.toNatClampNeg) (QF_12 p0.toNatClampNeg) (QA_12 p0.toNatClampNeg) (fun _ _ => none)]) hw px_X.tt (px_recv hT hw 3 0 rfl rfl rfl) m13_165 m13_162 m13_163 m13_164 m1_22 q_Mpr_isGoing ⟨Nat.le_of_ble_eq_true rfl, Nat.le_of_ble_eq_true rfl⟩ hl.1 rfl (Nat.le_of_ble_eq_true rfl) d_Mo_goOn_18 ⟨Nat.le_of_ble_eq_true rfl, Nat.le_of_ble_eq_true rfl⟩) hw hA (fun v26 p25 H locs hp25 hw => ?_)
        obtain ⟨rfl, e27, e28, e29⟩ := hp25
        have e27 : 0 ≤ v26.toInt := e27
        have e28 : v26.toInt ≤ 1 := e28
        have e29 : IgV v26.toInt ((QF_12 p0.toNatClampNeg) 1).toInt ((QF_12 p0.toNatClampNeg) 2).toInt := e29
        have hig := e29
        have hw : pw D A s.heap H locs [wd_Mo cs mo mr (fun _ => none) mf_12 md_12 (gMo PG hq), fm 8 (fPg cs PG), fo 13 (fPr cs hq qr QO_12 QF_12 QA_12) p0.toNatClampNeg, wd_Mpr cs (hq p0.toNatClampNeg) (qr p0.toNatClampNeg) (fun _ => QO_12 p0.toNatClampNeg) (QF_12 p0.toNatClampNeg) (QA_12 p0.toNatClampNeg) (fun _ _ => none)] := hw
        have lv26 := Int32.le_toInt v26
        have uv26 := Int32.toInt_lt v26
        refine lv_if_eq (tgt := 259) S.x S.b d_Mo_goOn_21 (by decide) (fun c30 => ?_) (fun c30 => ?_)
        · have nc30 : v26.toInt = (0 : Int) := (i_eq (x := v26) (y := 0)).mp c30
          refine lv_aload_n S.x S.b d_Mo_goOn_259 rfl (lv_at hl 2 rfl) ?_
          refine px_calli (pr := [wd_Mo cs mo mr (fun _ => none) mf_12 md_12 (gMo PG hq), fm 8 (fPg cs PG), fo 13 (fPr cs hq qr QO_12 QF_12 QA_12) p0.toNatClampNeg]) (px_runV (As := []) (rest := []) S (c_mqq_hasEnded l D cs (hq p0.toNatClampNeg) (qr p0.toNatClampNeg) (fun _ _ => none) (fun _ => QO_12 p0.toNatClampNeg) (QF_12 p0.toNatClampNeg) (QA_12 p0.toNatClampNeg)    _) hT (pr := [wd_Mo cs mo mr (fun _ => none) mf_12 md_12 (gMo PG hq), fm 8 (fPg cs PG), fo 13 (fPr cs hq qr QO_12 QF_12 QA_12) p0.toNatClampNeg]) (pcs := [wd_Mpr cs (hq p0.toNatClampNeg) (qr p0.toNatClampNeg) (fun _ => QO_12 p0.toNatClampNeg) (QF_12 p0.toNatClampNeg) (QA_12 p0.toNatClampNeg) (fun _ _ => none)]) hw px_X.tt (px_recv hT hw 3 0 rfl rfl rfl) m14_58 m14_55 m14_56 m14_57 m1_22 q_Mpr_hasEnded ⟨Nat.le_of_ble_eq_true rfl, Nat.le_of_ble_eq_true rfl⟩ hl.1 rfl (Nat.le_of_ble_eq_true rfl) d_Mo_goOn_260 ⟨Nat.le_of_ble_eq_true rfl, Nat.le_of_ble_eq_true rfl⟩) hw hA (fun v33 p32 H locs hp32 hw => ?_)
          obtain ⟨rfl, e34, e35⟩ := hp32
          have e34 : 0 ≤ v33.toInt := e34
          have e35 : v33.toInt ≤ 1 := e35
          have hw : pw D A s.heap H locs [wd_Mo cs mo mr (fun _ => none) mf_12 md_12 (gMo PG hq), fm 8 (fPg cs PG), fo 13 (fPr cs hq qr QO_12 QF_12 QA_12) p0.toNatClampNeg, wd_Mpr cs (hq p0.toNatClampNeg) (qr p0.toNatClampNeg) (fun _ => QO_12 p0.toNatClampNeg) (QF_12 p0.toNatClampNeg) (QA_12 p0.toNatClampNeg) (fun _ _ => none)] := hw
          have lv33 := Int32.le_toInt v33
          have uv33 := Int32.toInt_lt v33
          refine lv_if_eq (tgt := 271) S.x S.b d_Mo_goOn_263 (by decide) (fun c36 => ?_) (fun c36 => ?_)
          · have nc36 : v33.toInt = (0 : Int) := (i_eq (x := v33) (y := 0)).mp c36
            refine lv_iload_n S.x S.b d_Mo_goOn_271 rfl (lv_at hl 3 rfl) ?_
            have hw : pw D A s.heap _ _ [wd_Mo cs mo mr (fun _ => none) mf_12 md_12 (gMo PG hq), fm 8 (fPg cs PG), fm 13 (fPr cs hq qr QO_12 QF_12 QA_12)] := fm_back (pr := [wd_Mo cs mo mr (fun _ => none) mf_12 md_12 (gMo PG hq), fm 8 (fPg cs PG)]) (T := fPr cs hq qr QO_12 QF_12 QA_12) hw hi24
            have hw : pw D A s.heap _ _ [wd_Mo cs mo mr (fun _ => none) mf_12 md_12 (gMo PG hq), fm 13 (fPr cs hq qr QO_12 QF_12 QA_12), fm 8 (fPg cs PG)] := hw.sub [0, 2, 1] rfl rfl
            exact px_iret (v := x12_3) S hr (z_nar (by omega)) hlk hAe hw (Nat.le_of_ble_eq_true rfl) (Nat.le_of_ble_eq_true rfl) (⟨mf_12, md_12, QO_12, QF_12, QA_12, rfl, (show 0 ≤ x12_3.toInt from by first | exact k12_8 | omega), (show x12_3.toInt ≤ 1 from by first | exact k12_9 | omega), (show PrA PG (va_up RR p0.toNatClampNeg (RR p0.toNatClampNeg - x12_3.toInt)) QO_12 QF_12 QA_12 from (hpr.ml (by omega))), (show (mf_12 0).toInt = (mf 0).toInt from by first | exact k12_1 | omega), (show (mf_12 2).toInt = (mf 2).toInt from by first | exact k12_2 | omega), (show (mf_12 3).toInt = (mf 3).toInt from by first | exact k12_3 | omega), (show (mf_12 7).toInt = (mf 7).toInt from by first | exact k12_4 | omega), (show (mf_12 8).toInt = (mf 8).toInt from by first | exact k12_5 | omega), (show (mf_12 10).toInt = (mf 10).toInt from by first | exact k12_6 | omega), (show Md1 md md_12 from hmdq)⟩) d_Mo_goOn_272
          · have nc36 : ¬ v33.toInt = (0 : Int) := mt (i_eq (x := v33) (y := 0)).mpr c36
            refine lv_aload_n S.x S.b d_Mo_goOn_266 rfl (lv_at hl 0 rfl) ?_
            refine lv_iload_n S.x S.b d_Mo_goOn_267 rfl (lv_at hl 1 rfl) ?_
            have hw : pw D A s.heap _ _ [wd_Mo cs mo mr (fun _ => none) mf_12 md_12 (gMo PG hq), fm 8 (fPg cs PG), fm 13 (fPr cs hq qr QO_12 QF_12 QA_12)] := fm_back (pr := [wd_Mo cs mo mr (fun _ => none) mf_12 md_12 (gMo PG hq), fm 8 (fPg cs PG)]) (T := fPr cs hq qr QO_12 QF_12 QA_12) hw hi24
            have hw : pw D A s.heap _ _ [wd_Mo cs mo mr (fun _ => none) mf_12 md_12 (gMo PG hq), fm 13 (fPr cs hq qr QO_12 QF_12 QA_12), fm 8 (fPg cs PG)] := hw.sub [0, 2, 1] rfl rfl
            refine px_callv (pr := []) (px_runV (As := [.int p0]) (rest := []) S (c_mo_close l D cs (va_up RR p0.toNatClampNeg R_12) mo mr mf_12 md_12 hq qr QO_12 QF_12 QA_12 PG p0  (show 0 ≤ p0.toInt from by first | exact g0 | omega) (show p0.toInt < 13 from by first | exact g1 | omega) hpr hpg _) hT (pr := []) (pcs := [wd_Mo cs mo mr (fun _ => none) mf_12 md_12 (gMo PG hq), fm 13 (fPr cs hq qr QO_12 QF_12 QA_12), fm 8 (fPg cs PG)]) hw px_X.tt (px_recv hT hw 0 0 rfl rfl rfl) m14_173 m14_170 m14_172 ms_17_6 m1_20 q_Mo_close ⟨Nat.le_of_ble_eq_true rfl, Nat.le_of_ble_eq_true rfl⟩ hl.1 rfl (Nat.le_of_ble_eq_true rfl) d_Mo_goOn_268 ⟨Nat.le_of_ble_eq_true rfl, Nat.le_of_ble_eq_true rfl⟩) hw hA (fun p44 H locs hp44 hw => ?_)
            obtain ⟨QO41, QF42, QA43, rfl, e46, e47⟩ := hp44
            have e46 : PrA PG (va_up RR p0.toNatClampNeg R_12) QO41 QF42 QA43 := e46
            have hpr := e46
            have e47 : KpP QO_12 QF_12 QA_12 QO41 QF42 QA43 p0.toNatClampNeg := e47
            have hkp := e47
            have hw : pw D A s.heap H locs [wd_Mo cs mo mr (fun _ => none) mf_12 md_12 (gMo PG hq), fm 13 (fPr cs hq qr QO41 QF42 QA43), fm 8 (fPg cs PG)] := hw
            refine lv_iload_n S.x S.b d_Mo_goOn_271 rfl (lv_at hl 3 rfl) ?_
            exact px_iret (v := x12_3) S hr (z_nar (by omega)) hlk hAe hw (Nat.le_of_ble_eq_true rfl) (Nat.le_of_ble_eq_true rfl) (⟨mf_12, md_12, QO41, QF42, QA43, rfl, (show 0 ≤ x12_3.toInt from by first | exact k12_8 | omega), (show x12_3.toInt ≤ 1 from by first | exact k12_9 | omega), (show PrA PG (va_up RR p0.toNatClampNeg (RR p0.toNatClampNeg - x12_3.toInt)) QO41 QF42 QA43 from (hpr.ml (by omega))), (show (mf_12 0).toInt = (mf 0).toInt from by first | exact k12_1 | omega), (show (mf_12 2).toInt = (mf 2).toInt from by first | exact k12_2 | omega), (show (mf_12 3).toInt = (mf 3).toInt from by first | exact k12_3 | omega), (show (mf_12 7).toInt = (mf 7).toInt from by first | exact k12_4 | omega), (show (mf_12 8).toInt = (mf 8).toInt from by first | exact k12_5 | omega), (show (mf_12 10).toInt = (mf 10).toInt from by first | exact k12_6 | omega), (show Md1 md md_12 from hmdq)⟩) d_Mo_goOn_272
        · have nc30 : ¬ v26.toInt = (0 : Int) := mt (i_eq (x := v26) (y := 0)).mpr c30
          refine lv_aload_n S.x S.b d_Mo_goOn_24 rfl (lv_at hl 2 rfl) ?_
          have hg1 : (QF_12 p0.toNatClampNeg 1).toInt = 1 ∧ (QF_12 p0.toNatClampNeg 2).toInt = -2 := hig.elim (fun q8 => by omega) (fun q8 => absurd q8.1 (by omega))
          have hps8 := hps24
          rw [va_up_s] at hps8
          obtain ⟨j9, hj9, hqo, hkind⟩ := hps8.2.2.2 (by omega) (by omega)
          have hw : pw D A s.heap _ _ [wd_Mo cs mo mr (fun _ => none) mf_12 md_12 (gMo PG hq), fm 8 (fPg cs PG), fo 13 (fPr cs hq qr QO_12 QF_12 QA_12) p0.toNatClampNeg, wd_Mpr cs (hq p0.toNatClampNeg) (qr p0.toNatClampNeg) (fun k => if k = 0 then (some (PG j9).h) else none) (QF_12 p0.toNatClampNeg) (QA_12 p0.toNatClampNeg) (fun _ _ => none)] := (by have q8 := hw; rw [wd_oo (o := (fun _ => QO_12 p0.toNatClampNeg)) (o' := (fun k => if k = 0 then (some (PG j9).h) else none)) hqo] at q8; exact q8)
          have hw : pw D A s.heap _ _ [wd_Mo cs mo mr (fun _ => none) mf_12 md_12 (gMo PG hq), fo 13 (fPr cs hq qr QO_12 QF_12 QA_12) p0.toNatClampNeg, wd_Mpr cs (hq p0.toNatClampNeg) (qr p0.toNatClampNeg) (fun k => if k = 0 then (some (PG j9).h) else none) (QF_12 p0.toNatClampNeg) (QA_12 p0.toNatClampNeg) (fun _ _ => none), fm 8 (fPg cs PG)] := hw.sub [0, 2, 3, 1] rfl rfl
          have hw : pw D A s.heap _ _ [wd_Mo cs mo mr (fun _ => none) mf_12 md_12 (gMo PG hq), fo 13 (fPr cs hq qr QO_12 QF_12 QA_12) p0.toNatClampNeg, wd_Mpr cs (hq p0.toNatClampNeg) (qr p0.toNatClampNeg) (fun k => if k = 0 then (some (PG j9).h) else none) (QF_12 p0.toNatClampNeg) (QA_12 p0.toNatClampNeg) (fun _ _ => none), fo 8 (fPg cs PG) j9, wdP cs (PG j9).h (PG j9).r (PG j9).g (PG j9).tf (PG j9).ta (PG j9).pf (PG j9).na (PG j9).ma (PG j9).wa (PG j9).cf (PG j9).ca (PG j9).ef (PG j9).ea (PG j9).xf (PG j9).xa] := fm_out (pr := [wd_Mo cs mo mr (fun _ => none) mf_12 md_12 (gMo PG hq), fo 13 (fPr cs hq qr QO_12 QF_12 QA_12) p0.toNatClampNeg, wd_Mpr cs (hq p0.toNatClampNeg) (qr p0.toNatClampNeg) (fun k => if k = 0 then (some (PG j9).h) else none) (QF_12 p0.toNatClampNeg) (QA_12 p0.toNatClampNeg) (fun _ _ => none)]) (T := fPg cs PG) hw hj9
          have hpo48 := hpg j9 hj9
          have hp148 := hpo48.1
          have hp248 := hpo48.2.1
          have hP := hGG j9 hj9
          refine px_get S k_Mpr hT hw 2 0 0 (v := .ref (PG j9).h) rfl rfl rfl (by decide) m10_222 d_Mo_goOn_25 ?_
          refine px_get S k_Mpg hT hw 4 0 66 (v := .int ((PG j9).xf 66)) rfl rfl rfl (by decide) m10_67 d_Mo_goOn_28 ?_
          refine lv_iconst (v := 2) S.x S.b d_Mo_goOn_31 (by decide) ?_
          refine lv_icmp_ne (tgt := 64) S.x S.b d_Mo_goOn_32 (by decide) (fun c49 => ?_) (fun c49 => ?_)
          · have nc49 : ¬ ((PG j9).xf 66).toInt = (2 : Int) := mt (i_eq (x := ((PG j9).xf 66)) (y := 2)).mpr c49
            refine lv_aload_n S.x S.b d_Mo_goOn_64 rfl (lv_at hl 2 rfl) ?_
            have htk9 := hkind.elim (fun q8 => absurd q8.1 (by omega)) id; have h61 := htk9.1; have hpt := htk9.2; have hpn := hpt.num; have hptE := hpt; obtain ⟨X9, K9, st9, f9, S9, v8, P9, nb9, hen, hru, h59, hrk, h24, h79⟩ := hptE; have hft9 := (hpo48.2.2 h61).ft; have h79 : Hid _ := h79; have hft := hft9.1; have hfp := hft9.2; have hmdn := (hru.en hen h59).num; have hq9 := hru.2.2.2; have hlc9 := (hru.en hen h59).2.2.2.1
            refine px_get S k_Mpr hT hw 2 0 0 (v := .ref (PG j9).h) rfl rfl rfl (by decide) m10_222 d_Mo_goOn_65 ?_
            refine px_getN S k_Mpg hT hw 4 0 61 (v := .ref ((PG j9).r 61)) rfl rfl rfl (by decide) m10_59n d_Mo_goOn_68 ?_
            refine lv_iconst (v := 3) S.x S.b d_Mo_goOn_71 (by decide) ?_
            refine lv_aload_n S.x S.b d_Mo_goOn_72 rfl (lv_at hl 2 rfl) ?_
            refine px_get S k_Mpr hT hw 2 0 11 (v := .int ((QF_12 p0.toNatClampNeg) 11)) rfl rfl rfl (by decide) m11_3 d_Mo_goOn_73 ?_
            refine lv_imul S.x S.b d_Mo_goOn_76 ?_
            have lr51 := Int32.le_toInt ((QF_12 p0.toNatClampNeg) 11)
            have ur51 := Int32.toInt_lt ((QF_12 p0.toNatClampNeg) 11)
            refine lv_topi (fun z52 ez52 => ?_)
            have lz52 := Int32.le_toInt z52
            have uz52 := Int32.toInt_lt z52
            have tz52 : -2147483648 ≤ 3 * ((QF_12 p0.toNatClampNeg) 11).toInt → 3 * ((QF_12 p0.toNatClampNeg) 11).toInt < 2147483648 → z52.toInt = 3 * ((QF_12 p0.toNatClampNeg) 11).toInt := by rw [ez52]; exact i_mulc 3 ((QF_12 p0.toNatClampNeg) 11) (by decide)
            try replace tz52 : z52.toInt = 3 * ((QF_12 p0.toNatClampNeg) 11).toInt := by omega
            refine px_iald S hT hw 4 34 (n := 21000) (f := ((PG j9).ea 61)) rfl gp_61 (x := z52) (vp_in_iff.mpr (by constructor <;> omega)) d_Mo_goOn_77 ?_
            refine lv_topi (fun z53 ez53 => ?_)
            have lz53 := Int32.le_toInt z53
            have uz53 := Int32.toInt_lt z53
            have hz5 : z53 = (PG j9).ea 61 (3 * (QF_12 p0.toNatClampNeg 11).toInt).toNat := at_k (qa := (PG j9).ea) (k := 61) ez53 (by omega) (by omega)
            refine lv_istore (lv' := [(5, .int z53), (0, .ref mo), (1, .int p0), (2, .ref (hq p0.toNatClampNeg)), (3, .int x12_3), (4, .int x12_4)]) S.x S.b d_Mo_goOn_78 hl (by decide) rfl (fun ls hl => ?_)
            refine lv_aload_n S.x S.b d_Mo_goOn_80 rfl (lv_at hl 3 rfl) ?_
            refine px_get S k_Mpr hT hw 2 0 0 (v := .ref (PG j9).h) rfl rfl rfl (by decide) m10_222 d_Mo_goOn_81 ?_
            refine px_getN S k_Mpg hT hw 4 0 61 (v := .ref ((PG j9).r 61)) rfl rfl rfl (by decide) m10_59n d_Mo_goOn_84 ?_
            refine lv_iconst (v := 3) S.x S.b d_Mo_goOn_87 (by decide) ?_
            refine lv_aload_n S.x S.b d_Mo_goOn_88 rfl (lv_at hl 3 rfl) ?_
            refine px_get S k_Mpr hT hw 2 0 11 (v := .int ((QF_12 p0.toNatClampNeg) 11)) rfl rfl rfl (by decide) m11_3 d_Mo_goOn_89 ?_
            refine lv_imul S.x S.b d_Mo_goOn_92 ?_
            have lr54 := Int32.le_toInt ((QF_12 p0.toNatClampNeg) 11)
            have ur54 := Int32.toInt_lt ((QF_12 p0.toNatClampNeg) 11)
            refine lv_topi (fun z55 ez55 => ?_)
            have lz55 := Int32.le_toInt z55
            have uz55 := Int32.toInt_lt z55
            have tz55 : -2147483648 ≤ 3 * ((QF_12 p0.toNatClampNeg) 11).toInt → 3 * ((QF_12 p0.toNatClampNeg) 11).toInt < 2147483648 → z55.toInt = 3 * ((QF_12 p0.toNatClampNeg) 11).toInt := by rw [ez55]; exact i_mulc 3 ((QF_12 p0.toNatClampNeg) 11) (by decide)
            try replace tz55 : z55.toInt = 3 * ((QF_12 p0.toNatClampNeg) 11).toInt := by omega
            refine lv_iconst (v := 1) S.x S.b d_Mo_goOn_93 (by decide) ?_
            refine lv_iadd S.x S.b d_Mo_goOn_94 ?_
            refine lv_topi (fun z56 ez56 => ?_)
            have tz56 : z56.toInt = (z55.toInt + (1 : Int) + 2147483648) % 4294967296 - 2147483648 := by rw [ez56]; exact i_add z55 1
            have lz56 := Int32.le_toInt z56
            have uz56 := Int32.toInt_lt z56
            try replace tz56 : z56.toInt = z55.toInt + (1 : Int) := by omega
            refine px_iald S hT hw 4 34 (n := 21000) (f := ((PG j9).ea 61)) rfl gp_61 (x := z56) (vp_in_iff.mpr (by constructor <;> omega)) d_Mo_goOn_95 ?_
            refine lv_topi (fun z57 ez57 => ?_)
            have lz57 := Int32.le_toInt z57
            have uz57 := Int32.toInt_lt z57
            have hz6 : z57 = (PG j9).ea 61 (3 * (QF_12 p0.toNatClampNeg 11).toInt + 1).toNat := at_k (qa := (PG j9).ea) (k := 61) ez57 (by omega) (by omega)
            refine lv_istore (lv' := [(6, .int z57), (5, .int z53), (0, .ref mo), (1, .int p0), (2, .ref (hq p0.toNatClampNeg)), (3, .int x12_3), (4, .int x12_4)]) S.x S.b d_Mo_goOn_96 hl (by decide) rfl (fun ls hl => ?_)
            refine lv_aload_n S.x S.b d_Mo_goOn_98 rfl (lv_at hl 4 rfl) ?_
            refine px_get S k_Mpr hT hw 2 0 0 (v := .ref (PG j9).h) rfl rfl rfl (by decide) m10_222 d_Mo_goOn_99 ?_
            refine px_getN S k_Mpg hT hw 4 0 61 (v := .ref ((PG j9).r 61)) rfl rfl rfl (by decide) m10_59n d_Mo_goOn_102 ?_
            refine lv_iconst (v := 3) S.x S.b d_Mo_goOn_105 (by decide) ?_
            refine lv_aload_n S.x S.b d_Mo_goOn_106 rfl (lv_at hl 4 rfl) ?_
            refine px_get S k_Mpr hT hw 2 0 11 (v := .int ((QF_12 p0.toNatClampNeg) 11)) rfl rfl rfl (by decide) m11_3 d_Mo_goOn_107 ?_
            refine lv_imul S.x S.b d_Mo_goOn_110 ?_
            have lr58 := Int32.le_toInt ((QF_12 p0.toNatClampNeg) 11)
            have ur58 := Int32.toInt_lt ((QF_12 p0.toNatClampNeg) 11)
            refine lv_topi (fun z59 ez59 => ?_)
            have lz59 := Int32.le_toInt z59
            have uz59 := Int32.toInt_lt z59
            have tz59 : -2147483648 ≤ 3 * ((QF_12 p0.toNatClampNeg) 11).toInt → 3 * ((QF_12 p0.toNatClampNeg) 11).toInt < 2147483648 → z59.toInt = 3 * ((QF_12 p0.toNatClampNeg) 11).toInt := by rw [ez59]; exact i_mulc 3 ((QF_12 p0.toNatClampNeg) 11) (by decide)
            try replace tz59 : z59.toInt = 3 * ((QF_12 p0.toNatClampNeg) 11).toInt := by omega
            refine lv_iconst (v := 2) S.x S.b d_Mo_goOn_111 (by decide) ?_
            refine lv_iadd S.x S.b d_Mo_goOn_112 ?_
            refine lv_topi (fun z60 ez60 => ?_)
            have tz60 : z60.toInt = (z59.toInt + (2 : Int) + 2147483648) % 4294967296 - 2147483648 := by rw [ez60]; exact i_add z59 2
            have lz60 := Int32.le_toInt z60
            have uz60 := Int32.toInt_lt z60
            try replace tz60 : z60.toInt = z59.toInt + (2 : Int) := by omega
            refine px_iald S hT hw 4 34 (n := 21000) (f := ((PG j9).ea 61)) rfl gp_61 (x := z60) (vp_in_iff.mpr (by constructor <;> omega)) d_Mo_goOn_113 ?_
            refine lv_topi (fun z61 ez61 => ?_)
            have lz61 := Int32.le_toInt z61
            have uz61 := Int32.toInt_lt z61
            have hz7 : z61 = (PG j9).ea 61 (3 * (QF_12 p0.toNatClampNeg 11).toInt + 2).toNat := at_k (qa := (PG j9).ea) (k := 61) ez61 (by omega) (by omega)
            refine lv_istore (lv' := [(7, .int z61), (6, .int z57), (5, .int z53), (0, .ref mo), (1, .int p0), (2, .ref (hq p0.toNatClampNeg)), (3, .int x12_3), (4, .int x12_4)]) S.x S.b d_Mo_goOn_114 hl (by decide) rfl (fun ls hl => ?_)
            refine lv_iload S.x S.b d_Mo_goOn_116 (lv_at hl 2 rfl) ?_
            refine lv_bipush (v := 16) S.x S.b d_Mo_goOn_118 (by decide) ?_
            refine lv_icmp_ne (tgt := 221) S.x S.b d_Mo_goOn_120 (by decide) (fun c62 => ?_) (fun c62 => ?_)
            · have nc62 : ¬ z53.toInt = (16 : Int) := mt (i_eq (x := z53) (y := 16)).mpr c62
              refine lv_aload_n S.x S.b d_Mo_goOn_221 rfl (lv_at hl 5 rfl) ?_
              have hno : ¬ ((PG j9).ea 61 (3 * (QF_12 p0.toNatClampNeg 11).toInt).toNat).toInt = 16 := (by rw [← hz5]; omega); have h70 : ¬ (QF_12 p0.toNatClampNeg 7).toInt = 1 := fun q8 => hno (h79.o q8).1
              refine lv_dup S.x S.b d_Mo_goOn_222 rfl ?_
              refine px_get S k_Mpr hT hw 2 0 11 (v := .int ((QF_12 p0.toNatClampNeg) 11)) rfl rfl rfl (by decide) m11_3 d_Mo_goOn_223 ?_
              refine lv_iconst (v := 1) S.x S.b d_Mo_goOn_226 (by decide) ?_
              refine lv_iadd S.x S.b d_Mo_goOn_227 ?_
              have lr64 := Int32.le_toInt ((QF_12 p0.toNatClampNeg) 11)
              have ur64 := Int32.toInt_lt ((QF_12 p0.toNatClampNeg) 11)
              refine lv_topi (fun z65 ez65 => ?_)
              have tz65 : z65.toInt = (((QF_12 p0.toNatClampNeg) 11).toInt + (1 : Int) + 2147483648) % 4294967296 - 2147483648 := by rw [ez65]; exact i_add ((QF_12 p0.toNatClampNeg) 11) 1
              have lz65 := Int32.le_toInt z65
              have uz65 := Int32.toInt_lt z65
              try replace tz65 : z65.toInt = ((QF_12 p0.toNatClampNeg) 11).toInt + (1 : Int) := by omega
              refine px_put S k_Mpr hT hw 2 0 11 rfl rfl (by decide) m11_3 rfl rfl rfl (Nat.le_of_ble_eq_true rfl) d_Mo_goOn_228 (w' := wd_Mpr cs (hq p0.toNatClampNeg) (qr p0.toNatClampNeg) (fun k => if k = 0 then (some (PG j9).h) else none) (upd (QF_12 p0.toNatClampNeg) 11 z65) (QA_12 p0.toNatClampNeg) (fun _ _ => none)) (ps' := [wd_Mo cs mo mr (fun _ => none) mf_12 md_12 (gMo PG hq), fo 13 (fPr cs hq qr QO_12 QF_12 QA_12) p0.toNatClampNeg, wd_Mpr cs (hq p0.toNatClampNeg) (qr p0.toNatClampNeg) (fun k => if k = 0 then (some (PG j9).h) else none) (upd (QF_12 p0.toNatClampNeg) 11 z65) (QA_12 p0.toNatClampNeg) (fun _ _ => none), fo 8 (fPg cs PG) j9, wdP cs (PG j9).h (PG j9).r (PG j9).g (PG j9).tf (PG j9).ta (PG j9).pf (PG j9).na (PG j9).ma (PG j9).wa (PG j9).cf (PG j9).ca (PG j9).ef (PG j9).ea (PG j9).xf (PG j9).xa]) rfl rfl (fun H locs hw => ?_)
              refine lv_aload_n S.x S.b d_Mo_goOn_231 rfl (lv_at hl 5 rfl) ?_
              refine lv_iload S.x S.b d_Mo_goOn_232 (lv_at hl 2 rfl) ?_
              refine lv_iload S.x S.b d_Mo_goOn_234 (lv_at hl 1 rfl) ?_
              refine lv_iload S.x S.b d_Mo_goOn_236 (lv_at hl 0 rfl) ?_
              have hpe : (z65.toInt - 1) = (QF_12 p0.toNatClampNeg 11).toInt := (by omega); have hmd : MdI X9 K9 (PG j9).ca (PG j9).na (PG j9).ma ((PG j9).ea 61) ((PG j9).ea 62) ((PG j9).ea 63) (QA_12 p0.toNatClampNeg) ((PG j9).cf 55).toInt ((PG j9).cf 38).toInt ((PG j9).ef 60).toInt st9 (QF_12 p0.toNatClampNeg 14).toInt (z65.toInt - 1) (QF_12 p0.toNatClampNeg 10).toInt (QF_12 p0.toNatClampNeg 12).toInt (QF_12 p0.toNatClampNeg 13).toInt (QF_12 p0.toNatClampNeg 5).toInt (QF_12 p0.toNatClampNeg 4).toInt f9 S9 v8 P9 nb9 := (by rw [hpe]; exact hru.en hen h59); have hp0 : (PG j9).ea 61 (3 * (z65.toInt - 1).toNat) = z53 := (by rw [hpe, hz5]; congr 1; omega); have hp1 : (PG j9).ea 61 (3 * (z65.toInt - 1).toNat + 1) = z57 := (by rw [hpe, hz6]; congr 1; omega); have hp2 : (PG j9).ea 61 (3 * (z65.toInt - 1).toNat + 2) = z61 := (by rw [hpe, hz7]; congr 1; omega)
              have hw : pw D A s.heap _ _ [wd_Mo cs mo mr (fun _ => none) mf_12 md_12 (gMo PG hq), fo 13 (fPr cs hq qr QO_12 QF_12 QA_12) p0.toNatClampNeg, fo 8 (fPg cs PG) j9, wd_Mpr cs (hq p0.toNatClampNeg) (qr p0.toNatClampNeg) (fun k => if k = 0 then (some (PG j9).h) else none) (upd (QF_12 p0.toNatClampNeg) 11 z65) (QA_12 p0.toNatClampNeg) (fun _ _ => none), wdP cs (PG j9).h (PG j9).r (PG j9).g (PG j9).tf (PG j9).ta (PG j9).pf (PG j9).na (PG j9).ma (PG j9).wa (PG j9).cf (PG j9).ca (PG j9).ef (PG j9).ea (PG j9).xf (PG j9).xa] := hw.sub [0, 1, 3, 2, 4] rfl rfl
              refine px_callv (pr := [wd_Mo cs mo mr (fun _ => none) mf_12 md_12 (gMo PG hq), fo 13 (fPr cs hq qr QO_12 QF_12 QA_12) p0.toNatClampNeg, fo 8 (fPg cs PG) j9]) (px_runV (As := [.int z53, .int z57, .int z61]) (rest := []) S (c_mr_step l D cs X9 K9 st9 f9 S9 v8 P9 nb9 (hq p0.toNatClampNeg) (qr p0.toNatClampNeg) (fun _ _ => none) (upd (QF_12 p0.toNatClampNeg) 11 z65) (QA_12 p0.toNatClampNeg) (PG j9).h (PG j9).r (PG j9).g (PG j9).tf (PG j9).ta (PG j9).pf (PG j9).na (PG j9).ma (PG j9).wa (PG j9).cf (PG j9).ca (PG j9).ef (PG j9).ea (PG j9).xf (PG j9).xa z53 z57 z61  (show ((QF_12 p0.toNatClampNeg) 2).toInt = -2 from by first | exact oz_d5c43516a3 hg1.2 | omega) (show z53.toInt ≠ 16 from by omega) hmd hft hfp hp0 hp1 hp2 _) hT (pr := [wd_Mo cs mo mr (fun _ => none) mf_12 md_12 (gMo PG hq), fo 13 (fPr cs hq qr QO_12 QF_12 QA_12) p0.toNatClampNeg, fo 8 (fPg cs PG) j9]) (pcs := [wd_Mpr cs (hq p0.toNatClampNeg) (qr p0.toNatClampNeg) (fun k => if k = 0 then (some (PG j9).h) else none) (upd (QF_12 p0.toNatClampNeg) 11 z65) (QA_12 p0.toNatClampNeg) (fun _ _ => none), wdP cs (PG j9).h (PG j9).r (PG j9).g (PG j9).tf (PG j9).ta (PG j9).pf (PG j9).na (PG j9).ma (PG j9).wa (PG j9).cf (PG j9).ca (PG j9).ef (PG j9).ea (PG j9).xf (PG j9).xa]) hw (oX_call (P := (fun A U H => (oP A (PG j9).g U H) ∧ (oLW A U H))) (pr := [wd_Mo cs mo mr (fun _ => none) mf_12 md_12 (gMo PG hq), fo 13 (fPr cs hq qr QO_12 QF_12 QA_12) p0.toNatClampNeg, fo 8 (fPg cs PG) j9]) (oG_and oG_P oG_LW) hw hA ⟨hP, hSh⟩) (px_recv hT hw 3 0 rfl rfl rfl) m14_115 m14_112 m14_113 m14_114 m1_22 q_Mpr_step ⟨Nat.le_of_ble_eq_true rfl, Nat.le_of_ble_eq_true rfl⟩ hl.1 rfl (Nat.le_of_ble_eq_true rfl) d_Mo_goOn_238 ⟨Nat.le_of_ble_eq_true rfl, Nat.le_of_ble_eq_true rfl⟩) hw hA (fun p70 H locs hp70 hw => ?_)
              obtain ⟨qf68, qa69, rfl, e72, e73, e74, e75, e76, e77, e78⟩ := hp70
              have e72 : (qf68 1).toInt = ((QF_12 p0.toNatClampNeg) 1).toInt := e72
              have e73 : (qf68 6).toInt = ((QF_12 p0.toNatClampNeg) 6).toInt := e73
              have e74 : (qf68 7).toInt = ((QF_12 p0.toNatClampNeg) 7).toInt := e74
              have e75 : (qf68 21).toInt = ((QF_12 p0.toNatClampNeg) 21).toInt := e75
              have e76 : (qf68 23).toInt = ((QF_12 p0.toNatClampNeg) 23).toInt := e76
              have e77 : (qf68 24).toInt = ((QF_12 p0.toNatClampNeg) 24).toInt := e77
              have e78 : RzO (qf68 2).toInt (RuZ X9 K9 (PG j9).ca qa69 ((PG j9).cf 55).toInt ((PG j9).cf 38).toInt st9 (qf68 14).toInt (qf68 11).toInt (qf68 10).toInt (qf68 12).toInt (qf68 13).toInt (qf68 5).toInt (qf68 4).toInt (rkN ((QF_12 p0.toNatClampNeg) 4).toInt ((QF_12 p0.toNatClampNeg) 14).toInt (v8 : Int) (z65.toInt - 1))) := e78
              have hrz := e78
              have hw : pw D A s.heap H locs [wd_Mo cs mo mr (fun _ => none) mf_12 md_12 (gMo PG hq), fo 13 (fPr cs hq qr QO_12 QF_12 QA_12) p0.toNatClampNeg, fo 8 (fPg cs PG) j9, wd_Mpr cs (hq p0.toNatClampNeg) (qr p0.toNatClampNeg) (fun k => if k = 0 then (some (PG j9).h) else none) qf68 qa69 (fun _ _ => none), wdP cs (PG j9).h (PG j9).r (PG j9).g (PG j9).tf (PG j9).ta (PG j9).pf (PG j9).na (PG j9).ma (PG j9).wa (PG j9).cf (PG j9).ca (PG j9).ef (PG j9).ea (PG j9).xf (PG j9).xa] := hw
              have hw : pw D A s.heap _ _ [wd_Mo cs mo mr (fun _ => none) mf_12 md_12 (gMo PG hq), fo 8 (fPg cs PG) j9, wdP cs (PG j9).h (PG j9).r (PG j9).g (PG j9).tf (PG j9).ta (PG j9).pf (PG j9).na (PG j9).ma (PG j9).wa (PG j9).cf (PG j9).ca (PG j9).ef (PG j9).ea (PG j9).xf (PG j9).xa, fo 13 (fPr cs hq qr QO_12 QF_12 QA_12) p0.toNatClampNeg, wd_Mpr cs (hq p0.toNatClampNeg) (qr p0.toNatClampNeg) (fun k => if k = 0 then (some (PG j9).h) else none) qf68 qa69 (fun _ _ => none)] := hw.sub [0, 2, 4, 1, 3] rfl rfl
              have hw := fpr_in (pr := [wd_Mo cs mo mr (fun _ => none) mf_12 md_12 (gMo PG hq), fo 8 (fPg cs PG) j9, wdP cs (PG j9).h (PG j9).r (PG j9).g (PG j9).tf (PG j9).ta (PG j9).pf (PG j9).na (PG j9).ma (PG j9).wa (PG j9).cf (PG j9).ca (PG j9).ef (PG j9).ea (PG j9).xf (PG j9).xa]) hw hi24
              obtain ⟨QO79, hu_QO79⟩ : ∃ y : Nat → Option Nat, y = va_up QO_12 p0.toNatClampNeg ((fun k => if k = 0 then (some (PG j9).h) else none) 0) := ⟨_, rfl⟩
              obtain ⟨QF80, hu_QF80⟩ : ∃ y : Nat → Nat → Int32, y = va_up QF_12 p0.toNatClampNeg qf68 := ⟨_, rfl⟩
              obtain ⟨QA81, hu_QA81⟩ : ∃ y : Nat → Nat → Nat → Int32, y = va_up QA_12 p0.toNatClampNeg qa69 := ⟨_, rfl⟩
              have hw : pw D A s.heap _ _ [wd_Mo cs mo mr (fun _ => none) mf_12 md_12 (gMo PG hq), fo 8 (fPg cs PG) j9, wdP cs (PG j9).h (PG j9).r (PG j9).g (PG j9).tf (PG j9).ta (PG j9).pf (PG j9).na (PG j9).ma (PG j9).wa (PG j9).cf (PG j9).ca (PG j9).ef (PG j9).ea (PG j9).xf (PG j9).xa, fm 13 (fPr cs hq qr QO79 QF80 QA81)] := (by rw [hu_QO79, hu_QF80, hu_QA81]; exact hw)
              have hpr : PrA PG (va_up RR p0.toNatClampNeg (R_12 - 1)) QO79 QF80 QA81 := (by rw [hu_QO79, hu_QF80, hu_QA81]; exact PrA.upR2 hpr hi24 (psr_tx (j := j9) hj9 (show _ = some _ from rfl) h61 (show (0 ≤ (qf68 1).toInt ∧ (qf68 1).toInt ≤ 1) ∧ (0 ≤ (qf68 21).toInt ∧ (qf68 21).toInt ≤ 4) ∧ (0 ≤ (qf68 23).toInt ∧ (qf68 23).toInt ≤ 4) ∧ (0 ≤ (qf68 24).toInt ∧ (qf68 24).toInt ≤ 1000000) ∧ (0 ≤ (qf68 6).toInt ∧ (qf68 6).toInt ≤ 3) ∧ (0 ≤ (qf68 7).toInt ∧ (qf68 7).toInt ≤ 1) from by omega) (show (qf68 1).toInt = 1 from by first | exact oz_e863b17997 e72 hg1.1 | omega) (by omega) (fun q8 => PsT.mk hen (hrz q8) h59 (by have q6 := hrk; rw [← hpe] at q6; omega) (fun m9 v9 c9 a9 b9 d9 e9 f9 => by have q7 : rkN (qf68 4).toInt m9 v9 c9 < rkN _ _ _ _ := f9; unfold rkN at q7; show (qf68 24).toInt + (qf68 4).toInt ≤ 100; omega) (show (qf68 7).toInt = 0 from by omega))) (show (qf68 1).toInt = (QF_12 p0.toNatClampNeg 1).toInt from by first | exact oz_1811ac7fe4 e72 | omega) (show (QF_12 p0.toNatClampNeg 6).toInt ≤ (qf68 6).toInt from by first | exact oz_f9b42d1b56 e73 | omega))
              have hqk1_QF80 : (QF80 p0.toNatClampNeg 1).toInt = (qf68 1).toInt := (by rw [hu_QF80, va_up_s]; try rfl)
              have hqk2_QF80 : (QF80 p0.toNatClampNeg 2).toInt = (qf68 2).toInt := (by rw [hu_QF80, va_up_s]; try rfl)
              have hqk4_QF80 : (QF80 p0.toNatClampNeg 4).toInt = (qf68 4).toInt := (by rw [hu_QF80, va_up_s]; try rfl)
              have hqk7_QF80 : (QF80 p0.toNatClampNeg 7).toInt = (qf68 7).toInt := (by rw [hu_QF80, va_up_s]; try rfl)
              have hqk10_QF80 : (QF80 p0.toNatClampNeg 10).toInt = (qf68 10).toInt := (by rw [hu_QF80, va_up_s]; try rfl)
              have hqk11_QF80 : (QF80 p0.toNatClampNeg 11).toInt = (qf68 11).toInt := (by rw [hu_QF80, va_up_s]; try rfl)
              have hqk24_QF80 : (QF80 p0.toNatClampNeg 24).toInt = (qf68 24).toInt := (by rw [hu_QF80, va_up_s]; try rfl)
              have hw : pw D A s.heap _ _ [wd_Mo cs mo mr (fun _ => none) mf_12 md_12 (gMo PG hq), fm 13 (fPr cs hq qr QO79 QF80 QA81), fo 8 (fPg cs PG) j9, wdP cs (PG j9).h (PG j9).r (PG j9).g (PG j9).tf (PG j9).ta (PG j9).pf (PG j9).na (PG j9).ma (PG j9).wa (PG j9).cf (PG j9).ca (PG j9).ef (PG j9).ea (PG j9).xf (PG j9).xa] := hw.sub [0, 3, 1, 2] rfl rfl
              have hw : pw D A s.heap _ _ [wd_Mo cs mo mr (fun _ => none) mf_12 md_12 (gMo PG hq), fm 13 (fPr cs hq qr QO79 QF80 QA81), fm 8 (fPg cs PG)] := fm_back (pr := [wd_Mo cs mo mr (fun _ => none) mf_12 md_12 (gMo PG hq), fm 13 (fPr cs hq qr QO79 QF80 QA81)]) (T := fPg cs PG) hw hj9
              exact J241 mf_12 md_12 QO79 QF80 QA81 (R_12 - 1) x12_3 x12_4 _ _ ls (show PrA PG (va_up RR p0.toNatClampNeg (R_12 - 1)) QO79 QF80 QA81 from hpr) (show (mf_12 0).toInt = (mf 0).toInt from by first | exact k12_1 | omega) (show (mf_12 2).toInt = (mf 2).toInt from by first | exact k12_2 | omega) (show (mf_12 3).toInt = (mf 3).toInt from by first | exact k12_3 | omega) (show (mf_12 7).toInt = (mf 7).toInt from by first | exact k12_4 | omega) (show (mf_12 8).toInt = (mf 8).toInt from by first | exact k12_5 | omega) (show (mf_12 10).toInt = (mf 10).toInt from by first | exact k12_6 | omega) (show Md1 md md_12 from hmdq) (show x12_3.toInt = x12_3.toInt from rfl) (show 0 ≤ x12_4.toInt from by first | exact k12_10 | omega) (show x12_4.toInt ≤ 1 from by first | exact k12_11 | omega) (show (R_12 - 1) + x12_4.toInt ≤ R_12 from by first | exact oz_3985e2c510 k12_11 | omega) (show (R_12 - 1) ≤ R_12 from by first | exact oz_f81ab12e42 | omega) (show 1 ≤ x12_4.toInt from by first | exact oz_70c2bdf1b6 k12_10 nc5 | omega) hw (lv_sub hl [3, 4, 5, 6, 7] rfl)
            · have nc62 : z53.toInt = (16 : Int) := (i_eq (x := z53) (y := 16)).mp c62
              refine lv_aload_n S.x S.b d_Mo_goOn_123 rfl (lv_at hl 5 rfl) ?_
              have ho16 : ((PG j9).ea 61 (3 * (QF_12 p0.toNatClampNeg 11).toInt).toNat).toInt = 16 := (by rw [← hz5]; omega); have hoa : ((PG j9).ea 61 (3 * (QF_12 p0.toNatClampNeg 11).toInt + 1).toNat).toInt = z57.toInt := (by rw [← hz6])
              refine lv_aload_n S.x S.b d_Mo_goOn_124 rfl (lv_at hl 5 rfl) ?_
              refine px_get S k_Mpr hT hw 2 0 7 (v := .int ((QF_12 p0.toNatClampNeg) 7)) rfl rfl rfl (by decide) m10_235 d_Mo_goOn_125 ?_
              refine lv_if_ne (tgt := 143) S.x S.b d_Mo_goOn_128 (by decide) (fun c82 => ?_) (fun c82 => ?_)
              · have nc82 : ¬ ((QF_12 p0.toNatClampNeg) 7).toInt = (0 : Int) := mt (i_eq (x := ((QF_12 p0.toNatClampNeg) 7)) (y := 0)).mpr c82
                refine lv_iconst (v := 1) S.x S.b d_Mo_goOn_143 (by decide) ?_
                refine lv_goto (tgt := 148) S.x S.b d_Mo_goOn_144 (by decide) ?_
                refine px_put S k_Mpr hT hw 2 0 7 rfl rfl (by decide) m10_235 rfl rfl rfl (Nat.le_of_ble_eq_true rfl) d_Mo_goOn_148 (w' := wd_Mpr cs (hq p0.toNatClampNeg) (qr p0.toNatClampNeg) (fun k => if k = 0 then (some (PG j9).h) else none) (upd (QF_12 p0.toNatClampNeg) 7 1) (QA_12 p0.toNatClampNeg) (fun _ _ => none)) (ps' := [wd_Mo cs mo mr (fun _ => none) mf_12 md_12 (gMo PG hq), fo 13 (fPr cs hq qr QO_12 QF_12 QA_12) p0.toNatClampNeg, wd_Mpr cs (hq p0.toNatClampNeg) (qr p0.toNatClampNeg) (fun k => if k = 0 then (some (PG j9).h) else none) (upd (QF_12 p0.toNatClampNeg) 7 1) (QA_12 p0.toNatClampNeg) (fun _ _ => none), fo 8 (fPg cs PG) j9, wdP cs (PG j9).h (PG j9).r (PG j9).g (PG j9).tf (PG j9).ta (PG j9).pf (PG j9).na (PG j9).ma (PG j9).wa (PG j9).cf (PG j9).ca (PG j9).ef (PG j9).ea (PG j9).xf (PG j9).xa]) rfl rfl (fun H locs hw => ?_)
                refine lv_aload_n S.x S.b d_Mo_goOn_151 rfl (lv_at hl 5 rfl) ?_
                have hw : pw D A s.heap _ _ [wd_Mo cs mo mr (fun _ => none) mf_12 md_12 (gMo PG hq), fo 13 (fPr cs hq qr QO_12 QF_12 QA_12) p0.toNatClampNeg, fo 8 (fPg cs PG) j9, wdP cs (PG j9).h (PG j9).r (PG j9).g (PG j9).tf (PG j9).ta (PG j9).pf (PG j9).na (PG j9).ma (PG j9).wa (PG j9).cf (PG j9).ca (PG j9).ef (PG j9).ea (PG j9).xf (PG j9).xa, wd_Mpr cs (hq p0.toNatClampNeg) (qr p0.toNatClampNeg) (fun k => if k = 0 then (some (PG j9).h) else none) (upd (QF_12 p0.toNatClampNeg) 7 1) (QA_12 p0.toNatClampNeg) (fun _ _ => none)] := hw.sub [0, 1, 3, 4, 2] rfl rfl
                refine px_calli (pr := [wd_Mo cs mo mr (fun _ => none) mf_12 md_12 (gMo PG hq), fo 13 (fPr cs hq qr QO_12 QF_12 QA_12) p0.toNatClampNeg, fo 8 (fPg cs PG) j9, wdP cs (PG j9).h (PG j9).r (PG j9).g (PG j9).tf (PG j9).ta (PG j9).pf (PG j9).na (PG j9).ma (PG j9).wa (PG j9).cf (PG j9).ca (PG j9).ef (PG j9).ea (PG j9).xf (PG j9).xa]) (px_runV (As := []) (rest := []) S (c_mqq_isGoing l D cs (hq p0.toNatClampNeg) (qr p0.toNatClampNeg) (fun _ _ => none) (fun k => if k = 0 then (some (PG j9).h) else none) (upd (QF_12 p0.toNatClampNeg) 7 1) (QA_12 p0.toNatClampNeg)    _) hT (pr := [wd_Mo cs mo mr (fun _ => none) mf_12 md_12 (gMo PG hq), fo 13 (fPr cs hq qr QO_12 QF_12 QA_12) p0.toNatClampNeg, fo 8 (fPg cs PG) j9, wdP cs (PG j9).h (PG j9).r (PG j9).g (PG j9).tf (PG j9).ta (PG j9).pf (PG j9).na (PG j9).ma (PG j9).wa (PG j9).cf (PG j9).ca (PG j9).ef (PG j9).ea (PG j9).xf (PG j9).xa]) (pcs := [wd_Mpr cs (hq p0.toNatClampNeg) (qr p0.toNatClampNeg) (fun k => if k = 0 then (some (PG j9).h) else none) (upd (QF_12 p0.toNatClampNeg) 7 1) (QA_12 p0.toNatClampNeg) (fun _ _ => none)]) hw px_X.tt (px_recv hT hw 4 0 rfl rfl rfl) m13_165 m13_162 m13_163 m13_164 m1_22 q_Mpr_isGoing ⟨Nat.le_of_ble_eq_true rfl, Nat.le_of_ble_eq_true rfl⟩ hl.1 rfl (Nat.le_of_ble_eq_true rfl) d_Mo_goOn_152 ⟨Nat.le_of_ble_eq_true rfl, Nat.le_of_ble_eq_true rfl⟩) hw hA (fun v85 p84 H locs hp84 hw => ?_)
                obtain ⟨rfl, e86, e87, e88⟩ := hp84
                have e86 : 0 ≤ v85.toInt := e86
                have e87 : v85.toInt ≤ 1 := e87
                have e88 : IgV v85.toInt ((QF_12 p0.toNatClampNeg) 1).toInt ((QF_12 p0.toNatClampNeg) 2).toInt := e88
                have hig := e88
                have hw : pw D A s.heap H locs [wd_Mo cs mo mr (fun _ => none) mf_12 md_12 (gMo PG hq), fo 13 (fPr cs hq qr QO_12 QF_12 QA_12) p0.toNatClampNeg, fo 8 (fPg cs PG) j9, wdP cs (PG j9).h (PG j9).r (PG j9).g (PG j9).tf (PG j9).ta (PG j9).pf (PG j9).na (PG j9).ma (PG j9).wa (PG j9).cf (PG j9).ca (PG j9).ef (PG j9).ea (PG j9).xf (PG j9).xa, wd_Mpr cs (hq p0.toNatClampNeg) (qr p0.toNatClampNeg) (fun k => if k = 0 then (some (PG j9).h) else none) (upd (QF_12 p0.toNatClampNeg) 7 1) (QA_12 p0.toNatClampNeg) (fun _ _ => none)] := hw
                have lv85 := Int32.le_toInt v85
                have uv85 := Int32.toInt_lt v85
                refine lv_if_eq (tgt := 168) S.x S.b d_Mo_goOn_155 (by decide) (fun c89 => ?_) (fun c89 => ?_)
                · have nc89 : v85.toInt = (0 : Int) := (i_eq (x := v85) (y := 0)).mp c89
                  refine lv_iconst (v := 1) S.x S.b d_Mo_goOn_168 (by decide) ?_
                  have hg3 := hig.elim (fun q8 => absurd q8.1 (by omega)) (fun q8 => q8.2)
                  refine lv_goto (tgt := 173) S.x S.b d_Mo_goOn_169 (by decide) ?_
                  refine lv_istore (lv' := [(4, .int 1), (7, .int z61), (6, .int z57), (5, .int z53), (0, .ref mo), (1, .int p0), (2, .ref (hq p0.toNatClampNeg)), (3, .int x12_3)]) S.x S.b d_Mo_goOn_173 hl (by decide) rfl (fun ls hl => ?_)
                  refine lv_aload_n S.x S.b d_Mo_goOn_175 rfl (lv_at hl 6 rfl) ?_
                  refine lv_iload S.x S.b d_Mo_goOn_176 (lv_at hl 0 rfl) ?_
                  refine lv_if_eq (tgt := 190) S.x S.b d_Mo_goOn_178 (by decide) (fun c91 => ?_) (fun c91 => ?_)
                  · exact absurd c91 (by decide)
                  ·
                    refine lv_aload_n S.x S.b d_Mo_goOn_181 rfl (lv_at hl 6 rfl) ?_
                    refine px_get S k_Mpr hT hw 4 0 11 (v := .int ((QF_12 p0.toNatClampNeg) 11)) rfl rfl rfl (by decide) m11_3 d_Mo_goOn_182 ?_
                    refine lv_iconst (v := 1) S.x S.b d_Mo_goOn_185 (by decide) ?_
                    refine lv_iadd S.x S.b d_Mo_goOn_186 ?_
                    have lr92 := Int32.le_toInt ((QF_12 p0.toNatClampNeg) 11)
                    have ur92 := Int32.toInt_lt ((QF_12 p0.toNatClampNeg) 11)
                    refine lv_topi (fun z93 ez93 => ?_)
                    have tz93 : z93.toInt = (((QF_12 p0.toNatClampNeg) 11).toInt + (1 : Int) + 2147483648) % 4294967296 - 2147483648 := by rw [ez93]; exact i_add ((QF_12 p0.toNatClampNeg) 11) 1
                    have lz93 := Int32.le_toInt z93
                    have uz93 := Int32.toInt_lt z93
                    try replace tz93 : z93.toInt = ((QF_12 p0.toNatClampNeg) 11).toInt + (1 : Int) := by omega
                    refine lv_goto (tgt := 194) S.x S.b d_Mo_goOn_187 (by decide) ?_
                    refine px_put S k_Mpr hT hw 4 0 11 rfl rfl (by decide) m11_3 rfl rfl rfl (Nat.le_of_ble_eq_true rfl) d_Mo_goOn_194 (w' := wd_Mpr cs (hq p0.toNatClampNeg) (qr p0.toNatClampNeg) (fun k => if k = 0 then (some (PG j9).h) else none) (upd (upd (QF_12 p0.toNatClampNeg) 7 1) 11 z93) (QA_12 p0.toNatClampNeg) (fun _ _ => none)) (ps' := [wd_Mo cs mo mr (fun _ => none) mf_12 md_12 (gMo PG hq), fo 13 (fPr cs hq qr QO_12 QF_12 QA_12) p0.toNatClampNeg, fo 8 (fPg cs PG) j9, wdP cs (PG j9).h (PG j9).r (PG j9).g (PG j9).tf (PG j9).ta (PG j9).pf (PG j9).na (PG j9).ma (PG j9).wa (PG j9).cf (PG j9).ca (PG j9).ef (PG j9).ea (PG j9).xf (PG j9).xa, wd_Mpr cs (hq p0.toNatClampNeg) (qr p0.toNatClampNeg) (fun k => if k = 0 then (some (PG j9).h) else none) (upd (upd (QF_12 p0.toNatClampNeg) 7 1) 11 z93) (QA_12 p0.toNatClampNeg) (fun _ _ => none)]) rfl rfl (fun H locs hw => ?_)
                    refine lv_aload_n S.x S.b d_Mo_goOn_197 rfl (lv_at hl 6 rfl) ?_
                    refine lv_aload_n S.x S.b d_Mo_goOn_198 rfl (lv_at hl 6 rfl) ?_
                    refine px_get S k_Mpr hT hw 4 0 7 (v := .int 1) rfl rfl rfl (by decide) m10_235 d_Mo_goOn_199 ?_
                    refine lv_if_eq (tgt := 214) S.x S.b d_Mo_goOn_202 (by decide) (fun c94 => ?_) (fun c94 => ?_)
                    · exact absurd c94 (by decide)
                    ·
                      refine lv_iload S.x S.b d_Mo_goOn_205 (lv_at hl 0 rfl) ?_
                      refine lv_if_ne (tgt := 214) S.x S.b d_Mo_goOn_207 (by decide) (fun c95 => ?_) (fun c95 => ?_)
                      ·
                        refine lv_iconst (v := 0) S.x S.b d_Mo_goOn_214 (by decide) ?_
                        refine px_put S k_Mpr hT hw 4 0 7 rfl rfl (by decide) m10_235 rfl rfl rfl (Nat.le_of_ble_eq_true rfl) d_Mo_goOn_215 (w' := wd_Mpr cs (hq p0.toNatClampNeg) (qr p0.toNatClampNeg) (fun k => if k = 0 then (some (PG j9).h) else none) (upd (upd (QF_12 p0.toNatClampNeg) 7 0) 11 z93) (QA_12 p0.toNatClampNeg) (fun _ _ => none)) (ps' := [wd_Mo cs mo mr (fun _ => none) mf_12 md_12 (gMo PG hq), fo 13 (fPr cs hq qr QO_12 QF_12 QA_12) p0.toNatClampNeg, fo 8 (fPg cs PG) j9, wdP cs (PG j9).h (PG j9).r (PG j9).g (PG j9).tf (PG j9).ta (PG j9).pf (PG j9).na (PG j9).ma (PG j9).wa (PG j9).cf (PG j9).ca (PG j9).ef (PG j9).ea (PG j9).xf (PG j9).xa, wd_Mpr cs (hq p0.toNatClampNeg) (qr p0.toNatClampNeg) (fun k => if k = 0 then (some (PG j9).h) else none) (upd (upd (QF_12 p0.toNatClampNeg) 7 0) 11 z93) (QA_12 p0.toNatClampNeg) (fun _ _ => none)]) rfl rfl (fun H locs hw => ?_)
                        refine lv_goto (tgt := 241) S.x S.b d_Mo_goOn_218 (by decide) ?_
                        have hw : pw D A s.heap _ _ [wd_Mo cs mo mr (fun _ => none) mf_12 md_12 (gMo PG hq), fo 8 (fPg cs PG) j9, wdP cs (PG j9).h (PG j9).r (PG j9).g (PG j9).tf (PG j9).ta (PG j9).pf (PG j9).na (PG j9).ma (PG j9).wa (PG j9).cf (PG j9).ca (PG j9).ef (PG j9).ea (PG j9).xf (PG j9).xa, fo 13 (fPr cs hq qr QO_12 QF_12 QA_12) p0.toNatClampNeg, wd_Mpr cs (hq p0.toNatClampNeg) (qr p0.toNatClampNeg) (fun k => if k = 0 then (some (PG j9).h) else none) (upd (upd (QF_12 p0.toNatClampNeg) 7 0) 11 z93) (QA_12 p0.toNatClampNeg) (fun _ _ => none)] := hw.sub [0, 2, 3, 1, 4] rfl rfl
                        have hw := fpr_in (pr := [wd_Mo cs mo mr (fun _ => none) mf_12 md_12 (gMo PG hq), fo 8 (fPg cs PG) j9, wdP cs (PG j9).h (PG j9).r (PG j9).g (PG j9).tf (PG j9).ta (PG j9).pf (PG j9).na (PG j9).ma (PG j9).wa (PG j9).cf (PG j9).ca (PG j9).ef (PG j9).ea (PG j9).xf (PG j9).xa]) hw hi24
                        obtain ⟨QO96, hu_QO96⟩ : ∃ y : Nat → Option Nat, y = va_up QO_12 p0.toNatClampNeg ((fun k => if k = 0 then (some (PG j9).h) else none) 0) := ⟨_, rfl⟩
                        obtain ⟨QF97, hu_QF97⟩ : ∃ y : Nat → Nat → Int32, y = va_up QF_12 p0.toNatClampNeg (upd (upd (QF_12 p0.toNatClampNeg) 7 0) 11 z93) := ⟨_, rfl⟩
                        obtain ⟨QA98, hu_QA98⟩ : ∃ y : Nat → Nat → Nat → Int32, y = va_up QA_12 p0.toNatClampNeg (QA_12 p0.toNatClampNeg) := ⟨_, rfl⟩
                        have hw : pw D A s.heap _ _ [wd_Mo cs mo mr (fun _ => none) mf_12 md_12 (gMo PG hq), fo 8 (fPg cs PG) j9, wdP cs (PG j9).h (PG j9).r (PG j9).g (PG j9).tf (PG j9).ta (PG j9).pf (PG j9).na (PG j9).ma (PG j9).wa (PG j9).cf (PG j9).ca (PG j9).ef (PG j9).ea (PG j9).xf (PG j9).xa, fm 13 (fPr cs hq qr QO96 QF97 QA98)] := (by rw [hu_QO96, hu_QF97, hu_QA98]; exact hw)
                        have hpr : PrA PG (va_up RR p0.toNatClampNeg (R_12 - 1)) QO96 QF97 QA98 := (by rw [hu_QO96, hu_QF97, hu_QA98]; exact PrA.upR2 hpr hi24 (psr_en (show (0 ≤ ((QF_12 p0.toNatClampNeg) 1).toInt ∧ ((QF_12 p0.toNatClampNeg) 1).toInt ≤ 1) ∧ (0 ≤ ((QF_12 p0.toNatClampNeg) 21).toInt ∧ ((QF_12 p0.toNatClampNeg) 21).toInt ≤ 4) ∧ (0 ≤ ((QF_12 p0.toNatClampNeg) 23).toInt ∧ ((QF_12 p0.toNatClampNeg) 23).toInt ≤ 4) ∧ (0 ≤ ((QF_12 p0.toNatClampNeg) 24).toInt ∧ ((QF_12 p0.toNatClampNeg) 24).toInt ≤ 1000000) ∧ (0 ≤ ((QF_12 p0.toNatClampNeg) 6).toInt ∧ ((QF_12 p0.toNatClampNeg) 6).toInt ≤ 3) ∧ (0 ≤ (0 : Int) ∧ (0 : Int) ≤ 1) from by omega) (show ((QF_12 p0.toNatClampNeg) 1).toInt = 1 from by first | exact oz_e213b53fb9 hg1.1 | omega) (by omega) (show ((QF_12 p0.toNatClampNeg) 2).toInt ≠ -2 from by omega)) (show ((QF_12 p0.toNatClampNeg) 1).toInt = (QF_12 p0.toNatClampNeg 1).toInt from by first | exact oz_507c05ca68 | omega) (show (QF_12 p0.toNatClampNeg 6).toInt ≤ ((QF_12 p0.toNatClampNeg) 6).toInt from by first | exact oz_1cb5f934a5 | omega))
                        have hqk1_QF97 : (QF97 p0.toNatClampNeg 1).toInt = ((QF_12 p0.toNatClampNeg) 1).toInt := (by rw [hu_QF97, va_up_s]; try rfl)
                        have hqk2_QF97 : (QF97 p0.toNatClampNeg 2).toInt = ((QF_12 p0.toNatClampNeg) 2).toInt := (by rw [hu_QF97, va_up_s]; try rfl)
                        have hqk4_QF97 : (QF97 p0.toNatClampNeg 4).toInt = ((QF_12 p0.toNatClampNeg) 4).toInt := (by rw [hu_QF97, va_up_s]; try rfl)
                        have hqk7_QF97 : (QF97 p0.toNatClampNeg 7).toInt = (0 : Int) := (by rw [hu_QF97, va_up_s]; try rfl)
                        have hqk10_QF97 : (QF97 p0.toNatClampNeg 10).toInt = ((QF_12 p0.toNatClampNeg) 10).toInt := (by rw [hu_QF97, va_up_s]; try rfl)
                        have hqk11_QF97 : (QF97 p0.toNatClampNeg 11).toInt = z93.toInt := (by rw [hu_QF97, va_up_s]; try rfl)
                        have hqk24_QF97 : (QF97 p0.toNatClampNeg 24).toInt = ((QF_12 p0.toNatClampNeg) 24).toInt := (by rw [hu_QF97, va_up_s]; try rfl)
                        have hw : pw D A s.heap _ _ [wd_Mo cs mo mr (fun _ => none) mf_12 md_12 (gMo PG hq), fm 13 (fPr cs hq qr QO96 QF97 QA98), fo 8 (fPg cs PG) j9, wdP cs (PG j9).h (PG j9).r (PG j9).g (PG j9).tf (PG j9).ta (PG j9).pf (PG j9).na (PG j9).ma (PG j9).wa (PG j9).cf (PG j9).ca (PG j9).ef (PG j9).ea (PG j9).xf (PG j9).xa] := hw.sub [0, 3, 1, 2] rfl rfl
                        have hw : pw D A s.heap _ _ [wd_Mo cs mo mr (fun _ => none) mf_12 md_12 (gMo PG hq), fm 13 (fPr cs hq qr QO96 QF97 QA98), fm 8 (fPg cs PG)] := fm_back (pr := [wd_Mo cs mo mr (fun _ => none) mf_12 md_12 (gMo PG hq), fm 13 (fPr cs hq qr QO96 QF97 QA98)]) (T := fPg cs PG) hw hj9
                        exact J241 mf_12 md_12 QO96 QF97 QA98 (R_12 - 1) x12_3 (1 : Int32) _ _ ls (show PrA PG (va_up RR p0.toNatClampNeg (R_12 - 1)) QO96 QF97 QA98 from hpr) (show (mf_12 0).toInt = (mf 0).toInt from by first | exact k12_1 | omega) (show (mf_12 2).toInt = (mf 2).toInt from by first | exact k12_2 | omega) (show (mf_12 3).toInt = (mf 3).toInt from by first | exact k12_3 | omega) (show (mf_12 7).toInt = (mf 7).toInt from by first | exact k12_4 | omega) (show (mf_12 8).toInt = (mf 8).toInt from by first | exact k12_5 | omega) (show (mf_12 10).toInt = (mf 10).toInt from by first | exact k12_6 | omega) (show Md1 md md_12 from hmdq) (show x12_3.toInt = x12_3.toInt from rfl) (show 0 ≤ (1 : Int) from by first | exact oz_19c3a41681 | omega) (show (1 : Int) ≤ 1 from by first | exact oz_f9181dc4bb | omega) (show (R_12 - 1) + (1 : Int) ≤ R_12 from by first | exact oz_9af69b5cb8 | omega) (show (R_12 - 1) ≤ R_12 from by first | exact oz_f81ab12e42 | omega) (show 1 ≤ x12_4.toInt from by first | exact oz_70c2bdf1b6 k12_10 nc5 | omega) hw (lv_sub hl [4, 5, 6, 7, 0] rfl)
                      · exact absurd c95 (by decide)
                · have nc89 : ¬ v85.toInt = (0 : Int) := mt (i_eq (x := v85) (y := 0)).mpr c89
                  refine lv_aload_n S.x S.b d_Mo_goOn_158 rfl (lv_at hl 3 rfl) ?_
                  have hg2 := hig.elim id (fun q8 => absurd q8.1 (by omega))
                  refine lv_iload_n S.x S.b d_Mo_goOn_159 rfl (lv_at hl 4 rfl) ?_
                  refine lv_iload S.x S.b d_Mo_goOn_160 (lv_at hl 1 rfl) ?_
                  have hw : pw D A s.heap _ _ [wd_Mo cs mo mr (fun _ => none) mf_12 md_12 (gMo PG hq), fo 8 (fPg cs PG) j9, wdP cs (PG j9).h (PG j9).r (PG j9).g (PG j9).tf (PG j9).ta (PG j9).pf (PG j9).na (PG j9).ma (PG j9).wa (PG j9).cf (PG j9).ca (PG j9).ef (PG j9).ea (PG j9).xf (PG j9).xa, fo 13 (fPr cs hq qr QO_12 QF_12 QA_12) p0.toNatClampNeg, wd_Mpr cs (hq p0.toNatClampNeg) (qr p0.toNatClampNeg) (fun k => if k = 0 then (some (PG j9).h) else none) (upd (QF_12 p0.toNatClampNeg) 7 1) (QA_12 p0.toNatClampNeg) (fun _ _ => none)] := hw.sub [0, 2, 3, 1, 4] rfl rfl
                  have hw := fpr_in (pr := [wd_Mo cs mo mr (fun _ => none) mf_12 md_12 (gMo PG hq), fo 8 (fPg cs PG) j9, wdP cs (PG j9).h (PG j9).r (PG j9).g (PG j9).tf (PG j9).ta (PG j9).pf (PG j9).na (PG j9).ma (PG j9).wa (PG j9).cf (PG j9).ca (PG j9).ef (PG j9).ea (PG j9).xf (PG j9).xa]) hw hi24
                  obtain ⟨QO99, hu_QO99⟩ : ∃ y : Nat → Option Nat, y = va_up QO_12 p0.toNatClampNeg ((fun k => if k = 0 then (some (PG j9).h) else none) 0) := ⟨_, rfl⟩
                  obtain ⟨QF100, hu_QF100⟩ : ∃ y : Nat → Nat → Int32, y = va_up QF_12 p0.toNatClampNeg (upd (QF_12 p0.toNatClampNeg) 7 1) := ⟨_, rfl⟩
                  obtain ⟨QA101, hu_QA101⟩ : ∃ y : Nat → Nat → Nat → Int32, y = va_up QA_12 p0.toNatClampNeg (QA_12 p0.toNatClampNeg) := ⟨_, rfl⟩
                  have hw : pw D A s.heap _ _ [wd_Mo cs mo mr (fun _ => none) mf_12 md_12 (gMo PG hq), fo 8 (fPg cs PG) j9, wdP cs (PG j9).h (PG j9).r (PG j9).g (PG j9).tf (PG j9).ta (PG j9).pf (PG j9).na (PG j9).ma (PG j9).wa (PG j9).cf (PG j9).ca (PG j9).ef (PG j9).ea (PG j9).xf (PG j9).xa, fm 13 (fPr cs hq qr QO99 QF100 QA101)] := (by rw [hu_QO99, hu_QF100, hu_QA101]; exact hw)
                  have hpay : PsT (PG j9) R_12 (upd (QF_12 p0.toNatClampNeg) 7 1) (QA_12 p0.toNatClampNeg) := (PsT.pay hpt (show ((QF_12 p0.toNatClampNeg) 5).toInt = (QF_12 p0.toNatClampNeg 5).toInt ∧ ((QF_12 p0.toNatClampNeg) 10).toInt = (QF_12 p0.toNatClampNeg 10).toInt ∧ ((QF_12 p0.toNatClampNeg) 11).toInt = (QF_12 p0.toNatClampNeg 11).toInt ∧ ((QF_12 p0.toNatClampNeg) 12).toInt = (QF_12 p0.toNatClampNeg 12).toInt ∧ ((QF_12 p0.toNatClampNeg) 13).toInt = (QF_12 p0.toNatClampNeg 13).toInt ∧ ((QF_12 p0.toNatClampNeg) 14).toInt = (QF_12 p0.toNatClampNeg 14).toInt ∧ ((QF_12 p0.toNatClampNeg) 24).toInt = (QF_12 p0.toNatClampNeg 24).toInt from by first | exact oz_4b2a01afc9 | omega) (show 0 ≤ ((QF_12 p0.toNatClampNeg) 4).toInt ∧ ((QF_12 p0.toNatClampNeg) 4).toInt ≤ (QF_12 p0.toNatClampNeg 4).toInt from by omega) ho16 (fun q8 => (show ((QF_12 p0.toNatClampNeg) 24).toInt + ((QF_12 p0.toNatClampNeg) 4).toInt ≤ 99 from by rw [hoa] at q8; have q7 := (h79.o (by omega)).2 (by rw [hoa]; exact q8); omega)))
                  have hpr : PrA PG (va_up RR p0.toNatClampNeg R_12) QO99 QF100 QA101 := (by rw [hu_QO99, hu_QF100, hu_QA101]; exact PrA.upR2 hpr hi24 (psr_tx (j := j9) hj9 (show _ = some _ from rfl) h61 (show (0 ≤ ((QF_12 p0.toNatClampNeg) 1).toInt ∧ ((QF_12 p0.toNatClampNeg) 1).toInt ≤ 1) ∧ (0 ≤ ((QF_12 p0.toNatClampNeg) 21).toInt ∧ ((QF_12 p0.toNatClampNeg) 21).toInt ≤ 4) ∧ (0 ≤ ((QF_12 p0.toNatClampNeg) 23).toInt ∧ ((QF_12 p0.toNatClampNeg) 23).toInt ≤ 4) ∧ (0 ≤ ((QF_12 p0.toNatClampNeg) 24).toInt ∧ ((QF_12 p0.toNatClampNeg) 24).toInt ≤ 1000000) ∧ (0 ≤ ((QF_12 p0.toNatClampNeg) 6).toInt ∧ ((QF_12 p0.toNatClampNeg) 6).toInt ≤ 3) ∧ (0 ≤ (1 : Int) ∧ (1 : Int) ≤ 1) from by omega) (show ((QF_12 p0.toNatClampNeg) 1).toInt = 1 from by first | exact oz_e213b53fb9 hg1.1 | omega) (by omega) (fun _ => hpay)) (show ((QF_12 p0.toNatClampNeg) 1).toInt = (QF_12 p0.toNatClampNeg 1).toInt from by first | exact oz_507c05ca68 | omega) (show (QF_12 p0.toNatClampNeg 6).toInt ≤ ((QF_12 p0.toNatClampNeg) 6).toInt from by first | exact oz_1cb5f934a5 | omega))
                  have hqk1_QF100 : (QF100 p0.toNatClampNeg 1).toInt = ((QF_12 p0.toNatClampNeg) 1).toInt := (by rw [hu_QF100, va_up_s]; try rfl)
                  have hqk2_QF100 : (QF100 p0.toNatClampNeg 2).toInt = ((QF_12 p0.toNatClampNeg) 2).toInt := (by rw [hu_QF100, va_up_s]; try rfl)
                  have hqk4_QF100 : (QF100 p0.toNatClampNeg 4).toInt = ((QF_12 p0.toNatClampNeg) 4).toInt := (by rw [hu_QF100, va_up_s]; try rfl)
                  have hqk7_QF100 : (QF100 p0.toNatClampNeg 7).toInt = (1 : Int) := (by rw [hu_QF100, va_up_s]; try rfl)
                  have hqk10_QF100 : (QF100 p0.toNatClampNeg 10).toInt = ((QF_12 p0.toNatClampNeg) 10).toInt := (by rw [hu_QF100, va_up_s]; try rfl)
                  have hqk11_QF100 : (QF100 p0.toNatClampNeg 11).toInt = ((QF_12 p0.toNatClampNeg) 11).toInt := (by rw [hu_QF100, va_up_s]; try rfl)
                  have hqk24_QF100 : (QF100 p0.toNatClampNeg 24).toInt = ((QF_12 p0.toNatClampNeg) 24).toInt := (by rw [hu_QF100, va_up_s]; try rfl)
                  have hqo : OqE (QO99 p0.toNatClampNeg) (PG j9).h := (by rw [hu_QO99, va_up_s]; exact rfl)
                  have hpo8 : (0 ≤ z57.toInt ∧ z57.toInt < 10) ∧ PoT (PG j9) ((va_up RR p0.toNatClampNeg R_12) p0.toNatClampNeg) z57.toInt (QF100 p0.toNatClampNeg) (QA101 p0.toNatClampNeg) := (by rw [va_up_s, hu_QF100, hu_QA101, va_up_s, va_up_s]; exact hpay.owc (by show ((PG j9).ea 61 (3 * ((QF_12 p0.toNatClampNeg) 11).toInt).toNat).toInt = 16; rw [show ((QF_12 p0.toNatClampNeg) 11).toInt = (QF_12 p0.toNatClampNeg 11).toInt by omega]; exact ho16) (by show ((PG j9).ea 61 (3 * ((QF_12 p0.toNatClampNeg) 11).toInt + 1).toNat).toInt = _; rw [show ((QF_12 p0.toNatClampNeg) 11).toInt = (QF_12 p0.toNatClampNeg 11).toInt by omega]; exact hoa) (fun q8 => (show ((QF_12 p0.toNatClampNeg) 24).toInt + ((QF_12 p0.toNatClampNeg) 4).toInt ≤ 99 from by have q7 := (h79.o (by omega)).2 (by rw [hoa]; exact q8); omega)))
                  have hpo81 := hpo8.1
                  have hw : pw D A s.heap _ _ [wd_Mo cs mo mr (fun _ => none) mf_12 md_12 (gMo PG hq), fm 13 (fPr cs hq qr QO99 QF100 QA101), fo 8 (fPg cs PG) j9, wdP cs (PG j9).h (PG j9).r (PG j9).g (PG j9).tf (PG j9).ta (PG j9).pf (PG j9).na (PG j9).ma (PG j9).wa (PG j9).cf (PG j9).ca (PG j9).ef (PG j9).ea (PG j9).xf (PG j9).xa] := hw.sub [0, 3, 1, 2] rfl rfl
                  have hw : pw D A s.heap _ _ [wd_Mo cs mo mr (fun _ => none) mf_12 md_12 (gMo PG hq), fm 13 (fPr cs hq qr QO99 QF100 QA101), fm 8 (fPg cs PG)] := fm_back (pr := [wd_Mo cs mo mr (fun _ => none) mf_12 md_12 (gMo PG hq), fm 13 (fPr cs hq qr QO99 QF100 QA101)]) (T := fPg cs PG) hw hj9
                  refine px_calli (pr := []) (px_runV (As := [.int p0, .int z57]) (rest := []) S (c_mo_ownCall l D cs (va_up RR p0.toNatClampNeg R_12) j9 mo mr mf_12 md_12 hq qr QO99 QF100 QA101 PG p0 z57  (show 0 ≤ p0.toInt from by first | exact g0 | omega) (show p0.toInt < 13 from by first | exact g1 | omega) (show 0 ≤ (mf_12 7).toInt from by first | exact oz_f3ebed1ad0 k12_4 g2 | omega) (show (mf_12 7).toInt ≤ 100 from by first | exact oz_b2552476a0 k12_4 g3 | omega) (show 0 ≤ (mf_12 8).toInt from by first | exact oz_f3ebed1ad0 k12_5 g4 | omega) (show (mf_12 8).toInt ≤ 512 from by first | exact oz_5926d5b85b k12_5 g5 | omega) (show 0 ≤ z57.toInt from by first | exact hpo81.1 | omega) (show z57.toInt < 10 from by first | exact hpo81.2 | omega) (show (QF100 p0.toNatClampNeg 1).toInt = 1 from by first | exact oz_e863b17997 hqk1_QF100 hg1.1 | omega) hpr hpg hpo8.2 _) hT (pr := []) (pcs := [wd_Mo cs mo mr (fun _ => none) mf_12 md_12 (gMo PG hq), fm 13 (fPr cs hq qr QO99 QF100 QA101), fm 8 (fPg cs PG)]) hw px_X.tt (px_recv hT hw 0 0 rfl rfl rfl) m14_106 m14_103 m14_105 ms_16_9 m1_20 q_Mo_ownCall ⟨Nat.le_of_ble_eq_true rfl, Nat.le_of_ble_eq_true rfl⟩ hl.1 rfl (Nat.le_of_ble_eq_true rfl) d_Mo_goOn_162 ⟨Nat.le_of_ble_eq_true rfl, Nat.le_of_ble_eq_true rfl⟩) hw hA (fun v113 p112 H locs hp112 hw => ?_)
                  obtain ⟨mf107, md108, QO109, QF110, QA111, rfl, e114, e115, e116, e117, e118, e119, e120, e121, e122, e123, e124⟩ := hp112
                  have e114 : 0 ≤ v113.toInt := e114
                  have e115 : v113.toInt ≤ 1 := e115
                  have e116 : OwQ v113.toInt (PrA PG (va_up RR p0.toNatClampNeg R_12) QO109 QF110 QA111) (PrX PG (va_up RR p0.toNatClampNeg R_12) QO109 QF110 QA111 p0.toNatClampNeg ∧ PdT (PG j9) ((va_up RR p0.toNatClampNeg R_12) p0.toNatClampNeg) (QF110 p0.toNatClampNeg) (QA111 p0.toNatClampNeg)) := e116
                  have hoq := e116
                  have e117 : KpO QO99 QF100 QO109 QF110 p0.toNatClampNeg := e117
                  have hko := e117
                  have hko2 := hko.2
                  have e118 : (mf107 0).toInt = (mf_12 0).toInt := e118
                  have e119 : (mf107 2).toInt = (mf_12 2).toInt := e119
                  have e120 : (mf107 3).toInt = (mf_12 3).toInt := e120
                  have e121 : (mf107 7).toInt = (mf_12 7).toInt := e121
                  have e122 : (mf107 8).toInt = (mf_12 8).toInt := e122
                  have e123 : (mf107 10).toInt = (mf_12 10).toInt := e123
                  have e124 : Md1 md_12 md108 := e124
                  have hmdq := Md1.tr hmdq e124
                  have hw : pw D A s.heap H locs [wd_Mo cs mo mr (fun _ => none) mf107 md108 (gMo PG hq), fm 13 (fPr cs hq qr QO109 QF110 QA111), fm 8 (fPg cs PG)] := hw
                  have lv113 := Int32.le_toInt v113
                  have uv113 := Int32.toInt_lt v113
                  refine lv_if_eq (tgt := 172) S.x S.b d_Mo_goOn_165 (by decide) (fun c125 => ?_) (fun c125 => ?_)
                  · have nc125 : v113.toInt = (0 : Int) := (i_eq (x := v113) (y := 0)).mp c125
                    refine lv_iconst (v := 0) S.x S.b d_Mo_goOn_172 (by decide) ?_
                    have hpr := hoq.elim (fun q8 => q8.2) (fun q8 => absurd q8.1 (by omega))
                    refine lv_istore (lv' := [(4, .int 0), (7, .int z61), (6, .int z57), (5, .int z53), (0, .ref mo), (1, .int p0), (2, .ref (hq p0.toNatClampNeg)), (3, .int x12_3)]) S.x S.b d_Mo_goOn_173 hl (by decide) rfl (fun ls hl => ?_)
                    refine lv_aload_n S.x S.b d_Mo_goOn_175 rfl (lv_at hl 6 rfl) ?_
                    refine lv_iload S.x S.b d_Mo_goOn_176 (lv_at hl 0 rfl) ?_
                    refine lv_if_eq (tgt := 190) S.x S.b d_Mo_goOn_178 (by decide) (fun c127 => ?_) (fun c127 => ?_)
                    ·
                      refine lv_aload_n S.x S.b d_Mo_goOn_190 rfl (lv_at hl 6 rfl) ?_
                      have hw : pw D A s.heap _ _ [wd_Mo cs mo mr (fun _ => none) mf107 md108 (gMo PG hq), fm 8 (fPg cs PG), fm 13 (fPr cs hq qr QO109 QF110 QA111)] := hw.sub [0, 2, 1] rfl rfl
                      have hc128 := cl_nat (x := p0) (by first | exact g0 | omega)
                      have hi128 : p0.toNatClampNeg < 13 := by first | exact hi24 | omega
                      have hw : pw D A s.heap _ _ [wd_Mo cs mo mr (fun _ => none) mf107 md108 (gMo PG hq), fm 8 (fPg cs PG), fo 13 (fPr cs hq qr QO109 QF110 QA111) p0.toNatClampNeg, wd_Mpr cs (hq p0.toNatClampNeg) (qr p0.toNatClampNeg) (fun _ => QO109 p0.toNatClampNeg) (QF110 p0.toNatClampNeg) (QA111 p0.toNatClampNeg) (fun _ _ => none)] := fm_out (pr := [wd_Mo cs mo mr (fun _ => none) mf107 md108 (gMo PG hq), fm 8 (fPg cs PG)]) (T := fPr cs hq qr QO109 QF110 QA111) hw hi128
                      have hps128 := hpr.1 p0.toNatClampNeg hi128
                      have hpb128 := hps128.1
                      unfold PsB at hpb128
                      refine px_get S k_Mpr hT hw 3 0 11 (v := .int ((QF110 p0.toNatClampNeg) 11)) rfl rfl rfl (by decide) m11_3 d_Mo_goOn_191 ?_
                      refine px_put S k_Mpr hT hw 3 0 11 rfl rfl (by decide) m11_3 rfl rfl rfl (Nat.le_of_ble_eq_true rfl) d_Mo_goOn_194 (w' := wd_Mpr cs (hq p0.toNatClampNeg) (qr p0.toNatClampNeg) (fun _ => QO109 p0.toNatClampNeg) (upd (QF110 p0.toNatClampNeg) 11 ((QF110 p0.toNatClampNeg) 11)) (QA111 p0.toNatClampNeg) (fun _ _ => none)) (ps' := [wd_Mo cs mo mr (fun _ => none) mf107 md108 (gMo PG hq), fm 8 (fPg cs PG), fo 13 (fPr cs hq qr QO109 QF110 QA111) p0.toNatClampNeg, wd_Mpr cs (hq p0.toNatClampNeg) (qr p0.toNatClampNeg) (fun _ => QO109 p0.toNatClampNeg) (upd (QF110 p0.toNatClampNeg) 11 ((QF110 p0.toNatClampNeg) 11)) (QA111 p0.toNatClampNeg) (fun _ _ => none)]) rfl rfl (fun H locs hw => ?_)
                      refine lv_aload_n S.x S.b d_Mo_goOn_197 rfl (lv_at hl 6 rfl) ?_
                      refine lv_aload_n S.x S.b d_Mo_goOn_198 rfl (lv_at hl 6 rfl) ?_
                      refine px_get S k_Mpr hT hw 3 0 7 (v := .int ((QF110 p0.toNatClampNeg) 7)) rfl rfl rfl (by decide) m10_235 d_Mo_goOn_199 ?_
                      refine lv_if_eq (tgt := 214) S.x S.b d_Mo_goOn_202 (by decide) (fun c129 => ?_) (fun c129 => ?_)
                      · have nc129 : ((QF110 p0.toNatClampNeg) 7).toInt = (0 : Int) := (i_eq (x := ((QF110 p0.toNatClampNeg) 7)) (y := 0)).mp c129
                        exfalso
                        omega
                      · have nc129 : ¬ ((QF110 p0.toNatClampNeg) 7).toInt = (0 : Int) := mt (i_eq (x := ((QF110 p0.toNatClampNeg) 7)) (y := 0)).mpr c129
                        refine lv_iload S.x S.b d_Mo_goOn_205 (lv_at hl 0 rfl) ?_
                        refine lv_if_ne (tgt := 214) S.x S.b d_Mo_goOn_207 (by decide) (fun c131 => ?_) (fun c131 => ?_)
                        · exact absurd c131 (by decide)
                        ·
                          refine lv_iconst (v := 1) S.x S.b d_Mo_goOn_210 (by decide) ?_
                          refine lv_goto (tgt := 215) S.x S.b d_Mo_goOn_211 (by decide) ?_
                          refine px_put S k_Mpr hT hw 3 0 7 rfl rfl (by decide) m10_235 rfl rfl rfl (Nat.le_of_ble_eq_true rfl) d_Mo_goOn_215 (w' := wd_Mpr cs (hq p0.toNatClampNeg) (qr p0.toNatClampNeg) (fun _ => QO109 p0.toNatClampNeg) (upd (upd (QF110 p0.toNatClampNeg) 7 1) 11 ((QF110 p0.toNatClampNeg) 11)) (QA111 p0.toNatClampNeg) (fun _ _ => none)) (ps' := [wd_Mo cs mo mr (fun _ => none) mf107 md108 (gMo PG hq), fm 8 (fPg cs PG), fo 13 (fPr cs hq qr QO109 QF110 QA111) p0.toNatClampNeg, wd_Mpr cs (hq p0.toNatClampNeg) (qr p0.toNatClampNeg) (fun _ => QO109 p0.toNatClampNeg) (upd (upd (QF110 p0.toNatClampNeg) 7 1) 11 ((QF110 p0.toNatClampNeg) 11)) (QA111 p0.toNatClampNeg) (fun _ _ => none)]) rfl rfl (fun H locs hw => ?_)
                          refine lv_goto (tgt := 241) S.x S.b d_Mo_goOn_218 (by decide) ?_
                          have hw := fpr_in (pr := [wd_Mo cs mo mr (fun _ => none) mf107 md108 (gMo PG hq), fm 8 (fPg cs PG)]) hw hi128
                          obtain ⟨QO132, hu_QO132⟩ : ∃ y : Nat → Option Nat, y = va_up QO109 p0.toNatClampNeg ((fun _ => QO109 p0.toNatClampNeg) 0) := ⟨_, rfl⟩
                          obtain ⟨QF133, hu_QF133⟩ : ∃ y : Nat → Nat → Int32, y = va_up QF110 p0.toNatClampNeg (upd (upd (QF110 p0.toNatClampNeg) 7 1) 11 ((QF110 p0.toNatClampNeg) 11)) := ⟨_, rfl⟩
                          obtain ⟨QA134, hu_QA134⟩ : ∃ y : Nat → Nat → Nat → Int32, y = va_up QA111 p0.toNatClampNeg (QA111 p0.toNatClampNeg) := ⟨_, rfl⟩
                          have hw : pw D A s.heap _ _ [wd_Mo cs mo mr (fun _ => none) mf107 md108 (gMo PG hq), fm 8 (fPg cs PG), fm 13 (fPr cs hq qr QO132 QF133 QA134)] := (by rw [hu_QO132, hu_QF133, hu_QA134]; exact hw)
                          have hpr : PrA PG (va_up RR p0.toNatClampNeg R_12) QO132 QF133 QA134 := (by rw [hu_QO132, hu_QF133, hu_QA134]; exact PrA.upR2 hpr hi128 (PsR.kf (by have q8 := hps128; rw [va_up_s] at q8; exact q8) (show (0 ≤ ((QF110 p0.toNatClampNeg) 1).toInt ∧ ((QF110 p0.toNatClampNeg) 1).toInt ≤ 1) ∧ (0 ≤ ((QF110 p0.toNatClampNeg) 21).toInt ∧ ((QF110 p0.toNatClampNeg) 21).toInt ≤ 4) ∧ (0 ≤ ((QF110 p0.toNatClampNeg) 23).toInt ∧ ((QF110 p0.toNatClampNeg) 23).toInt ≤ 4) ∧ (0 ≤ ((QF110 p0.toNatClampNeg) 24).toInt ∧ ((QF110 p0.toNatClampNeg) 24).toInt ≤ 1000000) ∧ (0 ≤ ((QF110 p0.toNatClampNeg) 6).toInt ∧ ((QF110 p0.toNatClampNeg) 6).toInt ≤ 3) ∧ (0 ≤ (1 : Int) ∧ (1 : Int) ≤ 1) from by omega) (show (((QF110 p0.toNatClampNeg) 1).toInt = (QF110 p0.toNatClampNeg 1).toInt ∧ ((QF110 p0.toNatClampNeg) 4).toInt = (QF110 p0.toNatClampNeg 4).toInt ∧ ((QF110 p0.toNatClampNeg) 5).toInt = (QF110 p0.toNatClampNeg 5).toInt ∧ (1 : Int) = (QF110 p0.toNatClampNeg 7).toInt ∧ ((QF110 p0.toNatClampNeg) 10).toInt = (QF110 p0.toNatClampNeg 10).toInt ∧ ((QF110 p0.toNatClampNeg) 11).toInt = (QF110 p0.toNatClampNeg 11).toInt) ∧ ((QF110 p0.toNatClampNeg) 12).toInt = (QF110 p0.toNatClampNeg 12).toInt ∧ ((QF110 p0.toNatClampNeg) 13).toInt = (QF110 p0.toNatClampNeg 13).toInt ∧ ((QF110 p0.toNatClampNeg) 14).toInt = (QF110 p0.toNatClampNeg 14).toInt ∧ ((QF110 p0.toNatClampNeg) 24).toInt = (QF110 p0.toNatClampNeg 24).toInt from by omega) (show ((QF110 p0.toNatClampNeg) 2).toInt = (QF110 p0.toNatClampNeg 2).toInt from by first | exact oz_507c05ca68 | omega)) (show ((QF110 p0.toNatClampNeg) 1).toInt = (QF110 p0.toNatClampNeg 1).toInt from by first | exact oz_507c05ca68 | omega) (show (QF110 p0.toNatClampNeg 6).toInt ≤ ((QF110 p0.toNatClampNeg) 6).toInt from by first | exact oz_1cb5f934a5 | omega))
                          have hqk1_QF133 : (QF133 p0.toNatClampNeg 1).toInt = ((QF110 p0.toNatClampNeg) 1).toInt := (by rw [hu_QF133, va_up_s]; try rfl)
                          have hqk2_QF133 : (QF133 p0.toNatClampNeg 2).toInt = ((QF110 p0.toNatClampNeg) 2).toInt := (by rw [hu_QF133, va_up_s]; try rfl)
                          have hqk4_QF133 : (QF133 p0.toNatClampNeg 4).toInt = ((QF110 p0.toNatClampNeg) 4).toInt := (by rw [hu_QF133, va_up_s]; try rfl)
                          have hqk7_QF133 : (QF133 p0.toNatClampNeg 7).toInt = (1 : Int) := (by rw [hu_QF133, va_up_s]; try rfl)
                          have hqk10_QF133 : (QF133 p0.toNatClampNeg 10).toInt = ((QF110 p0.toNatClampNeg) 10).toInt := (by rw [hu_QF133, va_up_s]; try rfl)
                          have hqk11_QF133 : (QF133 p0.toNatClampNeg 11).toInt = ((QF110 p0.toNatClampNeg) 11).toInt := (by rw [hu_QF133, va_up_s]; try rfl)
                          have hqk24_QF133 : (QF133 p0.toNatClampNeg 24).toInt = ((QF110 p0.toNatClampNeg) 24).toInt := (by rw [hu_QF133, va_up_s]; try rfl)
                          have hw : pw D A s.heap _ _ [wd_Mo cs mo mr (fun _ => none) mf107 md108 (gMo PG hq), fm 13 (fPr cs hq qr QO132 QF133 QA134), fm 8 (fPg cs PG)] := hw.sub [0, 2, 1] rfl rfl
                          exact J241 mf107 md108 QO132 QF133 QA134 R_12 x12_3 (0 : Int32) _ _ ls (show PrA PG (va_up RR p0.toNatClampNeg R_12) QO132 QF133 QA134 from hpr) (show (mf107 0).toInt = (mf 0).toInt from by first | exact oz_1687f4cc65 k12_1 e118 | omega) (show (mf107 2).toInt = (mf 2).toInt from by first | exact oz_1687f4cc65 k12_2 e119 | omega) (show (mf107 3).toInt = (mf 3).toInt from by first | exact oz_1687f4cc65 k12_3 e120 | omega) (show (mf107 7).toInt = (mf 7).toInt from by first | exact oz_1687f4cc65 k12_4 e121 | omega) (show (mf107 8).toInt = (mf 8).toInt from by first | exact oz_1687f4cc65 k12_5 e122 | omega) (show (mf107 10).toInt = (mf 10).toInt from by first | exact oz_1687f4cc65 k12_6 e123 | omega) (show Md1 md md108 from hmdq) (show x12_3.toInt = x12_3.toInt from rfl) (show 0 ≤ (0 : Int) from by first | exact oz_5a341f00aa | omega) (show (0 : Int) ≤ 1 from by first | exact oz_6e68cd0f48 | omega) (show R_12 + (0 : Int) ≤ R_12 from by first | exact oz_9a4b2c0a69 | omega) (show R_12 ≤ R_12 from by first | exact oz_1cb5f934a5 | omega) (show 1 ≤ x12_4.toInt from by first | exact oz_70c2bdf1b6 k12_10 nc5 | omega) hw (lv_sub hl [4, 5, 6, 7, 0] rfl)
                    · exact absurd c127 (by decide)
                  · have nc125 : ¬ v113.toInt = (0 : Int) := mt (i_eq (x := v113) (y := 0)).mpr c125
                    refine lv_iconst (v := 1) S.x S.b d_Mo_goOn_168 (by decide) ?_
                    obtain ⟨hpx, hpd⟩ := hoq.elim (fun q8 => absurd q8.1 (by omega)) (fun q8 => q8.2)
                    refine lv_goto (tgt := 173) S.x S.b d_Mo_goOn_169 (by decide) ?_
                    refine lv_istore (lv' := [(4, .int 1), (7, .int z61), (6, .int z57), (5, .int z53), (0, .ref mo), (1, .int p0), (2, .ref (hq p0.toNatClampNeg)), (3, .int x12_3)]) S.x S.b d_Mo_goOn_173 hl (by decide) rfl (fun ls hl => ?_)
                    refine lv_aload_n S.x S.b d_Mo_goOn_175 rfl (lv_at hl 6 rfl) ?_
                    refine lv_iload S.x S.b d_Mo_goOn_176 (lv_at hl 0 rfl) ?_
                    refine lv_if_eq (tgt := 190) S.x S.b d_Mo_goOn_178 (by decide) (fun c135 => ?_) (fun c135 => ?_)
                    · exact absurd c135 (by decide)
                    ·
                      refine lv_aload_n S.x S.b d_Mo_goOn_181 rfl (lv_at hl 6 rfl) ?_
                      have hw : pw D A s.heap _ _ [wd_Mo cs mo mr (fun _ => none) mf107 md108 (gMo PG hq), fm 8 (fPg cs PG), fm 13 (fPr cs hq qr QO109 QF110 QA111)] := hw.sub [0, 2, 1] rfl rfl
                      have hc136 := cl_nat (x := p0) (by first | exact g0 | omega)
                      have hi136 : p0.toNatClampNeg < 13 := by first | exact hi24 | omega
                      have hw : pw D A s.heap _ _ [wd_Mo cs mo mr (fun _ => none) mf107 md108 (gMo PG hq), fm 8 (fPg cs PG), fo 13 (fPr cs hq qr QO109 QF110 QA111) p0.toNatClampNeg, wd_Mpr cs (hq p0.toNatClampNeg) (qr p0.toNatClampNeg) (fun _ => QO109 p0.toNatClampNeg) (QF110 p0.toNatClampNeg) (QA111 p0.toNatClampNeg) (fun _ _ => none)] := fm_out (pr := [wd_Mo cs mo mr (fun _ => none) mf107 md108 (gMo PG hq), fm 8 (fPg cs PG)]) (T := fPr cs hq qr QO109 QF110 QA111) hw hi136
                      have hpb136 := hpx.2.2
                      unfold PsB at hpb136
                      refine px_get S k_Mpr hT hw 3 0 11 (v := .int ((QF110 p0.toNatClampNeg) 11)) rfl rfl rfl (by decide) m11_3 d_Mo_goOn_182 ?_
                      refine lv_iconst (v := 1) S.x S.b d_Mo_goOn_185 (by decide) ?_
                      refine lv_iadd S.x S.b d_Mo_goOn_186 ?_
                      have lr137 := Int32.le_toInt ((QF110 p0.toNatClampNeg) 11)
                      have ur137 := Int32.toInt_lt ((QF110 p0.toNatClampNeg) 11)
                      refine lv_topi (fun z138 ez138 => ?_)
                      have tz138 : z138.toInt = (((QF110 p0.toNatClampNeg) 11).toInt + (1 : Int) + 2147483648) % 4294967296 - 2147483648 := by rw [ez138]; exact i_add ((QF110 p0.toNatClampNeg) 11) 1
                      have lz138 := Int32.le_toInt z138
                      have uz138 := Int32.toInt_lt z138
                      try replace tz138 : z138.toInt = ((QF110 p0.toNatClampNeg) 11).toInt + (1 : Int) := by omega
                      refine lv_goto (tgt := 194) S.x S.b d_Mo_goOn_187 (by decide) ?_
                      refine px_put S k_Mpr hT hw 3 0 11 rfl rfl (by decide) m11_3 rfl rfl rfl (Nat.le_of_ble_eq_true rfl) d_Mo_goOn_194 (w' := wd_Mpr cs (hq p0.toNatClampNeg) (qr p0.toNatClampNeg) (fun _ => QO109 p0.toNatClampNeg) (upd (QF110 p0.toNatClampNeg) 11 z138) (QA111 p0.toNatClampNeg) (fun _ _ => none)) (ps' := [wd_Mo cs mo mr (fun _ => none) mf107 md108 (gMo PG hq), fm 8 (fPg cs PG), fo 13 (fPr cs hq qr QO109 QF110 QA111) p0.toNatClampNeg, wd_Mpr cs (hq p0.toNatClampNeg) (qr p0.toNatClampNeg) (fun _ => QO109 p0.toNatClampNeg) (upd (QF110 p0.toNatClampNeg) 11 z138) (QA111 p0.toNatClampNeg) (fun _ _ => none)]) rfl rfl (fun H locs hw => ?_)
                      refine lv_aload_n S.x S.b d_Mo_goOn_197 rfl (lv_at hl 6 rfl) ?_
                      refine lv_aload_n S.x S.b d_Mo_goOn_198 rfl (lv_at hl 6 rfl) ?_
                      refine px_get S k_Mpr hT hw 3 0 7 (v := .int ((QF110 p0.toNatClampNeg) 7)) rfl rfl rfl (by decide) m10_235 d_Mo_goOn_199 ?_
                      refine lv_if_eq (tgt := 214) S.x S.b d_Mo_goOn_202 (by decide) (fun c139 => ?_) (fun c139 => ?_)
                      · have nc139 : ((QF110 p0.toNatClampNeg) 7).toInt = (0 : Int) := (i_eq (x := ((QF110 p0.toNatClampNeg) 7)) (y := 0)).mp c139
                        refine lv_iconst (v := 0) S.x S.b d_Mo_goOn_214 (by decide) ?_
                        refine px_put S k_Mpr hT hw 3 0 7 rfl rfl (by decide) m10_235 rfl rfl rfl (Nat.le_of_ble_eq_true rfl) d_Mo_goOn_215 (w' := wd_Mpr cs (hq p0.toNatClampNeg) (qr p0.toNatClampNeg) (fun _ => QO109 p0.toNatClampNeg) (upd (upd (QF110 p0.toNatClampNeg) 7 0) 11 z138) (QA111 p0.toNatClampNeg) (fun _ _ => none)) (ps' := [wd_Mo cs mo mr (fun _ => none) mf107 md108 (gMo PG hq), fm 8 (fPg cs PG), fo 13 (fPr cs hq qr QO109 QF110 QA111) p0.toNatClampNeg, wd_Mpr cs (hq p0.toNatClampNeg) (qr p0.toNatClampNeg) (fun _ => QO109 p0.toNatClampNeg) (upd (upd (QF110 p0.toNatClampNeg) 7 0) 11 z138) (QA111 p0.toNatClampNeg) (fun _ _ => none)]) rfl rfl (fun H locs hw => ?_)
                        refine lv_goto (tgt := 241) S.x S.b d_Mo_goOn_218 (by decide) ?_
                        have hw := fpr_in (pr := [wd_Mo cs mo mr (fun _ => none) mf107 md108 (gMo PG hq), fm 8 (fPg cs PG)]) hw hi136
                        obtain ⟨QO141, hu_QO141⟩ : ∃ y : Nat → Option Nat, y = va_up QO109 p0.toNatClampNeg ((fun _ => QO109 p0.toNatClampNeg) 0) := ⟨_, rfl⟩
                        obtain ⟨QF142, hu_QF142⟩ : ∃ y : Nat → Nat → Int32, y = va_up QF110 p0.toNatClampNeg (upd (upd (QF110 p0.toNatClampNeg) 7 0) 11 z138) := ⟨_, rfl⟩
                        obtain ⟨QA143, hu_QA143⟩ : ∃ y : Nat → Nat → Nat → Int32, y = va_up QA111 p0.toNatClampNeg (QA111 p0.toNatClampNeg) := ⟨_, rfl⟩
                        have hw : pw D A s.heap _ _ [wd_Mo cs mo mr (fun _ => none) mf107 md108 (gMo PG hq), fm 8 (fPg cs PG), fm 13 (fPr cs hq qr QO141 QF142 QA143)] := (by rw [hu_QO141, hu_QF142, hu_QA143]; exact hw)
                        have hpr : PrA PG (va_up RR p0.toNatClampNeg (R_12 - 1)) QO141 QF142 QA143 := (by rw [hu_QO141, hu_QF142, hu_QA143]; exact PrX.inR hpx (psr_tx (j := j9) hj9 (hko.1.trans hqo) h61 (show (0 ≤ ((QF110 p0.toNatClampNeg) 1).toInt ∧ ((QF110 p0.toNatClampNeg) 1).toInt ≤ 1) ∧ (0 ≤ ((QF110 p0.toNatClampNeg) 21).toInt ∧ ((QF110 p0.toNatClampNeg) 21).toInt ≤ 4) ∧ (0 ≤ ((QF110 p0.toNatClampNeg) 23).toInt ∧ ((QF110 p0.toNatClampNeg) 23).toInt ≤ 4) ∧ (0 ≤ ((QF110 p0.toNatClampNeg) 24).toInt ∧ ((QF110 p0.toNatClampNeg) 24).toInt ≤ 1000000) ∧ (0 ≤ ((QF110 p0.toNatClampNeg) 6).toInt ∧ ((QF110 p0.toNatClampNeg) 6).toInt ≤ 3) ∧ (0 ≤ (0 : Int) ∧ (0 : Int) ≤ 1) from by omega) (show ((QF110 p0.toNatClampNeg) 1).toInt = 1 from by first | exact oz_d145a98bf1 hko2.1 hqk1_QF100 hg1.1 | omega) (by omega) (fun _ => by have q8 := hpd; rw [va_up_s] at q8; exact PdT.nx q8 (show ((QF110 p0.toNatClampNeg) 4).toInt = (QF110 p0.toNatClampNeg 4).toInt ∧ ((QF110 p0.toNatClampNeg) 5).toInt = (QF110 p0.toNatClampNeg 5).toInt ∧ ((QF110 p0.toNatClampNeg) 10).toInt = (QF110 p0.toNatClampNeg 10).toInt ∧ ((QF110 p0.toNatClampNeg) 12).toInt = (QF110 p0.toNatClampNeg 12).toInt ∧ ((QF110 p0.toNatClampNeg) 13).toInt = (QF110 p0.toNatClampNeg 13).toInt ∧ ((QF110 p0.toNatClampNeg) 14).toInt = (QF110 p0.toNatClampNeg 14).toInt from by first | exact oz_28eebd5525 | omega) (show z138.toInt = (QF110 p0.toNatClampNeg 11).toInt + 1 from by first | exact oz_037caa6b79 tz138 | omega) (show ((QF110 p0.toNatClampNeg) 24).toInt = (QF110 p0.toNatClampNeg 24).toInt from by first | exact oz_507c05ca68 | omega) (show (0 : Int) = 0 from by first | exact oz_7d1a308c7e | omega))) (show ((QF110 p0.toNatClampNeg) 1).toInt = (QF110 p0.toNatClampNeg 1).toInt from by first | exact oz_507c05ca68 | omega) (show (QF110 p0.toNatClampNeg 6).toInt ≤ ((QF110 p0.toNatClampNeg) 6).toInt from by first | exact oz_1cb5f934a5 | omega))
                        have hw : pw D A s.heap _ _ [wd_Mo cs mo mr (fun _ => none) mf107 md108 (gMo PG hq), fm 13 (fPr cs hq qr QO141 QF142 QA143), fm 8 (fPg cs PG)] := hw.sub [0, 2, 1] rfl rfl
                        exact J241 mf107 md108 QO141 QF142 QA143 (R_12 - 1) x12_3 (1 : Int32) _ _ ls (show PrA PG (va_up RR p0.toNatClampNeg (R_12 - 1)) QO141 QF142 QA143 from hpr) (show (mf107 0).toInt = (mf 0).toInt from by first | exact oz_1687f4cc65 k12_1 e118 | omega) (show (mf107 2).toInt = (mf 2).toInt from by first | exact oz_1687f4cc65 k12_2 e119 | omega) (show (mf107 3).toInt = (mf 3).toInt from by first | exact oz_1687f4cc65 k12_3 e120 | omega) (show (mf107 7).toInt = (mf 7).toInt from by first | exact oz_1687f4cc65 k12_4 e121 | omega) (show (mf107 8).toInt = (mf 8).toInt from by first | exact oz_1687f4cc65 k12_5 e122 | omega) (show (mf107 10).toInt = (mf 10).toInt from by first | exact oz_1687f4cc65 k12_6 e123 | omega) (show Md1 md md108 from hmdq) (show x12_3.toInt = x12_3.toInt from rfl) (show 0 ≤ (1 : Int) from by first | exact oz_19c3a41681 | omega) (show (1 : Int) ≤ 1 from by first | exact oz_f9181dc4bb | omega) (show (R_12 - 1) + (1 : Int) ≤ R_12 from by first | exact oz_9af69b5cb8 | omega) (show (R_12 - 1) ≤ R_12 from by first | exact oz_f81ab12e42 | omega) (show 1 ≤ x12_4.toInt from by first | exact oz_70c2bdf1b6 k12_10 nc5 | omega) hw (lv_sub hl [4, 5, 6, 7, 0] rfl)
                      · have nc139 : ¬ ((QF110 p0.toNatClampNeg) 7).toInt = (0 : Int) := mt (i_eq (x := ((QF110 p0.toNatClampNeg) 7)) (y := 0)).mpr c139
                        refine lv_iload S.x S.b d_Mo_goOn_205 (lv_at hl 0 rfl) ?_
                        refine lv_if_ne (tgt := 214) S.x S.b d_Mo_goOn_207 (by decide) (fun c144 => ?_) (fun c144 => ?_)
                        ·
                          refine lv_iconst (v := 0) S.x S.b d_Mo_goOn_214 (by decide) ?_
                          refine px_put S k_Mpr hT hw 3 0 7 rfl rfl (by decide) m10_235 rfl rfl rfl (Nat.le_of_ble_eq_true rfl) d_Mo_goOn_215 (w' := wd_Mpr cs (hq p0.toNatClampNeg) (qr p0.toNatClampNeg) (fun _ => QO109 p0.toNatClampNeg) (upd (upd (QF110 p0.toNatClampNeg) 7 0) 11 z138) (QA111 p0.toNatClampNeg) (fun _ _ => none)) (ps' := [wd_Mo cs mo mr (fun _ => none) mf107 md108 (gMo PG hq), fm 8 (fPg cs PG), fo 13 (fPr cs hq qr QO109 QF110 QA111) p0.toNatClampNeg, wd_Mpr cs (hq p0.toNatClampNeg) (qr p0.toNatClampNeg) (fun _ => QO109 p0.toNatClampNeg) (upd (upd (QF110 p0.toNatClampNeg) 7 0) 11 z138) (QA111 p0.toNatClampNeg) (fun _ _ => none)]) rfl rfl (fun H locs hw => ?_)
                          refine lv_goto (tgt := 241) S.x S.b d_Mo_goOn_218 (by decide) ?_
                          have hw := fpr_in (pr := [wd_Mo cs mo mr (fun _ => none) mf107 md108 (gMo PG hq), fm 8 (fPg cs PG)]) hw hi136
                          obtain ⟨QO145, hu_QO145⟩ : ∃ y : Nat → Option Nat, y = va_up QO109 p0.toNatClampNeg ((fun _ => QO109 p0.toNatClampNeg) 0) := ⟨_, rfl⟩
                          obtain ⟨QF146, hu_QF146⟩ : ∃ y : Nat → Nat → Int32, y = va_up QF110 p0.toNatClampNeg (upd (upd (QF110 p0.toNatClampNeg) 7 0) 11 z138) := ⟨_, rfl⟩
                          obtain ⟨QA147, hu_QA147⟩ : ∃ y : Nat → Nat → Nat → Int32, y = va_up QA111 p0.toNatClampNeg (QA111 p0.toNatClampNeg) := ⟨_, rfl⟩
                          have hw : pw D A s.heap _ _ [wd_Mo cs mo mr (fun _ => none) mf107 md108 (gMo PG hq), fm 8 (fPg cs PG), fm 13 (fPr cs hq qr QO145 QF146 QA147)] := (by rw [hu_QO145, hu_QF146, hu_QA147]; exact hw)
                          have hpr : PrA PG (va_up RR p0.toNatClampNeg (R_12 - 1)) QO145 QF146 QA147 := (by rw [hu_QO145, hu_QF146, hu_QA147]; exact PrX.inR hpx (psr_tx (j := j9) hj9 (hko.1.trans hqo) h61 (show (0 ≤ ((QF110 p0.toNatClampNeg) 1).toInt ∧ ((QF110 p0.toNatClampNeg) 1).toInt ≤ 1) ∧ (0 ≤ ((QF110 p0.toNatClampNeg) 21).toInt ∧ ((QF110 p0.toNatClampNeg) 21).toInt ≤ 4) ∧ (0 ≤ ((QF110 p0.toNatClampNeg) 23).toInt ∧ ((QF110 p0.toNatClampNeg) 23).toInt ≤ 4) ∧ (0 ≤ ((QF110 p0.toNatClampNeg) 24).toInt ∧ ((QF110 p0.toNatClampNeg) 24).toInt ≤ 1000000) ∧ (0 ≤ ((QF110 p0.toNatClampNeg) 6).toInt ∧ ((QF110 p0.toNatClampNeg) 6).toInt ≤ 3) ∧ (0 ≤ (0 : Int) ∧ (0 : Int) ≤ 1) from by omega) (show ((QF110 p0.toNatClampNeg) 1).toInt = 1 from by first | exact oz_d145a98bf1 hko2.1 hqk1_QF100 hg1.1 | omega) (by omega) (fun _ => by have q8 := hpd; rw [va_up_s] at q8; exact PdT.nx q8 (show ((QF110 p0.toNatClampNeg) 4).toInt = (QF110 p0.toNatClampNeg 4).toInt ∧ ((QF110 p0.toNatClampNeg) 5).toInt = (QF110 p0.toNatClampNeg 5).toInt ∧ ((QF110 p0.toNatClampNeg) 10).toInt = (QF110 p0.toNatClampNeg 10).toInt ∧ ((QF110 p0.toNatClampNeg) 12).toInt = (QF110 p0.toNatClampNeg 12).toInt ∧ ((QF110 p0.toNatClampNeg) 13).toInt = (QF110 p0.toNatClampNeg 13).toInt ∧ ((QF110 p0.toNatClampNeg) 14).toInt = (QF110 p0.toNatClampNeg 14).toInt from by first | exact oz_28eebd5525 | omega) (show z138.toInt = (QF110 p0.toNatClampNeg 11).toInt + 1 from by first | exact oz_037caa6b79 tz138 | omega) (show ((QF110 p0.toNatClampNeg) 24).toInt = (QF110 p0.toNatClampNeg 24).toInt from by first | exact oz_507c05ca68 | omega) (show (0 : Int) = 0 from by first | exact oz_7d1a308c7e | omega))) (show ((QF110 p0.toNatClampNeg) 1).toInt = (QF110 p0.toNatClampNeg 1).toInt from by first | exact oz_507c05ca68 | omega) (show (QF110 p0.toNatClampNeg 6).toInt ≤ ((QF110 p0.toNatClampNeg) 6).toInt from by first | exact oz_1cb5f934a5 | omega))
                          have hw : pw D A s.heap _ _ [wd_Mo cs mo mr (fun _ => none) mf107 md108 (gMo PG hq), fm 13 (fPr cs hq qr QO145 QF146 QA147), fm 8 (fPg cs PG)] := hw.sub [0, 2, 1] rfl rfl
                          exact J241 mf107 md108 QO145 QF146 QA147 (R_12 - 1) x12_3 (1 : Int32) _ _ ls (show PrA PG (va_up RR p0.toNatClampNeg (R_12 - 1)) QO145 QF146 QA147 from hpr) (show (mf107 0).toInt = (mf 0).toInt from by first | exact oz_1687f4cc65 k12_1 e118 | omega) (show (mf107 2).toInt = (mf 2).toInt from by first | exact oz_1687f4cc65 k12_2 e119 | omega) (show (mf107 3).toInt = (mf 3).toInt from by first | exact oz_1687f4cc65 k12_3 e120 | omega) (show (mf107 7).toInt = (mf 7).toInt from by first | exact oz_1687f4cc65 k12_4 e121 | omega) (show (mf107 8).toInt = (mf 8).toInt from by first | exact oz_1687f4cc65 k12_5 e122 | omega) (show (mf107 10).toInt = (mf 10).toInt from by first | exact oz_1687f4cc65 k12_6 e123 | omega) (show Md1 md md108 from hmdq) (show x12_3.toInt = x12_3.toInt from rfl) (show 0 ≤ (1 : Int) from by first | exact oz_19c3a41681 | omega) (show (1 : Int) ≤ 1 from by first | exact oz_f9181dc4bb | omega) (show (R_12 - 1) + (1 : Int) ≤ R_12 from by first | exact oz_9af69b5cb8 | omega) (show (R_12 - 1) ≤ R_12 from by first | exact oz_f81ab12e42 | omega) (show 1 ≤ x12_4.toInt from by first | exact oz_70c2bdf1b6 k12_10 nc5 | omega) hw (lv_sub hl [4, 5, 6, 7, 0] rfl)
                        · exact absurd c144 (by decide)
              · have nc82 : ((QF_12 p0.toNatClampNeg) 7).toInt = (0 : Int) := (i_eq (x := ((QF_12 p0.toNatClampNeg) 7)) (y := 0)).mp c82
                refine lv_iload S.x S.b d_Mo_goOn_131 (lv_at hl 1 rfl) ?_
                refine lv_if_eq (tgt := 143) S.x S.b d_Mo_goOn_133 (by decide) (fun c148 => ?_) (fun c148 => ?_)
                · have nc148 : z57.toInt = (0 : Int) := (i_eq (x := z57) (y := 0)).mp c148
                  refine lv_iconst (v := 1) S.x S.b d_Mo_goOn_143 (by decide) ?_
                  refine lv_goto (tgt := 148) S.x S.b d_Mo_goOn_144 (by decide) ?_
                  refine px_put S k_Mpr hT hw 2 0 7 rfl rfl (by decide) m10_235 rfl rfl rfl (Nat.le_of_ble_eq_true rfl) d_Mo_goOn_148 (w' := wd_Mpr cs (hq p0.toNatClampNeg) (qr p0.toNatClampNeg) (fun k => if k = 0 then (some (PG j9).h) else none) (upd (QF_12 p0.toNatClampNeg) 7 1) (QA_12 p0.toNatClampNeg) (fun _ _ => none)) (ps' := [wd_Mo cs mo mr (fun _ => none) mf_12 md_12 (gMo PG hq), fo 13 (fPr cs hq qr QO_12 QF_12 QA_12) p0.toNatClampNeg, wd_Mpr cs (hq p0.toNatClampNeg) (qr p0.toNatClampNeg) (fun k => if k = 0 then (some (PG j9).h) else none) (upd (QF_12 p0.toNatClampNeg) 7 1) (QA_12 p0.toNatClampNeg) (fun _ _ => none), fo 8 (fPg cs PG) j9, wdP cs (PG j9).h (PG j9).r (PG j9).g (PG j9).tf (PG j9).ta (PG j9).pf (PG j9).na (PG j9).ma (PG j9).wa (PG j9).cf (PG j9).ca (PG j9).ef (PG j9).ea (PG j9).xf (PG j9).xa]) rfl rfl (fun H locs hw => ?_)
                  refine lv_aload_n S.x S.b d_Mo_goOn_151 rfl (lv_at hl 5 rfl) ?_
                  have hw : pw D A s.heap _ _ [wd_Mo cs mo mr (fun _ => none) mf_12 md_12 (gMo PG hq), fo 13 (fPr cs hq qr QO_12 QF_12 QA_12) p0.toNatClampNeg, fo 8 (fPg cs PG) j9, wdP cs (PG j9).h (PG j9).r (PG j9).g (PG j9).tf (PG j9).ta (PG j9).pf (PG j9).na (PG j9).ma (PG j9).wa (PG j9).cf (PG j9).ca (PG j9).ef (PG j9).ea (PG j9).xf (PG j9).xa, wd_Mpr cs (hq p0.toNatClampNeg) (qr p0.toNatClampNeg) (fun k => if k = 0 then (some (PG j9).h) else none) (upd (QF_12 p0.toNatClampNeg) 7 1) (QA_12 p0.toNatClampNeg) (fun _ _ => none)] := hw.sub [0, 1, 3, 4, 2] rfl rfl
                  refine px_calli (pr := [wd_Mo cs mo mr (fun _ => none) mf_12 md_12 (gMo PG hq), fo 13 (fPr cs hq qr QO_12 QF_12 QA_12) p0.toNatClampNeg, fo 8 (fPg cs PG) j9, wdP cs (PG j9).h (PG j9).r (PG j9).g (PG j9).tf (PG j9).ta (PG j9).pf (PG j9).na (PG j9).ma (PG j9).wa (PG j9).cf (PG j9).ca (PG j9).ef (PG j9).ea (PG j9).xf (PG j9).xa]) (px_runV (As := []) (rest := []) S (c_mqq_isGoing l D cs (hq p0.toNatClampNeg) (qr p0.toNatClampNeg) (fun _ _ => none) (fun k => if k = 0 then (some (PG j9).h) else none) (upd (QF_12 p0.toNatClampNeg) 7 1) (QA_12 p0.toNatClampNeg)    _) hT (pr := [wd_Mo cs mo mr (fun _ => none) mf_12 md_12 (gMo PG hq), fo 13 (fPr cs hq qr QO_12 QF_12 QA_12) p0.toNatClampNeg, fo 8 (fPg cs PG) j9, wdP cs (PG j9).h (PG j9).r (PG j9).g (PG j9).tf (PG j9).ta (PG j9).pf (PG j9).na (PG j9).ma (PG j9).wa (PG j9).cf (PG j9).ca (PG j9).ef (PG j9).ea (PG j9).xf (PG j9).xa]) (pcs := [wd_Mpr cs (hq p0.toNatClampNeg) (qr p0.toNatClampNeg) (fun k => if k = 0 then (some (PG j9).h) else none) (upd (QF_12 p0.toNatClampNeg) 7 1) (QA_12 p0.toNatClampNeg) (fun _ _ => none)]) hw px_X.tt (px_recv hT hw 4 0 rfl rfl rfl) m13_165 m13_162 m13_163 m13_164 m1_22 q_Mpr_isGoing ⟨Nat.le_of_ble_eq_true rfl, Nat.le_of_ble_eq_true rfl⟩ hl.1 rfl (Nat.le_of_ble_eq_true rfl) d_Mo_goOn_152 ⟨Nat.le_of_ble_eq_true rfl, Nat.le_of_ble_eq_true rfl⟩) hw hA (fun v151 p150 H locs hp150 hw => ?_)
                  obtain ⟨rfl, e152, e153, e154⟩ := hp150
                  have e152 : 0 ≤ v151.toInt := e152
                  have e153 : v151.toInt ≤ 1 := e153
                  have e154 : IgV v151.toInt ((QF_12 p0.toNatClampNeg) 1).toInt ((QF_12 p0.toNatClampNeg) 2).toInt := e154
                  have hig := e154
                  have hw : pw D A s.heap H locs [wd_Mo cs mo mr (fun _ => none) mf_12 md_12 (gMo PG hq), fo 13 (fPr cs hq qr QO_12 QF_12 QA_12) p0.toNatClampNeg, fo 8 (fPg cs PG) j9, wdP cs (PG j9).h (PG j9).r (PG j9).g (PG j9).tf (PG j9).ta (PG j9).pf (PG j9).na (PG j9).ma (PG j9).wa (PG j9).cf (PG j9).ca (PG j9).ef (PG j9).ea (PG j9).xf (PG j9).xa, wd_Mpr cs (hq p0.toNatClampNeg) (qr p0.toNatClampNeg) (fun k => if k = 0 then (some (PG j9).h) else none) (upd (QF_12 p0.toNatClampNeg) 7 1) (QA_12 p0.toNatClampNeg) (fun _ _ => none)] := hw
                  have lv151 := Int32.le_toInt v151
                  have uv151 := Int32.toInt_lt v151
                  refine lv_if_eq (tgt := 168) S.x S.b d_Mo_goOn_155 (by decide) (fun c155 => ?_) (fun c155 => ?_)
                  · have nc155 : v151.toInt = (0 : Int) := (i_eq (x := v151) (y := 0)).mp c155
                    refine lv_iconst (v := 1) S.x S.b d_Mo_goOn_168 (by decide) ?_
                    have hg3 := hig.elim (fun q8 => absurd q8.1 (by omega)) (fun q8 => q8.2)
                    refine lv_goto (tgt := 173) S.x S.b d_Mo_goOn_169 (by decide) ?_
                    refine lv_istore (lv' := [(4, .int 1), (7, .int z61), (6, .int z57), (5, .int z53), (0, .ref mo), (1, .int p0), (2, .ref (hq p0.toNatClampNeg)), (3, .int x12_3)]) S.x S.b d_Mo_goOn_173 hl (by decide) rfl (fun ls hl => ?_)
                    refine lv_aload_n S.x S.b d_Mo_goOn_175 rfl (lv_at hl 6 rfl) ?_
                    refine lv_iload S.x S.b d_Mo_goOn_176 (lv_at hl 0 rfl) ?_
                    refine lv_if_eq (tgt := 190) S.x S.b d_Mo_goOn_178 (by decide) (fun c157 => ?_) (fun c157 => ?_)
                    · exact absurd c157 (by decide)
                    ·
                      refine lv_aload_n S.x S.b d_Mo_goOn_181 rfl (lv_at hl 6 rfl) ?_
                      refine px_get S k_Mpr hT hw 4 0 11 (v := .int ((QF_12 p0.toNatClampNeg) 11)) rfl rfl rfl (by decide) m11_3 d_Mo_goOn_182 ?_
                      refine lv_iconst (v := 1) S.x S.b d_Mo_goOn_185 (by decide) ?_
                      refine lv_iadd S.x S.b d_Mo_goOn_186 ?_
                      have lr158 := Int32.le_toInt ((QF_12 p0.toNatClampNeg) 11)
                      have ur158 := Int32.toInt_lt ((QF_12 p0.toNatClampNeg) 11)
                      refine lv_topi (fun z159 ez159 => ?_)
                      have tz159 : z159.toInt = (((QF_12 p0.toNatClampNeg) 11).toInt + (1 : Int) + 2147483648) % 4294967296 - 2147483648 := by rw [ez159]; exact i_add ((QF_12 p0.toNatClampNeg) 11) 1
                      have lz159 := Int32.le_toInt z159
                      have uz159 := Int32.toInt_lt z159
                      try replace tz159 : z159.toInt = ((QF_12 p0.toNatClampNeg) 11).toInt + (1 : Int) := by omega
                      refine lv_goto (tgt := 194) S.x S.b d_Mo_goOn_187 (by decide) ?_
                      refine px_put S k_Mpr hT hw 4 0 11 rfl rfl (by decide) m11_3 rfl rfl rfl (Nat.le_of_ble_eq_true rfl) d_Mo_goOn_194 (w' := wd_Mpr cs (hq p0.toNatClampNeg) (qr p0.toNatClampNeg) (fun k => if k = 0 then (some (PG j9).h) else none) (upd (upd (QF_12 p0.toNatClampNeg) 7 1) 11 z159) (QA_12 p0.toNatClampNeg) (fun _ _ => none)) (ps' := [wd_Mo cs mo mr (fun _ => none) mf_12 md_12 (gMo PG hq), fo 13 (fPr cs hq qr QO_12 QF_12 QA_12) p0.toNatClampNeg, fo 8 (fPg cs PG) j9, wdP cs (PG j9).h (PG j9).r (PG j9).g (PG j9).tf (PG j9).ta (PG j9).pf (PG j9).na (PG j9).ma (PG j9).wa (PG j9).cf (PG j9).ca (PG j9).ef (PG j9).ea (PG j9).xf (PG j9).xa, wd_Mpr cs (hq p0.toNatClampNeg) (qr p0.toNatClampNeg) (fun k => if k = 0 then (some (PG j9).h) else none) (upd (upd (QF_12 p0.toNatClampNeg) 7 1) 11 z159) (QA_12 p0.toNatClampNeg) (fun _ _ => none)]) rfl rfl (fun H locs hw => ?_)
                      refine lv_aload_n S.x S.b d_Mo_goOn_197 rfl (lv_at hl 6 rfl) ?_
                      refine lv_aload_n S.x S.b d_Mo_goOn_198 rfl (lv_at hl 6 rfl) ?_
                      refine px_get S k_Mpr hT hw 4 0 7 (v := .int 1) rfl rfl rfl (by decide) m10_235 d_Mo_goOn_199 ?_
                      refine lv_if_eq (tgt := 214) S.x S.b d_Mo_goOn_202 (by decide) (fun c160 => ?_) (fun c160 => ?_)
                      · exact absurd c160 (by decide)
                      ·
                        refine lv_iload S.x S.b d_Mo_goOn_205 (lv_at hl 0 rfl) ?_
                        refine lv_if_ne (tgt := 214) S.x S.b d_Mo_goOn_207 (by decide) (fun c161 => ?_) (fun c161 => ?_)
                        ·
                          refine lv_iconst (v := 0) S.x S.b d_Mo_goOn_214 (by decide) ?_
                          refine px_put S k_Mpr hT hw 4 0 7 rfl rfl (by decide) m10_235 rfl rfl rfl (Nat.le_of_ble_eq_true rfl) d_Mo_goOn_215 (w' := wd_Mpr cs (hq p0.toNatClampNeg) (qr p0.toNatClampNeg) (fun k => if k = 0 then (some (PG j9).h) else none) (upd (upd (QF_12 p0.toNatClampNeg) 7 0) 11 z159) (QA_12 p0.toNatClampNeg) (fun _ _ => none)) (ps' := [wd_Mo cs mo mr (fun _ => none) mf_12 md_12 (gMo PG hq), fo 13 (fPr cs hq qr QO_12 QF_12 QA_12) p0.toNatClampNeg, fo 8 (fPg cs PG) j9, wdP cs (PG j9).h (PG j9).r (PG j9).g (PG j9).tf (PG j9).ta (PG j9).pf (PG j9).na (PG j9).ma (PG j9).wa (PG j9).cf (PG j9).ca (PG j9).ef (PG j9).ea (PG j9).xf (PG j9).xa, wd_Mpr cs (hq p0.toNatClampNeg) (qr p0.toNatClampNeg) (fun k => if k = 0 then (some (PG j9).h) else none) (upd (upd (QF_12 p0.toNatClampNeg) 7 0) 11 z159) (QA_12 p0.toNatClampNeg) (fun _ _ => none)]) rfl rfl (fun H locs hw => ?_)
                          refine lv_goto (tgt := 241) S.x S.b d_Mo_goOn_218 (by decide) ?_
                          have hw : pw D A s.heap _ _ [wd_Mo cs mo mr (fun _ => none) mf_12 md_12 (gMo PG hq), fo 8 (fPg cs PG) j9, wdP cs (PG j9).h (PG j9).r (PG j9).g (PG j9).tf (PG j9).ta (PG j9).pf (PG j9).na (PG j9).ma (PG j9).wa (PG j9).cf (PG j9).ca (PG j9).ef (PG j9).ea (PG j9).xf (PG j9).xa, fo 13 (fPr cs hq qr QO_12 QF_12 QA_12) p0.toNatClampNeg, wd_Mpr cs (hq p0.toNatClampNeg) (qr p0.toNatClampNeg) (fun k => if k = 0 then (some (PG j9).h) else none) (upd (upd (QF_12 p0.toNatClampNeg) 7 0) 11 z159) (QA_12 p0.toNatClampNeg) (fun _ _ => none)] := hw.sub [0, 2, 3, 1, 4] rfl rfl
                          have hw := fpr_in (pr := [wd_Mo cs mo mr (fun _ => none) mf_12 md_12 (gMo PG hq), fo 8 (fPg cs PG) j9, wdP cs (PG j9).h (PG j9).r (PG j9).g (PG j9).tf (PG j9).ta (PG j9).pf (PG j9).na (PG j9).ma (PG j9).wa (PG j9).cf (PG j9).ca (PG j9).ef (PG j9).ea (PG j9).xf (PG j9).xa]) hw hi24
                          obtain ⟨QO162, hu_QO162⟩ : ∃ y : Nat → Option Nat, y = va_up QO_12 p0.toNatClampNeg ((fun k => if k = 0 then (some (PG j9).h) else none) 0) := ⟨_, rfl⟩
                          obtain ⟨QF163, hu_QF163⟩ : ∃ y : Nat → Nat → Int32, y = va_up QF_12 p0.toNatClampNeg (upd (upd (QF_12 p0.toNatClampNeg) 7 0) 11 z159) := ⟨_, rfl⟩
                          obtain ⟨QA164, hu_QA164⟩ : ∃ y : Nat → Nat → Nat → Int32, y = va_up QA_12 p0.toNatClampNeg (QA_12 p0.toNatClampNeg) := ⟨_, rfl⟩
                          have hw : pw D A s.heap _ _ [wd_Mo cs mo mr (fun _ => none) mf_12 md_12 (gMo PG hq), fo 8 (fPg cs PG) j9, wdP cs (PG j9).h (PG j9).r (PG j9).g (PG j9).tf (PG j9).ta (PG j9).pf (PG j9).na (PG j9).ma (PG j9).wa (PG j9).cf (PG j9).ca (PG j9).ef (PG j9).ea (PG j9).xf (PG j9).xa, fm 13 (fPr cs hq qr QO162 QF163 QA164)] := (by rw [hu_QO162, hu_QF163, hu_QA164]; exact hw)
                          have hpr : PrA PG (va_up RR p0.toNatClampNeg (R_12 - 1)) QO162 QF163 QA164 := (by rw [hu_QO162, hu_QF163, hu_QA164]; exact PrA.upR2 hpr hi24 (psr_en (show (0 ≤ ((QF_12 p0.toNatClampNeg) 1).toInt ∧ ((QF_12 p0.toNatClampNeg) 1).toInt ≤ 1) ∧ (0 ≤ ((QF_12 p0.toNatClampNeg) 21).toInt ∧ ((QF_12 p0.toNatClampNeg) 21).toInt ≤ 4) ∧ (0 ≤ ((QF_12 p0.toNatClampNeg) 23).toInt ∧ ((QF_12 p0.toNatClampNeg) 23).toInt ≤ 4) ∧ (0 ≤ ((QF_12 p0.toNatClampNeg) 24).toInt ∧ ((QF_12 p0.toNatClampNeg) 24).toInt ≤ 1000000) ∧ (0 ≤ ((QF_12 p0.toNatClampNeg) 6).toInt ∧ ((QF_12 p0.toNatClampNeg) 6).toInt ≤ 3) ∧ (0 ≤ (0 : Int) ∧ (0 : Int) ≤ 1) from by omega) (show ((QF_12 p0.toNatClampNeg) 1).toInt = 1 from by first | exact oz_e213b53fb9 hg1.1 | omega) (by omega) (show ((QF_12 p0.toNatClampNeg) 2).toInt ≠ -2 from by omega)) (show ((QF_12 p0.toNatClampNeg) 1).toInt = (QF_12 p0.toNatClampNeg 1).toInt from by first | exact oz_507c05ca68 | omega) (show (QF_12 p0.toNatClampNeg 6).toInt ≤ ((QF_12 p0.toNatClampNeg) 6).toInt from by first | exact oz_1cb5f934a5 | omega))
                          have hqk1_QF163 : (QF163 p0.toNatClampNeg 1).toInt = ((QF_12 p0.toNatClampNeg) 1).toInt := (by rw [hu_QF163, va_up_s]; try rfl)
                          have hqk2_QF163 : (QF163 p0.toNatClampNeg 2).toInt = ((QF_12 p0.toNatClampNeg) 2).toInt := (by rw [hu_QF163, va_up_s]; try rfl)
                          have hqk4_QF163 : (QF163 p0.toNatClampNeg 4).toInt = ((QF_12 p0.toNatClampNeg) 4).toInt := (by rw [hu_QF163, va_up_s]; try rfl)
                          have hqk7_QF163 : (QF163 p0.toNatClampNeg 7).toInt = (0 : Int) := (by rw [hu_QF163, va_up_s]; try rfl)
                          have hqk10_QF163 : (QF163 p0.toNatClampNeg 10).toInt = ((QF_12 p0.toNatClampNeg) 10).toInt := (by rw [hu_QF163, va_up_s]; try rfl)
                          have hqk11_QF163 : (QF163 p0.toNatClampNeg 11).toInt = z159.toInt := (by rw [hu_QF163, va_up_s]; try rfl)
                          have hqk24_QF163 : (QF163 p0.toNatClampNeg 24).toInt = ((QF_12 p0.toNatClampNeg) 24).toInt := (by rw [hu_QF163, va_up_s]; try rfl)
                          have hw : pw D A s.heap _ _ [wd_Mo cs mo mr (fun _ => none) mf_12 md_12 (gMo PG hq), fm 13 (fPr cs hq qr QO162 QF163 QA164), fo 8 (fPg cs PG) j9, wdP cs (PG j9).h (PG j9).r (PG j9).g (PG j9).tf (PG j9).ta (PG j9).pf (PG j9).na (PG j9).ma (PG j9).wa (PG j9).cf (PG j9).ca (PG j9).ef (PG j9).ea (PG j9).xf (PG j9).xa] := hw.sub [0, 3, 1, 2] rfl rfl
                          have hw : pw D A s.heap _ _ [wd_Mo cs mo mr (fun _ => none) mf_12 md_12 (gMo PG hq), fm 13 (fPr cs hq qr QO162 QF163 QA164), fm 8 (fPg cs PG)] := fm_back (pr := [wd_Mo cs mo mr (fun _ => none) mf_12 md_12 (gMo PG hq), fm 13 (fPr cs hq qr QO162 QF163 QA164)]) (T := fPg cs PG) hw hj9
                          exact J241 mf_12 md_12 QO162 QF163 QA164 (R_12 - 1) x12_3 (1 : Int32) _ _ ls (show PrA PG (va_up RR p0.toNatClampNeg (R_12 - 1)) QO162 QF163 QA164 from hpr) (show (mf_12 0).toInt = (mf 0).toInt from by first | exact k12_1 | omega) (show (mf_12 2).toInt = (mf 2).toInt from by first | exact k12_2 | omega) (show (mf_12 3).toInt = (mf 3).toInt from by first | exact k12_3 | omega) (show (mf_12 7).toInt = (mf 7).toInt from by first | exact k12_4 | omega) (show (mf_12 8).toInt = (mf 8).toInt from by first | exact k12_5 | omega) (show (mf_12 10).toInt = (mf 10).toInt from by first | exact k12_6 | omega) (show Md1 md md_12 from hmdq) (show x12_3.toInt = x12_3.toInt from rfl) (show 0 ≤ (1 : Int) from by first | exact oz_19c3a41681 | omega) (show (1 : Int) ≤ 1 from by first | exact oz_f9181dc4bb | omega) (show (R_12 - 1) + (1 : Int) ≤ R_12 from by first | exact oz_9af69b5cb8 | omega) (show (R_12 - 1) ≤ R_12 from by first | exact oz_f81ab12e42 | omega) (show 1 ≤ x12_4.toInt from by first | exact oz_70c2bdf1b6 k12_10 nc5 | omega) hw (lv_sub hl [4, 5, 6, 7, 0] rfl)
                        · exact absurd c161 (by decide)
                  · have nc155 : ¬ v151.toInt = (0 : Int) := mt (i_eq (x := v151) (y := 0)).mpr c155
                    refine lv_aload_n S.x S.b d_Mo_goOn_158 rfl (lv_at hl 3 rfl) ?_
                    have hg2 := hig.elim id (fun q8 => absurd q8.1 (by omega))
                    refine lv_iload_n S.x S.b d_Mo_goOn_159 rfl (lv_at hl 4 rfl) ?_
                    refine lv_iload S.x S.b d_Mo_goOn_160 (lv_at hl 1 rfl) ?_
                    have hw : pw D A s.heap _ _ [wd_Mo cs mo mr (fun _ => none) mf_12 md_12 (gMo PG hq), fo 8 (fPg cs PG) j9, wdP cs (PG j9).h (PG j9).r (PG j9).g (PG j9).tf (PG j9).ta (PG j9).pf (PG j9).na (PG j9).ma (PG j9).wa (PG j9).cf (PG j9).ca (PG j9).ef (PG j9).ea (PG j9).xf (PG j9).xa, fo 13 (fPr cs hq qr QO_12 QF_12 QA_12) p0.toNatClampNeg, wd_Mpr cs (hq p0.toNatClampNeg) (qr p0.toNatClampNeg) (fun k => if k = 0 then (some (PG j9).h) else none) (upd (QF_12 p0.toNatClampNeg) 7 1) (QA_12 p0.toNatClampNeg) (fun _ _ => none)] := hw.sub [0, 2, 3, 1, 4] rfl rfl
                    have hw := fpr_in (pr := [wd_Mo cs mo mr (fun _ => none) mf_12 md_12 (gMo PG hq), fo 8 (fPg cs PG) j9, wdP cs (PG j9).h (PG j9).r (PG j9).g (PG j9).tf (PG j9).ta (PG j9).pf (PG j9).na (PG j9).ma (PG j9).wa (PG j9).cf (PG j9).ca (PG j9).ef (PG j9).ea (PG j9).xf (PG j9).xa]) hw hi24
                    obtain ⟨QO165, hu_QO165⟩ : ∃ y : Nat → Option Nat, y = va_up QO_12 p0.toNatClampNeg ((fun k => if k = 0 then (some (PG j9).h) else none) 0) := ⟨_, rfl⟩
                    obtain ⟨QF166, hu_QF166⟩ : ∃ y : Nat → Nat → Int32, y = va_up QF_12 p0.toNatClampNeg (upd (QF_12 p0.toNatClampNeg) 7 1) := ⟨_, rfl⟩
                    obtain ⟨QA167, hu_QA167⟩ : ∃ y : Nat → Nat → Nat → Int32, y = va_up QA_12 p0.toNatClampNeg (QA_12 p0.toNatClampNeg) := ⟨_, rfl⟩
                    have hw : pw D A s.heap _ _ [wd_Mo cs mo mr (fun _ => none) mf_12 md_12 (gMo PG hq), fo 8 (fPg cs PG) j9, wdP cs (PG j9).h (PG j9).r (PG j9).g (PG j9).tf (PG j9).ta (PG j9).pf (PG j9).na (PG j9).ma (PG j9).wa (PG j9).cf (PG j9).ca (PG j9).ef (PG j9).ea (PG j9).xf (PG j9).xa, fm 13 (fPr cs hq qr QO165 QF166 QA167)] := (by rw [hu_QO165, hu_QF166, hu_QA167]; exact hw)
                    have hpay : PsT (PG j9) R_12 (upd (QF_12 p0.toNatClampNeg) 7 1) (QA_12 p0.toNatClampNeg) := (PsT.pay hpt (show ((QF_12 p0.toNatClampNeg) 5).toInt = (QF_12 p0.toNatClampNeg 5).toInt ∧ ((QF_12 p0.toNatClampNeg) 10).toInt = (QF_12 p0.toNatClampNeg 10).toInt ∧ ((QF_12 p0.toNatClampNeg) 11).toInt = (QF_12 p0.toNatClampNeg 11).toInt ∧ ((QF_12 p0.toNatClampNeg) 12).toInt = (QF_12 p0.toNatClampNeg 12).toInt ∧ ((QF_12 p0.toNatClampNeg) 13).toInt = (QF_12 p0.toNatClampNeg 13).toInt ∧ ((QF_12 p0.toNatClampNeg) 14).toInt = (QF_12 p0.toNatClampNeg 14).toInt ∧ ((QF_12 p0.toNatClampNeg) 24).toInt = (QF_12 p0.toNatClampNeg 24).toInt from by first | exact oz_4b2a01afc9 | omega) (show 0 ≤ ((QF_12 p0.toNatClampNeg) 4).toInt ∧ ((QF_12 p0.toNatClampNeg) 4).toInt ≤ (QF_12 p0.toNatClampNeg 4).toInt from by omega) ho16 (fun q8 => (show ((QF_12 p0.toNatClampNeg) 24).toInt + ((QF_12 p0.toNatClampNeg) 4).toInt ≤ 99 from by rw [hoa] at q8; omega)))
                    have hpr : PrA PG (va_up RR p0.toNatClampNeg R_12) QO165 QF166 QA167 := (by rw [hu_QO165, hu_QF166, hu_QA167]; exact PrA.upR2 hpr hi24 (psr_tx (j := j9) hj9 (show _ = some _ from rfl) h61 (show (0 ≤ ((QF_12 p0.toNatClampNeg) 1).toInt ∧ ((QF_12 p0.toNatClampNeg) 1).toInt ≤ 1) ∧ (0 ≤ ((QF_12 p0.toNatClampNeg) 21).toInt ∧ ((QF_12 p0.toNatClampNeg) 21).toInt ≤ 4) ∧ (0 ≤ ((QF_12 p0.toNatClampNeg) 23).toInt ∧ ((QF_12 p0.toNatClampNeg) 23).toInt ≤ 4) ∧ (0 ≤ ((QF_12 p0.toNatClampNeg) 24).toInt ∧ ((QF_12 p0.toNatClampNeg) 24).toInt ≤ 1000000) ∧ (0 ≤ ((QF_12 p0.toNatClampNeg) 6).toInt ∧ ((QF_12 p0.toNatClampNeg) 6).toInt ≤ 3) ∧ (0 ≤ (1 : Int) ∧ (1 : Int) ≤ 1) from by omega) (show ((QF_12 p0.toNatClampNeg) 1).toInt = 1 from by first | exact oz_e213b53fb9 hg1.1 | omega) (by omega) (fun _ => hpay)) (show ((QF_12 p0.toNatClampNeg) 1).toInt = (QF_12 p0.toNatClampNeg 1).toInt from by first | exact oz_507c05ca68 | omega) (show (QF_12 p0.toNatClampNeg 6).toInt ≤ ((QF_12 p0.toNatClampNeg) 6).toInt from by first | exact oz_1cb5f934a5 | omega))
                    have hqk1_QF166 : (QF166 p0.toNatClampNeg 1).toInt = ((QF_12 p0.toNatClampNeg) 1).toInt := (by rw [hu_QF166, va_up_s]; try rfl)
                    have hqk2_QF166 : (QF166 p0.toNatClampNeg 2).toInt = ((QF_12 p0.toNatClampNeg) 2).toInt := (by rw [hu_QF166, va_up_s]; try rfl)
                    have hqk4_QF166 : (QF166 p0.toNatClampNeg 4).toInt = ((QF_12 p0.toNatClampNeg) 4).toInt := (by rw [hu_QF166, va_up_s]; try rfl)
                    have hqk7_QF166 : (QF166 p0.toNatClampNeg 7).toInt = (1 : Int) := (by rw [hu_QF166, va_up_s]; try rfl)
                    have hqk10_QF166 : (QF166 p0.toNatClampNeg 10).toInt = ((QF_12 p0.toNatClampNeg) 10).toInt := (by rw [hu_QF166, va_up_s]; try rfl)
                    have hqk11_QF166 : (QF166 p0.toNatClampNeg 11).toInt = ((QF_12 p0.toNatClampNeg) 11).toInt := (by rw [hu_QF166, va_up_s]; try rfl)
                    have hqk24_QF166 : (QF166 p0.toNatClampNeg 24).toInt = ((QF_12 p0.toNatClampNeg) 24).toInt := (by rw [hu_QF166, va_up_s]; try rfl)
                    have hqo : OqE (QO165 p0.toNatClampNeg) (PG j9).h := (by rw [hu_QO165, va_up_s]; exact rfl)
                    have hpo8 : (0 ≤ z57.toInt ∧ z57.toInt < 10) ∧ PoT (PG j9) ((va_up RR p0.toNatClampNeg R_12) p0.toNatClampNeg) z57.toInt (QF166 p0.toNatClampNeg) (QA167 p0.toNatClampNeg) := (by rw [va_up_s, hu_QF166, hu_QA167, va_up_s, va_up_s]; exact hpay.owc (by show ((PG j9).ea 61 (3 * ((QF_12 p0.toNatClampNeg) 11).toInt).toNat).toInt = 16; rw [show ((QF_12 p0.toNatClampNeg) 11).toInt = (QF_12 p0.toNatClampNeg 11).toInt by omega]; exact ho16) (by show ((PG j9).ea 61 (3 * ((QF_12 p0.toNatClampNeg) 11).toInt + 1).toNat).toInt = _; rw [show ((QF_12 p0.toNatClampNeg) 11).toInt = (QF_12 p0.toNatClampNeg 11).toInt by omega]; exact hoa) (fun q8 => (show ((QF_12 p0.toNatClampNeg) 24).toInt + ((QF_12 p0.toNatClampNeg) 4).toInt ≤ 99 from by omega)))
                    have hpo81 := hpo8.1
                    have hw : pw D A s.heap _ _ [wd_Mo cs mo mr (fun _ => none) mf_12 md_12 (gMo PG hq), fm 13 (fPr cs hq qr QO165 QF166 QA167), fo 8 (fPg cs PG) j9, wdP cs (PG j9).h (PG j9).r (PG j9).g (PG j9).tf (PG j9).ta (PG j9).pf (PG j9).na (PG j9).ma (PG j9).wa (PG j9).cf (PG j9).ca (PG j9).ef (PG j9).ea (PG j9).xf (PG j9).xa] := hw.sub [0, 3, 1, 2] rfl rfl
                    have hw : pw D A s.heap _ _ [wd_Mo cs mo mr (fun _ => none) mf_12 md_12 (gMo PG hq), fm 13 (fPr cs hq qr QO165 QF166 QA167), fm 8 (fPg cs PG)] := fm_back (pr := [wd_Mo cs mo mr (fun _ => none) mf_12 md_12 (gMo PG hq), fm 13 (fPr cs hq qr QO165 QF166 QA167)]) (T := fPg cs PG) hw hj9
                    refine px_calli (pr := []) (px_runV (As := [.int p0, .int z57]) (rest := []) S (c_mo_ownCall l D cs (va_up RR p0.toNatClampNeg R_12) j9 mo mr mf_12 md_12 hq qr QO165 QF166 QA167 PG p0 z57  (show 0 ≤ p0.toInt from by first | exact g0 | omega) (show p0.toInt < 13 from by first | exact g1 | omega) (show 0 ≤ (mf_12 7).toInt from by first | exact oz_f3ebed1ad0 k12_4 g2 | omega) (show (mf_12 7).toInt ≤ 100 from by first | exact oz_b2552476a0 k12_4 g3 | omega) (show 0 ≤ (mf_12 8).toInt from by first | exact oz_f3ebed1ad0 k12_5 g4 | omega) (show (mf_12 8).toInt ≤ 512 from by first | exact oz_5926d5b85b k12_5 g5 | omega) (show 0 ≤ z57.toInt from by first | exact hpo81.1 | omega) (show z57.toInt < 10 from by first | exact hpo81.2 | omega) (show (QF166 p0.toNatClampNeg 1).toInt = 1 from by first | exact oz_e863b17997 hqk1_QF166 hg1.1 | omega) hpr hpg hpo8.2 _) hT (pr := []) (pcs := [wd_Mo cs mo mr (fun _ => none) mf_12 md_12 (gMo PG hq), fm 13 (fPr cs hq qr QO165 QF166 QA167), fm 8 (fPg cs PG)]) hw px_X.tt (px_recv hT hw 0 0 rfl rfl rfl) m14_106 m14_103 m14_105 ms_16_9 m1_20 q_Mo_ownCall ⟨Nat.le_of_ble_eq_true rfl, Nat.le_of_ble_eq_true rfl⟩ hl.1 rfl (Nat.le_of_ble_eq_true rfl) d_Mo_goOn_162 ⟨Nat.le_of_ble_eq_true rfl, Nat.le_of_ble_eq_true rfl⟩) hw hA (fun v179 p178 H locs hp178 hw => ?_)
                    obtain ⟨mf173, md174, QO175, QF176, QA177, rfl, e180, e181, e182, e183, e184, e185, e186, e187, e188, e189, e190⟩ := hp178
                    have e180 : 0 ≤ v179.toInt := e180
                    have e181 : v179.toInt ≤ 1 := e181
                    have e182 : OwQ v179.toInt (PrA PG (va_up RR p0.toNatClampNeg R_12) QO175 QF176 QA177) (PrX PG (va_up RR p0.toNatClampNeg R_12) QO175 QF176 QA177 p0.toNatClampNeg ∧ PdT (PG j9) ((va_up RR p0.toNatClampNeg R_12) p0.toNatClampNeg) (QF176 p0.toNatClampNeg) (QA177 p0.toNatClampNeg)) := e182
                    have hoq := e182
                    have e183 : KpO QO165 QF166 QO175 QF176 p0.toNatClampNeg := e183
                    have hko := e183
                    have hko2 := hko.2
                    have e184 : (mf173 0).toInt = (mf_12 0).toInt := e184
                    have e185 : (mf173 2).toInt = (mf_12 2).toInt := e185
                    have e186 : (mf173 3).toInt = (mf_12 3).toInt := e186
                    have e187 : (mf173 7).toInt = (mf_12 7).toInt := e187
                    have e188 : (mf173 8).toInt = (mf_12 8).toInt := e188
                    have e189 : (mf173 10).toInt = (mf_12 10).toInt := e189
                    have e190 : Md1 md_12 md174 := e190
                    have hmdq := Md1.tr hmdq e190
                    have hw : pw D A s.heap H locs [wd_Mo cs mo mr (fun _ => none) mf173 md174 (gMo PG hq), fm 13 (fPr cs hq qr QO175 QF176 QA177), fm 8 (fPg cs PG)] := hw
                    have lv179 := Int32.le_toInt v179
                    have uv179 := Int32.toInt_lt v179
                    refine lv_if_eq (tgt := 172) S.x S.b d_Mo_goOn_165 (by decide) (fun c191 => ?_) (fun c191 => ?_)
                    · have nc191 : v179.toInt = (0 : Int) := (i_eq (x := v179) (y := 0)).mp c191
                      refine lv_iconst (v := 0) S.x S.b d_Mo_goOn_172 (by decide) ?_
                      have hpr := hoq.elim (fun q8 => q8.2) (fun q8 => absurd q8.1 (by omega))
                      refine lv_istore (lv' := [(4, .int 0), (7, .int z61), (6, .int z57), (5, .int z53), (0, .ref mo), (1, .int p0), (2, .ref (hq p0.toNatClampNeg)), (3, .int x12_3)]) S.x S.b d_Mo_goOn_173 hl (by decide) rfl (fun ls hl => ?_)
                      refine lv_aload_n S.x S.b d_Mo_goOn_175 rfl (lv_at hl 6 rfl) ?_
                      refine lv_iload S.x S.b d_Mo_goOn_176 (lv_at hl 0 rfl) ?_
                      refine lv_if_eq (tgt := 190) S.x S.b d_Mo_goOn_178 (by decide) (fun c193 => ?_) (fun c193 => ?_)
                      ·
                        refine lv_aload_n S.x S.b d_Mo_goOn_190 rfl (lv_at hl 6 rfl) ?_
                        have hw : pw D A s.heap _ _ [wd_Mo cs mo mr (fun _ => none) mf173 md174 (gMo PG hq), fm 8 (fPg cs PG), fm 13 (fPr cs hq qr QO175 QF176 QA177)] := hw.sub [0, 2, 1] rfl rfl
                        have hc194 := cl_nat (x := p0) (by first | exact g0 | omega)
                        have hi194 : p0.toNatClampNeg < 13 := by first | exact hi24 | omega
                        have hw : pw D A s.heap _ _ [wd_Mo cs mo mr (fun _ => none) mf173 md174 (gMo PG hq), fm 8 (fPg cs PG), fo 13 (fPr cs hq qr QO175 QF176 QA177) p0.toNatClampNeg, wd_Mpr cs (hq p0.toNatClampNeg) (qr p0.toNatClampNeg) (fun _ => QO175 p0.toNatClampNeg) (QF176 p0.toNatClampNeg) (QA177 p0.toNatClampNeg) (fun _ _ => none)] := fm_out (pr := [wd_Mo cs mo mr (fun _ => none) mf173 md174 (gMo PG hq), fm 8 (fPg cs PG)]) (T := fPr cs hq qr QO175 QF176 QA177) hw hi194
                        have hps194 := hpr.1 p0.toNatClampNeg hi194
                        have hpb194 := hps194.1
                        unfold PsB at hpb194
                        refine px_get S k_Mpr hT hw 3 0 11 (v := .int ((QF176 p0.toNatClampNeg) 11)) rfl rfl rfl (by decide) m11_3 d_Mo_goOn_191 ?_
                        refine px_put S k_Mpr hT hw 3 0 11 rfl rfl (by decide) m11_3 rfl rfl rfl (Nat.le_of_ble_eq_true rfl) d_Mo_goOn_194 (w' := wd_Mpr cs (hq p0.toNatClampNeg) (qr p0.toNatClampNeg) (fun _ => QO175 p0.toNatClampNeg) (upd (QF176 p0.toNatClampNeg) 11 ((QF176 p0.toNatClampNeg) 11)) (QA177 p0.toNatClampNeg) (fun _ _ => none)) (ps' := [wd_Mo cs mo mr (fun _ => none) mf173 md174 (gMo PG hq), fm 8 (fPg cs PG), fo 13 (fPr cs hq qr QO175 QF176 QA177) p0.toNatClampNeg, wd_Mpr cs (hq p0.toNatClampNeg) (qr p0.toNatClampNeg) (fun _ => QO175 p0.toNatClampNeg) (upd (QF176 p0.toNatClampNeg) 11 ((QF176 p0.toNatClampNeg) 11)) (QA177 p0.toNatClampNeg) (fun _ _ => none)]) rfl rfl (fun H locs hw => ?_)
                        refine lv_aload_n S.x S.b d_Mo_goOn_197 rfl (lv_at hl 6 rfl) ?_
                        refine lv_aload_n S.x S.b d_Mo_goOn_198 rfl (lv_at hl 6 rfl) ?_
                        refine px_get S k_Mpr hT hw 3 0 7 (v := .int ((QF176 p0.toNatClampNeg) 7)) rfl rfl rfl (by decide) m10_235 d_Mo_goOn_199 ?_
                        refine lv_if_eq (tgt := 214) S.x S.b d_Mo_goOn_202 (by decide) (fun c195 => ?_) (fun c195 => ?_)
                        · have nc195 : ((QF176 p0.toNatClampNeg) 7).toInt = (0 : Int) := (i_eq (x := ((QF176 p0.toNatClampNeg) 7)) (y := 0)).mp c195
                          exfalso
                          omega
                        · have nc195 : ¬ ((QF176 p0.toNatClampNeg) 7).toInt = (0 : Int) := mt (i_eq (x := ((QF176 p0.toNatClampNeg) 7)) (y := 0)).mpr c195
                          refine lv_iload S.x S.b d_Mo_goOn_205 (lv_at hl 0 rfl) ?_
                          refine lv_if_ne (tgt := 214) S.x S.b d_Mo_goOn_207 (by decide) (fun c197 => ?_) (fun c197 => ?_)
                          · exact absurd c197 (by decide)
                          ·
                            refine lv_iconst (v := 1) S.x S.b d_Mo_goOn_210 (by decide) ?_
                            refine lv_goto (tgt := 215) S.x S.b d_Mo_goOn_211 (by decide) ?_
                            refine px_put S k_Mpr hT hw 3 0 7 rfl rfl (by decide) m10_235 rfl rfl rfl (Nat.le_of_ble_eq_true rfl) d_Mo_goOn_215 (w' := wd_Mpr cs (hq p0.toNatClampNeg) (qr p0.toNatClampNeg) (fun _ => QO175 p0.toNatClampNeg) (upd (upd (QF176 p0.toNatClampNeg) 7 1) 11 ((QF176 p0.toNatClampNeg) 11)) (QA177 p0.toNatClampNeg) (fun _ _ => none)) (ps' := [wd_Mo cs mo mr (fun _ => none) mf173 md174 (gMo PG hq), fm 8 (fPg cs PG), fo 13 (fPr cs hq qr QO175 QF176 QA177) p0.toNatClampNeg, wd_Mpr cs (hq p0.toNatClampNeg) (qr p0.toNatClampNeg) (fun _ => QO175 p0.toNatClampNeg) (upd (upd (QF176 p0.toNatClampNeg) 7 1) 11 ((QF176 p0.toNatClampNeg) 11)) (QA177 p0.toNatClampNeg) (fun _ _ => none)]) rfl rfl (fun H locs hw => ?_)
                            refine lv_goto (tgt := 241) S.x S.b d_Mo_goOn_218 (by decide) ?_
                            have hw := fpr_in (pr := [wd_Mo cs mo mr (fun _ => none) mf173 md174 (gMo PG hq), fm 8 (fPg cs PG)]) hw hi194
                            obtain ⟨QO198, hu_QO198⟩ : ∃ y : Nat → Option Nat, y = va_up QO175 p0.toNatClampNeg ((fun _ => QO175 p0.toNatClampNeg) 0) := ⟨_, rfl⟩
                            obtain ⟨QF199, hu_QF199⟩ : ∃ y : Nat → Nat → Int32, y = va_up QF176 p0.toNatClampNeg (upd (upd (QF176 p0.toNatClampNeg) 7 1) 11 ((QF176 p0.toNatClampNeg) 11)) := ⟨_, rfl⟩
                            obtain ⟨QA200, hu_QA200⟩ : ∃ y : Nat → Nat → Nat → Int32, y = va_up QA177 p0.toNatClampNeg (QA177 p0.toNatClampNeg) := ⟨_, rfl⟩
                            have hw : pw D A s.heap _ _ [wd_Mo cs mo mr (fun _ => none) mf173 md174 (gMo PG hq), fm 8 (fPg cs PG), fm 13 (fPr cs hq qr QO198 QF199 QA200)] := (by rw [hu_QO198, hu_QF199, hu_QA200]; exact hw)
                            have hpr : PrA PG (va_up RR p0.toNatClampNeg R_12) QO198 QF199 QA200 := (by rw [hu_QO198, hu_QF199, hu_QA200]; exact PrA.upR2 hpr hi194 (PsR.kf (by have q8 := hps194; rw [va_up_s] at q8; exact q8) (show (0 ≤ ((QF176 p0.toNatClampNeg) 1).toInt ∧ ((QF176 p0.toNatClampNeg) 1).toInt ≤ 1) ∧ (0 ≤ ((QF176 p0.toNatClampNeg) 21).toInt ∧ ((QF176 p0.toNatClampNeg) 21).toInt ≤ 4) ∧ (0 ≤ ((QF176 p0.toNatClampNeg) 23).toInt ∧ ((QF176 p0.toNatClampNeg) 23).toInt ≤ 4) ∧ (0 ≤ ((QF176 p0.toNatClampNeg) 24).toInt ∧ ((QF176 p0.toNatClampNeg) 24).toInt ≤ 1000000) ∧ (0 ≤ ((QF176 p0.toNatClampNeg) 6).toInt ∧ ((QF176 p0.toNatClampNeg) 6).toInt ≤ 3) ∧ (0 ≤ (1 : Int) ∧ (1 : Int) ≤ 1) from by omega) (show (((QF176 p0.toNatClampNeg) 1).toInt = (QF176 p0.toNatClampNeg 1).toInt ∧ ((QF176 p0.toNatClampNeg) 4).toInt = (QF176 p0.toNatClampNeg 4).toInt ∧ ((QF176 p0.toNatClampNeg) 5).toInt = (QF176 p0.toNatClampNeg 5).toInt ∧ (1 : Int) = (QF176 p0.toNatClampNeg 7).toInt ∧ ((QF176 p0.toNatClampNeg) 10).toInt = (QF176 p0.toNatClampNeg 10).toInt ∧ ((QF176 p0.toNatClampNeg) 11).toInt = (QF176 p0.toNatClampNeg 11).toInt) ∧ ((QF176 p0.toNatClampNeg) 12).toInt = (QF176 p0.toNatClampNeg 12).toInt ∧ ((QF176 p0.toNatClampNeg) 13).toInt = (QF176 p0.toNatClampNeg 13).toInt ∧ ((QF176 p0.toNatClampNeg) 14).toInt = (QF176 p0.toNatClampNeg 14).toInt ∧ ((QF176 p0.toNatClampNeg) 24).toInt = (QF176 p0.toNatClampNeg 24).toInt from by omega) (show ((QF176 p0.toNatClampNeg) 2).toInt = (QF176 p0.toNatClampNeg 2).toInt from by first | exact oz_507c05ca68 | omega)) (show ((QF176 p0.toNatClampNeg) 1).toInt = (QF176 p0.toNatClampNeg 1).toInt from by first | exact oz_507c05ca68 | omega) (show (QF176 p0.toNatClampNeg 6).toInt ≤ ((QF176 p0.toNatClampNeg) 6).toInt from by first | exact oz_1cb5f934a5 | omega))
                            have hqk1_QF199 : (QF199 p0.toNatClampNeg 1).toInt = ((QF176 p0.toNatClampNeg) 1).toInt := (by rw [hu_QF199, va_up_s]; try rfl)
                            have hqk2_QF199 : (QF199 p0.toNatClampNeg 2).toInt = ((QF176 p0.toNatClampNeg) 2).toInt := (by rw [hu_QF199, va_up_s]; try rfl)
                            have hqk4_QF199 : (QF199 p0.toNatClampNeg 4).toInt = ((QF176 p0.toNatClampNeg) 4).toInt := (by rw [hu_QF199, va_up_s]; try rfl)
                            have hqk7_QF199 : (QF199 p0.toNatClampNeg 7).toInt = (1 : Int) := (by rw [hu_QF199, va_up_s]; try rfl)
                            have hqk10_QF199 : (QF199 p0.toNatClampNeg 10).toInt = ((QF176 p0.toNatClampNeg) 10).toInt := (by rw [hu_QF199, va_up_s]; try rfl)
                            have hqk11_QF199 : (QF199 p0.toNatClampNeg 11).toInt = ((QF176 p0.toNatClampNeg) 11).toInt := (by rw [hu_QF199, va_up_s]; try rfl)
                            have hqk24_QF199 : (QF199 p0.toNatClampNeg 24).toInt = ((QF176 p0.toNatClampNeg) 24).toInt := (by rw [hu_QF199, va_up_s]; try rfl)
                            have hw : pw D A s.heap _ _ [wd_Mo cs mo mr (fun _ => none) mf173 md174 (gMo PG hq), fm 13 (fPr cs hq qr QO198 QF199 QA200), fm 8 (fPg cs PG)] := hw.sub [0, 2, 1] rfl rfl
                            exact J241 mf173 md174 QO198 QF199 QA200 R_12 x12_3 (0 : Int32) _ _ ls (show PrA PG (va_up RR p0.toNatClampNeg R_12) QO198 QF199 QA200 from hpr) (show (mf173 0).toInt = (mf 0).toInt from by first | exact oz_1687f4cc65 k12_1 e184 | omega) (show (mf173 2).toInt = (mf 2).toInt from by first | exact oz_1687f4cc65 k12_2 e185 | omega) (show (mf173 3).toInt = (mf 3).toInt from by first | exact oz_1687f4cc65 k12_3 e186 | omega) (show (mf173 7).toInt = (mf 7).toInt from by first | exact oz_1687f4cc65 k12_4 e187 | omega) (show (mf173 8).toInt = (mf 8).toInt from by first | exact oz_1687f4cc65 k12_5 e188 | omega) (show (mf173 10).toInt = (mf 10).toInt from by first | exact oz_1687f4cc65 k12_6 e189 | omega) (show Md1 md md174 from hmdq) (show x12_3.toInt = x12_3.toInt from rfl) (show 0 ≤ (0 : Int) from by first | exact oz_5a341f00aa | omega) (show (0 : Int) ≤ 1 from by first | exact oz_6e68cd0f48 | omega) (show R_12 + (0 : Int) ≤ R_12 from by first | exact oz_9a4b2c0a69 | omega) (show R_12 ≤ R_12 from by first | exact oz_1cb5f934a5 | omega) (show 1 ≤ x12_4.toInt from by first | exact oz_70c2bdf1b6 k12_10 nc5 | omega) hw (lv_sub hl [4, 5, 6, 7, 0] rfl)
                      · exact absurd c193 (by decide)
                    · have nc191 : ¬ v179.toInt = (0 : Int) := mt (i_eq (x := v179) (y := 0)).mpr c191
                      refine lv_iconst (v := 1) S.x S.b d_Mo_goOn_168 (by decide) ?_
                      obtain ⟨hpx, hpd⟩ := hoq.elim (fun q8 => absurd q8.1 (by omega)) (fun q8 => q8.2)
                      refine lv_goto (tgt := 173) S.x S.b d_Mo_goOn_169 (by decide) ?_
                      refine lv_istore (lv' := [(4, .int 1), (7, .int z61), (6, .int z57), (5, .int z53), (0, .ref mo), (1, .int p0), (2, .ref (hq p0.toNatClampNeg)), (3, .int x12_3)]) S.x S.b d_Mo_goOn_173 hl (by decide) rfl (fun ls hl => ?_)
                      refine lv_aload_n S.x S.b d_Mo_goOn_175 rfl (lv_at hl 6 rfl) ?_
                      refine lv_iload S.x S.b d_Mo_goOn_176 (lv_at hl 0 rfl) ?_
                      refine lv_if_eq (tgt := 190) S.x S.b d_Mo_goOn_178 (by decide) (fun c201 => ?_) (fun c201 => ?_)
                      · exact absurd c201 (by decide)
                      ·
                        refine lv_aload_n S.x S.b d_Mo_goOn_181 rfl (lv_at hl 6 rfl) ?_
                        have hw : pw D A s.heap _ _ [wd_Mo cs mo mr (fun _ => none) mf173 md174 (gMo PG hq), fm 8 (fPg cs PG), fm 13 (fPr cs hq qr QO175 QF176 QA177)] := hw.sub [0, 2, 1] rfl rfl
                        have hc202 := cl_nat (x := p0) (by first | exact g0 | omega)
                        have hi202 : p0.toNatClampNeg < 13 := by first | exact hi24 | omega
                        have hw : pw D A s.heap _ _ [wd_Mo cs mo mr (fun _ => none) mf173 md174 (gMo PG hq), fm 8 (fPg cs PG), fo 13 (fPr cs hq qr QO175 QF176 QA177) p0.toNatClampNeg, wd_Mpr cs (hq p0.toNatClampNeg) (qr p0.toNatClampNeg) (fun _ => QO175 p0.toNatClampNeg) (QF176 p0.toNatClampNeg) (QA177 p0.toNatClampNeg) (fun _ _ => none)] := fm_out (pr := [wd_Mo cs mo mr (fun _ => none) mf173 md174 (gMo PG hq), fm 8 (fPg cs PG)]) (T := fPr cs hq qr QO175 QF176 QA177) hw hi202
                        have hpb202 := hpx.2.2
                        unfold PsB at hpb202
                        refine px_get S k_Mpr hT hw 3 0 11 (v := .int ((QF176 p0.toNatClampNeg) 11)) rfl rfl rfl (by decide) m11_3 d_Mo_goOn_182 ?_
                        refine lv_iconst (v := 1) S.x S.b d_Mo_goOn_185 (by decide) ?_
                        refine lv_iadd S.x S.b d_Mo_goOn_186 ?_
                        have lr203 := Int32.le_toInt ((QF176 p0.toNatClampNeg) 11)
                        have ur203 := Int32.toInt_lt ((QF176 p0.toNatClampNeg) 11)
                        refine lv_topi (fun z204 ez204 => ?_)
                        have tz204 : z204.toInt = (((QF176 p0.toNatClampNeg) 11).toInt + (1 : Int) + 2147483648) % 4294967296 - 2147483648 := by rw [ez204]; exact i_add ((QF176 p0.toNatClampNeg) 11) 1
                        have lz204 := Int32.le_toInt z204
                        have uz204 := Int32.toInt_lt z204
                        try replace tz204 : z204.toInt = ((QF176 p0.toNatClampNeg) 11).toInt + (1 : Int) := by omega
                        refine lv_goto (tgt := 194) S.x S.b d_Mo_goOn_187 (by decide) ?_
                        refine px_put S k_Mpr hT hw 3 0 11 rfl rfl (by decide) m11_3 rfl rfl rfl (Nat.le_of_ble_eq_true rfl) d_Mo_goOn_194 (w' := wd_Mpr cs (hq p0.toNatClampNeg) (qr p0.toNatClampNeg) (fun _ => QO175 p0.toNatClampNeg) (upd (QF176 p0.toNatClampNeg) 11 z204) (QA177 p0.toNatClampNeg) (fun _ _ => none)) (ps' := [wd_Mo cs mo mr (fun _ => none) mf173 md174 (gMo PG hq), fm 8 (fPg cs PG), fo 13 (fPr cs hq qr QO175 QF176 QA177) p0.toNatClampNeg, wd_Mpr cs (hq p0.toNatClampNeg) (qr p0.toNatClampNeg) (fun _ => QO175 p0.toNatClampNeg) (upd (QF176 p0.toNatClampNeg) 11 z204) (QA177 p0.toNatClampNeg) (fun _ _ => none)]) rfl rfl (fun H locs hw => ?_)
                        refine lv_aload_n S.x S.b d_Mo_goOn_197 rfl (lv_at hl 6 rfl) ?_
                        refine lv_aload_n S.x S.b d_Mo_goOn_198 rfl (lv_at hl 6 rfl) ?_
                        refine px_get S k_Mpr hT hw 3 0 7 (v := .int ((QF176 p0.toNatClampNeg) 7)) rfl rfl rfl (by decide) m10_235 d_Mo_goOn_199 ?_
                        refine lv_if_eq (tgt := 214) S.x S.b d_Mo_goOn_202 (by decide) (fun c205 => ?_) (fun c205 => ?_)
                        · have nc205 : ((QF176 p0.toNatClampNeg) 7).toInt = (0 : Int) := (i_eq (x := ((QF176 p0.toNatClampNeg) 7)) (y := 0)).mp c205
                          refine lv_iconst (v := 0) S.x S.b d_Mo_goOn_214 (by decide) ?_
                          refine px_put S k_Mpr hT hw 3 0 7 rfl rfl (by decide) m10_235 rfl rfl rfl (Nat.le_of_ble_eq_true rfl) d_Mo_goOn_215 (w' := wd_Mpr cs (hq p0.toNatClampNeg) (qr p0.toNatClampNeg) (fun _ => QO175 p0.toNatClampNeg) (upd (upd (QF176 p0.toNatClampNeg) 7 0) 11 z204) (QA177 p0.toNatClampNeg) (fun _ _ => none)) (ps' := [wd_Mo cs mo mr (fun _ => none) mf173 md174 (gMo PG hq), fm 8 (fPg cs PG), fo 13 (fPr cs hq qr QO175 QF176 QA177) p0.toNatClampNeg, wd_Mpr cs (hq p0.toNatClampNeg) (qr p0.toNatClampNeg) (fun _ => QO175 p0.toNatClampNeg) (upd (upd (QF176 p0.toNatClampNeg) 7 0) 11 z204) (QA177 p0.toNatClampNeg) (fun _ _ => none)]) rfl rfl (fun H locs hw => ?_)
                          refine lv_goto (tgt := 241) S.x S.b d_Mo_goOn_218 (by decide) ?_
                          have hw := fpr_in (pr := [wd_Mo cs mo mr (fun _ => none) mf173 md174 (gMo PG hq), fm 8 (fPg cs PG)]) hw hi202
                          obtain ⟨QO207, hu_QO207⟩ : ∃ y : Nat → Option Nat, y = va_up QO175 p0.toNatClampNeg ((fun _ => QO175 p0.toNatClampNeg) 0) := ⟨_, rfl⟩
                          obtain ⟨QF208, hu_QF208⟩ : ∃ y : Nat → Nat → Int32, y = va_up QF176 p0.toNatClampNeg (upd (upd (QF176 p0.toNatClampNeg) 7 0) 11 z204) := ⟨_, rfl⟩
                          obtain ⟨QA209, hu_QA209⟩ : ∃ y : Nat → Nat → Nat → Int32, y = va_up QA177 p0.toNatClampNeg (QA177 p0.toNatClampNeg) := ⟨_, rfl⟩
                          have hw : pw D A s.heap _ _ [wd_Mo cs mo mr (fun _ => none) mf173 md174 (gMo PG hq), fm 8 (fPg cs PG), fm 13 (fPr cs hq qr QO207 QF208 QA209)] := (by rw [hu_QO207, hu_QF208, hu_QA209]; exact hw)
                          have hpr : PrA PG (va_up RR p0.toNatClampNeg (R_12 - 1)) QO207 QF208 QA209 := (by rw [hu_QO207, hu_QF208, hu_QA209]; exact PrX.inR hpx (psr_tx (j := j9) hj9 (hko.1.trans hqo) h61 (show (0 ≤ ((QF176 p0.toNatClampNeg) 1).toInt ∧ ((QF176 p0.toNatClampNeg) 1).toInt ≤ 1) ∧ (0 ≤ ((QF176 p0.toNatClampNeg) 21).toInt ∧ ((QF176 p0.toNatClampNeg) 21).toInt ≤ 4) ∧ (0 ≤ ((QF176 p0.toNatClampNeg) 23).toInt ∧ ((QF176 p0.toNatClampNeg) 23).toInt ≤ 4) ∧ (0 ≤ ((QF176 p0.toNatClampNeg) 24).toInt ∧ ((QF176 p0.toNatClampNeg) 24).toInt ≤ 1000000) ∧ (0 ≤ ((QF176 p0.toNatClampNeg) 6).toInt ∧ ((QF176 p0.toNatClampNeg) 6).toInt ≤ 3) ∧ (0 ≤ (0 : Int) ∧ (0 : Int) ≤ 1) from by omega) (show ((QF176 p0.toNatClampNeg) 1).toInt = 1 from by first | exact oz_d145a98bf1 hko2.1 hqk1_QF166 hg1.1 | omega) (by omega) (fun _ => by have q8 := hpd; rw [va_up_s] at q8; exact PdT.nx q8 (show ((QF176 p0.toNatClampNeg) 4).toInt = (QF176 p0.toNatClampNeg 4).toInt ∧ ((QF176 p0.toNatClampNeg) 5).toInt = (QF176 p0.toNatClampNeg 5).toInt ∧ ((QF176 p0.toNatClampNeg) 10).toInt = (QF176 p0.toNatClampNeg 10).toInt ∧ ((QF176 p0.toNatClampNeg) 12).toInt = (QF176 p0.toNatClampNeg 12).toInt ∧ ((QF176 p0.toNatClampNeg) 13).toInt = (QF176 p0.toNatClampNeg 13).toInt ∧ ((QF176 p0.toNatClampNeg) 14).toInt = (QF176 p0.toNatClampNeg 14).toInt from by first | exact oz_28eebd5525 | omega) (show z204.toInt = (QF176 p0.toNatClampNeg 11).toInt + 1 from by first | exact oz_037caa6b79 tz204 | omega) (show ((QF176 p0.toNatClampNeg) 24).toInt = (QF176 p0.toNatClampNeg 24).toInt from by first | exact oz_507c05ca68 | omega) (show (0 : Int) = 0 from by first | exact oz_7d1a308c7e | omega))) (show ((QF176 p0.toNatClampNeg) 1).toInt = (QF176 p0.toNatClampNeg 1).toInt from by first | exact oz_507c05ca68 | omega) (show (QF176 p0.toNatClampNeg 6).toInt ≤ ((QF176 p0.toNatClampNeg) 6).toInt from by first | exact oz_1cb5f934a5 | omega))
                          have hw : pw D A s.heap _ _ [wd_Mo cs mo mr (fun _ => none) mf173 md174 (gMo PG hq), fm 13 (fPr cs hq qr QO207 QF208 QA209), fm 8 (fPg cs PG)] := hw.sub [0, 2, 1] rfl rfl
                          exact J241 mf173 md174 QO207 QF208 QA209 (R_12 - 1) x12_3 (1 : Int32) _ _ ls (show PrA PG (va_up RR p0.toNatClampNeg (R_12 - 1)) QO207 QF208 QA209 from hpr) (show (mf173 0).toInt = (mf 0).toInt from by first | exact oz_1687f4cc65 k12_1 e184 | omega) (show (mf173 2).toInt = (mf 2).toInt from by first | exact oz_1687f4cc65 k12_2 e185 | omega) (show (mf173 3).toInt = (mf 3).toInt from by first | exact oz_1687f4cc65 k12_3 e186 | omega) (show (mf173 7).toInt = (mf 7).toInt from by first | exact oz_1687f4cc65 k12_4 e187 | omega) (show (mf173 8).toInt = (mf 8).toInt from by first | exact oz_1687f4cc65 k12_5 e188 | omega) (show (mf173 10).toInt = (mf 10).toInt from by first | exact oz_1687f4cc65 k12_6 e189 | omega) (show Md1 md md174 from hmdq) (show x12_3.toInt = x12_3.toInt from rfl) (show 0 ≤ (1 : Int) from by first | exact oz_19c3a41681 | omega) (show (1 : Int) ≤ 1 from by first | exact oz_f9181dc4bb | omega) (show (R_12 - 1) + (1 : Int) ≤ R_12 from by first | exact oz_9af69b5cb8 | omega) (show (R_12 - 1) ≤ R_12 from by first | exact oz_f81ab12e42 | omega) (show 1 ≤ x12_4.toInt from by first | exact oz_70c2bdf1b6 k12_10 nc5 | omega) hw (lv_sub hl [4, 5, 6, 7, 0] rfl)
                        · have nc205 : ¬ ((QF176 p0.toNatClampNeg) 7).toInt = (0 : Int) := mt (i_eq (x := ((QF176 p0.toNatClampNeg) 7)) (y := 0)).mpr c205
                          refine lv_iload S.x S.b d_Mo_goOn_205 (lv_at hl 0 rfl) ?_
                          refine lv_if_ne (tgt := 214) S.x S.b d_Mo_goOn_207 (by decide) (fun c210 => ?_) (fun c210 => ?_)
                          ·
                            refine lv_iconst (v := 0) S.x S.b d_Mo_goOn_214 (by decide) ?_
                            refine px_put S k_Mpr hT hw 3 0 7 rfl rfl (by decide) m10_235 rfl rfl rfl (Nat.le_of_ble_eq_true rfl) d_Mo_goOn_215 (w' := wd_Mpr cs (hq p0.toNatClampNeg) (qr p0.toNatClampNeg) (fun _ => QO175 p0.toNatClampNeg) (upd (upd (QF176 p0.toNatClampNeg) 7 0) 11 z204) (QA177 p0.toNatClampNeg) (fun _ _ => none)) (ps' := [wd_Mo cs mo mr (fun _ => none) mf173 md174 (gMo PG hq), fm 8 (fPg cs PG), fo 13 (fPr cs hq qr QO175 QF176 QA177) p0.toNatClampNeg, wd_Mpr cs (hq p0.toNatClampNeg) (qr p0.toNatClampNeg) (fun _ => QO175 p0.toNatClampNeg) (upd (upd (QF176 p0.toNatClampNeg) 7 0) 11 z204) (QA177 p0.toNatClampNeg) (fun _ _ => none)]) rfl rfl (fun H locs hw => ?_)
                            refine lv_goto (tgt := 241) S.x S.b d_Mo_goOn_218 (by decide) ?_
                            have hw := fpr_in (pr := [wd_Mo cs mo mr (fun _ => none) mf173 md174 (gMo PG hq), fm 8 (fPg cs PG)]) hw hi202
                            obtain ⟨QO211, hu_QO211⟩ : ∃ y : Nat → Option Nat, y = va_up QO175 p0.toNatClampNeg ((fun _ => QO175 p0.toNatClampNeg) 0) := ⟨_, rfl⟩
                            obtain ⟨QF212, hu_QF212⟩ : ∃ y : Nat → Nat → Int32, y = va_up QF176 p0.toNatClampNeg (upd (upd (QF176 p0.toNatClampNeg) 7 0) 11 z204) := ⟨_, rfl⟩
                            obtain ⟨QA213, hu_QA213⟩ : ∃ y : Nat → Nat → Nat → Int32, y = va_up QA177 p0.toNatClampNeg (QA177 p0.toNatClampNeg) := ⟨_, rfl⟩
                            have hw : pw D A s.heap _ _ [wd_Mo cs mo mr (fun _ => none) mf173 md174 (gMo PG hq), fm 8 (fPg cs PG), fm 13 (fPr cs hq qr QO211 QF212 QA213)] := (by rw [hu_QO211, hu_QF212, hu_QA213]; exact hw)
                            have hpr : PrA PG (va_up RR p0.toNatClampNeg (R_12 - 1)) QO211 QF212 QA213 := (by rw [hu_QO211, hu_QF212, hu_QA213]; exact PrX.inR hpx (psr_tx (j := j9) hj9 (hko.1.trans hqo) h61 (show (0 ≤ ((QF176 p0.toNatClampNeg) 1).toInt ∧ ((QF176 p0.toNatClampNeg) 1).toInt ≤ 1) ∧ (0 ≤ ((QF176 p0.toNatClampNeg) 21).toInt ∧ ((QF176 p0.toNatClampNeg) 21).toInt ≤ 4) ∧ (0 ≤ ((QF176 p0.toNatClampNeg) 23).toInt ∧ ((QF176 p0.toNatClampNeg) 23).toInt ≤ 4) ∧ (0 ≤ ((QF176 p0.toNatClampNeg) 24).toInt ∧ ((QF176 p0.toNatClampNeg) 24).toInt ≤ 1000000) ∧ (0 ≤ ((QF176 p0.toNatClampNeg) 6).toInt ∧ ((QF176 p0.toNatClampNeg) 6).toInt ≤ 3) ∧ (0 ≤ (0 : Int) ∧ (0 : Int) ≤ 1) from by omega) (show ((QF176 p0.toNatClampNeg) 1).toInt = 1 from by first | exact oz_d145a98bf1 hko2.1 hqk1_QF166 hg1.1 | omega) (by omega) (fun _ => by have q8 := hpd; rw [va_up_s] at q8; exact PdT.nx q8 (show ((QF176 p0.toNatClampNeg) 4).toInt = (QF176 p0.toNatClampNeg 4).toInt ∧ ((QF176 p0.toNatClampNeg) 5).toInt = (QF176 p0.toNatClampNeg 5).toInt ∧ ((QF176 p0.toNatClampNeg) 10).toInt = (QF176 p0.toNatClampNeg 10).toInt ∧ ((QF176 p0.toNatClampNeg) 12).toInt = (QF176 p0.toNatClampNeg 12).toInt ∧ ((QF176 p0.toNatClampNeg) 13).toInt = (QF176 p0.toNatClampNeg 13).toInt ∧ ((QF176 p0.toNatClampNeg) 14).toInt = (QF176 p0.toNatClampNeg 14).toInt from by first | exact oz_28eebd5525 | omega) (show z204.toInt = (QF176 p0.toNatClampNeg 11).toInt + 1 from by first | exact oz_037caa6b79 tz204 | omega) (show ((QF176 p0.toNatClampNeg) 24).toInt = (QF176 p0.toNatClampNeg 24).toInt from by first | exact oz_507c05ca68 | omega) (show (0 : Int) = 0 from by first | exact oz_7d1a308c7e | omega))) (show ((QF176 p0.toNatClampNeg) 1).toInt = (QF176 p0.toNatClampNeg 1).toInt from by first | exact oz_507c05ca68 | omega) (show (QF176 p0.toNatClampNeg 6).toInt ≤ ((QF176 p0.toNatClampNeg) 6).toInt from by first | exact oz_1cb5f934a5 | omega))
                            have hw : pw D A s.heap _ _ [wd_Mo cs mo mr (fun _ => none) mf173 md174 (gMo PG hq), fm 13 (fPr cs hq qr QO211 QF212 QA213), fm 8 (fPg cs PG)] := hw.sub [0, 2, 1] rfl rfl
                            exact J241 mf173 md174 QO211 QF212 QA213 (R_12 - 1) x12_3 (1 : Int32) _ _ ls (show PrA PG (va_up RR p0.toNatClampNeg (R_12 - 1)) QO211 QF212 QA213 from hpr) (show (mf173 0).toInt = (mf 0).toInt from by first | exact oz_1687f4cc65 k12_1 e184 | omega) (show (mf173 2).toInt = (mf 2).toInt from by first | exact oz_1687f4cc65 k12_2 e185 | omega) (show (mf173 3).toInt = (mf 3).toInt from by first | exact oz_1687f4cc65 k12_3 e186 | omega) (show (mf173 7).toInt = (mf 7).toInt from by first | exact oz_1687f4cc65 k12_4 e187 | omega) (show (mf173 8).toInt = (mf 8).toInt from by first | exact oz_1687f4cc65 k12_5 e188 | omega) (show (mf173 10).toInt = (mf 10).toInt from by first | exact oz_1687f4cc65 k12_6 e189 | omega) (show Md1 md md174 from hmdq) (show x12_3.toInt = x12_3.toInt from rfl) (show 0 ≤ (1 : Int) from by first | exact oz_19c3a41681 | omega) (show (1 : Int) ≤ 1 from by first | exact oz_f9181dc4bb | omega) (show (R_12 - 1) + (1 : Int) ≤ R_12 from by first | exact oz_9af69b5cb8 | omega) (show (R_12 - 1) ≤ R_12 from by first | exact oz_f81ab12e42 | omega) (show 1 ≤ x12_4.toInt from by first | exact oz_70c2bdf1b6 k12_10 nc5 | omega) hw (lv_sub hl [4, 5, 6, 7, 0] rfl)
                          · exact absurd c210 (by decide)
                · have nc148 : ¬ z57.toInt = (0 : Int) := mt (i_eq (x := z57) (y := 0)).mpr c148
                  refine lv_aload_n S.x S.b d_Mo_goOn_136 rfl (lv_at hl 5 rfl) ?_
                  have hw : pw D A s.heap _ _ [wd_Mo cs mo mr (fun _ => none) mf_12 md_12 (gMo PG hq), fo 13 (fPr cs hq qr QO_12 QF_12 QA_12) p0.toNatClampNeg, fo 8 (fPg cs PG) j9, wd_Mpr cs (hq p0.toNatClampNeg) (qr p0.toNatClampNeg) (fun k => if k = 0 then (some (PG j9).h) else none) (QF_12 p0.toNatClampNeg) (QA_12 p0.toNatClampNeg) (fun _ _ => none), wdP cs (PG j9).h (PG j9).r (PG j9).g (PG j9).tf (PG j9).ta (PG j9).pf (PG j9).na (PG j9).ma (PG j9).wa (PG j9).cf (PG j9).ca (PG j9).ef (PG j9).ea (PG j9).xf (PG j9).xa] := hw.sub [0, 1, 3, 2, 4] rfl rfl
                  refine px_calli (pr := [wd_Mo cs mo mr (fun _ => none) mf_12 md_12 (gMo PG hq), fo 13 (fPr cs hq qr QO_12 QF_12 QA_12) p0.toNatClampNeg, fo 8 (fPg cs PG) j9]) (px_runV (As := []) (rest := [.ref (hq p0.toNatClampNeg)]) S (c_mrr_takesWork l D cs (0 : Int) (hq p0.toNatClampNeg) (qr p0.toNatClampNeg) (fun _ _ => none) (QA_12 p0.toNatClampNeg) (QF_12 p0.toNatClampNeg) (PG j9).h (PG j9).r (PG j9).g (PG j9).tf (PG j9).ta (PG j9).pf (PG j9).na (PG j9).ma (PG j9).wa (PG j9).cf (PG j9).ca (PG j9).ef (PG j9).ea (PG j9).xf (PG j9).xa   (show 0 ≤ ((QF_12 p0.toNatClampNeg) 4).toInt from by omega) _) hT (pr := [wd_Mo cs mo mr (fun _ => none) mf_12 md_12 (gMo PG hq), fo 13 (fPr cs hq qr QO_12 QF_12 QA_12) p0.toNatClampNeg, fo 8 (fPg cs PG) j9]) (pcs := [wd_Mpr cs (hq p0.toNatClampNeg) (qr p0.toNatClampNeg) (fun k => if k = 0 then (some (PG j9).h) else none) (QF_12 p0.toNatClampNeg) (QA_12 p0.toNatClampNeg) (fun _ _ => none), wdP cs (PG j9).h (PG j9).r (PG j9).g (PG j9).tf (PG j9).ta (PG j9).pf (PG j9).na (PG j9).ma (PG j9).wa (PG j9).cf (PG j9).ca (PG j9).ef (PG j9).ea (PG j9).xf (PG j9).xa]) hw (oX_call (P := (fun A U H => (oP A (PG j9).g U H))) (pr := [wd_Mo cs mo mr (fun _ => none) mf_12 md_12 (gMo PG hq), fo 13 (fPr cs hq qr QO_12 QF_12 QA_12) p0.toNatClampNeg, fo 8 (fPg cs PG) j9]) oG_P hw hA hP) (px_recv hT hw 3 0 rfl rfl rfl) m14_102 m14_99 m14_100 m14_101 m1_22 q_Mpr_takesWork ⟨Nat.le_of_ble_eq_true rfl, Nat.le_of_ble_eq_true rfl⟩ hl.1 rfl (Nat.le_of_ble_eq_true rfl) d_Mo_goOn_137 ⟨Nat.le_of_ble_eq_true rfl, Nat.le_of_ble_eq_true rfl⟩) hw hA (fun v217 p216 H locs hp216 hw => ?_)
                  obtain ⟨qf215, rfl, e218, e219, e220, e221, e222, e223, e224, e225, e226, e227, e228, e229, e230, e231, e232⟩ := hp216
                  have e218 : 0 ≤ v217.toInt := e218
                  have e219 : v217.toInt ≤ 1 := e219
                  have e220 : TkZ v217.toInt (qf215 4).toInt ((QF_12 p0.toNatClampNeg) 4).toInt (qf215 2).toInt ((QF_12 p0.toNatClampNeg) 2).toInt := e220
                  have htkv := e220
                  have e221 : (qf215 1).toInt = ((QF_12 p0.toNatClampNeg) 1).toInt := e221
                  have e222 : (qf215 5).toInt = ((QF_12 p0.toNatClampNeg) 5).toInt := e222
                  have e223 : (qf215 6).toInt = ((QF_12 p0.toNatClampNeg) 6).toInt := e223
                  have e224 : (qf215 7).toInt = ((QF_12 p0.toNatClampNeg) 7).toInt := e224
                  have e225 : (qf215 10).toInt = ((QF_12 p0.toNatClampNeg) 10).toInt := e225
                  have e226 : (qf215 11).toInt = ((QF_12 p0.toNatClampNeg) 11).toInt := e226
                  have e227 : (qf215 12).toInt = ((QF_12 p0.toNatClampNeg) 12).toInt := e227
                  have e228 : (qf215 13).toInt = ((QF_12 p0.toNatClampNeg) 13).toInt := e228
                  have e229 : (qf215 14).toInt = ((QF_12 p0.toNatClampNeg) 14).toInt := e229
                  have e230 : (qf215 21).toInt = ((QF_12 p0.toNatClampNeg) 21).toInt := e230
                  have e231 : (qf215 23).toInt = ((QF_12 p0.toNatClampNeg) 23).toInt := e231
                  have e232 : (qf215 24).toInt = ((QF_12 p0.toNatClampNeg) 24).toInt := e232
                  have hw : pw D A s.heap H locs [wd_Mo cs mo mr (fun _ => none) mf_12 md_12 (gMo PG hq), fo 13 (fPr cs hq qr QO_12 QF_12 QA_12) p0.toNatClampNeg, fo 8 (fPg cs PG) j9, wd_Mpr cs (hq p0.toNatClampNeg) (qr p0.toNatClampNeg) (fun k => if k = 0 then (some (PG j9).h) else none) qf215 (QA_12 p0.toNatClampNeg) (fun _ _ => none), wdP cs (PG j9).h (PG j9).r (PG j9).g (PG j9).tf (PG j9).ta (PG j9).pf (PG j9).na (PG j9).ma (PG j9).wa (PG j9).cf (PG j9).ca (PG j9).ef (PG j9).ea (PG j9).xf (PG j9).xa] := hw
                  have lv217 := Int32.le_toInt v217
                  have uv217 := Int32.toInt_lt v217
                  refine lv_if_eq (tgt := 147) S.x S.b d_Mo_goOn_140 (by decide) (fun c233 => ?_) (fun c233 => ?_)
                  · have nc233 : v217.toInt = (0 : Int) := (i_eq (x := v217) (y := 0)).mp c233
                    refine lv_iconst (v := 0) S.x S.b d_Mo_goOn_147 (by decide) ?_
                    have htw0 := htkv.elim (fun q8 => absurd q8.1 (by omega)) id
                    refine px_put S k_Mpr hT hw 3 0 7 rfl rfl (by decide) m10_235 rfl rfl rfl (Nat.le_of_ble_eq_true rfl) d_Mo_goOn_148 (w' := wd_Mpr cs (hq p0.toNatClampNeg) (qr p0.toNatClampNeg) (fun k => if k = 0 then (some (PG j9).h) else none) (upd qf215 7 0) (QA_12 p0.toNatClampNeg) (fun _ _ => none)) (ps' := [wd_Mo cs mo mr (fun _ => none) mf_12 md_12 (gMo PG hq), fo 13 (fPr cs hq qr QO_12 QF_12 QA_12) p0.toNatClampNeg, fo 8 (fPg cs PG) j9, wd_Mpr cs (hq p0.toNatClampNeg) (qr p0.toNatClampNeg) (fun k => if k = 0 then (some (PG j9).h) else none) (upd qf215 7 0) (QA_12 p0.toNatClampNeg) (fun _ _ => none), wdP cs (PG j9).h (PG j9).r (PG j9).g (PG j9).tf (PG j9).ta (PG j9).pf (PG j9).na (PG j9).ma (PG j9).wa (PG j9).cf (PG j9).ca (PG j9).ef (PG j9).ea (PG j9).xf (PG j9).xa]) rfl rfl (fun H locs hw => ?_)
                    refine lv_aload_n S.x S.b d_Mo_goOn_151 rfl (lv_at hl 5 rfl) ?_
                    have hw : pw D A s.heap _ _ [wd_Mo cs mo mr (fun _ => none) mf_12 md_12 (gMo PG hq), fo 13 (fPr cs hq qr QO_12 QF_12 QA_12) p0.toNatClampNeg, fo 8 (fPg cs PG) j9, wdP cs (PG j9).h (PG j9).r (PG j9).g (PG j9).tf (PG j9).ta (PG j9).pf (PG j9).na (PG j9).ma (PG j9).wa (PG j9).cf (PG j9).ca (PG j9).ef (PG j9).ea (PG j9).xf (PG j9).xa, wd_Mpr cs (hq p0.toNatClampNeg) (qr p0.toNatClampNeg) (fun k => if k = 0 then (some (PG j9).h) else none) (upd qf215 7 0) (QA_12 p0.toNatClampNeg) (fun _ _ => none)] := hw.sub [0, 1, 2, 4, 3] rfl rfl
                    refine px_calli (pr := [wd_Mo cs mo mr (fun _ => none) mf_12 md_12 (gMo PG hq), fo 13 (fPr cs hq qr QO_12 QF_12 QA_12) p0.toNatClampNeg, fo 8 (fPg cs PG) j9, wdP cs (PG j9).h (PG j9).r (PG j9).g (PG j9).tf (PG j9).ta (PG j9).pf (PG j9).na (PG j9).ma (PG j9).wa (PG j9).cf (PG j9).ca (PG j9).ef (PG j9).ea (PG j9).xf (PG j9).xa]) (px_runV (As := []) (rest := []) S (c_mqq_isGoing l D cs (hq p0.toNatClampNeg) (qr p0.toNatClampNeg) (fun _ _ => none) (fun k => if k = 0 then (some (PG j9).h) else none) (upd qf215 7 0) (QA_12 p0.toNatClampNeg)    _) hT (pr := [wd_Mo cs mo mr (fun _ => none) mf_12 md_12 (gMo PG hq), fo 13 (fPr cs hq qr QO_12 QF_12 QA_12) p0.toNatClampNeg, fo 8 (fPg cs PG) j9, wdP cs (PG j9).h (PG j9).r (PG j9).g (PG j9).tf (PG j9).ta (PG j9).pf (PG j9).na (PG j9).ma (PG j9).wa (PG j9).cf (PG j9).ca (PG j9).ef (PG j9).ea (PG j9).xf (PG j9).xa]) (pcs := [wd_Mpr cs (hq p0.toNatClampNeg) (qr p0.toNatClampNeg) (fun k => if k = 0 then (some (PG j9).h) else none) (upd qf215 7 0) (QA_12 p0.toNatClampNeg) (fun _ _ => none)]) hw px_X.tt (px_recv hT hw 4 0 rfl rfl rfl) m13_165 m13_162 m13_163 m13_164 m1_22 q_Mpr_isGoing ⟨Nat.le_of_ble_eq_true rfl, Nat.le_of_ble_eq_true rfl⟩ hl.1 rfl (Nat.le_of_ble_eq_true rfl) d_Mo_goOn_152 ⟨Nat.le_of_ble_eq_true rfl, Nat.le_of_ble_eq_true rfl⟩) hw hA (fun v236 p235 H locs hp235 hw => ?_)
                    obtain ⟨rfl, e237, e238, e239⟩ := hp235
                    have e237 : 0 ≤ v236.toInt := e237
                    have e238 : v236.toInt ≤ 1 := e238
                    have e239 : IgV v236.toInt (qf215 1).toInt (qf215 2).toInt := e239
                    have hig := e239
                    have hw : pw D A s.heap H locs [wd_Mo cs mo mr (fun _ => none) mf_12 md_12 (gMo PG hq), fo 13 (fPr cs hq qr QO_12 QF_12 QA_12) p0.toNatClampNeg, fo 8 (fPg cs PG) j9, wdP cs (PG j9).h (PG j9).r (PG j9).g (PG j9).tf (PG j9).ta (PG j9).pf (PG j9).na (PG j9).ma (PG j9).wa (PG j9).cf (PG j9).ca (PG j9).ef (PG j9).ea (PG j9).xf (PG j9).xa, wd_Mpr cs (hq p0.toNatClampNeg) (qr p0.toNatClampNeg) (fun k => if k = 0 then (some (PG j9).h) else none) (upd qf215 7 0) (QA_12 p0.toNatClampNeg) (fun _ _ => none)] := hw
                    have lv236 := Int32.le_toInt v236
                    have uv236 := Int32.toInt_lt v236
                    refine lv_if_eq (tgt := 168) S.x S.b d_Mo_goOn_155 (by decide) (fun c240 => ?_) (fun c240 => ?_)
                    · have nc240 : v236.toInt = (0 : Int) := (i_eq (x := v236) (y := 0)).mp c240
                      refine lv_iconst (v := 1) S.x S.b d_Mo_goOn_168 (by decide) ?_
                      have hg3 := hig.elim (fun q8 => absurd q8.1 (by omega)) (fun q8 => q8.2)
                      refine lv_goto (tgt := 173) S.x S.b d_Mo_goOn_169 (by decide) ?_
                      refine lv_istore (lv' := [(4, .int 1), (7, .int z61), (6, .int z57), (5, .int z53), (0, .ref mo), (1, .int p0), (2, .ref (hq p0.toNatClampNeg)), (3, .int x12_3)]) S.x S.b d_Mo_goOn_173 hl (by decide) rfl (fun ls hl => ?_)
                      refine lv_aload_n S.x S.b d_Mo_goOn_175 rfl (lv_at hl 6 rfl) ?_
                      refine lv_iload S.x S.b d_Mo_goOn_176 (lv_at hl 0 rfl) ?_
                      refine lv_if_eq (tgt := 190) S.x S.b d_Mo_goOn_178 (by decide) (fun c242 => ?_) (fun c242 => ?_)
                      · exact absurd c242 (by decide)
                      ·
                        refine lv_aload_n S.x S.b d_Mo_goOn_181 rfl (lv_at hl 6 rfl) ?_
                        refine px_get S k_Mpr hT hw 4 0 11 (v := .int (qf215 11)) rfl rfl rfl (by decide) m11_3 d_Mo_goOn_182 ?_
                        refine lv_iconst (v := 1) S.x S.b d_Mo_goOn_185 (by decide) ?_
                        refine lv_iadd S.x S.b d_Mo_goOn_186 ?_
                        have lr243 := Int32.le_toInt (qf215 11)
                        have ur243 := Int32.toInt_lt (qf215 11)
                        refine lv_topi (fun z244 ez244 => ?_)
                        have tz244 : z244.toInt = ((qf215 11).toInt + (1 : Int) + 2147483648) % 4294967296 - 2147483648 := by rw [ez244]; exact i_add (qf215 11) 1
                        have lz244 := Int32.le_toInt z244
                        have uz244 := Int32.toInt_lt z244
                        try replace tz244 : z244.toInt = (qf215 11).toInt + (1 : Int) := by omega
                        refine lv_goto (tgt := 194) S.x S.b d_Mo_goOn_187 (by decide) ?_
                        refine px_put S k_Mpr hT hw 4 0 11 rfl rfl (by decide) m11_3 rfl rfl rfl (Nat.le_of_ble_eq_true rfl) d_Mo_goOn_194 (w' := wd_Mpr cs (hq p0.toNatClampNeg) (qr p0.toNatClampNeg) (fun k => if k = 0 then (some (PG j9).h) else none) (upd (upd qf215 7 0) 11 z244) (QA_12 p0.toNatClampNeg) (fun _ _ => none)) (ps' := [wd_Mo cs mo mr (fun _ => none) mf_12 md_12 (gMo PG hq), fo 13 (fPr cs hq qr QO_12 QF_12 QA_12) p0.toNatClampNeg, fo 8 (fPg cs PG) j9, wdP cs (PG j9).h (PG j9).r (PG j9).g (PG j9).tf (PG j9).ta (PG j9).pf (PG j9).na (PG j9).ma (PG j9).wa (PG j9).cf (PG j9).ca (PG j9).ef (PG j9).ea (PG j9).xf (PG j9).xa, wd_Mpr cs (hq p0.toNatClampNeg) (qr p0.toNatClampNeg) (fun k => if k = 0 then (some (PG j9).h) else none) (upd (upd qf215 7 0) 11 z244) (QA_12 p0.toNatClampNeg) (fun _ _ => none)]) rfl rfl (fun H locs hw => ?_)
                        refine lv_aload_n S.x S.b d_Mo_goOn_197 rfl (lv_at hl 6 rfl) ?_
                        refine lv_aload_n S.x S.b d_Mo_goOn_198 rfl (lv_at hl 6 rfl) ?_
                        refine px_get S k_Mpr hT hw 4 0 7 (v := .int 0) rfl rfl rfl (by decide) m10_235 d_Mo_goOn_199 ?_
                        refine lv_if_eq (tgt := 214) S.x S.b d_Mo_goOn_202 (by decide) (fun c245 => ?_) (fun c245 => ?_)
                        ·
                          refine lv_iconst (v := 0) S.x S.b d_Mo_goOn_214 (by decide) ?_
                          refine px_put S k_Mpr hT hw 4 0 7 rfl rfl (by decide) m10_235 rfl rfl rfl (Nat.le_of_ble_eq_true rfl) d_Mo_goOn_215 (w' := wd_Mpr cs (hq p0.toNatClampNeg) (qr p0.toNatClampNeg) (fun k => if k = 0 then (some (PG j9).h) else none) (upd (upd qf215 7 0) 11 z244) (QA_12 p0.toNatClampNeg) (fun _ _ => none)) (ps' := [wd_Mo cs mo mr (fun _ => none) mf_12 md_12 (gMo PG hq), fo 13 (fPr cs hq qr QO_12 QF_12 QA_12) p0.toNatClampNeg, fo 8 (fPg cs PG) j9, wdP cs (PG j9).h (PG j9).r (PG j9).g (PG j9).tf (PG j9).ta (PG j9).pf (PG j9).na (PG j9).ma (PG j9).wa (PG j9).cf (PG j9).ca (PG j9).ef (PG j9).ea (PG j9).xf (PG j9).xa, wd_Mpr cs (hq p0.toNatClampNeg) (qr p0.toNatClampNeg) (fun k => if k = 0 then (some (PG j9).h) else none) (upd (upd qf215 7 0) 11 z244) (QA_12 p0.toNatClampNeg) (fun _ _ => none)]) rfl rfl (fun H locs hw => ?_)
                          refine lv_goto (tgt := 241) S.x S.b d_Mo_goOn_218 (by decide) ?_
                          have hw : pw D A s.heap _ _ [wd_Mo cs mo mr (fun _ => none) mf_12 md_12 (gMo PG hq), fo 8 (fPg cs PG) j9, wdP cs (PG j9).h (PG j9).r (PG j9).g (PG j9).tf (PG j9).ta (PG j9).pf (PG j9).na (PG j9).ma (PG j9).wa (PG j9).cf (PG j9).ca (PG j9).ef (PG j9).ea (PG j9).xf (PG j9).xa, fo 13 (fPr cs hq qr QO_12 QF_12 QA_12) p0.toNatClampNeg, wd_Mpr cs (hq p0.toNatClampNeg) (qr p0.toNatClampNeg) (fun k => if k = 0 then (some (PG j9).h) else none) (upd (upd qf215 7 0) 11 z244) (QA_12 p0.toNatClampNeg) (fun _ _ => none)] := hw.sub [0, 2, 3, 1, 4] rfl rfl
                          have hw := fpr_in (pr := [wd_Mo cs mo mr (fun _ => none) mf_12 md_12 (gMo PG hq), fo 8 (fPg cs PG) j9, wdP cs (PG j9).h (PG j9).r (PG j9).g (PG j9).tf (PG j9).ta (PG j9).pf (PG j9).na (PG j9).ma (PG j9).wa (PG j9).cf (PG j9).ca (PG j9).ef (PG j9).ea (PG j9).xf (PG j9).xa]) hw hi24
                          obtain ⟨QO246, hu_QO246⟩ : ∃ y : Nat → Option Nat, y = va_up QO_12 p0.toNatClampNeg ((fun k => if k = 0 then (some (PG j9).h) else none) 0) := ⟨_, rfl⟩
                          obtain ⟨QF247, hu_QF247⟩ : ∃ y : Nat → Nat → Int32, y = va_up QF_12 p0.toNatClampNeg (upd (upd qf215 7 0) 11 z244) := ⟨_, rfl⟩
                          obtain ⟨QA248, hu_QA248⟩ : ∃ y : Nat → Nat → Nat → Int32, y = va_up QA_12 p0.toNatClampNeg (QA_12 p0.toNatClampNeg) := ⟨_, rfl⟩
                          have hw : pw D A s.heap _ _ [wd_Mo cs mo mr (fun _ => none) mf_12 md_12 (gMo PG hq), fo 8 (fPg cs PG) j9, wdP cs (PG j9).h (PG j9).r (PG j9).g (PG j9).tf (PG j9).ta (PG j9).pf (PG j9).na (PG j9).ma (PG j9).wa (PG j9).cf (PG j9).ca (PG j9).ef (PG j9).ea (PG j9).xf (PG j9).xa, fm 13 (fPr cs hq qr QO246 QF247 QA248)] := (by rw [hu_QO246, hu_QF247, hu_QA248]; exact hw)
                          have hpr : PrA PG (va_up RR p0.toNatClampNeg (R_12 - 1)) QO246 QF247 QA248 := (by rw [hu_QO246, hu_QF247, hu_QA248]; exact PrA.upR2 hpr hi24 (psr_en (show (0 ≤ (qf215 1).toInt ∧ (qf215 1).toInt ≤ 1) ∧ (0 ≤ (qf215 21).toInt ∧ (qf215 21).toInt ≤ 4) ∧ (0 ≤ (qf215 23).toInt ∧ (qf215 23).toInt ≤ 4) ∧ (0 ≤ (qf215 24).toInt ∧ (qf215 24).toInt ≤ 1000000) ∧ (0 ≤ (qf215 6).toInt ∧ (qf215 6).toInt ≤ 3) ∧ (0 ≤ (0 : Int) ∧ (0 : Int) ≤ 1) from by omega) (show (qf215 1).toInt = 1 from by first | exact oz_e863b17997 e221 hg1.1 | omega) (by omega) (show (qf215 2).toInt ≠ -2 from by omega)) (show (qf215 1).toInt = (QF_12 p0.toNatClampNeg 1).toInt from by first | exact oz_1811ac7fe4 e221 | omega) (show (QF_12 p0.toNatClampNeg 6).toInt ≤ (qf215 6).toInt from by first | exact oz_f9b42d1b56 e223 | omega))
                          have hqk1_QF247 : (QF247 p0.toNatClampNeg 1).toInt = (qf215 1).toInt := (by rw [hu_QF247, va_up_s]; try rfl)
                          have hqk2_QF247 : (QF247 p0.toNatClampNeg 2).toInt = (qf215 2).toInt := (by rw [hu_QF247, va_up_s]; try rfl)
                          have hqk4_QF247 : (QF247 p0.toNatClampNeg 4).toInt = (qf215 4).toInt := (by rw [hu_QF247, va_up_s]; try rfl)
                          have hqk7_QF247 : (QF247 p0.toNatClampNeg 7).toInt = (0 : Int) := (by rw [hu_QF247, va_up_s]; try rfl)
                          have hqk10_QF247 : (QF247 p0.toNatClampNeg 10).toInt = (qf215 10).toInt := (by rw [hu_QF247, va_up_s]; try rfl)
                          have hqk11_QF247 : (QF247 p0.toNatClampNeg 11).toInt = z244.toInt := (by rw [hu_QF247, va_up_s]; try rfl)
                          have hqk24_QF247 : (QF247 p0.toNatClampNeg 24).toInt = (qf215 24).toInt := (by rw [hu_QF247, va_up_s]; try rfl)
                          have hw : pw D A s.heap _ _ [wd_Mo cs mo mr (fun _ => none) mf_12 md_12 (gMo PG hq), fm 13 (fPr cs hq qr QO246 QF247 QA248), fo 8 (fPg cs PG) j9, wdP cs (PG j9).h (PG j9).r (PG j9).g (PG j9).tf (PG j9).ta (PG j9).pf (PG j9).na (PG j9).ma (PG j9).wa (PG j9).cf (PG j9).ca (PG j9).ef (PG j9).ea (PG j9).xf (PG j9).xa] := hw.sub [0, 3, 1, 2] rfl rfl
                          have hw : pw D A s.heap _ _ [wd_Mo cs mo mr (fun _ => none) mf_12 md_12 (gMo PG hq), fm 13 (fPr cs hq qr QO246 QF247 QA248), fm 8 (fPg cs PG)] := fm_back (pr := [wd_Mo cs mo mr (fun _ => none) mf_12 md_12 (gMo PG hq), fm 13 (fPr cs hq qr QO246 QF247 QA248)]) (T := fPg cs PG) hw hj9
                          exact J241 mf_12 md_12 QO246 QF247 QA248 (R_12 - 1) x12_3 (1 : Int32) _ _ ls (show PrA PG (va_up RR p0.toNatClampNeg (R_12 - 1)) QO246 QF247 QA248 from hpr) (show (mf_12 0).toInt = (mf 0).toInt from by first | exact k12_1 | omega) (show (mf_12 2).toInt = (mf 2).toInt from by first | exact k12_2 | omega) (show (mf_12 3).toInt = (mf 3).toInt from by first | exact k12_3 | omega) (show (mf_12 7).toInt = (mf 7).toInt from by first | exact k12_4 | omega) (show (mf_12 8).toInt = (mf 8).toInt from by first | exact k12_5 | omega) (show (mf_12 10).toInt = (mf 10).toInt from by first | exact k12_6 | omega) (show Md1 md md_12 from hmdq) (show x12_3.toInt = x12_3.toInt from rfl) (show 0 ≤ (1 : Int) from by first | exact oz_19c3a41681 | omega) (show (1 : Int) ≤ 1 from by first | exact oz_f9181dc4bb | omega) (show (R_12 - 1) + (1 : Int) ≤ R_12 from by first | exact oz_9af69b5cb8 | omega) (show (R_12 - 1) ≤ R_12 from by first | exact oz_f81ab12e42 | omega) (show 1 ≤ x12_4.toInt from by first | exact oz_70c2bdf1b6 k12_10 nc5 | omega) hw (lv_sub hl [4, 5, 6, 7, 0] rfl)
                        · exact absurd c245 (by decide)
                    · have nc240 : ¬ v236.toInt = (0 : Int) := mt (i_eq (x := v236) (y := 0)).mpr c240
                      refine lv_aload_n S.x S.b d_Mo_goOn_158 rfl (lv_at hl 3 rfl) ?_
                      have hg2 := hig.elim id (fun q8 => absurd q8.1 (by omega))
                      refine lv_iload_n S.x S.b d_Mo_goOn_159 rfl (lv_at hl 4 rfl) ?_
                      refine lv_iload S.x S.b d_Mo_goOn_160 (lv_at hl 1 rfl) ?_
                      have hw : pw D A s.heap _ _ [wd_Mo cs mo mr (fun _ => none) mf_12 md_12 (gMo PG hq), fo 8 (fPg cs PG) j9, wdP cs (PG j9).h (PG j9).r (PG j9).g (PG j9).tf (PG j9).ta (PG j9).pf (PG j9).na (PG j9).ma (PG j9).wa (PG j9).cf (PG j9).ca (PG j9).ef (PG j9).ea (PG j9).xf (PG j9).xa, fo 13 (fPr cs hq qr QO_12 QF_12 QA_12) p0.toNatClampNeg, wd_Mpr cs (hq p0.toNatClampNeg) (qr p0.toNatClampNeg) (fun k => if k = 0 then (some (PG j9).h) else none) (upd qf215 7 0) (QA_12 p0.toNatClampNeg) (fun _ _ => none)] := hw.sub [0, 2, 3, 1, 4] rfl rfl
                      have hw := fpr_in (pr := [wd_Mo cs mo mr (fun _ => none) mf_12 md_12 (gMo PG hq), fo 8 (fPg cs PG) j9, wdP cs (PG j9).h (PG j9).r (PG j9).g (PG j9).tf (PG j9).ta (PG j9).pf (PG j9).na (PG j9).ma (PG j9).wa (PG j9).cf (PG j9).ca (PG j9).ef (PG j9).ea (PG j9).xf (PG j9).xa]) hw hi24
                      obtain ⟨QO249, hu_QO249⟩ : ∃ y : Nat → Option Nat, y = va_up QO_12 p0.toNatClampNeg ((fun k => if k = 0 then (some (PG j9).h) else none) 0) := ⟨_, rfl⟩
                      obtain ⟨QF250, hu_QF250⟩ : ∃ y : Nat → Nat → Int32, y = va_up QF_12 p0.toNatClampNeg (upd qf215 7 0) := ⟨_, rfl⟩
                      obtain ⟨QA251, hu_QA251⟩ : ∃ y : Nat → Nat → Nat → Int32, y = va_up QA_12 p0.toNatClampNeg (QA_12 p0.toNatClampNeg) := ⟨_, rfl⟩
                      have hw : pw D A s.heap _ _ [wd_Mo cs mo mr (fun _ => none) mf_12 md_12 (gMo PG hq), fo 8 (fPg cs PG) j9, wdP cs (PG j9).h (PG j9).r (PG j9).g (PG j9).tf (PG j9).ta (PG j9).pf (PG j9).na (PG j9).ma (PG j9).wa (PG j9).cf (PG j9).ca (PG j9).ef (PG j9).ea (PG j9).xf (PG j9).xa, fm 13 (fPr cs hq qr QO249 QF250 QA251)] := (by rw [hu_QO249, hu_QF250, hu_QA251]; exact hw)
                      have hpay : PsT (PG j9) R_12 (upd qf215 7 0) (QA_12 p0.toNatClampNeg) := (PsT.pay hpt (show (qf215 5).toInt = (QF_12 p0.toNatClampNeg 5).toInt ∧ (qf215 10).toInt = (QF_12 p0.toNatClampNeg 10).toInt ∧ (qf215 11).toInt = (QF_12 p0.toNatClampNeg 11).toInt ∧ (qf215 12).toInt = (QF_12 p0.toNatClampNeg 12).toInt ∧ (qf215 13).toInt = (QF_12 p0.toNatClampNeg 13).toInt ∧ (qf215 14).toInt = (QF_12 p0.toNatClampNeg 14).toInt ∧ (qf215 24).toInt = (QF_12 p0.toNatClampNeg 24).toInt from by first | exact oz_b005c07786 e222 e225 e226 e227 e228 e229 e232 | omega) (show 0 ≤ (qf215 4).toInt ∧ (qf215 4).toInt ≤ (QF_12 p0.toNatClampNeg 4).toInt from by omega) ho16 (fun q8 => (show (qf215 24).toInt + (qf215 4).toInt ≤ 99 from by rw [hoa] at q8; omega)))
                      have hpr : PrA PG (va_up RR p0.toNatClampNeg R_12) QO249 QF250 QA251 := (by rw [hu_QO249, hu_QF250, hu_QA251]; exact PrA.upR2 hpr hi24 (psr_tx (j := j9) hj9 (show _ = some _ from rfl) h61 (show (0 ≤ (qf215 1).toInt ∧ (qf215 1).toInt ≤ 1) ∧ (0 ≤ (qf215 21).toInt ∧ (qf215 21).toInt ≤ 4) ∧ (0 ≤ (qf215 23).toInt ∧ (qf215 23).toInt ≤ 4) ∧ (0 ≤ (qf215 24).toInt ∧ (qf215 24).toInt ≤ 1000000) ∧ (0 ≤ (qf215 6).toInt ∧ (qf215 6).toInt ≤ 3) ∧ (0 ≤ (0 : Int) ∧ (0 : Int) ≤ 1) from by omega) (show (qf215 1).toInt = 1 from by first | exact oz_e863b17997 e221 hg1.1 | omega) (by omega) (fun _ => hpay)) (show (qf215 1).toInt = (QF_12 p0.toNatClampNeg 1).toInt from by first | exact oz_1811ac7fe4 e221 | omega) (show (QF_12 p0.toNatClampNeg 6).toInt ≤ (qf215 6).toInt from by first | exact oz_f9b42d1b56 e223 | omega))
                      have hqk1_QF250 : (QF250 p0.toNatClampNeg 1).toInt = (qf215 1).toInt := (by rw [hu_QF250, va_up_s]; try rfl)
                      have hqk2_QF250 : (QF250 p0.toNatClampNeg 2).toInt = (qf215 2).toInt := (by rw [hu_QF250, va_up_s]; try rfl)
                      have hqk4_QF250 : (QF250 p0.toNatClampNeg 4).toInt = (qf215 4).toInt := (by rw [hu_QF250, va_up_s]; try rfl)
                      have hqk7_QF250 : (QF250 p0.toNatClampNeg 7).toInt = (0 : Int) := (by rw [hu_QF250, va_up_s]; try rfl)
                      have hqk10_QF250 : (QF250 p0.toNatClampNeg 10).toInt = (qf215 10).toInt := (by rw [hu_QF250, va_up_s]; try rfl)
                      have hqk11_QF250 : (QF250 p0.toNatClampNeg 11).toInt = (qf215 11).toInt := (by rw [hu_QF250, va_up_s]; try rfl)
                      have hqk24_QF250 : (QF250 p0.toNatClampNeg 24).toInt = (qf215 24).toInt := (by rw [hu_QF250, va_up_s]; try rfl)
                      have hqo : OqE (QO249 p0.toNatClampNeg) (PG j9).h := (by rw [hu_QO249, va_up_s]; exact rfl)
                      have hpo8 : (0 ≤ z57.toInt ∧ z57.toInt < 10) ∧ PoT (PG j9) ((va_up RR p0.toNatClampNeg R_12) p0.toNatClampNeg) z57.toInt (QF250 p0.toNatClampNeg) (QA251 p0.toNatClampNeg) := (by rw [va_up_s, hu_QF250, hu_QA251, va_up_s, va_up_s]; exact hpay.owc (by show ((PG j9).ea 61 (3 * (qf215 11).toInt).toNat).toInt = 16; rw [show (qf215 11).toInt = (QF_12 p0.toNatClampNeg 11).toInt by omega]; exact ho16) (by show ((PG j9).ea 61 (3 * (qf215 11).toInt + 1).toNat).toInt = _; rw [show (qf215 11).toInt = (QF_12 p0.toNatClampNeg 11).toInt by omega]; exact hoa) (fun q8 => (show (qf215 24).toInt + (qf215 4).toInt ≤ 99 from by omega)))
                      have hpo81 := hpo8.1
                      have hw : pw D A s.heap _ _ [wd_Mo cs mo mr (fun _ => none) mf_12 md_12 (gMo PG hq), fm 13 (fPr cs hq qr QO249 QF250 QA251), fo 8 (fPg cs PG) j9, wdP cs (PG j9).h (PG j9).r (PG j9).g (PG j9).tf (PG j9).ta (PG j9).pf (PG j9).na (PG j9).ma (PG j9).wa (PG j9).cf (PG j9).ca (PG j9).ef (PG j9).ea (PG j9).xf (PG j9).xa] := hw.sub [0, 3, 1, 2] rfl rfl
                      have hw : pw D A s.heap _ _ [wd_Mo cs mo mr (fun _ => none) mf_12 md_12 (gMo PG hq), fm 13 (fPr cs hq qr QO249 QF250 QA251), fm 8 (fPg cs PG)] := fm_back (pr := [wd_Mo cs mo mr (fun _ => none) mf_12 md_12 (gMo PG hq), fm 13 (fPr cs hq qr QO249 QF250 QA251)]) (T := fPg cs PG) hw hj9
                      refine px_calli (pr := []) (px_runV (As := [.int p0, .int z57]) (rest := []) S (c_mo_ownCall l D cs (va_up RR p0.toNatClampNeg R_12) j9 mo mr mf_12 md_12 hq qr QO249 QF250 QA251 PG p0 z57  (show 0 ≤ p0.toInt from by first | exact g0 | omega) (show p0.toInt < 13 from by first | exact g1 | omega) (show 0 ≤ (mf_12 7).toInt from by first | exact oz_f3ebed1ad0 k12_4 g2 | omega) (show (mf_12 7).toInt ≤ 100 from by first | exact oz_b2552476a0 k12_4 g3 | omega) (show 0 ≤ (mf_12 8).toInt from by first | exact oz_f3ebed1ad0 k12_5 g4 | omega) (show (mf_12 8).toInt ≤ 512 from by first | exact oz_5926d5b85b k12_5 g5 | omega) (show 0 ≤ z57.toInt from by first | exact hpo81.1 | omega) (show z57.toInt < 10 from by first | exact hpo81.2 | omega) (show (QF250 p0.toNatClampNeg 1).toInt = 1 from by first | exact oz_d145a98bf1 hqk1_QF250 e221 hg1.1 | omega) hpr hpg hpo8.2 _) hT (pr := []) (pcs := [wd_Mo cs mo mr (fun _ => none) mf_12 md_12 (gMo PG hq), fm 13 (fPr cs hq qr QO249 QF250 QA251), fm 8 (fPg cs PG)]) hw px_X.tt (px_recv hT hw 0 0 rfl rfl rfl) m14_106 m14_103 m14_105 ms_16_9 m1_20 q_Mo_ownCall ⟨Nat.le_of_ble_eq_true rfl, Nat.le_of_ble_eq_true rfl⟩ hl.1 rfl (Nat.le_of_ble_eq_true rfl) d_Mo_goOn_162 ⟨Nat.le_of_ble_eq_true rfl, Nat.le_of_ble_eq_true rfl⟩) hw hA (fun v263 p262 H locs hp262 hw => ?_)
                      obtain ⟨mf257, md258, QO259, QF260, QA261, rfl, e264, e265, e266, e267, e268, e269, e270, e271, e272, e273, e274⟩ := hp262
                      have e264 : 0 ≤ v263.toInt := e264
                      have e265 : v263.toInt ≤ 1 := e265
                      have e266 : OwQ v263.toInt (PrA PG (va_up RR p0.toNatClampNeg R_12) QO259 QF260 QA261) (PrX PG (va_up RR p0.toNatClampNeg R_12) QO259 QF260 QA261 p0.toNatClampNeg ∧ PdT (PG j9) ((va_up RR p0.toNatClampNeg R_12) p0.toNatClampNeg) (QF260 p0.toNatClampNeg) (QA261 p0.toNatClampNeg)) := e266
                      have hoq := e266
                      have e267 : KpO QO249 QF250 QO259 QF260 p0.toNatClampNeg := e267
                      have hko := e267
                      have hko2 := hko.2
                      have e268 : (mf257 0).toInt = (mf_12 0).toInt := e268
                      have e269 : (mf257 2).toInt = (mf_12 2).toInt := e269
                      have e270 : (mf257 3).toInt = (mf_12 3).toInt := e270
                      have e271 : (mf257 7).toInt = (mf_12 7).toInt := e271
                      have e272 : (mf257 8).toInt = (mf_12 8).toInt := e272
                      have e273 : (mf257 10).toInt = (mf_12 10).toInt := e273
                      have e274 : Md1 md_12 md258 := e274
                      have hmdq := Md1.tr hmdq e274
                      have hw : pw D A s.heap H locs [wd_Mo cs mo mr (fun _ => none) mf257 md258 (gMo PG hq), fm 13 (fPr cs hq qr QO259 QF260 QA261), fm 8 (fPg cs PG)] := hw
                      have lv263 := Int32.le_toInt v263
                      have uv263 := Int32.toInt_lt v263
                      refine lv_if_eq (tgt := 172) S.x S.b d_Mo_goOn_165 (by decide) (fun c275 => ?_) (fun c275 => ?_)
                      · have nc275 : v263.toInt = (0 : Int) := (i_eq (x := v263) (y := 0)).mp c275
                        refine lv_iconst (v := 0) S.x S.b d_Mo_goOn_172 (by decide) ?_
                        have hpr := hoq.elim (fun q8 => q8.2) (fun q8 => absurd q8.1 (by omega))
                        refine lv_istore (lv' := [(4, .int 0), (7, .int z61), (6, .int z57), (5, .int z53), (0, .ref mo), (1, .int p0), (2, .ref (hq p0.toNatClampNeg)), (3, .int x12_3)]) S.x S.b d_Mo_goOn_173 hl (by decide) rfl (fun ls hl => ?_)
                        refine lv_aload_n S.x S.b d_Mo_goOn_175 rfl (lv_at hl 6 rfl) ?_
                        refine lv_iload S.x S.b d_Mo_goOn_176 (lv_at hl 0 rfl) ?_
                        refine lv_if_eq (tgt := 190) S.x S.b d_Mo_goOn_178 (by decide) (fun c277 => ?_) (fun c277 => ?_)
                        ·
                          refine lv_aload_n S.x S.b d_Mo_goOn_190 rfl (lv_at hl 6 rfl) ?_
                          have hw : pw D A s.heap _ _ [wd_Mo cs mo mr (fun _ => none) mf257 md258 (gMo PG hq), fm 8 (fPg cs PG), fm 13 (fPr cs hq qr QO259 QF260 QA261)] := hw.sub [0, 2, 1] rfl rfl
                          have hc278 := cl_nat (x := p0) (by first | exact g0 | omega)
                          have hi278 : p0.toNatClampNeg < 13 := by first | exact hi24 | omega
                          have hw : pw D A s.heap _ _ [wd_Mo cs mo mr (fun _ => none) mf257 md258 (gMo PG hq), fm 8 (fPg cs PG), fo 13 (fPr cs hq qr QO259 QF260 QA261) p0.toNatClampNeg, wd_Mpr cs (hq p0.toNatClampNeg) (qr p0.toNatClampNeg) (fun _ => QO259 p0.toNatClampNeg) (QF260 p0.toNatClampNeg) (QA261 p0.toNatClampNeg) (fun _ _ => none)] := fm_out (pr := [wd_Mo cs mo mr (fun _ => none) mf257 md258 (gMo PG hq), fm 8 (fPg cs PG)]) (T := fPr cs hq qr QO259 QF260 QA261) hw hi278
                          have hps278 := hpr.1 p0.toNatClampNeg hi278
                          have hpb278 := hps278.1
                          unfold PsB at hpb278
                          refine px_get S k_Mpr hT hw 3 0 11 (v := .int ((QF260 p0.toNatClampNeg) 11)) rfl rfl rfl (by decide) m11_3 d_Mo_goOn_191 ?_
                          refine px_put S k_Mpr hT hw 3 0 11 rfl rfl (by decide) m11_3 rfl rfl rfl (Nat.le_of_ble_eq_true rfl) d_Mo_goOn_194 (w' := wd_Mpr cs (hq p0.toNatClampNeg) (qr p0.toNatClampNeg) (fun _ => QO259 p0.toNatClampNeg) (upd (QF260 p0.toNatClampNeg) 11 ((QF260 p0.toNatClampNeg) 11)) (QA261 p0.toNatClampNeg) (fun _ _ => none)) (ps' := [wd_Mo cs mo mr (fun _ => none) mf257 md258 (gMo PG hq), fm 8 (fPg cs PG), fo 13 (fPr cs hq qr QO259 QF260 QA261) p0.toNatClampNeg, wd_Mpr cs (hq p0.toNatClampNeg) (qr p0.toNatClampNeg) (fun _ => QO259 p0.toNatClampNeg) (upd (QF260 p0.toNatClampNeg) 11 ((QF260 p0.toNatClampNeg) 11)) (QA261 p0.toNatClampNeg) (fun _ _ => none)]) rfl rfl (fun H locs hw => ?_)
                          refine lv_aload_n S.x S.b d_Mo_goOn_197 rfl (lv_at hl 6 rfl) ?_
                          refine lv_aload_n S.x S.b d_Mo_goOn_198 rfl (lv_at hl 6 rfl) ?_
                          refine px_get S k_Mpr hT hw 3 0 7 (v := .int ((QF260 p0.toNatClampNeg) 7)) rfl rfl rfl (by decide) m10_235 d_Mo_goOn_199 ?_
                          refine lv_if_eq (tgt := 214) S.x S.b d_Mo_goOn_202 (by decide) (fun c279 => ?_) (fun c279 => ?_)
                          · have nc279 : ((QF260 p0.toNatClampNeg) 7).toInt = (0 : Int) := (i_eq (x := ((QF260 p0.toNatClampNeg) 7)) (y := 0)).mp c279
                            exfalso
                            omega
                          · have nc279 : ¬ ((QF260 p0.toNatClampNeg) 7).toInt = (0 : Int) := mt (i_eq (x := ((QF260 p0.toNatClampNeg) 7)) (y := 0)).mpr c279
                            refine lv_iload S.x S.b d_Mo_goOn_205 (lv_at hl 0 rfl) ?_
                            refine lv_if_ne (tgt := 214) S.x S.b d_Mo_goOn_207 (by decide) (fun c281 => ?_) (fun c281 => ?_)
                            · exact absurd c281 (by decide)
                            ·
                              refine lv_iconst (v := 1) S.x S.b d_Mo_goOn_210 (by decide) ?_
                              refine lv_goto (tgt := 215) S.x S.b d_Mo_goOn_211 (by decide) ?_
                              refine px_put S k_Mpr hT hw 3 0 7 rfl rfl (by decide) m10_235 rfl rfl rfl (Nat.le_of_ble_eq_true rfl) d_Mo_goOn_215 (w' := wd_Mpr cs (hq p0.toNatClampNeg) (qr p0.toNatClampNeg) (fun _ => QO259 p0.toNatClampNeg) (upd (upd (QF260 p0.toNatClampNeg) 7 1) 11 ((QF260 p0.toNatClampNeg) 11)) (QA261 p0.toNatClampNeg) (fun _ _ => none)) (ps' := [wd_Mo cs mo mr (fun _ => none) mf257 md258 (gMo PG hq), fm 8 (fPg cs PG), fo 13 (fPr cs hq qr QO259 QF260 QA261) p0.toNatClampNeg, wd_Mpr cs (hq p0.toNatClampNeg) (qr p0.toNatClampNeg) (fun _ => QO259 p0.toNatClampNeg) (upd (upd (QF260 p0.toNatClampNeg) 7 1) 11 ((QF260 p0.toNatClampNeg) 11)) (QA261 p0.toNatClampNeg) (fun _ _ => none)]) rfl rfl (fun H locs hw => ?_)
                              refine lv_goto (tgt := 241) S.x S.b d_Mo_goOn_218 (by decide) ?_
                              have hw := fpr_in (pr := [wd_Mo cs mo mr (fun _ => none) mf257 md258 (gMo PG hq), fm 8 (fPg cs PG)]) hw hi278
                              obtain ⟨QO282, hu_QO282⟩ : ∃ y : Nat → Option Nat, y = va_up QO259 p0.toNatClampNeg ((fun _ => QO259 p0.toNatClampNeg) 0) := ⟨_, rfl⟩
                              obtain ⟨QF283, hu_QF283⟩ : ∃ y : Nat → Nat → Int32, y = va_up QF260 p0.toNatClampNeg (upd (upd (QF260 p0.toNatClampNeg) 7 1) 11 ((QF260 p0.toNatClampNeg) 11)) := ⟨_, rfl⟩
                              obtain ⟨QA284, hu_QA284⟩ : ∃ y : Nat → Nat → Nat → Int32, y = va_up QA261 p0.toNatClampNeg (QA261 p0.toNatClampNeg) := ⟨_, rfl⟩
                              have hw : pw D A s.heap _ _ [wd_Mo cs mo mr (fun _ => none) mf257 md258 (gMo PG hq), fm 8 (fPg cs PG), fm 13 (fPr cs hq qr QO282 QF283 QA284)] := (by rw [hu_QO282, hu_QF283, hu_QA284]; exact hw)
                              have hpr : PrA PG (va_up RR p0.toNatClampNeg R_12) QO282 QF283 QA284 := (by rw [hu_QO282, hu_QF283, hu_QA284]; exact PrA.upR2 hpr hi278 (PsR.kf (by have q8 := hps278; rw [va_up_s] at q8; exact q8) (show (0 ≤ ((QF260 p0.toNatClampNeg) 1).toInt ∧ ((QF260 p0.toNatClampNeg) 1).toInt ≤ 1) ∧ (0 ≤ ((QF260 p0.toNatClampNeg) 21).toInt ∧ ((QF260 p0.toNatClampNeg) 21).toInt ≤ 4) ∧ (0 ≤ ((QF260 p0.toNatClampNeg) 23).toInt ∧ ((QF260 p0.toNatClampNeg) 23).toInt ≤ 4) ∧ (0 ≤ ((QF260 p0.toNatClampNeg) 24).toInt ∧ ((QF260 p0.toNatClampNeg) 24).toInt ≤ 1000000) ∧ (0 ≤ ((QF260 p0.toNatClampNeg) 6).toInt ∧ ((QF260 p0.toNatClampNeg) 6).toInt ≤ 3) ∧ (0 ≤ (1 : Int) ∧ (1 : Int) ≤ 1) from by omega) (show (((QF260 p0.toNatClampNeg) 1).toInt = (QF260 p0.toNatClampNeg 1).toInt ∧ ((QF260 p0.toNatClampNeg) 4).toInt = (QF260 p0.toNatClampNeg 4).toInt ∧ ((QF260 p0.toNatClampNeg) 5).toInt = (QF260 p0.toNatClampNeg 5).toInt ∧ (1 : Int) = (QF260 p0.toNatClampNeg 7).toInt ∧ ((QF260 p0.toNatClampNeg) 10).toInt = (QF260 p0.toNatClampNeg 10).toInt ∧ ((QF260 p0.toNatClampNeg) 11).toInt = (QF260 p0.toNatClampNeg 11).toInt) ∧ ((QF260 p0.toNatClampNeg) 12).toInt = (QF260 p0.toNatClampNeg 12).toInt ∧ ((QF260 p0.toNatClampNeg) 13).toInt = (QF260 p0.toNatClampNeg 13).toInt ∧ ((QF260 p0.toNatClampNeg) 14).toInt = (QF260 p0.toNatClampNeg 14).toInt ∧ ((QF260 p0.toNatClampNeg) 24).toInt = (QF260 p0.toNatClampNeg 24).toInt from by omega) (show ((QF260 p0.toNatClampNeg) 2).toInt = (QF260 p0.toNatClampNeg 2).toInt from by first | exact oz_507c05ca68 | omega)) (show ((QF260 p0.toNatClampNeg) 1).toInt = (QF260 p0.toNatClampNeg 1).toInt from by first | exact oz_507c05ca68 | omega) (show (QF260 p0.toNatClampNeg 6).toInt ≤ ((QF260 p0.toNatClampNeg) 6).toInt from by first | exact oz_1cb5f934a5 | omega))
                              have hqk1_QF283 : (QF283 p0.toNatClampNeg 1).toInt = ((QF260 p0.toNatClampNeg) 1).toInt := (by rw [hu_QF283, va_up_s]; try rfl)
                              have hqk2_QF283 : (QF283 p0.toNatClampNeg 2).toInt = ((QF260 p0.toNatClampNeg) 2).toInt := (by rw [hu_QF283, va_up_s]; try rfl)
                              have hqk4_QF283 : (QF283 p0.toNatClampNeg 4).toInt = ((QF260 p0.toNatClampNeg) 4).toInt := (by rw [hu_QF283, va_up_s]; try rfl)
                              have hqk7_QF283 : (QF283 p0.toNatClampNeg 7).toInt = (1 : Int) := (by rw [hu_QF283, va_up_s]; try rfl)
                              have hqk10_QF283 : (QF283 p0.toNatClampNeg 10).toInt = ((QF260 p0.toNatClampNeg) 10).toInt := (by rw [hu_QF283, va_up_s]; try rfl)
                              have hqk11_QF283 : (QF283 p0.toNatClampNeg 11).toInt = ((QF260 p0.toNatClampNeg) 11).toInt := (by rw [hu_QF283, va_up_s]; try rfl)
                              have hqk24_QF283 : (QF283 p0.toNatClampNeg 24).toInt = ((QF260 p0.toNatClampNeg) 24).toInt := (by rw [hu_QF283, va_up_s]; try rfl)
                              have hw : pw D A s.heap _ _ [wd_Mo cs mo mr (fun _ => none) mf257 md258 (gMo PG hq), fm 13 (fPr cs hq qr QO282 QF283 QA284), fm 8 (fPg cs PG)] := hw.sub [0, 2, 1] rfl rfl
                              exact J241 mf257 md258 QO282 QF283 QA284 R_12 x12_3 (0 : Int32) _ _ ls (show PrA PG (va_up RR p0.toNatClampNeg R_12) QO282 QF283 QA284 from hpr) (show (mf257 0).toInt = (mf 0).toInt from by first | exact oz_1687f4cc65 k12_1 e268 | omega) (show (mf257 2).toInt = (mf 2).toInt from by first | exact oz_1687f4cc65 k12_2 e269 | omega) (show (mf257 3).toInt = (mf 3).toInt from by first | exact oz_1687f4cc65 k12_3 e270 | omega) (show (mf257 7).toInt = (mf 7).toInt from by first | exact oz_1687f4cc65 k12_4 e271 | omega) (show (mf257 8).toInt = (mf 8).toInt from by first | exact oz_1687f4cc65 k12_5 e272 | omega) (show (mf257 10).toInt = (mf 10).toInt from by first | exact oz_1687f4cc65 k12_6 e273 | omega) (show Md1 md md258 from hmdq) (show x12_3.toInt = x12_3.toInt from rfl) (show 0 ≤ (0 : Int) from by first | exact oz_5a341f00aa | omega) (show (0 : Int) ≤ 1 from by first | exact oz_6e68cd0f48 | omega) (show R_12 + (0 : Int) ≤ R_12 from by first | exact oz_9a4b2c0a69 | omega) (show R_12 ≤ R_12 from by first | exact oz_1cb5f934a5 | omega) (show 1 ≤ x12_4.toInt from by first | exact oz_70c2bdf1b6 k12_10 nc5 | omega) hw (lv_sub hl [4, 5, 6, 7, 0] rfl)
                        · exact absurd c277 (by decide)
                      · have nc275 : ¬ v263.toInt = (0 : Int) := mt (i_eq (x := v263) (y := 0)).mpr c275
                        refine lv_iconst (v := 1) S.x S.b d_Mo_goOn_168 (by decide) ?_
                        obtain ⟨hpx, hpd⟩ := hoq.elim (fun q8 => absurd q8.1 (by omega)) (fun q8 => q8.2)
                        refine lv_goto (tgt := 173) S.x S.b d_Mo_goOn_169 (by decide) ?_
                        refine lv_istore (lv' := [(4, .int 1), (7, .int z61), (6, .int z57), (5, .int z53), (0, .ref mo), (1, .int p0), (2, .ref (hq p0.toNatClampNeg)), (3, .int x12_3)]) S.x S.b d_Mo_goOn_173 hl (by decide) rfl (fun ls hl => ?_)
                        refine lv_aload_n S.x S.b d_Mo_goOn_175 rfl (lv_at hl 6 rfl) ?_
                        refine lv_iload S.x S.b d_Mo_goOn_176 (lv_at hl 0 rfl) ?_
                        refine lv_if_eq (tgt := 190) S.x S.b d_Mo_goOn_178 (by decide) (fun c285 => ?_) (fun c285 => ?_)
                        · exact absurd c285 (by decide)
                        ·
                          refine lv_aload_n S.x S.b d_Mo_goOn_181 rfl (lv_at hl 6 rfl) ?_
                          have hw : pw D A s.heap _ _ [wd_Mo cs mo mr (fun _ => none) mf257 md258 (gMo PG hq), fm 8 (fPg cs PG), fm 13 (fPr cs hq qr QO259 QF260 QA261)] := hw.sub [0, 2, 1] rfl rfl
                          have hc286 := cl_nat (x := p0) (by first | exact g0 | omega)
                          have hi286 : p0.toNatClampNeg < 13 := by first | exact hi24 | omega
                          have hw : pw D A s.heap _ _ [wd_Mo cs mo mr (fun _ => none) mf257 md258 (gMo PG hq), fm 8 (fPg cs PG), fo 13 (fPr cs hq qr QO259 QF260 QA261) p0.toNatClampNeg, wd_Mpr cs (hq p0.toNatClampNeg) (qr p0.toNatClampNeg) (fun _ => QO259 p0.toNatClampNeg) (QF260 p0.toNatClampNeg) (QA261 p0.toNatClampNeg) (fun _ _ => none)] := fm_out (pr := [wd_Mo cs mo mr (fun _ => none) mf257 md258 (gMo PG hq), fm 8 (fPg cs PG)]) (T := fPr cs hq qr QO259 QF260 QA261) hw hi286
                          have hpb286 := hpx.2.2
                          unfold PsB at hpb286
                          refine px_get S k_Mpr hT hw 3 0 11 (v := .int ((QF260 p0.toNatClampNeg) 11)) rfl rfl rfl (by decide) m11_3 d_Mo_goOn_182 ?_
                          refine lv_iconst (v := 1) S.x S.b d_Mo_goOn_185 (by decide) ?_
                          refine lv_iadd S.x S.b d_Mo_goOn_186 ?_
                          have lr287 := Int32.le_toInt ((QF260 p0.toNatClampNeg) 11)
                          have ur287 := Int32.toInt_lt ((QF260 p0.toNatClampNeg) 11)
                          refine lv_topi (fun z288 ez288 => ?_)
                          have tz288 : z288.toInt = (((QF260 p0.toNatClampNeg) 11).toInt + (1 : Int) + 2147483648) % 4294967296 - 2147483648 := by rw [ez288]; exact i_add ((QF260 p0.toNatClampNeg) 11) 1
                          have lz288 := Int32.le_toInt z288
                          have uz288 := Int32.toInt_lt z288
                          try replace tz288 : z288.toInt = ((QF260 p0.toNatClampNeg) 11).toInt + (1 : Int) := by omega
                          refine lv_goto (tgt := 194) S.x S.b d_Mo_goOn_187 (by decide) ?_
                          refine px_put S k_Mpr hT hw 3 0 11 rfl rfl (by decide) m11_3 rfl rfl rfl (Nat.le_of_ble_eq_true rfl) d_Mo_goOn_194 (w' := wd_Mpr cs (hq p0.toNatClampNeg) (qr p0.toNatClampNeg) (fun _ => QO259 p0.toNatClampNeg) (upd (QF260 p0.toNatClampNeg) 11 z288) (QA261 p0.toNatClampNeg) (fun _ _ => none)) (ps' := [wd_Mo cs mo mr (fun _ => none) mf257 md258 (gMo PG hq), fm 8 (fPg cs PG), fo 13 (fPr cs hq qr QO259 QF260 QA261) p0.toNatClampNeg, wd_Mpr cs (hq p0.toNatClampNeg) (qr p0.toNatClampNeg) (fun _ => QO259 p0.toNatClampNeg) (upd (QF260 p0.toNatClampNeg) 11 z288) (QA261 p0.toNatClampNeg) (fun _ _ => none)]) rfl rfl (fun H locs hw => ?_)
                          refine lv_aload_n S.x S.b d_Mo_goOn_197 rfl (lv_at hl 6 rfl) ?_
                          refine lv_aload_n S.x S.b d_Mo_goOn_198 rfl (lv_at hl 6 rfl) ?_
                          refine px_get S k_Mpr hT hw 3 0 7 (v := .int ((QF260 p0.toNatClampNeg) 7)) rfl rfl rfl (by decide) m10_235 d_Mo_goOn_199 ?_
                          refine lv_if_eq (tgt := 214) S.x S.b d_Mo_goOn_202 (by decide) (fun c289 => ?_) (fun c289 => ?_)
                          · have nc289 : ((QF260 p0.toNatClampNeg) 7).toInt = (0 : Int) := (i_eq (x := ((QF260 p0.toNatClampNeg) 7)) (y := 0)).mp c289
                            refine lv_iconst (v := 0) S.x S.b d_Mo_goOn_214 (by decide) ?_
                            refine px_put S k_Mpr hT hw 3 0 7 rfl rfl (by decide) m10_235 rfl rfl rfl (Nat.le_of_ble_eq_true rfl) d_Mo_goOn_215 (w' := wd_Mpr cs (hq p0.toNatClampNeg) (qr p0.toNatClampNeg) (fun _ => QO259 p0.toNatClampNeg) (upd (upd (QF260 p0.toNatClampNeg) 7 0) 11 z288) (QA261 p0.toNatClampNeg) (fun _ _ => none)) (ps' := [wd_Mo cs mo mr (fun _ => none) mf257 md258 (gMo PG hq), fm 8 (fPg cs PG), fo 13 (fPr cs hq qr QO259 QF260 QA261) p0.toNatClampNeg, wd_Mpr cs (hq p0.toNatClampNeg) (qr p0.toNatClampNeg) (fun _ => QO259 p0.toNatClampNeg) (upd (upd (QF260 p0.toNatClampNeg) 7 0) 11 z288) (QA261 p0.toNatClampNeg) (fun _ _ => none)]) rfl rfl (fun H locs hw => ?_)
                            refine lv_goto (tgt := 241) S.x S.b d_Mo_goOn_218 (by decide) ?_
                            have hw := fpr_in (pr := [wd_Mo cs mo mr (fun _ => none) mf257 md258 (gMo PG hq), fm 8 (fPg cs PG)]) hw hi286
                            obtain ⟨QO291, hu_QO291⟩ : ∃ y : Nat → Option Nat, y = va_up QO259 p0.toNatClampNeg ((fun _ => QO259 p0.toNatClampNeg) 0) := ⟨_, rfl⟩
                            obtain ⟨QF292, hu_QF292⟩ : ∃ y : Nat → Nat → Int32, y = va_up QF260 p0.toNatClampNeg (upd (upd (QF260 p0.toNatClampNeg) 7 0) 11 z288) := ⟨_, rfl⟩
                            obtain ⟨QA293, hu_QA293⟩ : ∃ y : Nat → Nat → Nat → Int32, y = va_up QA261 p0.toNatClampNeg (QA261 p0.toNatClampNeg) := ⟨_, rfl⟩
                            have hw : pw D A s.heap _ _ [wd_Mo cs mo mr (fun _ => none) mf257 md258 (gMo PG hq), fm 8 (fPg cs PG), fm 13 (fPr cs hq qr QO291 QF292 QA293)] := (by rw [hu_QO291, hu_QF292, hu_QA293]; exact hw)
                            have hpr : PrA PG (va_up RR p0.toNatClampNeg (R_12 - 1)) QO291 QF292 QA293 := (by rw [hu_QO291, hu_QF292, hu_QA293]; exact PrX.inR hpx (psr_tx (j := j9) hj9 (hko.1.trans hqo) h61 (show (0 ≤ ((QF260 p0.toNatClampNeg) 1).toInt ∧ ((QF260 p0.toNatClampNeg) 1).toInt ≤ 1) ∧ (0 ≤ ((QF260 p0.toNatClampNeg) 21).toInt ∧ ((QF260 p0.toNatClampNeg) 21).toInt ≤ 4) ∧ (0 ≤ ((QF260 p0.toNatClampNeg) 23).toInt ∧ ((QF260 p0.toNatClampNeg) 23).toInt ≤ 4) ∧ (0 ≤ ((QF260 p0.toNatClampNeg) 24).toInt ∧ ((QF260 p0.toNatClampNeg) 24).toInt ≤ 1000000) ∧ (0 ≤ ((QF260 p0.toNatClampNeg) 6).toInt ∧ ((QF260 p0.toNatClampNeg) 6).toInt ≤ 3) ∧ (0 ≤ (0 : Int) ∧ (0 : Int) ≤ 1) from by omega) (show ((QF260 p0.toNatClampNeg) 1).toInt = 1 from by first | exact oz_154b4b53d6 hko2.1 hqk1_QF250 e221 hg1.1 | omega) (by omega) (fun _ => by have q8 := hpd; rw [va_up_s] at q8; exact PdT.nx q8 (show ((QF260 p0.toNatClampNeg) 4).toInt = (QF260 p0.toNatClampNeg 4).toInt ∧ ((QF260 p0.toNatClampNeg) 5).toInt = (QF260 p0.toNatClampNeg 5).toInt ∧ ((QF260 p0.toNatClampNeg) 10).toInt = (QF260 p0.toNatClampNeg 10).toInt ∧ ((QF260 p0.toNatClampNeg) 12).toInt = (QF260 p0.toNatClampNeg 12).toInt ∧ ((QF260 p0.toNatClampNeg) 13).toInt = (QF260 p0.toNatClampNeg 13).toInt ∧ ((QF260 p0.toNatClampNeg) 14).toInt = (QF260 p0.toNatClampNeg 14).toInt from by first | exact oz_28eebd5525 | omega) (show z288.toInt = (QF260 p0.toNatClampNeg 11).toInt + 1 from by first | exact oz_037caa6b79 tz288 | omega) (show ((QF260 p0.toNatClampNeg) 24).toInt = (QF260 p0.toNatClampNeg 24).toInt from by first | exact oz_507c05ca68 | omega) (show (0 : Int) = 0 from by first | exact oz_7d1a308c7e | omega))) (show ((QF260 p0.toNatClampNeg) 1).toInt = (QF260 p0.toNatClampNeg 1).toInt from by first | exact oz_507c05ca68 | omega) (show (QF260 p0.toNatClampNeg 6).toInt ≤ ((QF260 p0.toNatClampNeg) 6).toInt from by first | exact oz_1cb5f934a5 | omega))
                            have hw : pw D A s.heap _ _ [wd_Mo cs mo mr (fun _ => none) mf257 md258 (gMo PG hq), fm 13 (fPr cs hq qr QO291 QF292 QA293), fm 8 (fPg cs PG)] := hw.sub [0, 2, 1] rfl rfl
                            exact J241 mf257 md258 QO291 QF292 QA293 (R_12 - 1) x12_3 (1 : Int32) _ _ ls (show PrA PG (va_up RR p0.toNatClampNeg (R_12 - 1)) QO291 QF292 QA293 from hpr) (show (mf257 0).toInt = (mf 0).toInt from by first | exact oz_1687f4cc65 k12_1 e268 | omega) (show (mf257 2).toInt = (mf 2).toInt from by first | exact oz_1687f4cc65 k12_2 e269 | omega) (show (mf257 3).toInt = (mf 3).toInt from by first | exact oz_1687f4cc65 k12_3 e270 | omega) (show (mf257 7).toInt = (mf 7).toInt from by first | exact oz_1687f4cc65 k12_4 e271 | omega) (show (mf257 8).toInt = (mf 8).toInt from by first | exact oz_1687f4cc65 k12_5 e272 | omega) (show (mf257 10).toInt = (mf 10).toInt from by first | exact oz_1687f4cc65 k12_6 e273 | omega) (show Md1 md md258 from hmdq) (show x12_3.toInt = x12_3.toInt from rfl) (show 0 ≤ (1 : Int) from by first | exact oz_19c3a41681 | omega) (show (1 : Int) ≤ 1 from by first | exact oz_f9181dc4bb | omega) (show (R_12 - 1) + (1 : Int) ≤ R_12 from by first | exact oz_9af69b5cb8 | omega) (show (R_12 - 1) ≤ R_12 from by first | exact oz_f81ab12e42 | omega) (show 1 ≤ x12_4.toInt from by first | exact oz_70c2bdf1b6 k12_10 nc5 | omega) hw (lv_sub hl [4, 5, 6, 7, 0] rfl)
                          · have nc289 : ¬ ((QF260 p0.toNatClampNeg) 7).toInt = (0 : Int) := mt (i_eq (x := ((QF260 p0.toNatClampNeg) 7)) (y := 0)).mpr c289
                            refine lv_iload S.x S.b d_Mo_goOn_205 (lv_at hl 0 rfl) ?_
                            refine lv_if_ne (tgt := 214) S.x S.b d_Mo_goOn_207 (by decide) (fun c294 => ?_) (fun c294 => ?_)
                            ·
                              refine lv_iconst (v := 0) S.x S.b d_Mo_goOn_214 (by decide) ?_
                              refine px_put S k_Mpr hT hw 3 0 7 rfl rfl (by decide) m10_235 rfl rfl rfl (Nat.le_of_ble_eq_true rfl) d_Mo_goOn_215 (w' := wd_Mpr cs (hq p0.toNatClampNeg) (qr p0.toNatClampNeg) (fun _ => QO259 p0.toNatClampNeg) (upd (upd (QF260 p0.toNatClampNeg) 7 0) 11 z288) (QA261 p0.toNatClampNeg) (fun _ _ => none)) (ps' := [wd_Mo cs mo mr (fun _ => none) mf257 md258 (gMo PG hq), fm 8 (fPg cs PG), fo 13 (fPr cs hq qr QO259 QF260 QA261) p0.toNatClampNeg, wd_Mpr cs (hq p0.toNatClampNeg) (qr p0.toNatClampNeg) (fun _ => QO259 p0.toNatClampNeg) (upd (upd (QF260 p0.toNatClampNeg) 7 0) 11 z288) (QA261 p0.toNatClampNeg) (fun _ _ => none)]) rfl rfl (fun H locs hw => ?_)
                              refine lv_goto (tgt := 241) S.x S.b d_Mo_goOn_218 (by decide) ?_
                              have hw := fpr_in (pr := [wd_Mo cs mo mr (fun _ => none) mf257 md258 (gMo PG hq), fm 8 (fPg cs PG)]) hw hi286
                              obtain ⟨QO295, hu_QO295⟩ : ∃ y : Nat → Option Nat, y = va_up QO259 p0.toNatClampNeg ((fun _ => QO259 p0.toNatClampNeg) 0) := ⟨_, rfl⟩
                              obtain ⟨QF296, hu_QF296⟩ : ∃ y : Nat → Nat → Int32, y = va_up QF260 p0.toNatClampNeg (upd (upd (QF260 p0.toNatClampNeg) 7 0) 11 z288) := ⟨_, rfl⟩
                              obtain ⟨QA297, hu_QA297⟩ : ∃ y : Nat → Nat → Nat → Int32, y = va_up QA261 p0.toNatClampNeg (QA261 p0.toNatClampNeg) := ⟨_, rfl⟩
                              have hw : pw D A s.heap _ _ [wd_Mo cs mo mr (fun _ => none) mf257 md258 (gMo PG hq), fm 8 (fPg cs PG), fm 13 (fPr cs hq qr QO295 QF296 QA297)] := (by rw [hu_QO295, hu_QF296, hu_QA297]; exact hw)
                              have hpr : PrA PG (va_up RR p0.toNatClampNeg (R_12 - 1)) QO295 QF296 QA297 := (by rw [hu_QO295, hu_QF296, hu_QA297]; exact PrX.inR hpx (psr_tx (j := j9) hj9 (hko.1.trans hqo) h61 (show (0 ≤ ((QF260 p0.toNatClampNeg) 1).toInt ∧ ((QF260 p0.toNatClampNeg) 1).toInt ≤ 1) ∧ (0 ≤ ((QF260 p0.toNatClampNeg) 21).toInt ∧ ((QF260 p0.toNatClampNeg) 21).toInt ≤ 4) ∧ (0 ≤ ((QF260 p0.toNatClampNeg) 23).toInt ∧ ((QF260 p0.toNatClampNeg) 23).toInt ≤ 4) ∧ (0 ≤ ((QF260 p0.toNatClampNeg) 24).toInt ∧ ((QF260 p0.toNatClampNeg) 24).toInt ≤ 1000000) ∧ (0 ≤ ((QF260 p0.toNatClampNeg) 6).toInt ∧ ((QF260 p0.toNatClampNeg) 6).toInt ≤ 3) ∧ (0 ≤ (0 : Int) ∧ (0 : Int) ≤ 1) from by omega) (show ((QF260 p0.toNatClampNeg) 1).toInt = 1 from by first | exact oz_154b4b53d6 hko2.1 hqk1_QF250 e221 hg1.1 | omega) (by omega) (fun _ => by have q8 := hpd; rw [va_up_s] at q8; exact PdT.nx q8 (show ((QF260 p0.toNatClampNeg) 4).toInt = (QF260 p0.toNatClampNeg 4).toInt ∧ ((QF260 p0.toNatClampNeg) 5).toInt = (QF260 p0.toNatClampNeg 5).toInt ∧ ((QF260 p0.toNatClampNeg) 10).toInt = (QF260 p0.toNatClampNeg 10).toInt ∧ ((QF260 p0.toNatClampNeg) 12).toInt = (QF260 p0.toNatClampNeg 12).toInt ∧ ((QF260 p0.toNatClampNeg) 13).toInt = (QF260 p0.toNatClampNeg 13).toInt ∧ ((QF260 p0.toNatClampNeg) 14).toInt = (QF260 p0.toNatClampNeg 14).toInt from by first | exact oz_28eebd5525 | omega) (show z288.toInt = (QF260 p0.toNatClampNeg 11).toInt + 1 from by first | exact oz_037caa6b79 tz288 | omega) (show ((QF260 p0.toNatClampNeg) 24).toInt = (QF260 p0.toNatClampNeg 24).toInt from by first | exact oz_507c05ca68 | omega) (show (0 : Int) = 0 from by first | exact oz_7d1a308c7e | omega))) (show ((QF260 p0.toNatClampNeg) 1).toInt = (QF260 p0.toNatClampNeg 1).toInt from by first | exact oz_507c05ca68 | omega) (show (QF260 p0.toNatClampNeg 6).toInt ≤ ((QF260 p0.toNatClampNeg) 6).toInt from by first | exact oz_1cb5f934a5 | omega))
                              have hw : pw D A s.heap _ _ [wd_Mo cs mo mr (fun _ => none) mf257 md258 (gMo PG hq), fm 13 (fPr cs hq qr QO295 QF296 QA297), fm 8 (fPg cs PG)] := hw.sub [0, 2, 1] rfl rfl
                              exact J241 mf257 md258 QO295 QF296 QA297 (R_12 - 1) x12_3 (1 : Int32) _ _ ls (show PrA PG (va_up RR p0.toNatClampNeg (R_12 - 1)) QO295 QF296 QA297 from hpr) (show (mf257 0).toInt = (mf 0).toInt from by first | exact oz_1687f4cc65 k12_1 e268 | omega) (show (mf257 2).toInt = (mf 2).toInt from by first | exact oz_1687f4cc65 k12_2 e269 | omega) (show (mf257 3).toInt = (mf 3).toInt from by first | exact oz_1687f4cc65 k12_3 e270 | omega) (show (mf257 7).toInt = (mf 7).toInt from by first | exact oz_1687f4cc65 k12_4 e271 | omega) (show (mf257 8).toInt = (mf 8).toInt from by first | exact oz_1687f4cc65 k12_5 e272 | omega) (show (mf257 10).toInt = (mf 10).toInt from by first | exact oz_1687f4cc65 k12_6 e273 | omega) (show Md1 md md258 from hmdq) (show x12_3.toInt = x12_3.toInt from rfl) (show 0 ≤ (1 : Int) from by first | exact oz_19c3a41681 | omega) (show (1 : Int) ≤ 1 from by first | exact oz_f9181dc4bb | omega) (show (R_12 - 1) + (1 : Int) ≤ R_12 from by first | exact oz_9af69b5cb8 | omega) (show (R_12 - 1) ≤ R_12 from by first | exact oz_f81ab12e42 | omega) (show 1 ≤ x12_4.toInt from by first | exact oz_70c2bdf1b6 k12_10 nc5 | omega) hw (lv_sub hl [4, 5, 6, 7, 0] rfl)
                            · exact absurd c294 (by decide)
                  · have nc233 : ¬ v217.toInt = (0 : Int) := mt (i_eq (x := v217) (y := 0)).mpr c233
                    refine lv_iconst (v := 1) S.x S.b d_Mo_goOn_143 (by decide) ?_
                    have htw1 := htkv.elim id (fun q8 => absurd q8.1 (by omega))
                    refine lv_goto (tgt := 148) S.x S.b d_Mo_goOn_144 (by decide) ?_
                    refine px_put S k_Mpr hT hw 3 0 7 rfl rfl (by decide) m10_235 rfl rfl rfl (Nat.le_of_ble_eq_true rfl) d_Mo_goOn_148 (w' := wd_Mpr cs (hq p0.toNatClampNeg) (qr p0.toNatClampNeg) (fun k => if k = 0 then (some (PG j9).h) else none) (upd qf215 7 1) (QA_12 p0.toNatClampNeg) (fun _ _ => none)) (ps' := [wd_Mo cs mo mr (fun _ => none) mf_12 md_12 (gMo PG hq), fo 13 (fPr cs hq qr QO_12 QF_12 QA_12) p0.toNatClampNeg, fo 8 (fPg cs PG) j9, wd_Mpr cs (hq p0.toNatClampNeg) (qr p0.toNatClampNeg) (fun k => if k = 0 then (some (PG j9).h) else none) (upd qf215 7 1) (QA_12 p0.toNatClampNeg) (fun _ _ => none), wdP cs (PG j9).h (PG j9).r (PG j9).g (PG j9).tf (PG j9).ta (PG j9).pf (PG j9).na (PG j9).ma (PG j9).wa (PG j9).cf (PG j9).ca (PG j9).ef (PG j9).ea (PG j9).xf (PG j9).xa]) rfl rfl (fun H locs hw => ?_)
                    refine lv_aload_n S.x S.b d_Mo_goOn_151 rfl (lv_at hl 5 rfl) ?_
                    have hw : pw D A s.heap _ _ [wd_Mo cs mo mr (fun _ => none) mf_12 md_12 (gMo PG hq), fo 13 (fPr cs hq qr QO_12 QF_12 QA_12) p0.toNatClampNeg, fo 8 (fPg cs PG) j9, wdP cs (PG j9).h (PG j9).r (PG j9).g (PG j9).tf (PG j9).ta (PG j9).pf (PG j9).na (PG j9).ma (PG j9).wa (PG j9).cf (PG j9).ca (PG j9).ef (PG j9).ea (PG j9).xf (PG j9).xa, wd_Mpr cs (hq p0.toNatClampNeg) (qr p0.toNatClampNeg) (fun k => if k = 0 then (some (PG j9).h) else none) (upd qf215 7 1) (QA_12 p0.toNatClampNeg) (fun _ _ => none)] := hw.sub [0, 1, 2, 4, 3] rfl rfl
                    refine px_calli (pr := [wd_Mo cs mo mr (fun _ => none) mf_12 md_12 (gMo PG hq), fo 13 (fPr cs hq qr QO_12 QF_12 QA_12) p0.toNatClampNeg, fo 8 (fPg cs PG) j9, wdP cs (PG j9).h (PG j9).r (PG j9).g (PG j9).tf (PG j9).ta (PG j9).pf (PG j9).na (PG j9).ma (PG j9).wa (PG j9).cf (PG j9).ca (PG j9).ef (PG j9).ea (PG j9).xf (PG j9).xa]) (px_runV (As := []) (rest := []) S (c_mqq_isGoing l D cs (hq p0.toNatClampNeg) (qr p0.toNatClampNeg) (fun _ _ => none) (fun k => if k = 0 then (some (PG j9).h) else none) (upd qf215 7 1) (QA_12 p0.toNatClampNeg)    _) hT (pr := [wd_Mo cs mo mr (fun _ => none) mf_12 md_12 (gMo PG hq), fo 13 (fPr cs hq qr QO_12 QF_12 QA_12) p0.toNatClampNeg, fo 8 (fPg cs PG) j9, wdP cs (PG j9).h (PG j9).r (PG j9).g (PG j9).tf (PG j9).ta (PG j9).pf (PG j9).na (PG j9).ma (PG j9).wa (PG j9).cf (PG j9).ca (PG j9).ef (PG j9).ea (PG j9).xf (PG j9).xa]) (pcs := [wd_Mpr cs (hq p0.toNatClampNeg) (qr p0.toNatClampNeg) (fun k => if k = 0 then (some (PG j9).h) else none) (upd qf215 7 1) (QA_12 p0.toNatClampNeg) (fun _ _ => none)]) hw px_X.tt (px_recv hT hw 4 0 rfl rfl rfl) m13_165 m13_162 m13_163 m13_164 m1_22 q_Mpr_isGoing ⟨Nat.le_of_ble_eq_true rfl, Nat.le_of_ble_eq_true rfl⟩ hl.1 rfl (Nat.le_of_ble_eq_true rfl) d_Mo_goOn_152 ⟨Nat.le_of_ble_eq_true rfl, Nat.le_of_ble_eq_true rfl⟩) hw hA (fun v299 p298 H locs hp298 hw => ?_)
                    obtain ⟨rfl, e300, e301, e302⟩ := hp298
                    have e300 : 0 ≤ v299.toInt := e300
                    have e301 : v299.toInt ≤ 1 := e301
                    have e302 : IgV v299.toInt (qf215 1).toInt (qf215 2).toInt := e302
                    have hig := e302
                    have hw : pw D A s.heap H locs [wd_Mo cs mo mr (fun _ => none) mf_12 md_12 (gMo PG hq), fo 13 (fPr cs hq qr QO_12 QF_12 QA_12) p0.toNatClampNeg, fo 8 (fPg cs PG) j9, wdP cs (PG j9).h (PG j9).r (PG j9).g (PG j9).tf (PG j9).ta (PG j9).pf (PG j9).na (PG j9).ma (PG j9).wa (PG j9).cf (PG j9).ca (PG j9).ef (PG j9).ea (PG j9).xf (PG j9).xa, wd_Mpr cs (hq p0.toNatClampNeg) (qr p0.toNatClampNeg) (fun k => if k = 0 then (some (PG j9).h) else none) (upd qf215 7 1) (QA_12 p0.toNatClampNeg) (fun _ _ => none)] := hw
                    have lv299 := Int32.le_toInt v299
                    have uv299 := Int32.toInt_lt v299
                    refine lv_if_eq (tgt := 168) S.x S.b d_Mo_goOn_155 (by decide) (fun c303 => ?_) (fun c303 => ?_)
                    · have nc303 : v299.toInt = (0 : Int) := (i_eq (x := v299) (y := 0)).mp c303
                      refine lv_iconst (v := 1) S.x S.b d_Mo_goOn_168 (by decide) ?_
                      have hg3 := hig.elim (fun q8 => absurd q8.1 (by omega)) (fun q8 => q8.2)
                      refine lv_goto (tgt := 173) S.x S.b d_Mo_goOn_169 (by decide) ?_
                      refine lv_istore (lv' := [(4, .int 1), (7, .int z61), (6, .int z57), (5, .int z53), (0, .ref mo), (1, .int p0), (2, .ref (hq p0.toNatClampNeg)), (3, .int x12_3)]) S.x S.b d_Mo_goOn_173 hl (by decide) rfl (fun ls hl => ?_)
                      refine lv_aload_n S.x S.b d_Mo_goOn_175 rfl (lv_at hl 6 rfl) ?_
                      refine lv_iload S.x S.b d_Mo_goOn_176 (lv_at hl 0 rfl) ?_
                      refine lv_if_eq (tgt := 190) S.x S.b d_Mo_goOn_178 (by decide) (fun c305 => ?_) (fun c305 => ?_)
                      · exact absurd c305 (by decide)
                      ·
                        refine lv_aload_n S.x S.b d_Mo_goOn_181 rfl (lv_at hl 6 rfl) ?_
                        refine px_get S k_Mpr hT hw 4 0 11 (v := .int (qf215 11)) rfl rfl rfl (by decide) m11_3 d_Mo_goOn_182 ?_
                        refine lv_iconst (v := 1) S.x S.b d_Mo_goOn_185 (by decide) ?_
                        refine lv_iadd S.x S.b d_Mo_goOn_186 ?_
                        have lr306 := Int32.le_toInt (qf215 11)
                        have ur306 := Int32.toInt_lt (qf215 11)
                        refine lv_topi (fun z307 ez307 => ?_)
                        have tz307 : z307.toInt = ((qf215 11).toInt + (1 : Int) + 2147483648) % 4294967296 - 2147483648 := by rw [ez307]; exact i_add (qf215 11) 1
                        have lz307 := Int32.le_toInt z307
                        have uz307 := Int32.toInt_lt z307
                        try replace tz307 : z307.toInt = (qf215 11).toInt + (1 : Int) := by omega
                        refine lv_goto (tgt := 194) S.x S.b d_Mo_goOn_187 (by decide) ?_
                        refine px_put S k_Mpr hT hw 4 0 11 rfl rfl (by decide) m11_3 rfl rfl rfl (Nat.le_of_ble_eq_true rfl) d_Mo_goOn_194 (w' := wd_Mpr cs (hq p0.toNatClampNeg) (qr p0.toNatClampNeg) (fun k => if k = 0 then (some (PG j9).h) else none) (upd (upd qf215 7 1) 11 z307) (QA_12 p0.toNatClampNeg) (fun _ _ => none)) (ps' := [wd_Mo cs mo mr (fun _ => none) mf_12 md_12 (gMo PG hq), fo 13 (fPr cs hq qr QO_12 QF_12 QA_12) p0.toNatClampNeg, fo 8 (fPg cs PG) j9, wdP cs (PG j9).h (PG j9).r (PG j9).g (PG j9).tf (PG j9).ta (PG j9).pf (PG j9).na (PG j9).ma (PG j9).wa (PG j9).cf (PG j9).ca (PG j9).ef (PG j9).ea (PG j9).xf (PG j9).xa, wd_Mpr cs (hq p0.toNatClampNeg) (qr p0.toNatClampNeg) (fun k => if k = 0 then (some (PG j9).h) else none) (upd (upd qf215 7 1) 11 z307) (QA_12 p0.toNatClampNeg) (fun _ _ => none)]) rfl rfl (fun H locs hw => ?_)
                        refine lv_aload_n S.x S.b d_Mo_goOn_197 rfl (lv_at hl 6 rfl) ?_
                        refine lv_aload_n S.x S.b d_Mo_goOn_198 rfl (lv_at hl 6 rfl) ?_
                        refine px_get S k_Mpr hT hw 4 0 7 (v := .int 1) rfl rfl rfl (by decide) m10_235 d_Mo_goOn_199 ?_
                        refine lv_if_eq (tgt := 214) S.x S.b d_Mo_goOn_202 (by decide) (fun c308 => ?_) (fun c308 => ?_)
                        · exact absurd c308 (by decide)
                        ·
                          refine lv_iload S.x S.b d_Mo_goOn_205 (lv_at hl 0 rfl) ?_
                          refine lv_if_ne (tgt := 214) S.x S.b d_Mo_goOn_207 (by decide) (fun c309 => ?_) (fun c309 => ?_)
                          ·
                            refine lv_iconst (v := 0) S.x S.b d_Mo_goOn_214 (by decide) ?_
                            refine px_put S k_Mpr hT hw 4 0 7 rfl rfl (by decide) m10_235 rfl rfl rfl (Nat.le_of_ble_eq_true rfl) d_Mo_goOn_215 (w' := wd_Mpr cs (hq p0.toNatClampNeg) (qr p0.toNatClampNeg) (fun k => if k = 0 then (some (PG j9).h) else none) (upd (upd qf215 7 0) 11 z307) (QA_12 p0.toNatClampNeg) (fun _ _ => none)) (ps' := [wd_Mo cs mo mr (fun _ => none) mf_12 md_12 (gMo PG hq), fo 13 (fPr cs hq qr QO_12 QF_12 QA_12) p0.toNatClampNeg, fo 8 (fPg cs PG) j9, wdP cs (PG j9).h (PG j9).r (PG j9).g (PG j9).tf (PG j9).ta (PG j9).pf (PG j9).na (PG j9).ma (PG j9).wa (PG j9).cf (PG j9).ca (PG j9).ef (PG j9).ea (PG j9).xf (PG j9).xa, wd_Mpr cs (hq p0.toNatClampNeg) (qr p0.toNatClampNeg) (fun k => if k = 0 then (some (PG j9).h) else none) (upd (upd qf215 7 0) 11 z307) (QA_12 p0.toNatClampNeg) (fun _ _ => none)]) rfl rfl (fun H locs hw => ?_)
                            refine lv_goto (tgt := 241) S.x S.b d_Mo_goOn_218 (by decide) ?_
                            have hw : pw D A s.heap _ _ [wd_Mo cs mo mr (fun _ => none) mf_12 md_12 (gMo PG hq), fo 8 (fPg cs PG) j9, wdP cs (PG j9).h (PG j9).r (PG j9).g (PG j9).tf (PG j9).ta (PG j9).pf (PG j9).na (PG j9).ma (PG j9).wa (PG j9).cf (PG j9).ca (PG j9).ef (PG j9).ea (PG j9).xf (PG j9).xa, fo 13 (fPr cs hq qr QO_12 QF_12 QA_12) p0.toNatClampNeg, wd_Mpr cs (hq p0.toNatClampNeg) (qr p0.toNatClampNeg) (fun k => if k = 0 then (some (PG j9).h) else none) (upd (upd qf215 7 0) 11 z307) (QA_12 p0.toNatClampNeg) (fun _ _ => none)] := hw.sub [0, 2, 3, 1, 4] rfl rfl
                            have hw := fpr_in (pr := [wd_Mo cs mo mr (fun _ => none) mf_12 md_12 (gMo PG hq), fo 8 (fPg cs PG) j9, wdP cs (PG j9).h (PG j9).r (PG j9).g (PG j9).tf (PG j9).ta (PG j9).pf (PG j9).na (PG j9).ma (PG j9).wa (PG j9).cf (PG j9).ca (PG j9).ef (PG j9).ea (PG j9).xf (PG j9).xa]) hw hi24
                            obtain ⟨QO310, hu_QO310⟩ : ∃ y : Nat → Option Nat, y = va_up QO_12 p0.toNatClampNeg ((fun k => if k = 0 then (some (PG j9).h) else none) 0) := ⟨_, rfl⟩
                            obtain ⟨QF311, hu_QF311⟩ : ∃ y : Nat → Nat → Int32, y = va_up QF_12 p0.toNatClampNeg (upd (upd qf215 7 0) 11 z307) := ⟨_, rfl⟩
                            obtain ⟨QA312, hu_QA312⟩ : ∃ y : Nat → Nat → Nat → Int32, y = va_up QA_12 p0.toNatClampNeg (QA_12 p0.toNatClampNeg) := ⟨_, rfl⟩
                            have hw : pw D A s.heap _ _ [wd_Mo cs mo mr (fun _ => none) mf_12 md_12 (gMo PG hq), fo 8 (fPg cs PG) j9, wdP cs (PG j9).h (PG j9).r (PG j9).g (PG j9).tf (PG j9).ta (PG j9).pf (PG j9).na (PG j9).ma (PG j9).wa (PG j9).cf (PG j9).ca (PG j9).ef (PG j9).ea (PG j9).xf (PG j9).xa, fm 13 (fPr cs hq qr QO310 QF311 QA312)] := (by rw [hu_QO310, hu_QF311, hu_QA312]; exact hw)
                            have hpr : PrA PG (va_up RR p0.toNatClampNeg (R_12 - 1)) QO310 QF311 QA312 := (by rw [hu_QO310, hu_QF311, hu_QA312]; exact PrA.upR2 hpr hi24 (psr_en (show (0 ≤ (qf215 1).toInt ∧ (qf215 1).toInt ≤ 1) ∧ (0 ≤ (qf215 21).toInt ∧ (qf215 21).toInt ≤ 4) ∧ (0 ≤ (qf215 23).toInt ∧ (qf215 23).toInt ≤ 4) ∧ (0 ≤ (qf215 24).toInt ∧ (qf215 24).toInt ≤ 1000000) ∧ (0 ≤ (qf215 6).toInt ∧ (qf215 6).toInt ≤ 3) ∧ (0 ≤ (0 : Int) ∧ (0 : Int) ≤ 1) from by omega) (show (qf215 1).toInt = 1 from by first | exact oz_e863b17997 e221 hg1.1 | omega) (by omega) (show (qf215 2).toInt ≠ -2 from by omega)) (show (qf215 1).toInt = (QF_12 p0.toNatClampNeg 1).toInt from by first | exact oz_1811ac7fe4 e221 | omega) (show (QF_12 p0.toNatClampNeg 6).toInt ≤ (qf215 6).toInt from by first | exact oz_f9b42d1b56 e223 | omega))
                            have hqk1_QF311 : (QF311 p0.toNatClampNeg 1).toInt = (qf215 1).toInt := (by rw [hu_QF311, va_up_s]; try rfl)
                            have hqk2_QF311 : (QF311 p0.toNatClampNeg 2).toInt = (qf215 2).toInt := (by rw [hu_QF311, va_up_s]; try rfl)
                            have hqk4_QF311 : (QF311 p0.toNatClampNeg 4).toInt = (qf215 4).toInt := (by rw [hu_QF311, va_up_s]; try rfl)
                            have hqk7_QF311 : (QF311 p0.toNatClampNeg 7).toInt = (0 : Int) := (by rw [hu_QF311, va_up_s]; try rfl)
                            have hqk10_QF311 : (QF311 p0.toNatClampNeg 10).toInt = (qf215 10).toInt := (by rw [hu_QF311, va_up_s]; try rfl)
                            have hqk11_QF311 : (QF311 p0.toNatClampNeg 11).toInt = z307.toInt := (by rw [hu_QF311, va_up_s]; try rfl)
                            have hqk24_QF311 : (QF311 p0.toNatClampNeg 24).toInt = (qf215 24).toInt := (by rw [hu_QF311, va_up_s]; try rfl)
                            have hw : pw D A s.heap _ _ [wd_Mo cs mo mr (fun _ => none) mf_12 md_12 (gMo PG hq), fm 13 (fPr cs hq qr QO310 QF311 QA312), fo 8 (fPg cs PG) j9, wdP cs (PG j9).h (PG j9).r (PG j9).g (PG j9).tf (PG j9).ta (PG j9).pf (PG j9).na (PG j9).ma (PG j9).wa (PG j9).cf (PG j9).ca (PG j9).ef (PG j9).ea (PG j9).xf (PG j9).xa] := hw.sub [0, 3, 1, 2] rfl rfl
                            have hw : pw D A s.heap _ _ [wd_Mo cs mo mr (fun _ => none) mf_12 md_12 (gMo PG hq), fm 13 (fPr cs hq qr QO310 QF311 QA312), fm 8 (fPg cs PG)] := fm_back (pr := [wd_Mo cs mo mr (fun _ => none) mf_12 md_12 (gMo PG hq), fm 13 (fPr cs hq qr QO310 QF311 QA312)]) (T := fPg cs PG) hw hj9
                            exact J241 mf_12 md_12 QO310 QF311 QA312 (R_12 - 1) x12_3 (1 : Int32) _ _ ls (show PrA PG (va_up RR p0.toNatClampNeg (R_12 - 1)) QO310 QF311 QA312 from hpr) (show (mf_12 0).toInt = (mf 0).toInt from by first | exact k12_1 | omega) (show (mf_12 2).toInt = (mf 2).toInt from by first | exact k12_2 | omega) (show (mf_12 3).toInt = (mf 3).toInt from by first | exact k12_3 | omega) (show (mf_12 7).toInt = (mf 7).toInt from by first | exact k12_4 | omega) (show (mf_12 8).toInt = (mf 8).toInt from by first | exact k12_5 | omega) (show (mf_12 10).toInt = (mf 10).toInt from by first | exact k12_6 | omega) (show Md1 md md_12 from hmdq) (show x12_3.toInt = x12_3.toInt from rfl) (show 0 ≤ (1 : Int) from by first | exact oz_19c3a41681 | omega) (show (1 : Int) ≤ 1 from by first | exact oz_f9181dc4bb | omega) (show (R_12 - 1) + (1 : Int) ≤ R_12 from by first | exact oz_9af69b5cb8 | omega) (show (R_12 - 1) ≤ R_12 from by first | exact oz_f81ab12e42 | omega) (show 1 ≤ x12_4.toInt from by first | exact oz_70c2bdf1b6 k12_10 nc5 | omega) hw (lv_sub hl [4, 5, 6, 7, 0] rfl)
                          · exact absurd c309 (by decide)
                    · have nc303 : ¬ v299.toInt = (0 : Int) := mt (i_eq (x := v299) (y := 0)).mpr c303
                      refine lv_aload_n S.x S.b d_Mo_goOn_158 rfl (lv_at hl 3 rfl) ?_
                      have hg2 := hig.elim id (fun q8 => absurd q8.1 (by omega))
                      refine lv_iload_n S.x S.b d_Mo_goOn_159 rfl (lv_at hl 4 rfl) ?_
                      refine lv_iload S.x S.b d_Mo_goOn_160 (lv_at hl 1 rfl) ?_
                      have hw : pw D A s.heap _ _ [wd_Mo cs mo mr (fun _ => none) mf_12 md_12 (gMo PG hq), fo 8 (fPg cs PG) j9, wdP cs (PG j9).h (PG j9).r (PG j9).g (PG j9).tf (PG j9).ta (PG j9).pf (PG j9).na (PG j9).ma (PG j9).wa (PG j9).cf (PG j9).ca (PG j9).ef (PG j9).ea (PG j9).xf (PG j9).xa, fo 13 (fPr cs hq qr QO_12 QF_12 QA_12) p0.toNatClampNeg, wd_Mpr cs (hq p0.toNatClampNeg) (qr p0.toNatClampNeg) (fun k => if k = 0 then (some (PG j9).h) else none) (upd qf215 7 1) (QA_12 p0.toNatClampNeg) (fun _ _ => none)] := hw.sub [0, 2, 3, 1, 4] rfl rfl
                      have hw := fpr_in (pr := [wd_Mo cs mo mr (fun _ => none) mf_12 md_12 (gMo PG hq), fo 8 (fPg cs PG) j9, wdP cs (PG j9).h (PG j9).r (PG j9).g (PG j9).tf (PG j9).ta (PG j9).pf (PG j9).na (PG j9).ma (PG j9).wa (PG j9).cf (PG j9).ca (PG j9).ef (PG j9).ea (PG j9).xf (PG j9).xa]) hw hi24
                      obtain ⟨QO313, hu_QO313⟩ : ∃ y : Nat → Option Nat, y = va_up QO_12 p0.toNatClampNeg ((fun k => if k = 0 then (some (PG j9).h) else none) 0) := ⟨_, rfl⟩
                      obtain ⟨QF314, hu_QF314⟩ : ∃ y : Nat → Nat → Int32, y = va_up QF_12 p0.toNatClampNeg (upd qf215 7 1) := ⟨_, rfl⟩
                      obtain ⟨QA315, hu_QA315⟩ : ∃ y : Nat → Nat → Nat → Int32, y = va_up QA_12 p0.toNatClampNeg (QA_12 p0.toNatClampNeg) := ⟨_, rfl⟩
                      have hw : pw D A s.heap _ _ [wd_Mo cs mo mr (fun _ => none) mf_12 md_12 (gMo PG hq), fo 8 (fPg cs PG) j9, wdP cs (PG j9).h (PG j9).r (PG j9).g (PG j9).tf (PG j9).ta (PG j9).pf (PG j9).na (PG j9).ma (PG j9).wa (PG j9).cf (PG j9).ca (PG j9).ef (PG j9).ea (PG j9).xf (PG j9).xa, fm 13 (fPr cs hq qr QO313 QF314 QA315)] := (by rw [hu_QO313, hu_QF314, hu_QA315]; exact hw)
                      have hpay : PsT (PG j9) R_12 (upd qf215 7 1) (QA_12 p0.toNatClampNeg) := (PsT.pay hpt (show (qf215 5).toInt = (QF_12 p0.toNatClampNeg 5).toInt ∧ (qf215 10).toInt = (QF_12 p0.toNatClampNeg 10).toInt ∧ (qf215 11).toInt = (QF_12 p0.toNatClampNeg 11).toInt ∧ (qf215 12).toInt = (QF_12 p0.toNatClampNeg 12).toInt ∧ (qf215 13).toInt = (QF_12 p0.toNatClampNeg 13).toInt ∧ (qf215 14).toInt = (QF_12 p0.toNatClampNeg 14).toInt ∧ (qf215 24).toInt = (QF_12 p0.toNatClampNeg 24).toInt from by first | exact oz_b005c07786 e222 e225 e226 e227 e228 e229 e232 | omega) (show 0 ≤ (qf215 4).toInt ∧ (qf215 4).toInt ≤ (QF_12 p0.toNatClampNeg 4).toInt from by omega) ho16 (fun q8 => (show (qf215 24).toInt + (qf215 4).toInt ≤ 99 from by rw [hoa] at q8; omega)))
                      have hpr : PrA PG (va_up RR p0.toNatClampNeg R_12) QO313 QF314 QA315 := (by rw [hu_QO313, hu_QF314, hu_QA315]; exact PrA.upR2 hpr hi24 (psr_tx (j := j9) hj9 (show _ = some _ from rfl) h61 (show (0 ≤ (qf215 1).toInt ∧ (qf215 1).toInt ≤ 1) ∧ (0 ≤ (qf215 21).toInt ∧ (qf215 21).toInt ≤ 4) ∧ (0 ≤ (qf215 23).toInt ∧ (qf215 23).toInt ≤ 4) ∧ (0 ≤ (qf215 24).toInt ∧ (qf215 24).toInt ≤ 1000000) ∧ (0 ≤ (qf215 6).toInt ∧ (qf215 6).toInt ≤ 3) ∧ (0 ≤ (1 : Int) ∧ (1 : Int) ≤ 1) from by omega) (show (qf215 1).toInt = 1 from by first | exact oz_e863b17997 e221 hg1.1 | omega) (by omega) (fun _ => hpay)) (show (qf215 1).toInt = (QF_12 p0.toNatClampNeg 1).toInt from by first | exact oz_1811ac7fe4 e221 | omega) (show (QF_12 p0.toNatClampNeg 6).toInt ≤ (qf215 6).toInt from by first | exact oz_f9b42d1b56 e223 | omega))
                      have hqk1_QF314 : (QF314 p0.toNatClampNeg 1).toInt = (qf215 1).toInt := (by rw [hu_QF314, va_up_s]; try rfl)
                      have hqk2_QF314 : (QF314 p0.toNatClampNeg 2).toInt = (qf215 2).toInt := (by rw [hu_QF314, va_up_s]; try rfl)
                      have hqk4_QF314 : (QF314 p0.toNatClampNeg 4).toInt = (qf215 4).toInt := (by rw [hu_QF314, va_up_s]; try rfl)
                      have hqk7_QF314 : (QF314 p0.toNatClampNeg 7).toInt = (1 : Int) := (by rw [hu_QF314, va_up_s]; try rfl)
                      have hqk10_QF314 : (QF314 p0.toNatClampNeg 10).toInt = (qf215 10).toInt := (by rw [hu_QF314, va_up_s]; try rfl)
                      have hqk11_QF314 : (QF314 p0.toNatClampNeg 11).toInt = (qf215 11).toInt := (by rw [hu_QF314, va_up_s]; try rfl)
                      have hqk24_QF314 : (QF314 p0.toNatClampNeg 24).toInt = (qf215 24).toInt := (by rw [hu_QF314, va_up_s]; try rfl)
                      have hqo : OqE (QO313 p0.toNatClampNeg) (PG j9).h := (by rw [hu_QO313, va_up_s]; exact rfl)
                      have hpo8 : (0 ≤ z57.toInt ∧ z57.toInt < 10) ∧ PoT (PG j9) ((va_up RR p0.toNatClampNeg R_12) p0.toNatClampNeg) z57.toInt (QF314 p0.toNatClampNeg) (QA315 p0.toNatClampNeg) := (by rw [va_up_s, hu_QF314, hu_QA315, va_up_s, va_up_s]; exact hpay.owc (by show ((PG j9).ea 61 (3 * (qf215 11).toInt).toNat).toInt = 16; rw [show (qf215 11).toInt = (QF_12 p0.toNatClampNeg 11).toInt by omega]; exact ho16) (by show ((PG j9).ea 61 (3 * (qf215 11).toInt + 1).toNat).toInt = _; rw [show (qf215 11).toInt = (QF_12 p0.toNatClampNeg 11).toInt by omega]; exact hoa) (fun q8 => (show (qf215 24).toInt + (qf215 4).toInt ≤ 99 from by omega)))
                      have hpo81 := hpo8.1
                      have hw : pw D A s.heap _ _ [wd_Mo cs mo mr (fun _ => none) mf_12 md_12 (gMo PG hq), fm 13 (fPr cs hq qr QO313 QF314 QA315), fo 8 (fPg cs PG) j9, wdP cs (PG j9).h (PG j9).r (PG j9).g (PG j9).tf (PG j9).ta (PG j9).pf (PG j9).na (PG j9).ma (PG j9).wa (PG j9).cf (PG j9).ca (PG j9).ef (PG j9).ea (PG j9).xf (PG j9).xa] := hw.sub [0, 3, 1, 2] rfl rfl
                      have hw : pw D A s.heap _ _ [wd_Mo cs mo mr (fun _ => none) mf_12 md_12 (gMo PG hq), fm 13 (fPr cs hq qr QO313 QF314 QA315), fm 8 (fPg cs PG)] := fm_back (pr := [wd_Mo cs mo mr (fun _ => none) mf_12 md_12 (gMo PG hq), fm 13 (fPr cs hq qr QO313 QF314 QA315)]) (T := fPg cs PG) hw hj9
                      refine px_calli (pr := []) (px_runV (As := [.int p0, .int z57]) (rest := []) S (c_mo_ownCall l D cs (va_up RR p0.toNatClampNeg R_12) j9 mo mr mf_12 md_12 hq qr QO313 QF314 QA315 PG p0 z57  (show 0 ≤ p0.toInt from by first | exact g0 | omega) (show p0.toInt < 13 from by first | exact g1 | omega) (show 0 ≤ (mf_12 7).toInt from by first | exact oz_f3ebed1ad0 k12_4 g2 | omega) (show (mf_12 7).toInt ≤ 100 from by first | exact oz_b2552476a0 k12_4 g3 | omega) (show 0 ≤ (mf_12 8).toInt from by first | exact oz_f3ebed1ad0 k12_5 g4 | omega) (show (mf_12 8).toInt ≤ 512 from by first | exact oz_5926d5b85b k12_5 g5 | omega) (show 0 ≤ z57.toInt from by first | exact hpo81.1 | omega) (show z57.toInt < 10 from by first | exact hpo81.2 | omega) (show (QF314 p0.toNatClampNeg 1).toInt = 1 from by first | exact oz_d145a98bf1 hqk1_QF314 e221 hg1.1 | omega) hpr hpg hpo8.2 _) hT (pr := []) (pcs := [wd_Mo cs mo mr (fun _ => none) mf_12 md_12 (gMo PG hq), fm 13 (fPr cs hq qr QO313 QF314 QA315), fm 8 (fPg cs PG)]) hw px_X.tt (px_recv hT hw 0 0 rfl rfl rfl) m14_106 m14_103 m14_105 ms_16_9 m1_20 q_Mo_ownCall ⟨Nat.le_of_ble_eq_true rfl, Nat.le_of_ble_eq_true rfl⟩ hl.1 rfl (Nat.le_of_ble_eq_true rfl) d_Mo_goOn_162 ⟨Nat.le_of_ble_eq_true rfl, Nat.le_of_ble_eq_true rfl⟩) hw hA (fun v327 p326 H locs hp326 hw => ?_)
                      obtain ⟨mf321, md322, QO323, QF324, QA325, rfl, e328, e329, e330, e331, e332, e333, e334, e335, e336, e337, e338⟩ := hp326
                      have e328 : 0 ≤ v327.toInt := e328
                      have e329 : v327.toInt ≤ 1 := e329
                      have e330 : OwQ v327.toInt (PrA PG (va_up RR p0.toNatClampNeg R_12) QO323 QF324 QA325) (PrX PG (va_up RR p0.toNatClampNeg R_12) QO323 QF324 QA325 p0.toNatClampNeg ∧ PdT (PG j9) ((va_up RR p0.toNatClampNeg R_12) p0.toNatClampNeg) (QF324 p0.toNatClampNeg) (QA325 p0.toNatClampNeg)) := e330
                      have hoq := e330
                      have e331 : KpO QO313 QF314 QO323 QF324 p0.toNatClampNeg := e331
                      have hko := e331
                      have hko2 := hko.2
                      have e332 : (mf321 0).toInt = (mf_12 0).toInt := e332
                      have e333 : (mf321 2).toInt = (mf_12 2).toInt := e333
                      have e334 : (mf321 3).toInt = (mf_12 3).toInt := e334
                      have e335 : (mf321 7).toInt = (mf_12 7).toInt := e335
                      have e336 : (mf321 8).toInt = (mf_12 8).toInt := e336
                      have e337 : (mf321 10).toInt = (mf_12 10).toInt := e337
                      have e338 : Md1 md_12 md322 := e338
                      have hmdq := Md1.tr hmdq e338
                      have hw : pw D A s.heap H locs [wd_Mo cs mo mr (fun _ => none) mf321 md322 (gMo PG hq), fm 13 (fPr cs hq qr QO323 QF324 QA325), fm 8 (fPg cs PG)] := hw
                      have lv327 := Int32.le_toInt v327
                      have uv327 := Int32.toInt_lt v327
                      refine lv_if_eq (tgt := 172) S.x S.b d_Mo_goOn_165 (by decide) (fun c339 => ?_) (fun c339 => ?_)
                      · have nc339 : v327.toInt = (0 : Int) := (i_eq (x := v327) (y := 0)).mp c339
                        refine lv_iconst (v := 0) S.x S.b d_Mo_goOn_172 (by decide) ?_
                        have hpr := hoq.elim (fun q8 => q8.2) (fun q8 => absurd q8.1 (by omega))
                        refine lv_istore (lv' := [(4, .int 0), (7, .int z61), (6, .int z57), (5, .int z53), (0, .ref mo), (1, .int p0), (2, .ref (hq p0.toNatClampNeg)), (3, .int x12_3)]) S.x S.b d_Mo_goOn_173 hl (by decide) rfl (fun ls hl => ?_)
                        refine lv_aload_n S.x S.b d_Mo_goOn_175 rfl (lv_at hl 6 rfl) ?_
                        refine lv_iload S.x S.b d_Mo_goOn_176 (lv_at hl 0 rfl) ?_
                        refine lv_if_eq (tgt := 190) S.x S.b d_Mo_goOn_178 (by decide) (fun c341 => ?_) (fun c341 => ?_)
                        ·
                          refine lv_aload_n S.x S.b d_Mo_goOn_190 rfl (lv_at hl 6 rfl) ?_
                          have hw : pw D A s.heap _ _ [wd_Mo cs mo mr (fun _ => none) mf321 md322 (gMo PG hq), fm 8 (fPg cs PG), fm 13 (fPr cs hq qr QO323 QF324 QA325)] := hw.sub [0, 2, 1] rfl rfl
                          have hc342 := cl_nat (x := p0) (by first | exact g0 | omega)
                          have hi342 : p0.toNatClampNeg < 13 := by first | exact hi24 | omega
                          have hw : pw D A s.heap _ _ [wd_Mo cs mo mr (fun _ => none) mf321 md322 (gMo PG hq), fm 8 (fPg cs PG), fo 13 (fPr cs hq qr QO323 QF324 QA325) p0.toNatClampNeg, wd_Mpr cs (hq p0.toNatClampNeg) (qr p0.toNatClampNeg) (fun _ => QO323 p0.toNatClampNeg) (QF324 p0.toNatClampNeg) (QA325 p0.toNatClampNeg) (fun _ _ => none)] := fm_out (pr := [wd_Mo cs mo mr (fun _ => none) mf321 md322 (gMo PG hq), fm 8 (fPg cs PG)]) (T := fPr cs hq qr QO323 QF324 QA325) hw hi342
                          have hps342 := hpr.1 p0.toNatClampNeg hi342
                          have hpb342 := hps342.1
                          unfold PsB at hpb342
                          refine px_get S k_Mpr hT hw 3 0 11 (v := .int ((QF324 p0.toNatClampNeg) 11)) rfl rfl rfl (by decide) m11_3 d_Mo_goOn_191 ?_
                          refine px_put S k_Mpr hT hw 3 0 11 rfl rfl (by decide) m11_3 rfl rfl rfl (Nat.le_of_ble_eq_true rfl) d_Mo_goOn_194 (w' := wd_Mpr cs (hq p0.toNatClampNeg) (qr p0.toNatClampNeg) (fun _ => QO323 p0.toNatClampNeg) (upd (QF324 p0.toNatClampNeg) 11 ((QF324 p0.toNatClampNeg) 11)) (QA325 p0.toNatClampNeg) (fun _ _ => none)) (ps' := [wd_Mo cs mo mr (fun _ => none) mf321 md322 (gMo PG hq), fm 8 (fPg cs PG), fo 13 (fPr cs hq qr QO323 QF324 QA325) p0.toNatClampNeg, wd_Mpr cs (hq p0.toNatClampNeg) (qr p0.toNatClampNeg) (fun _ => QO323 p0.toNatClampNeg) (upd (QF324 p0.toNatClampNeg) 11 ((QF324 p0.toNatClampNeg) 11)) (QA325 p0.toNatClampNeg) (fun _ _ => none)]) rfl rfl (fun H locs hw => ?_)
                          refine lv_aload_n S.x S.b d_Mo_goOn_197 rfl (lv_at hl 6 rfl) ?_
                          refine lv_aload_n S.x S.b d_Mo_goOn_198 rfl (lv_at hl 6 rfl) ?_
                          refine px_get S k_Mpr hT hw 3 0 7 (v := .int ((QF324 p0.toNatClampNeg) 7)) rfl rfl rfl (by decide) m10_235 d_Mo_goOn_199 ?_
                          refine lv_if_eq (tgt := 214) S.x S.b d_Mo_goOn_202 (by decide) (fun c343 => ?_) (fun c343 => ?_)
                          · have nc343 : ((QF324 p0.toNatClampNeg) 7).toInt = (0 : Int) := (i_eq (x := ((QF324 p0.toNatClampNeg) 7)) (y := 0)).mp c343
                            exfalso
                            omega
                          · have nc343 : ¬ ((QF324 p0.toNatClampNeg) 7).toInt = (0 : Int) := mt (i_eq (x := ((QF324 p0.toNatClampNeg) 7)) (y := 0)).mpr c343
                            refine lv_iload S.x S.b d_Mo_goOn_205 (lv_at hl 0 rfl) ?_
                            refine lv_if_ne (tgt := 214) S.x S.b d_Mo_goOn_207 (by decide) (fun c345 => ?_) (fun c345 => ?_)
                            · exact absurd c345 (by decide)
                            ·
                              refine lv_iconst (v := 1) S.x S.b d_Mo_goOn_210 (by decide) ?_
                              refine lv_goto (tgt := 215) S.x S.b d_Mo_goOn_211 (by decide) ?_
                              refine px_put S k_Mpr hT hw 3 0 7 rfl rfl (by decide) m10_235 rfl rfl rfl (Nat.le_of_ble_eq_true rfl) d_Mo_goOn_215 (w' := wd_Mpr cs (hq p0.toNatClampNeg) (qr p0.toNatClampNeg) (fun _ => QO323 p0.toNatClampNeg) (upd (upd (QF324 p0.toNatClampNeg) 7 1) 11 ((QF324 p0.toNatClampNeg) 11)) (QA325 p0.toNatClampNeg) (fun _ _ => none)) (ps' := [wd_Mo cs mo mr (fun _ => none) mf321 md322 (gMo PG hq), fm 8 (fPg cs PG), fo 13 (fPr cs hq qr QO323 QF324 QA325) p0.toNatClampNeg, wd_Mpr cs (hq p0.toNatClampNeg) (qr p0.toNatClampNeg) (fun _ => QO323 p0.toNatClampNeg) (upd (upd (QF324 p0.toNatClampNeg) 7 1) 11 ((QF324 p0.toNatClampNeg) 11)) (QA325 p0.toNatClampNeg) (fun _ _ => none)]) rfl rfl (fun H locs hw => ?_)
                              refine lv_goto (tgt := 241) S.x S.b d_Mo_goOn_218 (by decide) ?_
                              have hw := fpr_in (pr := [wd_Mo cs mo mr (fun _ => none) mf321 md322 (gMo PG hq), fm 8 (fPg cs PG)]) hw hi342
                              obtain ⟨QO346, hu_QO346⟩ : ∃ y : Nat → Option Nat, y = va_up QO323 p0.toNatClampNeg ((fun _ => QO323 p0.toNatClampNeg) 0) := ⟨_, rfl⟩
                              obtain ⟨QF347, hu_QF347⟩ : ∃ y : Nat → Nat → Int32, y = va_up QF324 p0.toNatClampNeg (upd (upd (QF324 p0.toNatClampNeg) 7 1) 11 ((QF324 p0.toNatClampNeg) 11)) := ⟨_, rfl⟩
                              obtain ⟨QA348, hu_QA348⟩ : ∃ y : Nat → Nat → Nat → Int32, y = va_up QA325 p0.toNatClampNeg (QA325 p0.toNatClampNeg) := ⟨_, rfl⟩
                              have hw : pw D A s.heap _ _ [wd_Mo cs mo mr (fun _ => none) mf321 md322 (gMo PG hq), fm 8 (fPg cs PG), fm 13 (fPr cs hq qr QO346 QF347 QA348)] := (by rw [hu_QO346, hu_QF347, hu_QA348]; exact hw)
                              have hpr : PrA PG (va_up RR p0.toNatClampNeg R_12) QO346 QF347 QA348 := (by rw [hu_QO346, hu_QF347, hu_QA348]; exact PrA.upR2 hpr hi342 (PsR.kf (by have q8 := hps342; rw [va_up_s] at q8; exact q8) (show (0 ≤ ((QF324 p0.toNatClampNeg) 1).toInt ∧ ((QF324 p0.toNatClampNeg) 1).toInt ≤ 1) ∧ (0 ≤ ((QF324 p0.toNatClampNeg) 21).toInt ∧ ((QF324 p0.toNatClampNeg) 21).toInt ≤ 4) ∧ (0 ≤ ((QF324 p0.toNatClampNeg) 23).toInt ∧ ((QF324 p0.toNatClampNeg) 23).toInt ≤ 4) ∧ (0 ≤ ((QF324 p0.toNatClampNeg) 24).toInt ∧ ((QF324 p0.toNatClampNeg) 24).toInt ≤ 1000000) ∧ (0 ≤ ((QF324 p0.toNatClampNeg) 6).toInt ∧ ((QF324 p0.toNatClampNeg) 6).toInt ≤ 3) ∧ (0 ≤ (1 : Int) ∧ (1 : Int) ≤ 1) from by omega) (show (((QF324 p0.toNatClampNeg) 1).toInt = (QF324 p0.toNatClampNeg 1).toInt ∧ ((QF324 p0.toNatClampNeg) 4).toInt = (QF324 p0.toNatClampNeg 4).toInt ∧ ((QF324 p0.toNatClampNeg) 5).toInt = (QF324 p0.toNatClampNeg 5).toInt ∧ (1 : Int) = (QF324 p0.toNatClampNeg 7).toInt ∧ ((QF324 p0.toNatClampNeg) 10).toInt = (QF324 p0.toNatClampNeg 10).toInt ∧ ((QF324 p0.toNatClampNeg) 11).toInt = (QF324 p0.toNatClampNeg 11).toInt) ∧ ((QF324 p0.toNatClampNeg) 12).toInt = (QF324 p0.toNatClampNeg 12).toInt ∧ ((QF324 p0.toNatClampNeg) 13).toInt = (QF324 p0.toNatClampNeg 13).toInt ∧ ((QF324 p0.toNatClampNeg) 14).toInt = (QF324 p0.toNatClampNeg 14).toInt ∧ ((QF324 p0.toNatClampNeg) 24).toInt = (QF324 p0.toNatClampNeg 24).toInt from by omega) (show ((QF324 p0.toNatClampNeg) 2).toInt = (QF324 p0.toNatClampNeg 2).toInt from by first | exact oz_507c05ca68 | omega)) (show ((QF324 p0.toNatClampNeg) 1).toInt = (QF324 p0.toNatClampNeg 1).toInt from by first | exact oz_507c05ca68 | omega) (show (QF324 p0.toNatClampNeg 6).toInt ≤ ((QF324 p0.toNatClampNeg) 6).toInt from by first | exact oz_1cb5f934a5 | omega))
                              have hqk1_QF347 : (QF347 p0.toNatClampNeg 1).toInt = ((QF324 p0.toNatClampNeg) 1).toInt := (by rw [hu_QF347, va_up_s]; try rfl)
                              have hqk2_QF347 : (QF347 p0.toNatClampNeg 2).toInt = ((QF324 p0.toNatClampNeg) 2).toInt := (by rw [hu_QF347, va_up_s]; try rfl)
                              have hqk4_QF347 : (QF347 p0.toNatClampNeg 4).toInt = ((QF324 p0.toNatClampNeg) 4).toInt := (by rw [hu_QF347, va_up_s]; try rfl)
                              have hqk7_QF347 : (QF347 p0.toNatClampNeg 7).toInt = (1 : Int) := (by rw [hu_QF347, va_up_s]; try rfl)
                              have hqk10_QF347 : (QF347 p0.toNatClampNeg 10).toInt = ((QF324 p0.toNatClampNeg) 10).toInt := (by rw [hu_QF347, va_up_s]; try rfl)
                              have hqk11_QF347 : (QF347 p0.toNatClampNeg 11).toInt = ((QF324 p0.toNatClampNeg) 11).toInt := (by rw [hu_QF347, va_up_s]; try rfl)
                              have hqk24_QF347 : (QF347 p0.toNatClampNeg 24).toInt = ((QF324 p0.toNatClampNeg) 24).toInt := (by rw [hu_QF347, va_up_s]; try rfl)
                              have hw : pw D A s.heap _ _ [wd_Mo cs mo mr (fun _ => none) mf321 md322 (gMo PG hq), fm 13 (fPr cs hq qr QO346 QF347 QA348), fm 8 (fPg cs PG)] := hw.sub [0, 2, 1] rfl rfl
                              exact J241 mf321 md322 QO346 QF347 QA348 R_12 x12_3 (0 : Int32) _ _ ls (show PrA PG (va_up RR p0.toNatClampNeg R_12) QO346 QF347 QA348 from hpr) (show (mf321 0).toInt = (mf 0).toInt from by first | exact oz_1687f4cc65 k12_1 e332 | omega) (show (mf321 2).toInt = (mf 2).toInt from by first | exact oz_1687f4cc65 k12_2 e333 | omega) (show (mf321 3).toInt = (mf 3).toInt from by first | exact oz_1687f4cc65 k12_3 e334 | omega) (show (mf321 7).toInt = (mf 7).toInt from by first | exact oz_1687f4cc65 k12_4 e335 | omega) (show (mf321 8).toInt = (mf 8).toInt from by first | exact oz_1687f4cc65 k12_5 e336 | omega) (show (mf321 10).toInt = (mf 10).toInt from by first | exact oz_1687f4cc65 k12_6 e337 | omega) (show Md1 md md322 from hmdq) (show x12_3.toInt = x12_3.toInt from rfl) (show 0 ≤ (0 : Int) from by first | exact oz_5a341f00aa | omega) (show (0 : Int) ≤ 1 from by first | exact oz_6e68cd0f48 | omega) (show R_12 + (0 : Int) ≤ R_12 from by first | exact oz_9a4b2c0a69 | omega) (show R_12 ≤ R_12 from by first | exact oz_1cb5f934a5 | omega) (show 1 ≤ x12_4.toInt from by first | exact oz_70c2bdf1b6 k12_10 nc5 | omega) hw (lv_sub hl [4, 5, 6, 7, 0] rfl)
                        · exact absurd c341 (by decide)
                      · have nc339 : ¬ v327.toInt = (0 : Int) := mt (i_eq (x := v327) (y := 0)).mpr c339
                        refine lv_iconst (v := 1) S.x S.b d_Mo_goOn_168 (by decide) ?_
                        obtain ⟨hpx, hpd⟩ := hoq.elim (fun q8 => absurd q8.1 (by omega)) (fun q8 => q8.2)
                        refine lv_goto (tgt := 173) S.x S.b d_Mo_goOn_169 (by decide) ?_
                        refine lv_istore (lv' := [(4, .int 1), (7, .int z61), (6, .int z57), (5, .int z53), (0, .ref mo), (1, .int p0), (2, .ref (hq p0.toNatClampNeg)), (3, .int x12_3)]) S.x S.b d_Mo_goOn_173 hl (by decide) rfl (fun ls hl => ?_)
                        refine lv_aload_n S.x S.b d_Mo_goOn_175 rfl (lv_at hl 6 rfl) ?_
                        refine lv_iload S.x S.b d_Mo_goOn_176 (lv_at hl 0 rfl) ?_
                        refine lv_if_eq (tgt := 190) S.x S.b d_Mo_goOn_178 (by decide) (fun c349 => ?_) (fun c349 => ?_)
                        · exact absurd c349 (by decide)
                        ·
                          refine lv_aload_n S.x S.b d_Mo_goOn_181 rfl (lv_at hl 6 rfl) ?_
                          have hw : pw D A s.heap _ _ [wd_Mo cs mo mr (fun _ => none) mf321 md322 (gMo PG hq), fm 8 (fPg cs PG), fm 13 (fPr cs hq qr QO323 QF324 QA325)] := hw.sub [0, 2, 1] rfl rfl
                          have hc350 := cl_nat (x := p0) (by first | exact g0 | omega)
                          have hi350 : p0.toNatClampNeg < 13 := by first | exact hi24 | omega
                          have hw : pw D A s.heap _ _ [wd_Mo cs mo mr (fun _ => none) mf321 md322 (gMo PG hq), fm 8 (fPg cs PG), fo 13 (fPr cs hq qr QO323 QF324 QA325) p0.toNatClampNeg, wd_Mpr cs (hq p0.toNatClampNeg) (qr p0.toNatClampNeg) (fun _ => QO323 p0.toNatClampNeg) (QF324 p0.toNatClampNeg) (QA325 p0.toNatClampNeg) (fun _ _ => none)] := fm_out (pr := [wd_Mo cs mo mr (fun _ => none) mf321 md322 (gMo PG hq), fm 8 (fPg cs PG)]) (T := fPr cs hq qr QO323 QF324 QA325) hw hi350
                          have hpb350 := hpx.2.2
                          unfold PsB at hpb350
                          refine px_get S k_Mpr hT hw 3 0 11 (v := .int ((QF324 p0.toNatClampNeg) 11)) rfl rfl rfl (by decide) m11_3 d_Mo_goOn_182 ?_
                          refine lv_iconst (v := 1) S.x S.b d_Mo_goOn_185 (by decide) ?_
                          refine lv_iadd S.x S.b d_Mo_goOn_186 ?_
                          have lr351 := Int32.le_toInt ((QF324 p0.toNatClampNeg) 11)
                          have ur351 := Int32.toInt_lt ((QF324 p0.toNatClampNeg) 11)
                          refine lv_topi (fun z352 ez352 => ?_)
                          have tz352 : z352.toInt = (((QF324 p0.toNatClampNeg) 11).toInt + (1 : Int) + 2147483648) % 4294967296 - 2147483648 := by rw [ez352]; exact i_add ((QF324 p0.toNatClampNeg) 11) 1
                          have lz352 := Int32.le_toInt z352
                          have uz352 := Int32.toInt_lt z352
                          try replace tz352 : z352.toInt = ((QF324 p0.toNatClampNeg) 11).toInt + (1 : Int) := by omega
                          refine lv_goto (tgt := 194) S.x S.b d_Mo_goOn_187 (by decide) ?_
                          refine px_put S k_Mpr hT hw 3 0 11 rfl rfl (by decide) m11_3 rfl rfl rfl (Nat.le_of_ble_eq_true rfl) d_Mo_goOn_194 (w' := wd_Mpr cs (hq p0.toNatClampNeg) (qr p0.toNatClampNeg) (fun _ => QO323 p0.toNatClampNeg) (upd (QF324 p0.toNatClampNeg) 11 z352) (QA325 p0.toNatClampNeg) (fun _ _ => none)) (ps' := [wd_Mo cs mo mr (fun _ => none) mf321 md322 (gMo PG hq), fm 8 (fPg cs PG), fo 13 (fPr cs hq qr QO323 QF324 QA325) p0.toNatClampNeg, wd_Mpr cs (hq p0.toNatClampNeg) (qr p0.toNatClampNeg) (fun _ => QO323 p0.toNatClampNeg) (upd (QF324 p0.toNatClampNeg) 11 z352) (QA325 p0.toNatClampNeg) (fun _ _ => none)]) rfl rfl (fun H locs hw => ?_)
                          refine lv_aload_n S.x S.b d_Mo_goOn_197 rfl (lv_at hl 6 rfl) ?_
                          refine lv_aload_n S.x S.b d_Mo_goOn_198 rfl (lv_at hl 6 rfl) ?_
                          refine px_get S k_Mpr hT hw 3 0 7 (v := .int ((QF324 p0.toNatClampNeg) 7)) rfl rfl rfl (by decide) m10_235 d_Mo_goOn_199 ?_
                          refine lv_if_eq (tgt := 214) S.x S.b d_Mo_goOn_202 (by decide) (fun c353 => ?_) (fun c353 => ?_)
                          · have nc353 : ((QF324 p0.toNatClampNeg) 7).toInt = (0 : Int) := (i_eq (x := ((QF324 p0.toNatClampNeg) 7)) (y := 0)).mp c353
                            refine lv_iconst (v := 0) S.x S.b d_Mo_goOn_214 (by decide) ?_
                            refine px_put S k_Mpr hT hw 3 0 7 rfl rfl (by decide) m10_235 rfl rfl rfl (Nat.le_of_ble_eq_true rfl) d_Mo_goOn_215 (w' := wd_Mpr cs (hq p0.toNatClampNeg) (qr p0.toNatClampNeg) (fun _ => QO323 p0.toNatClampNeg) (upd (upd (QF324 p0.toNatClampNeg) 7 0) 11 z352) (QA325 p0.toNatClampNeg) (fun _ _ => none)) (ps' := [wd_Mo cs mo mr (fun _ => none) mf321 md322 (gMo PG hq), fm 8 (fPg cs PG), fo 13 (fPr cs hq qr QO323 QF324 QA325) p0.toNatClampNeg, wd_Mpr cs (hq p0.toNatClampNeg) (qr p0.toNatClampNeg) (fun _ => QO323 p0.toNatClampNeg) (upd (upd (QF324 p0.toNatClampNeg) 7 0) 11 z352) (QA325 p0.toNatClampNeg) (fun _ _ => none)]) rfl rfl (fun H locs hw => ?_)
                            refine lv_goto (tgt := 241) S.x S.b d_Mo_goOn_218 (by decide) ?_
                            have hw := fpr_in (pr := [wd_Mo cs mo mr (fun _ => none) mf321 md322 (gMo PG hq), fm 8 (fPg cs PG)]) hw hi350
                            obtain ⟨QO355, hu_QO355⟩ : ∃ y : Nat → Option Nat, y = va_up QO323 p0.toNatClampNeg ((fun _ => QO323 p0.toNatClampNeg) 0) := ⟨_, rfl⟩
                            obtain ⟨QF356, hu_QF356⟩ : ∃ y : Nat → Nat → Int32, y = va_up QF324 p0.toNatClampNeg (upd (upd (QF324 p0.toNatClampNeg) 7 0) 11 z352) := ⟨_, rfl⟩
                            obtain ⟨QA357, hu_QA357⟩ : ∃ y : Nat → Nat → Nat → Int32, y = va_up QA325 p0.toNatClampNeg (QA325 p0.toNatClampNeg) := ⟨_, rfl⟩
                            have hw : pw D A s.heap _ _ [wd_Mo cs mo mr (fun _ => none) mf321 md322 (gMo PG hq), fm 8 (fPg cs PG), fm 13 (fPr cs hq qr QO355 QF356 QA357)] := (by rw [hu_QO355, hu_QF356, hu_QA357]; exact hw)
                            have hpr : PrA PG (va_up RR p0.toNatClampNeg (R_12 - 1)) QO355 QF356 QA357 := (by rw [hu_QO355, hu_QF356, hu_QA357]; exact PrX.inR hpx (psr_tx (j := j9) hj9 (hko.1.trans hqo) h61 (show (0 ≤ ((QF324 p0.toNatClampNeg) 1).toInt ∧ ((QF324 p0.toNatClampNeg) 1).toInt ≤ 1) ∧ (0 ≤ ((QF324 p0.toNatClampNeg) 21).toInt ∧ ((QF324 p0.toNatClampNeg) 21).toInt ≤ 4) ∧ (0 ≤ ((QF324 p0.toNatClampNeg) 23).toInt ∧ ((QF324 p0.toNatClampNeg) 23).toInt ≤ 4) ∧ (0 ≤ ((QF324 p0.toNatClampNeg) 24).toInt ∧ ((QF324 p0.toNatClampNeg) 24).toInt ≤ 1000000) ∧ (0 ≤ ((QF324 p0.toNatClampNeg) 6).toInt ∧ ((QF324 p0.toNatClampNeg) 6).toInt ≤ 3) ∧ (0 ≤ (0 : Int) ∧ (0 : Int) ≤ 1) from by omega) (show ((QF324 p0.toNatClampNeg) 1).toInt = 1 from by first | exact oz_154b4b53d6 hko2.1 hqk1_QF314 e221 hg1.1 | omega) (by omega) (fun _ => by have q8 := hpd; rw [va_up_s] at q8; exact PdT.nx q8 (show ((QF324 p0.toNatClampNeg) 4).toInt = (QF324 p0.toNatClampNeg 4).toInt ∧ ((QF324 p0.toNatClampNeg) 5).toInt = (QF324 p0.toNatClampNeg 5).toInt ∧ ((QF324 p0.toNatClampNeg) 10).toInt = (QF324 p0.toNatClampNeg 10).toInt ∧ ((QF324 p0.toNatClampNeg) 12).toInt = (QF324 p0.toNatClampNeg 12).toInt ∧ ((QF324 p0.toNatClampNeg) 13).toInt = (QF324 p0.toNatClampNeg 13).toInt ∧ ((QF324 p0.toNatClampNeg) 14).toInt = (QF324 p0.toNatClampNeg 14).toInt from by first | exact oz_28eebd5525 | omega) (show z352.toInt = (QF324 p0.toNatClampNeg 11).toInt + 1 from by first | exact oz_037caa6b79 tz352 | omega) (show ((QF324 p0.toNatClampNeg) 24).toInt = (QF324 p0.toNatClampNeg 24).toInt from by first | exact oz_507c05ca68 | omega) (show (0 : Int) = 0 from by first | exact oz_7d1a308c7e | omega))) (show ((QF324 p0.toNatClampNeg) 1).toInt = (QF324 p0.toNatClampNeg 1).toInt from by first | exact oz_507c05ca68 | omega) (show (QF324 p0.toNatClampNeg 6).toInt ≤ ((QF324 p0.toNatClampNeg) 6).toInt from by first | exact oz_1cb5f934a5 | omega))
                            have hw : pw D A s.heap _ _ [wd_Mo cs mo mr (fun _ => none) mf321 md322 (gMo PG hq), fm 13 (fPr cs hq qr QO355 QF356 QA357), fm 8 (fPg cs PG)] := hw.sub [0, 2, 1] rfl rfl
                            exact J241 mf321 md322 QO355 QF356 QA357 (R_12 - 1) x12_3 (1 : Int32) _ _ ls (show PrA PG (va_up RR p0.toNatClampNeg (R_12 - 1)) QO355 QF356 QA357 from hpr) (show (mf321 0).toInt = (mf 0).toInt from by first | exact oz_1687f4cc65 k12_1 e332 | omega) (show (mf321 2).toInt = (mf 2).toInt from by first | exact oz_1687f4cc65 k12_2 e333 | omega) (show (mf321 3).toInt = (mf 3).toInt from by first | exact oz_1687f4cc65 k12_3 e334 | omega) (show (mf321 7).toInt = (mf 7).toInt from by first | exact oz_1687f4cc65 k12_4 e335 | omega) (show (mf321 8).toInt = (mf 8).toInt from by first | exact oz_1687f4cc65 k12_5 e336 | omega) (show (mf321 10).toInt = (mf 10).toInt from by first | exact oz_1687f4cc65 k12_6 e337 | omega) (show Md1 md md322 from hmdq) (show x12_3.toInt = x12_3.toInt from rfl) (show 0 ≤ (1 : Int) from by first | exact oz_19c3a41681 | omega) (show (1 : Int) ≤ 1 from by first | exact oz_f9181dc4bb | omega) (show (R_12 - 1) + (1 : Int) ≤ R_12 from by first | exact oz_9af69b5cb8 | omega) (show (R_12 - 1) ≤ R_12 from by first | exact oz_f81ab12e42 | omega) (show 1 ≤ x12_4.toInt from by first | exact oz_70c2bdf1b6 k12_10 nc5 | omega) hw (lv_sub hl [4, 5, 6, 7, 0] rfl)
                          · have nc353 : ¬ ((QF324 p0.toNatClampNeg) 7).toInt = (0 : Int) := mt (i_eq (x := ((QF324 p0.toNatClampNeg) 7)) (y := 0)).mpr c353
                            refine lv_iload S.x S.b d_Mo_goOn_205 (lv_at hl 0 rfl) ?_
                            refine lv_if_ne (tgt := 214) S.x S.b d_Mo_goOn_207 (by decide) (fun c358 => ?_) (fun c358 => ?_)
                            ·
                              refine lv_iconst (v := 0) S.x S.b d_Mo_goOn_214 (by decide) ?_
                              refine px_put S k_Mpr hT hw 3 0 7 rfl rfl (by decide) m10_235 rfl rfl rfl (Nat.le_of_ble_eq_true rfl) d_Mo_goOn_215 (w' := wd_Mpr cs (hq p0.toNatClampNeg) (qr p0.toNatClampNeg) (fun _ => QO323 p0.toNatClampNeg) (upd (upd (QF324 p0.toNatClampNeg) 7 0) 11 z352) (QA325 p0.toNatClampNeg) (fun _ _ => none)) (ps' := [wd_Mo cs mo mr (fun _ => none) mf321 md322 (gMo PG hq), fm 8 (fPg cs PG), fo 13 (fPr cs hq qr QO323 QF324 QA325) p0.toNatClampNeg, wd_Mpr cs (hq p0.toNatClampNeg) (qr p0.toNatClampNeg) (fun _ => QO323 p0.toNatClampNeg) (upd (upd (QF324 p0.toNatClampNeg) 7 0) 11 z352) (QA325 p0.toNatClampNeg) (fun _ _ => none)]) rfl rfl (fun H locs hw => ?_)
                              refine lv_goto (tgt := 241) S.x S.b d_Mo_goOn_218 (by decide) ?_
                              have hw := fpr_in (pr := [wd_Mo cs mo mr (fun _ => none) mf321 md322 (gMo PG hq), fm 8 (fPg cs PG)]) hw hi350
                              obtain ⟨QO359, hu_QO359⟩ : ∃ y : Nat → Option Nat, y = va_up QO323 p0.toNatClampNeg ((fun _ => QO323 p0.toNatClampNeg) 0) := ⟨_, rfl⟩
                              obtain ⟨QF360, hu_QF360⟩ : ∃ y : Nat → Nat → Int32, y = va_up QF324 p0.toNatClampNeg (upd (upd (QF324 p0.toNatClampNeg) 7 0) 11 z352) := ⟨_, rfl⟩
                              obtain ⟨QA361, hu_QA361⟩ : ∃ y : Nat → Nat → Nat → Int32, y = va_up QA325 p0.toNatClampNeg (QA325 p0.toNatClampNeg) := ⟨_, rfl⟩
                              have hw : pw D A s.heap _ _ [wd_Mo cs mo mr (fun _ => none) mf321 md322 (gMo PG hq), fm 8 (fPg cs PG), fm 13 (fPr cs hq qr QO359 QF360 QA361)] := (by rw [hu_QO359, hu_QF360, hu_QA361]; exact hw)
                              have hpr : PrA PG (va_up RR p0.toNatClampNeg (R_12 - 1)) QO359 QF360 QA361 := (by rw [hu_QO359, hu_QF360, hu_QA361]; exact PrX.inR hpx (psr_tx (j := j9) hj9 (hko.1.trans hqo) h61 (show (0 ≤ ((QF324 p0.toNatClampNeg) 1).toInt ∧ ((QF324 p0.toNatClampNeg) 1).toInt ≤ 1) ∧ (0 ≤ ((QF324 p0.toNatClampNeg) 21).toInt ∧ ((QF324 p0.toNatClampNeg) 21).toInt ≤ 4) ∧ (0 ≤ ((QF324 p0.toNatClampNeg) 23).toInt ∧ ((QF324 p0.toNatClampNeg) 23).toInt ≤ 4) ∧ (0 ≤ ((QF324 p0.toNatClampNeg) 24).toInt ∧ ((QF324 p0.toNatClampNeg) 24).toInt ≤ 1000000) ∧ (0 ≤ ((QF324 p0.toNatClampNeg) 6).toInt ∧ ((QF324 p0.toNatClampNeg) 6).toInt ≤ 3) ∧ (0 ≤ (0 : Int) ∧ (0 : Int) ≤ 1) from by omega) (show ((QF324 p0.toNatClampNeg) 1).toInt = 1 from by first | exact oz_154b4b53d6 hko2.1 hqk1_QF314 e221 hg1.1 | omega) (by omega) (fun _ => by have q8 := hpd; rw [va_up_s] at q8; exact PdT.nx q8 (show ((QF324 p0.toNatClampNeg) 4).toInt = (QF324 p0.toNatClampNeg 4).toInt ∧ ((QF324 p0.toNatClampNeg) 5).toInt = (QF324 p0.toNatClampNeg 5).toInt ∧ ((QF324 p0.toNatClampNeg) 10).toInt = (QF324 p0.toNatClampNeg 10).toInt ∧ ((QF324 p0.toNatClampNeg) 12).toInt = (QF324 p0.toNatClampNeg 12).toInt ∧ ((QF324 p0.toNatClampNeg) 13).toInt = (QF324 p0.toNatClampNeg 13).toInt ∧ ((QF324 p0.toNatClampNeg) 14).toInt = (QF324 p0.toNatClampNeg 14).toInt from by first | exact oz_28eebd5525 | omega) (show z352.toInt = (QF324 p0.toNatClampNeg 11).toInt + 1 from by first | exact oz_037caa6b79 tz352 | omega) (show ((QF324 p0.toNatClampNeg) 24).toInt = (QF324 p0.toNatClampNeg 24).toInt from by first | exact oz_507c05ca68 | omega) (show (0 : Int) = 0 from by first | exact oz_7d1a308c7e | omega))) (show ((QF324 p0.toNatClampNeg) 1).toInt = (QF324 p0.toNatClampNeg 1).toInt from by first | exact oz_507c05ca68 | omega) (show (QF324 p0.toNatClampNeg 6).toInt ≤ ((QF324 p0.toNatClampNeg) 6).toInt from by first | exact oz_1cb5f934a5 | omega))
                              have hw : pw D A s.heap _ _ [wd_Mo cs mo mr (fun _ => none) mf321 md322 (gMo PG hq), fm 13 (fPr cs hq qr QO359 QF360 QA361), fm 8 (fPg cs PG)] := hw.sub [0, 2, 1] rfl rfl
                              exact J241 mf321 md322 QO359 QF360 QA361 (R_12 - 1) x12_3 (1 : Int32) _ _ ls (show PrA PG (va_up RR p0.toNatClampNeg (R_12 - 1)) QO359 QF360 QA361 from hpr) (show (mf321 0).toInt = (mf 0).toInt from by first | exact oz_1687f4cc65 k12_1 e332 | omega) (show (mf321 2).toInt = (mf 2).toInt from by first | exact oz_1687f4cc65 k12_2 e333 | omega) (show (mf321 3).toInt = (mf 3).toInt from by first | exact oz_1687f4cc65 k12_3 e334 | omega) (show (mf321 7).toInt = (mf 7).toInt from by first | exact oz_1687f4cc65 k12_4 e335 | omega) (show (mf321 8).toInt = (mf 8).toInt from by first | exact oz_1687f4cc65 k12_5 e336 | omega) (show (mf321 10).toInt = (mf 10).toInt from by first | exact oz_1687f4cc65 k12_6 e337 | omega) (show Md1 md md322 from hmdq) (show x12_3.toInt = x12_3.toInt from rfl) (show 0 ≤ (1 : Int) from by first | exact oz_19c3a41681 | omega) (show (1 : Int) ≤ 1 from by first | exact oz_f9181dc4bb | omega) (show (R_12 - 1) + (1 : Int) ≤ R_12 from by first | exact oz_9af69b5cb8 | omega) (show (R_12 - 1) ≤ R_12 from by first | exact oz_f81ab12e42 | omega) (show 1 ≤ x12_4.toInt from by first | exact oz_70c2bdf1b6 k12_10 nc5 | omega) hw (lv_sub hl [4, 5, 6, 7, 0] rfl)
                            · exact absurd c358 (by decide)
          · have nc49 : ((PG j9).xf 66).toInt = (2 : Int) := (i_eq (x := ((PG j9).xf 66)) (y := 2)).mp c49
            refine lv_aload_n S.x S.b d_Mo_goOn_35 rfl (lv_at hl 2 rfl) ?_
            have hrk := hkind.elim id (fun q8 => absurd q8.1 (by omega)); have h66 := hrk.1; have hrw := hrk.2; have hrw0 := hrw; unfold PsW at hrw0
            have hw : pw D A s.heap _ _ [wd_Mo cs mo mr (fun _ => none) mf_12 md_12 (gMo PG hq), fo 13 (fPr cs hq qr QO_12 QF_12 QA_12) p0.toNatClampNeg, fo 8 (fPg cs PG) j9, wd_Mpr cs (hq p0.toNatClampNeg) (qr p0.toNatClampNeg) (fun k => if k = 0 then (some (PG j9).h) else none) (QF_12 p0.toNatClampNeg) (QA_12 p0.toNatClampNeg) (fun _ _ => none), wdP cs (PG j9).h (PG j9).r (PG j9).g (PG j9).tf (PG j9).ta (PG j9).pf (PG j9).na (PG j9).ma (PG j9).wa (PG j9).cf (PG j9).ca (PG j9).ef (PG j9).ea (PG j9).xf (PG j9).xa] := hw.sub [0, 1, 3, 2, 4] rfl rfl
            refine px_calli (pr := [wd_Mo cs mo mr (fun _ => none) mf_12 md_12 (gMo PG hq), fo 13 (fPr cs hq qr QO_12 QF_12 QA_12) p0.toNatClampNeg, fo 8 (fPg cs PG) j9]) (px_runV (As := []) (rest := []) S (c_mrr_rawStep l D cs (0 : Int) (hq p0.toNatClampNeg) (qr p0.toNatClampNeg) (fun _ _ => none) (QF_12 p0.toNatClampNeg) (QA_12 p0.toNatClampNeg) (PG j9).h (PG j9).r (PG j9).g (PG j9).tf (PG j9).ta (PG j9).pf (PG j9).na (PG j9).ma (PG j9).wa (PG j9).cf (PG j9).ca (PG j9).ef (PG j9).ea (PG j9).xf (PG j9).xa   (show 0 ≤ ((PG j9).xf 68).toInt from by omega) (show ((PG j9).xf 68).toInt ≤ 512 from by omega) (show ((QF_12 p0.toNatClampNeg) 2).toInt = -2 from by first | exact oz_d5c43516a3 hg1.2 | omega) (show 0 ≤ ((QF_12 p0.toNatClampNeg) 4).toInt from by omega) _) hT (pr := [wd_Mo cs mo mr (fun _ => none) mf_12 md_12 (gMo PG hq), fo 13 (fPr cs hq qr QO_12 QF_12 QA_12) p0.toNatClampNeg, fo 8 (fPg cs PG) j9]) (pcs := [wd_Mpr cs (hq p0.toNatClampNeg) (qr p0.toNatClampNeg) (fun k => if k = 0 then (some (PG j9).h) else none) (QF_12 p0.toNatClampNeg) (QA_12 p0.toNatClampNeg) (fun _ _ => none), wdP cs (PG j9).h (PG j9).r (PG j9).g (PG j9).tf (PG j9).ta (PG j9).pf (PG j9).na (PG j9).ma (PG j9).wa (PG j9).cf (PG j9).ca (PG j9).ef (PG j9).ea (PG j9).xf (PG j9).xa]) hw (oX_call (P := (fun A U H => (oP A (PG j9).g U H))) (pr := [wd_Mo cs mo mr (fun _ => none) mf_12 md_12 (gMo PG hq), fo 13 (fPr cs hq qr QO_12 QF_12 QA_12) p0.toNatClampNeg, fo 8 (fPg cs PG) j9]) oG_P hw hA hP) (px_recv hT hw 3 0 rfl rfl rfl) m13_173 m13_170 m13_171 m13_172 m1_22 q_Mpr_rawStep ⟨Nat.le_of_ble_eq_true rfl, Nat.le_of_ble_eq_true rfl⟩ hl.1 rfl (Nat.le_of_ble_eq_true rfl) d_Mo_goOn_36 ⟨Nat.le_of_ble_eq_true rfl, Nat.le_of_ble_eq_true rfl⟩) hw hA (fun v367 p366 H locs hp366 hw => ?_)
            obtain ⟨qf364, qa365, rfl, e368, e369, e370, e371, e372, e373, e374, e375, e376, e377, e378, e379, e380, e381⟩ := hp366
            have e368 : 0 ≤ v367.toInt := e368
            have e369 : v367.toInt ≤ 1 := e369
            have e370 : RsV v367.toInt (qf364 2).toInt (qf364 4).toInt ((QF_12 p0.toNatClampNeg) 4).toInt := e370
            have hrsv := e370
            have e371 : (qf364 1).toInt = ((QF_12 p0.toNatClampNeg) 1).toInt := e371
            have e372 : (qf364 5).toInt = ((QF_12 p0.toNatClampNeg) 5).toInt := e372
            have e373 : (qf364 6).toInt = ((QF_12 p0.toNatClampNeg) 6).toInt := e373
            have e374 : (qf364 7).toInt = ((QF_12 p0.toNatClampNeg) 7).toInt := e374
            have e375 : (qf364 10).toInt = ((QF_12 p0.toNatClampNeg) 10).toInt := e375
            have e376 : (qf364 12).toInt = ((QF_12 p0.toNatClampNeg) 12).toInt := e376
            have e377 : (qf364 13).toInt = ((QF_12 p0.toNatClampNeg) 13).toInt := e377
            have e378 : (qf364 14).toInt = ((QF_12 p0.toNatClampNeg) 14).toInt := e378
            have e379 : (qf364 21).toInt = ((QF_12 p0.toNatClampNeg) 21).toInt := e379
            have e380 : (qf364 23).toInt = ((QF_12 p0.toNatClampNeg) 23).toInt := e380
            have e381 : (qf364 24).toInt = ((QF_12 p0.toNatClampNeg) 24).toInt := e381
            have hw : pw D A s.heap H locs [wd_Mo cs mo mr (fun _ => none) mf_12 md_12 (gMo PG hq), fo 13 (fPr cs hq qr QO_12 QF_12 QA_12) p0.toNatClampNeg, fo 8 (fPg cs PG) j9, wd_Mpr cs (hq p0.toNatClampNeg) (qr p0.toNatClampNeg) (fun k => if k = 0 then (some (PG j9).h) else none) qf364 qa365 (fun _ _ => none), wdP cs (PG j9).h (PG j9).r (PG j9).g (PG j9).tf (PG j9).ta (PG j9).pf (PG j9).na (PG j9).ma (PG j9).wa (PG j9).cf (PG j9).ca (PG j9).ef (PG j9).ea (PG j9).xf (PG j9).xa] := hw
            have lv367 := Int32.le_toInt v367
            have uv367 := Int32.toInt_lt v367
            refine lv_istore (lv' := [(5, .int v367), (0, .ref mo), (1, .int p0), (2, .ref (hq p0.toNatClampNeg)), (3, .int x12_3), (4, .int x12_4)]) S.x S.b d_Mo_goOn_39 hl (by decide) rfl (fun ls hl => ?_)
            refine lv_iload S.x S.b d_Mo_goOn_41 (lv_at hl 0 rfl) ?_
            refine lv_if_eq (tgt := 54) S.x S.b d_Mo_goOn_43 (by decide) (fun c382 => ?_) (fun c382 => ?_)
            · have nc382 : v367.toInt = (0 : Int) := (i_eq (x := v367) (y := 0)).mp c382
              refine lv_iconst (v := 1) S.x S.b d_Mo_goOn_54 (by decide) ?_
              have hrs0 := hrsv.elim (fun q8 => absurd q8.1 (by omega)) (fun q8 => q8.2)
              refine lv_goto (tgt := 59) S.x S.b d_Mo_goOn_55 (by decide) ?_
              refine lv_istore (lv' := [(4, .int 1), (5, .int v367), (0, .ref mo), (1, .int p0), (2, .ref (hq p0.toNatClampNeg)), (3, .int x12_3)]) S.x S.b d_Mo_goOn_59 hl (by decide) rfl (fun ls hl => ?_)
              refine lv_goto (tgt := 241) S.x S.b d_Mo_goOn_61 (by decide) ?_
              have hw : pw D A s.heap _ _ [wd_Mo cs mo mr (fun _ => none) mf_12 md_12 (gMo PG hq), fo 8 (fPg cs PG) j9, wdP cs (PG j9).h (PG j9).r (PG j9).g (PG j9).tf (PG j9).ta (PG j9).pf (PG j9).na (PG j9).ma (PG j9).wa (PG j9).cf (PG j9).ca (PG j9).ef (PG j9).ea (PG j9).xf (PG j9).xa, fo 13 (fPr cs hq qr QO_12 QF_12 QA_12) p0.toNatClampNeg, wd_Mpr cs (hq p0.toNatClampNeg) (qr p0.toNatClampNeg) (fun k => if k = 0 then (some (PG j9).h) else none) qf364 qa365 (fun _ _ => none)] := hw.sub [0, 2, 4, 1, 3] rfl rfl
              have hw := fpr_in (pr := [wd_Mo cs mo mr (fun _ => none) mf_12 md_12 (gMo PG hq), fo 8 (fPg cs PG) j9, wdP cs (PG j9).h (PG j9).r (PG j9).g (PG j9).tf (PG j9).ta (PG j9).pf (PG j9).na (PG j9).ma (PG j9).wa (PG j9).cf (PG j9).ca (PG j9).ef (PG j9).ea (PG j9).xf (PG j9).xa]) hw hi24
              obtain ⟨QO384, hu_QO384⟩ : ∃ y : Nat → Option Nat, y = va_up QO_12 p0.toNatClampNeg ((fun k => if k = 0 then (some (PG j9).h) else none) 0) := ⟨_, rfl⟩
              obtain ⟨QF385, hu_QF385⟩ : ∃ y : Nat → Nat → Int32, y = va_up QF_12 p0.toNatClampNeg qf364 := ⟨_, rfl⟩
              obtain ⟨QA386, hu_QA386⟩ : ∃ y : Nat → Nat → Nat → Int32, y = va_up QA_12 p0.toNatClampNeg qa365 := ⟨_, rfl⟩
              have hw : pw D A s.heap _ _ [wd_Mo cs mo mr (fun _ => none) mf_12 md_12 (gMo PG hq), fo 8 (fPg cs PG) j9, wdP cs (PG j9).h (PG j9).r (PG j9).g (PG j9).tf (PG j9).ta (PG j9).pf (PG j9).na (PG j9).ma (PG j9).wa (PG j9).cf (PG j9).ca (PG j9).ef (PG j9).ea (PG j9).xf (PG j9).xa, fm 13 (fPr cs hq qr QO384 QF385 QA386)] := (by rw [hu_QO384, hu_QF385, hu_QA386]; exact hw)
              have hpr : PrA PG (va_up RR p0.toNatClampNeg (R_12 - 1)) QO384 QF385 QA386 := (by rw [hu_QO384, hu_QF385, hu_QA386]; exact PrA.upR2 hpr hi24 (psr_rw2 (j := j9) hj9 (show _ = some _ from rfl) h66 (show (0 ≤ (qf364 1).toInt ∧ (qf364 1).toInt ≤ 1) ∧ (0 ≤ (qf364 21).toInt ∧ (qf364 21).toInt ≤ 4) ∧ (0 ≤ (qf364 23).toInt ∧ (qf364 23).toInt ≤ 4) ∧ (0 ≤ (qf364 24).toInt ∧ (qf364 24).toInt ≤ 1000000) ∧ (0 ≤ (qf364 6).toInt ∧ (qf364 6).toInt ≤ 3) ∧ (0 ≤ (qf364 7).toInt ∧ (qf364 7).toInt ≤ 1) from by omega) (show (qf364 1).toInt = 1 from by first | exact oz_e863b17997 e371 hg1.1 | omega) (by omega) (fun q8 => (show 0 ≤ (qf364 4).toInt ∧ (qf364 4).toInt + 1 ≤ R_12 - 1 ∧ (qf364 24).toInt + (qf364 4).toInt ≤ 1600 from by have q7 : (qf364 2).toInt = -2 := q8; omega))) (show (qf364 1).toInt = (QF_12 p0.toNatClampNeg 1).toInt from by first | exact oz_1811ac7fe4 e371 | omega) (show (QF_12 p0.toNatClampNeg 6).toInt ≤ (qf364 6).toInt from by first | exact oz_f9b42d1b56 e373 | omega))
              have hqk1_QF385 : (QF385 p0.toNatClampNeg 1).toInt = (qf364 1).toInt := (by rw [hu_QF385, va_up_s]; try rfl)
              have hqk2_QF385 : (QF385 p0.toNatClampNeg 2).toInt = (qf364 2).toInt := (by rw [hu_QF385, va_up_s]; try rfl)
              have hqk4_QF385 : (QF385 p0.toNatClampNeg 4).toInt = (qf364 4).toInt := (by rw [hu_QF385, va_up_s]; try rfl)
              have hqk7_QF385 : (QF385 p0.toNatClampNeg 7).toInt = (qf364 7).toInt := (by rw [hu_QF385, va_up_s]; try rfl)
              have hqk10_QF385 : (QF385 p0.toNatClampNeg 10).toInt = (qf364 10).toInt := (by rw [hu_QF385, va_up_s]; try rfl)
              have hqk11_QF385 : (QF385 p0.toNatClampNeg 11).toInt = (qf364 11).toInt := (by rw [hu_QF385, va_up_s]; try rfl)
              have hqk24_QF385 : (QF385 p0.toNatClampNeg 24).toInt = (qf364 24).toInt := (by rw [hu_QF385, va_up_s]; try rfl)
              have hw : pw D A s.heap _ _ [wd_Mo cs mo mr (fun _ => none) mf_12 md_12 (gMo PG hq), fm 13 (fPr cs hq qr QO384 QF385 QA386), fo 8 (fPg cs PG) j9, wdP cs (PG j9).h (PG j9).r (PG j9).g (PG j9).tf (PG j9).ta (PG j9).pf (PG j9).na (PG j9).ma (PG j9).wa (PG j9).cf (PG j9).ca (PG j9).ef (PG j9).ea (PG j9).xf (PG j9).xa] := hw.sub [0, 3, 1, 2] rfl rfl
              have hw : pw D A s.heap _ _ [wd_Mo cs mo mr (fun _ => none) mf_12 md_12 (gMo PG hq), fm 13 (fPr cs hq qr QO384 QF385 QA386), fm 8 (fPg cs PG)] := fm_back (pr := [wd_Mo cs mo mr (fun _ => none) mf_12 md_12 (gMo PG hq), fm 13 (fPr cs hq qr QO384 QF385 QA386)]) (T := fPg cs PG) hw hj9
              exact J241 mf_12 md_12 QO384 QF385 QA386 (R_12 - 1) x12_3 (1 : Int32) _ _ ls (show PrA PG (va_up RR p0.toNatClampNeg (R_12 - 1)) QO384 QF385 QA386 from (hpr.ml (by omega))) (show (mf_12 0).toInt = (mf 0).toInt from by first | exact k12_1 | omega) (show (mf_12 2).toInt = (mf 2).toInt from by first | exact k12_2 | omega) (show (mf_12 3).toInt = (mf 3).toInt from by first | exact k12_3 | omega) (show (mf_12 7).toInt = (mf 7).toInt from by first | exact k12_4 | omega) (show (mf_12 8).toInt = (mf 8).toInt from by first | exact k12_5 | omega) (show (mf_12 10).toInt = (mf 10).toInt from by first | exact k12_6 | omega) (show Md1 md md_12 from hmdq) (show x12_3.toInt = x12_3.toInt from rfl) (show 0 ≤ (1 : Int) from by first | exact oz_19c3a41681 | omega) (show (1 : Int) ≤ 1 from by first | exact oz_f9181dc4bb | omega) (show (R_12 - 1) + (1 : Int) ≤ R_12 from by first | exact oz_9af69b5cb8 | omega) (show (R_12 - 1) ≤ R_12 from by first | exact oz_f81ab12e42 | omega) (show 1 ≤ x12_4.toInt from by first | exact oz_70c2bdf1b6 k12_10 nc5 | omega) hw (lv_sub hl [2, 3, 4, 5, 0] rfl)
            · have nc382 : ¬ v367.toInt = (0 : Int) := mt (i_eq (x := v367) (y := 0)).mpr c382
              refine lv_aload_n S.x S.b d_Mo_goOn_46 rfl (lv_at hl 1 rfl) ?_
              have hrs1 := hrsv.elim id (fun q8 => absurd q8.1 (by omega))
              refine lv_iload_n S.x S.b d_Mo_goOn_47 rfl (lv_at hl 2 rfl) ?_
              have hw : pw D A s.heap _ _ [wd_Mo cs mo mr (fun _ => none) mf_12 md_12 (gMo PG hq), fo 8 (fPg cs PG) j9, wdP cs (PG j9).h (PG j9).r (PG j9).g (PG j9).tf (PG j9).ta (PG j9).pf (PG j9).na (PG j9).ma (PG j9).wa (PG j9).cf (PG j9).ca (PG j9).ef (PG j9).ea (PG j9).xf (PG j9).xa, fo 13 (fPr cs hq qr QO_12 QF_12 QA_12) p0.toNatClampNeg, wd_Mpr cs (hq p0.toNatClampNeg) (qr p0.toNatClampNeg) (fun k => if k = 0 then (some (PG j9).h) else none) qf364 qa365 (fun _ _ => none)] := hw.sub [0, 2, 4, 1, 3] rfl rfl
              have hw := fpr_in (pr := [wd_Mo cs mo mr (fun _ => none) mf_12 md_12 (gMo PG hq), fo 8 (fPg cs PG) j9, wdP cs (PG j9).h (PG j9).r (PG j9).g (PG j9).tf (PG j9).ta (PG j9).pf (PG j9).na (PG j9).ma (PG j9).wa (PG j9).cf (PG j9).ca (PG j9).ef (PG j9).ea (PG j9).xf (PG j9).xa]) hw hi24
              obtain ⟨QO387, hu_QO387⟩ : ∃ y : Nat → Option Nat, y = va_up QO_12 p0.toNatClampNeg ((fun k => if k = 0 then (some (PG j9).h) else none) 0) := ⟨_, rfl⟩
              obtain ⟨QF388, hu_QF388⟩ : ∃ y : Nat → Nat → Int32, y = va_up QF_12 p0.toNatClampNeg qf364 := ⟨_, rfl⟩
              obtain ⟨QA389, hu_QA389⟩ : ∃ y : Nat → Nat → Nat → Int32, y = va_up QA_12 p0.toNatClampNeg qa365 := ⟨_, rfl⟩
              have hw : pw D A s.heap _ _ [wd_Mo cs mo mr (fun _ => none) mf_12 md_12 (gMo PG hq), fo 8 (fPg cs PG) j9, wdP cs (PG j9).h (PG j9).r (PG j9).g (PG j9).tf (PG j9).ta (PG j9).pf (PG j9).na (PG j9).ma (PG j9).wa (PG j9).cf (PG j9).ca (PG j9).ef (PG j9).ea (PG j9).xf (PG j9).xa, fm 13 (fPr cs hq qr QO387 QF388 QA389)] := (by rw [hu_QO387, hu_QF388, hu_QA389]; exact hw)
              have hpr : PrA PG (va_up RR p0.toNatClampNeg R_12) QO387 QF388 QA389 := (by rw [hu_QO387, hu_QF388, hu_QA389]; exact PrA.upR2 hpr hi24 (psr_raw (j := j9) hj9 (show _ = some _ from rfl) h66 (show (0 ≤ (qf364 1).toInt ∧ (qf364 1).toInt ≤ 1) ∧ (0 ≤ (qf364 21).toInt ∧ (qf364 21).toInt ≤ 4) ∧ (0 ≤ (qf364 23).toInt ∧ (qf364 23).toInt ≤ 4) ∧ (0 ≤ (qf364 24).toInt ∧ (qf364 24).toInt ≤ 1000000) ∧ (0 ≤ (qf364 6).toInt ∧ (qf364 6).toInt ≤ 3) ∧ (0 ≤ (qf364 7).toInt ∧ (qf364 7).toInt ≤ 1) from by omega) (show (qf364 1).toInt = 1 from by first | exact oz_e863b17997 e371 hg1.1 | omega) (show 0 ≤ (qf364 4).toInt ∧ (qf364 4).toInt + 1 ≤ R_12 ∧ (qf364 24).toInt + (qf364 4).toInt ≤ 1600 from by omega)) (show (qf364 1).toInt = (QF_12 p0.toNatClampNeg 1).toInt from by first | exact oz_1811ac7fe4 e371 | omega) (show (QF_12 p0.toNatClampNeg 6).toInt ≤ (qf364 6).toInt from by first | exact oz_f9b42d1b56 e373 | omega))
              have hqk1_QF388 : (QF388 p0.toNatClampNeg 1).toInt = (qf364 1).toInt := (by rw [hu_QF388, va_up_s]; try rfl)
              have hqk2_QF388 : (QF388 p0.toNatClampNeg 2).toInt = (qf364 2).toInt := (by rw [hu_QF388, va_up_s]; try rfl)
              have hqk4_QF388 : (QF388 p0.toNatClampNeg 4).toInt = (qf364 4).toInt := (by rw [hu_QF388, va_up_s]; try rfl)
              have hqk7_QF388 : (QF388 p0.toNatClampNeg 7).toInt = (qf364 7).toInt := (by rw [hu_QF388, va_up_s]; try rfl)
              have hqk10_QF388 : (QF388 p0.toNatClampNeg 10).toInt = (qf364 10).toInt := (by rw [hu_QF388, va_up_s]; try rfl)
              have hqk11_QF388 : (QF388 p0.toNatClampNeg 11).toInt = (qf364 11).toInt := (by rw [hu_QF388, va_up_s]; try rfl)
              have hqk24_QF388 : (QF388 p0.toNatClampNeg 24).toInt = (qf364 24).toInt := (by rw [hu_QF388, va_up_s]; try rfl)
              have hqo : OqE (QO387 p0.toNatClampNeg) (PG j9).h := (by rw [hu_QO387, va_up_s]; exact rfl)
              have hrw8 : PsW ((va_up RR p0.toNatClampNeg R_12) p0.toNatClampNeg) (QF388 p0.toNatClampNeg) := (by rw [va_up_s]; unfold PsW; omega)
              have hw : pw D A s.heap _ _ [wd_Mo cs mo mr (fun _ => none) mf_12 md_12 (gMo PG hq), fm 13 (fPr cs hq qr QO387 QF388 QA389), fo 8 (fPg cs PG) j9, wdP cs (PG j9).h (PG j9).r (PG j9).g (PG j9).tf (PG j9).ta (PG j9).pf (PG j9).na (PG j9).ma (PG j9).wa (PG j9).cf (PG j9).ca (PG j9).ef (PG j9).ea (PG j9).xf (PG j9).xa] := hw.sub [0, 3, 1, 2] rfl rfl
              have hw : pw D A s.heap _ _ [wd_Mo cs mo mr (fun _ => none) mf_12 md_12 (gMo PG hq), fm 13 (fPr cs hq qr QO387 QF388 QA389), fm 8 (fPg cs PG)] := fm_back (pr := [wd_Mo cs mo mr (fun _ => none) mf_12 md_12 (gMo PG hq), fm 13 (fPr cs hq qr QO387 QF388 QA389)]) (T := fPg cs PG) hw hj9
              refine px_calli (pr := []) (px_runV (As := [.int p0]) (rest := []) S (c_mo_rawCall l D cs (va_up RR p0.toNatClampNeg R_12) j9 mo mr mf_12 md_12 hq qr QO387 QF388 QA389 PG p0  (show 0 ≤ p0.toInt from by first | exact g0 | omega) (show p0.toInt < 13 from by first | exact g1 | omega) (show 0 ≤ (mf_12 7).toInt from by first | exact oz_f3ebed1ad0 k12_4 g2 | omega) (show (mf_12 7).toInt ≤ 100 from by first | exact oz_b2552476a0 k12_4 g3 | omega) (show 0 ≤ (mf_12 8).toInt from by first | exact oz_f3ebed1ad0 k12_5 g4 | omega) (show (mf_12 8).toInt ≤ 512 from by first | exact oz_5926d5b85b k12_5 g5 | omega) (show (QF388 p0.toNatClampNeg 1).toInt = 1 from by first | exact oz_d145a98bf1 hqk1_QF388 e371 hg1.1 | omega) (show (QF388 p0.toNatClampNeg 2).toInt = -2 from by omega) (show 1 ≤ (QF388 p0.toNatClampNeg 4).toInt from by omega) hpr hpg hj9 h66 hqo hrw8 _) hT (pr := []) (pcs := [wd_Mo cs mo mr (fun _ => none) mf_12 md_12 (gMo PG hq), fm 13 (fPr cs hq qr QO387 QF388 QA389), fm 8 (fPg cs PG)]) hw (oX_call (P := (fun A U H => (∀ j : Nat, j < 8 → oP A (PG j).g U H))) (pr := []) oG_G hw hA hGG) (px_recv hT hw 0 0 rfl rfl rfl) m14_34 m14_31 m14_33 ms_15_12 m1_20 q_Mo_rawCall ⟨Nat.le_of_ble_eq_true rfl, Nat.le_of_ble_eq_true rfl⟩ hl.1 rfl (Nat.le_of_ble_eq_true rfl) d_Mo_goOn_48 ⟨Nat.le_of_ble_eq_true rfl, Nat.le_of_ble_eq_true rfl⟩) hw hA (fun v401 p400 H locs hp400 hw => ?_)
              obtain ⟨mf395, md396, QO397, QF398, QA399, rfl, e402, e403, e404, e405, e406, e407, e408, e409, e410, e411⟩ := hp400
              have e402 : 0 ≤ v401.toInt := e402
              have e403 : v401.toInt ≤ 1 := e403
              have e404 : PrA PG (va_up (va_up RR p0.toNatClampNeg R_12) p0.toNatClampNeg ((va_up RR p0.toNatClampNeg R_12) p0.toNatClampNeg - v401.toInt)) QO397 QF398 QA399 := e404
              have hpr := e404
              rw [va_uu, va_up_s] at hpr
              have e405 : (mf395 0).toInt = (mf_12 0).toInt := e405
              have e406 : (mf395 2).toInt = (mf_12 2).toInt := e406
              have e407 : (mf395 3).toInt = (mf_12 3).toInt := e407
              have e408 : (mf395 7).toInt = (mf_12 7).toInt := e408
              have e409 : (mf395 8).toInt = (mf_12 8).toInt := e409
              have e410 : (mf395 10).toInt = (mf_12 10).toInt := e410
              have e411 : Md1 md_12 md396 := e411
              have hmdq := Md1.tr hmdq e411
              have hw : pw D A s.heap H locs [wd_Mo cs mo mr (fun _ => none) mf395 md396 (gMo PG hq), fm 13 (fPr cs hq qr QO397 QF398 QA399), fm 8 (fPg cs PG)] := hw
              have lv401 := Int32.le_toInt v401
              have uv401 := Int32.toInt_lt v401
              refine lv_if_eq (tgt := 58) S.x S.b d_Mo_goOn_51 (by decide) (fun c412 => ?_) (fun c412 => ?_)
              · have nc412 : v401.toInt = (0 : Int) := (i_eq (x := v401) (y := 0)).mp c412
                refine lv_iconst (v := 0) S.x S.b d_Mo_goOn_58 (by decide) ?_
                refine lv_istore (lv' := [(4, .int 0), (5, .int v367), (0, .ref mo), (1, .int p0), (2, .ref (hq p0.toNatClampNeg)), (3, .int x12_3)]) S.x S.b d_Mo_goOn_59 hl (by decide) rfl (fun ls hl => ?_)
                refine lv_goto (tgt := 241) S.x S.b d_Mo_goOn_61 (by decide) ?_
                exact J241 mf395 md396 QO397 QF398 QA399 R_12 x12_3 (0 : Int32) _ _ ls (show PrA PG (va_up RR p0.toNatClampNeg R_12) QO397 QF398 QA399 from (hpr.ml (by omega))) (show (mf395 0).toInt = (mf 0).toInt from by first | exact oz_1687f4cc65 k12_1 e405 | omega) (show (mf395 2).toInt = (mf 2).toInt from by first | exact oz_1687f4cc65 k12_2 e406 | omega) (show (mf395 3).toInt = (mf 3).toInt from by first | exact oz_1687f4cc65 k12_3 e407 | omega) (show (mf395 7).toInt = (mf 7).toInt from by first | exact oz_1687f4cc65 k12_4 e408 | omega) (show (mf395 8).toInt = (mf 8).toInt from by first | exact oz_1687f4cc65 k12_5 e409 | omega) (show (mf395 10).toInt = (mf 10).toInt from by first | exact oz_1687f4cc65 k12_6 e410 | omega) (show Md1 md md396 from hmdq) (show x12_3.toInt = x12_3.toInt from rfl) (show 0 ≤ (0 : Int) from by first | exact oz_5a341f00aa | omega) (show (0 : Int) ≤ 1 from by first | exact oz_6e68cd0f48 | omega) (show R_12 + (0 : Int) ≤ R_12 from by first | exact oz_9a4b2c0a69 | omega) (show R_12 ≤ R_12 from by first | exact oz_1cb5f934a5 | omega) (show 1 ≤ x12_4.toInt from by first | exact oz_70c2bdf1b6 k12_10 nc5 | omega) hw (lv_sub hl [2, 3, 4, 5, 0] rfl)
              · have nc412 : ¬ v401.toInt = (0 : Int) := mt (i_eq (x := v401) (y := 0)).mpr c412
                refine lv_iconst (v := 1) S.x S.b d_Mo_goOn_54 (by decide) ?_
                refine lv_goto (tgt := 59) S.x S.b d_Mo_goOn_55 (by decide) ?_
                refine lv_istore (lv' := [(4, .int 1), (5, .int v367), (0, .ref mo), (1, .int p0), (2, .ref (hq p0.toNatClampNeg)), (3, .int x12_3)]) S.x S.b d_Mo_goOn_59 hl (by decide) rfl (fun ls hl => ?_)
                refine lv_goto (tgt := 241) S.x S.b d_Mo_goOn_61 (by decide) ?_
                exact J241 mf395 md396 QO397 QF398 QA399 (R_12 - 1) x12_3 (1 : Int32) _ _ ls (show PrA PG (va_up RR p0.toNatClampNeg (R_12 - 1)) QO397 QF398 QA399 from (hpr.ml (by omega))) (show (mf395 0).toInt = (mf 0).toInt from by first | exact oz_1687f4cc65 k12_1 e405 | omega) (show (mf395 2).toInt = (mf 2).toInt from by first | exact oz_1687f4cc65 k12_2 e406 | omega) (show (mf395 3).toInt = (mf 3).toInt from by first | exact oz_1687f4cc65 k12_3 e407 | omega) (show (mf395 7).toInt = (mf 7).toInt from by first | exact oz_1687f4cc65 k12_4 e408 | omega) (show (mf395 8).toInt = (mf 8).toInt from by first | exact oz_1687f4cc65 k12_5 e409 | omega) (show (mf395 10).toInt = (mf 10).toInt from by first | exact oz_1687f4cc65 k12_6 e410 | omega) (show Md1 md md396 from hmdq) (show x12_3.toInt = x12_3.toInt from rfl) (show 0 ≤ (1 : Int) from by first | exact oz_19c3a41681 | omega) (show (1 : Int) ≤ 1 from by first | exact oz_f9181dc4bb | omega) (show (R_12 - 1) + (1 : Int) ≤ R_12 from by first | exact oz_9af69b5cb8 | omega) (show (R_12 - 1) ≤ R_12 from by first | exact oz_f81ab12e42 | omega) (show 1 ≤ x12_4.toInt from by first | exact oz_70c2bdf1b6 k12_10 nc5 | omega) hw (lv_sub hl [2, 3, 4, 5, 0] rfl)
  refine lv_aload_n S.x S.b d_Mo_goOn_0 rfl (lv_at hl 0 rfl) ?_
  refine px_get S k_Mo hT hw 0 0 5 (v := .ref (mr 5)) rfl rfl rfl (by decide) m11_83 d_Mo_goOn_1 ?_
  refine lv_iload_n S.x S.b d_Mo_goOn_4 rfl (lv_at hl 1 rfl) ?_
  refine px_aaldS S hT hw 0 3 10 (n := 13) (f := ((gMo PG hq) 5)) rfl rfl rfl (x := p0) (vp_in_iff.mpr (by first | exact oz_59feca6c45 g0 g1 | (constructor <;> omega))) (sk := (hq p0.toNatClampNeg)) rfl d_Mo_goOn_5 ?_
  refine lv_astore_n (lv' := [(2, .ref (hq p0.toNatClampNeg)), (0, .ref mo), (1, .int p0)]) S.x S.b d_Mo_goOn_6 rfl hl (by decide) rfl (fun ls hl => ?_)
  refine lv_iconst (v := 0) S.x S.b d_Mo_goOn_7 (by decide) ?_
  refine lv_istore_n (lv' := [(3, .int 0), (2, .ref (hq p0.toNatClampNeg)), (0, .ref mo), (1, .int p0)]) S.x S.b d_Mo_goOn_8 rfl hl (by decide) rfl (fun ls hl => ?_)
  refine lv_iconst (v := 1) S.x S.b d_Mo_goOn_9 (by decide) ?_
  refine lv_istore (lv' := [(4, .int 1), (3, .int 0), (2, .ref (hq p0.toNatClampNeg)), (0, .ref mo), (1, .int p0)]) S.x S.b d_Mo_goOn_10 hl (by decide) rfl (fun ls hl => ?_)
  exact J12 ((2 * (RR p0.toNatClampNeg) + (1 : Int)).toNat + 1) mf md QO QF QA (RR p0.toNatClampNeg) (0 : Int32) (1 : Int32) _ _ ls (show PrA PG (va_up RR p0.toNatClampNeg (RR p0.toNatClampNeg)) QO QF QA from (hpr.rs rfl)) (show (mf 0).toInt = (mf 0).toInt from rfl) (show (mf 2).toInt = (mf 2).toInt from rfl) (show (mf 3).toInt = (mf 3).toInt from rfl) (show (mf 7).toInt = (mf 7).toInt from rfl) (show (mf 8).toInt = (mf 8).toInt from rfl) (show (mf 10).toInt = (mf 10).toInt from rfl) (show Md1 md md from hmdq) (show 0 ≤ (0 : Int) from by first | exact oz_5a341f00aa | omega) (show (0 : Int) ≤ 1 from by first | exact oz_6e68cd0f48 | omega) (show 0 ≤ (1 : Int) from by first | exact oz_19c3a41681 | omega) (show (1 : Int) ≤ 1 from by first | exact oz_f9181dc4bb | omega) (show (RR p0.toNatClampNeg) + (0 : Int) ≤ RR p0.toNatClampNeg from by omega) (show 2 * (RR p0.toNatClampNeg) + (1 : Int) < ((((2 * (RR p0.toNatClampNeg) + (1 : Int)).toNat + 1 : Nat) : Int) : Int) from by first | exact oz_natlt | omega) hw (lv_sub hl [3, 4, 2, 1, 0] rfl)
