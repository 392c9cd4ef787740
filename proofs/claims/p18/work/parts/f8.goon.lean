theorem oz_c494451c9b {a0 a1 a3 a4 : Int} {n2 : Nat} (h0 : 2 * a3 + a4 < ((n2 + 1 : Nat) : Int)) (h1 : a0 + a1 ≤ a3) (h2 : a0 ≤ a3) (h3 : 1 ≤ a4) : 2 * a0 + a1 < (n2 : Int) := by omega
theorem oz_d5c43516a3 {a0 : Int} (h0 : a0 = -2) : a0 = -2 := by omega
theorem oz_3985e2c510 {a0 a1 : Int} (h0 : a1 ≤ 1) : (a0 - 1) + a1 ≤ a0 := by omega
theorem oz_f81ab12e42 {a0 : Int}  : (a0 - 1) ≤ a0 := by omega
theorem oz_e213b53fb9 {a0 : Int} (h0 : a0 = 1) : a0 = 1 := by omega
theorem oz_9af69b5cb8 {a0 : Int}  : (a0 - 1) + (1 : Int) ≤ a0 := by omega
theorem oz_4b2a01afc9 {a0 a1 a2 a3 a4 a5 a6 : Int}  : a0 = a0 ∧ a1 = a1 ∧ a2 = a2 ∧ a3 = a3 ∧ a4 = a4 ∧ a5 = a5 ∧ a6 = a6 := by omega
theorem oz_b2552476a0 {a0 a1 : Int} (h0 : a0 = a1) (h1 : a1 ≤ 100) : a0 ≤ 100 := by omega
theorem oz_5926d5b85b {a0 a1 : Int} (h0 : a0 = a1) (h1 : a1 ≤ 512) : a0 ≤ 512 := by omega
theorem oz_28eebd5525 {a0 a1 a2 a3 a4 a5 : Int}  : a0 = a0 ∧ a1 = a1 ∧ a2 = a2 ∧ a3 = a3 ∧ a4 = a4 ∧ a5 = a5 := by omega
theorem oz_b005c07786 {a0 a1 a2 a3 a4 a5 a6 a7 a8 a9 a10 a11 a12 a13 : Int} (h0 : a0 = a1) (h1 : a2 = a3) (h2 : a4 = a5) (h3 : a6 = a7) (h4 : a8 = a9) (h5 : a10 = a11) (h6 : a12 = a13) : a0 = a1 ∧ a2 = a3 ∧ a4 = a5 ∧ a6 = a7 ∧ a8 = a9 ∧ a10 = a11 ∧ a12 = a13 := by omega
theorem oz_154b4b53d6 {a0 a1 a2 a3 : Int} (h0 : a0 = a1) (h1 : a1 = a2) (h2 : a2 = a3) (h3 : a3 = 1) : a0 = 1 := by omega
theorem m14_170 : Cond.methodLink "HomeSystemModel" 224 ⟨"HomeSystemModel", "close", "(I)V"⟩ ∈ AL := AL_14 (List.mem_of_getElem? (i := 170) rfl) rfl
theorem m14_173 : Cond.code ⟨"HomeSystemModel", "close", "(I)V"⟩ prog_14_method_12_code 3 (Option.none : Option Jvm.ClassFile.FieldType) ∈ AL := AL_14 (List.mem_of_getElem? (i := 173) rfl) rfl
theorem ms_17_6 : Cond.selects "HomeSystemModel" ⟨"HomeSystemModel", "close", "(I)V"⟩ ⟨"HomeSystemModel", "close", "(I)V"⟩ ∈ AL := AL_p (q := (⟨"HomeSystemModel", "close", "(I)V"⟩, 11)) (by unfold lw_privs; exact List.mem_append_right _ (List.mem_append_right _ (List.mem_append_right _ (List.mem_append_right _ (List.mem_append_right _ (List.mem_append_right _ (List.mem_append_right _ (List.mem_append_right _ (List.mem_append_right _ (List.mem_append_right _ (List.mem_append_right _ (List.mem_append_right _ (List.mem_append_right _ (List.mem_append_right _ (List.mem_append_right _ (List.mem_append_right _ (List.mem_of_getElem? (i := 6) rfl)))))))))))))))))
theorem m14_172 : Cond.instanceMethod ⟨"HomeSystemModel", "close", "(I)V"⟩ ∈ AL := AL_14 (List.mem_of_getElem? (i := 172) rfl) rfl
theorem m10_222 : Cond.fieldLink "HomeSystemModel" 199 "HomeSystemModel$Process" "program" "LHomeSystemModel$Program;" ∈ AL := AL_10 (List.mem_of_getElem? (i := 222) rfl) rfl
theorem m10_59n : Cond.fieldLinkNest "HomeSystemModel" 209 "HomeSystemModel$Program" "code" "[I" "HomeSystemModel" ∈ tables_1 := by unfold tables_1; exact List.mem_append_right _ (List.mem_append_right _ (List.mem_append_right _ (List.mem_append_right _ (List.mem_append_right _ (List.mem_append_right _ (List.mem_append_right _ (List.mem_append_right _ (List.mem_append_right _ (List.mem_append_left _ (List.mem_of_getElem? (i := 59) rfl))))))))))
theorem m14_112 : Cond.methodLink "HomeSystemModel" 221 ⟨"HomeSystemModel$Process", "step", "(III)V"⟩ ∈ AL := AL_14 (List.mem_of_getElem? (i := 112) rfl) rfl
theorem m14_115 : Cond.code ⟨"HomeSystemModel$Process", "step", "(III)V"⟩ prog_15_method_15_code 10 (Option.none : Option Jvm.ClassFile.FieldType) ∈ AL := AL_14 (List.mem_of_getElem? (i := 115) rfl) rfl
theorem m14_114 : Cond.selects "HomeSystemModel$Process" ⟨"HomeSystemModel$Process", "step", "(III)V"⟩ ⟨"HomeSystemModel$Process", "step", "(III)V"⟩ ∈ AL := AL_14 (List.mem_of_getElem? (i := 114) rfl) rfl
theorem m14_113 : Cond.instanceMethod ⟨"HomeSystemModel$Process", "step", "(III)V"⟩ ∈ AL := AL_14 (List.mem_of_getElem? (i := 113) rfl) rfl
theorem m10_235 : Cond.fieldLink "HomeSystemModel" 212 "HomeSystemModel$Process" "paid" "Z" ∈ AL := AL_10 (List.mem_of_getElem? (i := 235) rfl) rfl
theorem m14_103 : Cond.methodLink "HomeSystemModel" 218 ⟨"HomeSystemModel", "ownCall", "(II)Z"⟩ ∈ AL := AL_14 (List.mem_of_getElem? (i := 103) rfl) rfl
theorem m14_106 : Cond.code ⟨"HomeSystemModel", "ownCall", "(II)Z"⟩ prog_14_method_23_code 8 (Option.some FieldType.boolean) ∈ AL := AL_14 (List.mem_of_getElem? (i := 106) rfl) rfl
theorem ms_16_9 : Cond.selects "HomeSystemModel" ⟨"HomeSystemModel", "ownCall", "(II)Z"⟩ ⟨"HomeSystemModel", "ownCall", "(II)Z"⟩ ∈ AL := AL_p (q := (⟨"HomeSystemModel", "ownCall", "(II)Z"⟩, 11)) (by unfold lw_privs; exact List.mem_append_right _ (List.mem_append_right _ (List.mem_append_right _ (List.mem_append_right _ (List.mem_append_right _ (List.mem_append_right _ (List.mem_append_right _ (List.mem_append_right _ (List.mem_append_right _ (List.mem_append_right _ (List.mem_append_right _ (List.mem_append_right _ (List.mem_append_right _ (List.mem_append_right _ (List.mem_append_right _ (List.mem_append_left _ (List.mem_of_getElem? (i := 9) rfl)))))))))))))))))
theorem m14_105 : Cond.instanceMethod ⟨"HomeSystemModel", "ownCall", "(II)Z"⟩ ∈ AL := AL_14 (List.mem_of_getElem? (i := 105) rfl) rfl
theorem m14_99 : Cond.methodLink "HomeSystemModel" 215 ⟨"HomeSystemModel$Process", "takesWork", "()Z"⟩ ∈ AL := AL_14 (List.mem_of_getElem? (i := 99) rfl) rfl
theorem m13_170 : Cond.methodLink "HomeSystemModel" 203 ⟨"HomeSystemModel$Process", "rawStep", "()Z"⟩ ∈ AL := AL_13 (List.mem_of_getElem? (i := 170) rfl) rfl
theorem m13_173 : Cond.code ⟨"HomeSystemModel$Process", "rawStep", "()Z"⟩ prog_15_method_32_code 3 (Option.some FieldType.boolean) ∈ AL := AL_13 (List.mem_of_getElem? (i := 173) rfl) rfl
theorem m13_172 : Cond.selects "HomeSystemModel$Process" ⟨"HomeSystemModel$Process", "rawStep", "()Z"⟩ ⟨"HomeSystemModel$Process", "rawStep", "()Z"⟩ ∈ AL := AL_13 (List.mem_of_getElem? (i := 172) rfl) rfl
theorem m13_171 : Cond.instanceMethod ⟨"HomeSystemModel$Process", "rawStep", "()Z"⟩ ∈ AL := AL_13 (List.mem_of_getElem? (i := 171) rfl) rfl
theorem m14_31 : Cond.methodLink "HomeSystemModel" 206 ⟨"HomeSystemModel", "rawCall", "(I)Z"⟩ ∈ AL := AL_14 (List.mem_of_getElem? (i := 31) rfl) rfl
theorem m14_34 : Cond.code ⟨"HomeSystemModel", "rawCall", "(I)Z"⟩ prog_14_method_25_code 7 (Option.some FieldType.boolean) ∈ AL := AL_14 (List.mem_of_getElem? (i := 34) rfl) rfl
theorem ms_15_12 : Cond.selects "HomeSystemModel" ⟨"HomeSystemModel", "rawCall", "(I)Z"⟩ ⟨"HomeSystemModel", "rawCall", "(I)Z"⟩ ∈ AL := AL_p (q := (⟨"HomeSystemModel", "rawCall", "(I)Z"⟩, 11)) (by unfold lw_privs; exact List.mem_append_right _ (List.mem_append_right _ (List.mem_append_right _ (List.mem_append_right _ (List.mem_append_right _ (List.mem_append_right _ (List.mem_append_right _ (List.mem_append_right _ (List.mem_append_right _ (List.mem_append_right _ (List.mem_append_right _ (List.mem_append_right _ (List.mem_append_right _ (List.mem_append_right _ (List.mem_append_left _ (List.mem_of_getElem? (i := 12) rfl))))))))))))))))
theorem m14_33 : Cond.instanceMethod ⟨"HomeSystemModel", "rawCall", "(I)Z"⟩ ∈ AL := AL_14 (List.mem_of_getElem? (i := 33) rfl) rfl
def Hid (P : Prop) : Prop := P
theorem Hid.o {P : Prop} (h : Hid P) : P := h
def IgV (v a b : Int) : Prop := (v = 1 ∧ a ≠ 0 ∧ b = -2) ∨ (v = 0 ∧ (a = 0 ∨ b ≠ -2))
def TkZ (v w' w o' o : Int) : Prop := (v = 1 ∧ w' = w - 1 ∧ o' = o ∧ 1 ≤ w) ∨ (v = 0 ∧ o' = 5 ∧ w' = w)
def RsV (v o' w' w : Int) : Prop := (v = 1 ∧ o' = -2 ∧ w' = w ∧ 1 ≤ w) ∨ (v = 0 ∧ (o' ≠ -2 ∨ w' = w - 1) ∧ 0 ≤ w' ∧ w' ≤ w)
set_option maxHeartbeats 4000000 in
set_option maxRecDepth 100000 in
theorem c_mqq_isGoing (l : Launch) (D : va_G) (cs : Nat → ClassId) (q : Nat) (qr : Nat → Nat) (qg : Nat → Nat → Option Nat) (qo : Nat → Option Nat) (qf : Nat → Int32) (qa : Nat → Nat → Int32)   : MetI l y_Mpr_isGoing b_Mpr_isGoing 1 (.boolean) D cs 0 0 (0) (0) [.ref q] [wd_Mpr cs q qr qo qf qa qg] (fun _ => True) (fun v ps => (ps = [wd_Mpr cs q qr qo qf qa qg]) ∧ (0 ≤ v.toInt) ∧ (v.toInt ≤ 1) ∧ (IgV v.toInt (qf 1).toInt (qf 2).toInt)) := by
  refine px_enter (by decide) (Nat.le_of_ble_eq_true rfl) ?_
  intro p e s m below meth c A ls hAe S hr hlk hnm hA hT hX hw hl
  replace hl : lv_has ls 1 [(0, .ref q)] := hl
  have cstm2 : ((-2) : Int32).toInt = (-2) := rfl
  have cst0 : (0 : Int32).toInt = 0 := rfl
  have cst1 : (1 : Int32).toInt = 1 := rfl
  refine lv_aload_n S.x S.b d_Mpr_isGoing_0 rfl (lv_at hl 0 rfl) ?_
  refine px_get S k_Mpr hT hw 0 0 1 (v := .int (qf 1)) rfl rfl rfl (by decide) m10_223 d_Mpr_isGoing_1 ?_
  refine lv_if_eq (tgt := 20) S.x S.b d_Mpr_isGoing_4 (by decide) (fun c1 => ?_) (fun c1 => ?_)
  · have nc1 : (qf 1).toInt = (0 : Int) := (i_eq (x := (qf 1)) (y := 0)).mp c1
    refine lv_iconst (v := 0) S.x S.b d_Mpr_isGoing_20 (by decide) ?_
    exact px_iret (v := 0) S hr rfl hlk hAe hw (Nat.le_of_ble_eq_true rfl) (Nat.le_of_ble_eq_true rfl) (⟨rfl, (show 0 ≤ (0 : Int) from by first | decide | omega), (show (0 : Int) ≤ 1 from by first | decide | omega), (show IgV (0 : Int) (qf 1).toInt (qf 2).toInt from (by unfold IgV; omega))⟩) d_Mpr_isGoing_21
  · have nc1 : ¬ (qf 1).toInt = (0 : Int) := mt (i_eq (x := (qf 1)) (y := 0)).mpr c1
    refine lv_aload_n S.x S.b d_Mpr_isGoing_7 rfl (lv_at hl 0 rfl) ?_
    refine px_get S k_Mpr hT hw 0 0 2 (v := .int (qf 2)) rfl rfl rfl (by decide) m10_225 d_Mpr_isGoing_8 ?_
    refine lv_bipush (v := (-2)) S.x S.b d_Mpr_isGoing_11 (by decide) ?_
    refine lv_icmp_ne (tgt := 20) S.x S.b d_Mpr_isGoing_13 (by decide) (fun c2 => ?_) (fun c2 => ?_)
    · have nc2 : ¬ (qf 2).toInt = (-2 : Int) := mt (i_eq (x := (qf 2)) (y := (-2))).mpr c2
      refine lv_iconst (v := 0) S.x S.b d_Mpr_isGoing_20 (by decide) ?_
      exact px_iret (v := 0) S hr rfl hlk hAe hw (Nat.le_of_ble_eq_true rfl) (Nat.le_of_ble_eq_true rfl) (⟨rfl, (show 0 ≤ (0 : Int) from by first | decide | omega), (show (0 : Int) ≤ 1 from by first | decide | omega), (show IgV (0 : Int) (qf 1).toInt (qf 2).toInt from (by unfold IgV; omega))⟩) d_Mpr_isGoing_21
    · have nc2 : (qf 2).toInt = (-2 : Int) := (i_eq (x := (qf 2)) (y := (-2))).mp c2
      refine lv_iconst (v := 1) S.x S.b d_Mpr_isGoing_16 (by decide) ?_
      refine lv_goto (tgt := 21) S.x S.b d_Mpr_isGoing_17 (by decide) ?_
      exact px_iret (v := 1) S hr rfl hlk hAe hw (Nat.le_of_ble_eq_true rfl) (Nat.le_of_ble_eq_true rfl) (⟨rfl, (show 0 ≤ (1 : Int) from by first | decide | omega), (show (1 : Int) ≤ 1 from by first | decide | omega), (show IgV (1 : Int) (qf 1).toInt (qf 2).toInt from (by unfold IgV; omega))⟩) d_Mpr_isGoing_21
set_option maxHeartbeats 4000000 in
set_option maxRecDepth 100000 in
theorem c_mqq_hasEnded (l : Launch) (D : va_G) (cs : Nat → ClassId) (q : Nat) (qr : Nat → Nat) (qg : Nat → Nat → Option Nat) (qo : Nat → Option Nat) (qf : Nat → Int32) (qa : Nat → Nat → Int32)   : MetI l y_Mpr_hasEnded b_Mpr_hasEnded 1 (.boolean) D cs 0 0 (0) (0) [.ref q] [wd_Mpr cs q qr qo qf qa qg] (fun _ => True) (fun v ps => (ps = [wd_Mpr cs q qr qo qf qa qg]) ∧ (0 ≤ v.toInt) ∧ (v.toInt ≤ 1)) := by
  refine px_enter (by decide) (Nat.le_of_ble_eq_true rfl) ?_
  intro p e s m below meth c A ls hAe S hr hlk hnm hA hT hX hw hl
  replace hl : lv_has ls 1 [(0, .ref q)] := hl
  have cstm2 : ((-2) : Int32).toInt = (-2) := rfl
  have cst0 : (0 : Int32).toInt = 0 := rfl
  have cst1 : (1 : Int32).toInt = 1 := rfl
  refine lv_aload_n S.x S.b d_Mpr_hasEnded_0 rfl (lv_at hl 0 rfl) ?_
  refine px_get S k_Mpr hT hw 0 0 1 (v := .int (qf 1)) rfl rfl rfl (by decide) m10_223 d_Mpr_hasEnded_1 ?_
  refine lv_if_eq (tgt := 20) S.x S.b d_Mpr_hasEnded_4 (by decide) (fun c1 => ?_) (fun c1 => ?_)
  · have nc1 : (qf 1).toInt = (0 : Int) := (i_eq (x := (qf 1)) (y := 0)).mp c1
    refine lv_iconst (v := 0) S.x S.b d_Mpr_hasEnded_20 (by decide) ?_
    exact px_iret (v := 0) S hr rfl hlk hAe hw (Nat.le_of_ble_eq_true rfl) (Nat.le_of_ble_eq_true rfl) (⟨rfl, (show 0 ≤ (0 : Int) from by first | decide | omega), (show (0 : Int) ≤ 1 from by first | decide | omega)⟩) d_Mpr_hasEnded_21
  · have nc1 : ¬ (qf 1).toInt = (0 : Int) := mt (i_eq (x := (qf 1)) (y := 0)).mpr c1
    refine lv_aload_n S.x S.b d_Mpr_hasEnded_7 rfl (lv_at hl 0 rfl) ?_
    refine px_get S k_Mpr hT hw 0 0 2 (v := .int (qf 2)) rfl rfl rfl (by decide) m10_225 d_Mpr_hasEnded_8 ?_
    refine lv_bipush (v := (-2)) S.x S.b d_Mpr_hasEnded_11 (by decide) ?_
    refine lv_icmp_eq (tgt := 20) S.x S.b d_Mpr_hasEnded_13 (by decide) (fun c2 => ?_) (fun c2 => ?_)
    · have nc2 : (qf 2).toInt = (-2 : Int) := (i_eq (x := (qf 2)) (y := (-2))).mp c2
      refine lv_iconst (v := 0) S.x S.b d_Mpr_hasEnded_20 (by decide) ?_
      exact px_iret (v := 0) S hr rfl hlk hAe hw (Nat.le_of_ble_eq_true rfl) (Nat.le_of_ble_eq_true rfl) (⟨rfl, (show 0 ≤ (0 : Int) from by first | decide | omega), (show (0 : Int) ≤ 1 from by first | decide | omega)⟩) d_Mpr_hasEnded_21
    · have nc2 : ¬ (qf 2).toInt = (-2 : Int) := mt (i_eq (x := (qf 2)) (y := (-2))).mpr c2
      refine lv_iconst (v := 1) S.x S.b d_Mpr_hasEnded_16 (by decide) ?_
      refine lv_goto (tgt := 21) S.x S.b d_Mpr_hasEnded_17 (by decide) ?_
      exact px_iret (v := 1) S hr rfl hlk hAe hw (Nat.le_of_ble_eq_true rfl) (Nat.le_of_ble_eq_true rfl) (⟨rfl, (show 0 ≤ (1 : Int) from by first | decide | omega), (show (1 : Int) ≤ 1 from by first | decide | omega)⟩) d_Mpr_hasEnded_21
set_option maxHeartbeats 4000000 in
set_option maxRecDepth 100000 in
theorem c_mrr_takesWork (l : Launch) (D : va_G) (cs : Nat → ClassId) (nf : Int) (q : Nat) (qr : Nat → Nat) (qg : Nat → Nat → Option Nat) (qa : Nat → Nat → Int32) (qf : Nat → Int32) (h : Nat) (r : Nat → Nat) (g : Nat → Nat → Option Nat) (tf : Nat → Int32) (ta : Nat → Nat → Int32) (pf : Nat → Int32) (na : Nat → Nat → Int32) (ma : Nat → Nat → Int32) (wa : Nat → Nat → Int32) (cf : Nat → Int32) (ca : Nat → Nat → Int32) (ef : Nat → Int32) (ea : Nat → Nat → Int32) (xf : Nat → Int32) (xa : Nat → Nat → Int32)  (g0 : 0 ≤ (qf 4).toInt) : MetI l y_Mpr_takesWork b_Mpr_takesWork 1 (.boolean) D cs 1 30 (0) (0) [.ref q] [wd_Mpr cs q qr (fun k => if k = 0 then (some h) else none) qf qa qg, wdP cs h r g tf ta pf na ma wa cf ca ef ea xf xa] (oX (fun A U H => (oP A g U H)) [wd_Mpr cs q qr (fun k => if k = 0 then (some h) else none) qf qa qg, wdP cs h r g tf ta pf na ma wa cf ca ef ea xf xa]) (fun v ps => ∃ (qf' : Nat → Int32), (ps = [wd_Mpr cs q qr (fun k => if k = 0 then (some h) else none) qf' qa qg, wdP cs h r g tf ta pf na ma wa cf ca ef ea xf xa]) ∧ (0 ≤ v.toInt) ∧ (v.toInt ≤ 1) ∧ (TkZ v.toInt (qf' 4).toInt (qf 4).toInt (qf' 2).toInt (qf 2).toInt) ∧ ((qf' 1).toInt = (qf 1).toInt) ∧ ((qf' 5).toInt = (qf 5).toInt) ∧ ((qf' 6).toInt = (qf 6).toInt) ∧ ((qf' 7).toInt = (qf 7).toInt) ∧ ((qf' 10).toInt = (qf 10).toInt) ∧ ((qf' 11).toInt = (qf 11).toInt) ∧ ((qf' 12).toInt = (qf 12).toInt) ∧ ((qf' 13).toInt = (qf 13).toInt) ∧ ((qf' 14).toInt = (qf 14).toInt) ∧ ((qf' 21).toInt = (qf 21).toInt) ∧ ((qf' 23).toInt = (qf 23).toInt) ∧ ((qf' 24).toInt = (qf 24).toInt)) := by
  refine px_enter (by decide) (Nat.le_of_ble_eq_true rfl) ?_
  intro p e s m below meth c A ls hAe S hr hlk hnm hA hT hX hw hl
  replace hl : lv_has ls 1 [(0, .ref q)] := hl
  have cst0 : (0 : Int32).toInt = 0 := rfl
  have cst1 : (1 : Int32).toInt = 1 := rfl
  have cst5 : (5 : Int32).toInt = 5 := rfl
  have hX : (fun A U H => (oP A g U H)) A s s.heap := by rw [hAe]; exact hX
  have hP := hX
  have hZ := hP.1
  have hF0 := hP.2.1
  refine lv_aload_n S.x S.b d_Mpr_takesWork_0 rfl (lv_at hl 0 rfl) ?_
  refine px_get S k_Mpr hT hw 0 0 4 (v := .int (qf 4)) rfl rfl rfl (by decide) m10_229 d_Mpr_takesWork_1 ?_
  refine lv_if_ne (tgt := 15) S.x S.b d_Mpr_takesWork_4 (by decide) (fun c1 => ?_) (fun c1 => ?_)
  · have nc1 : ¬ (qf 4).toInt = (0 : Int) := mt (i_eq (x := (qf 4)) (y := 0)).mpr c1
    refine lv_aload_n S.x S.b d_Mpr_takesWork_15 rfl (lv_at hl 0 rfl) ?_
    refine lv_dup S.x S.b d_Mpr_takesWork_16 rfl ?_
    refine px_get S k_Mpr hT hw 0 0 4 (v := .int (qf 4)) rfl rfl rfl (by decide) m10_229 d_Mpr_takesWork_17 ?_
    refine lv_iconst (v := 1) S.x S.b d_Mpr_takesWork_20 (by decide) ?_
    refine lv_isub S.x S.b d_Mpr_takesWork_21 ?_
    have lr2 := Int32.le_toInt (qf 4)
    have ur2 := Int32.toInt_lt (qf 4)
    refine lv_topi (fun z3 ez3 => ?_)
    have tz3 : z3.toInt = ((qf 4).toInt - (1 : Int) + 2147483648) % 4294967296 - 2147483648 := by rw [ez3]; exact i_sub (qf 4) 1
    have lz3 := Int32.le_toInt z3
    have uz3 := Int32.toInt_lt z3
    try replace tz3 : z3.toInt = (qf 4).toInt - (1 : Int) := by omega
    refine px_put S k_Mpr hT hw 0 0 4 rfl rfl (by decide) m10_229 rfl rfl rfl (Nat.le_of_ble_eq_true rfl) d_Mpr_takesWork_22 (w' := wd_Mpr cs q qr (fun k => if k = 0 then (some h) else none) (upd qf 4 z3) qa qg) (ps' := [wd_Mpr cs q qr (fun k => if k = 0 then (some h) else none) (upd qf 4 z3) qa qg, wdP cs h r g tf ta pf na ma wa cf ca ef ea xf xa]) rfl rfl (fun H locs hw => ?_)
    refine lv_iconst (v := 1) S.x S.b d_Mpr_takesWork_25 (by decide) ?_
    exact px_iret (v := 1) S hr rfl hlk hAe hw (Nat.le_of_ble_eq_true rfl) (Nat.le_of_ble_eq_true rfl) (⟨(upd qf 4 z3), rfl, (show 0 ≤ (1 : Int) from by first | decide | omega), (show (1 : Int) ≤ 1 from by first | decide | omega), (show TkZ (1 : Int) z3.toInt (qf 4).toInt (qf 2).toInt (qf 2).toInt from (by unfold TkZ; omega)), (show (qf 1).toInt = (qf 1).toInt from rfl), (show (qf 5).toInt = (qf 5).toInt from rfl), (show (qf 6).toInt = (qf 6).toInt from rfl), (show (qf 7).toInt = (qf 7).toInt from rfl), (show (qf 10).toInt = (qf 10).toInt from rfl), (show (qf 11).toInt = (qf 11).toInt from rfl), (show (qf 12).toInt = (qf 12).toInt from rfl), (show (qf 13).toInt = (qf 13).toInt from rfl), (show (qf 14).toInt = (qf 14).toInt from rfl), (show (qf 21).toInt = (qf 21).toInt from rfl), (show (qf 23).toInt = (qf 23).toInt from rfl), (show (qf 24).toInt = (qf 24).toInt from rfl)⟩) d_Mpr_takesWork_26
  · have nc1 : (qf 4).toInt = (0 : Int) := (i_eq (x := (qf 4)) (y := 0)).mp c1
    refine lv_aload_n S.x S.b d_Mpr_takesWork_7 rfl (lv_at hl 0 rfl) ?_
    refine lv_iconst (v := 5) S.x S.b d_Mpr_takesWork_8 (by decide) ?_
    refine lv_iconst (v := 0) S.x S.b d_Mpr_takesWork_9 (by decide) ?_
    refine px_callv (pr := []) (px_runV (As := [.int 5, .int 0]) (rest := []) S (c_mr_end l D cs (0 : Int) q qr qg qa qf h r g tf ta pf na ma wa cf ca ef ea xf xa 5 0   _) hT (pr := []) (pcs := [wd_Mpr cs q qr (fun k => if k = 0 then (some h) else none) qf qa qg, wdP cs h r g tf ta pf na ma wa cf ca ef ea xf xa]) hw (oX_call (P := (fun A U H => (oP A g U H))) (pr := []) oG_P hw hA hP) (px_recv hT hw 0 0 rfl rfl rfl) m13_177 m13_174 m13_175 m13_176 m1_22 q_Mpr_end ⟨Nat.le_of_ble_eq_true rfl, Nat.le_of_ble_eq_true rfl⟩ hl.1 rfl (Nat.le_of_ble_eq_true rfl) d_Mpr_takesWork_10 ⟨Nat.le_of_ble_eq_true rfl, Nat.le_of_ble_eq_true rfl⟩) hw hA (fun p6 H locs hp6 hw => ?_)
    obtain ⟨qf5, rfl, e8, e9, e10, e11, e12, e13, e14, e15, e16, e17, e18, e19, e20, e21, e22⟩ := hp6
    replace e8 : (qf5 2).toInt = (5 : Int) := e8
    replace e9 : (qf5 3).toInt = (0 : Int) := e9
    replace e10 : (qf5 1).toInt = (qf 1).toInt := e10
    replace e11 : (qf5 4).toInt = (qf 4).toInt := e11
    replace e12 : (qf5 5).toInt = (qf 5).toInt := e12
    replace e13 : (qf5 6).toInt = (qf 6).toInt := e13
    replace e14 : (qf5 7).toInt = (qf 7).toInt := e14
    replace e15 : (qf5 10).toInt = (qf 10).toInt := e15
    replace e16 : (qf5 11).toInt = (qf 11).toInt := e16
    replace e17 : (qf5 12).toInt = (qf 12).toInt := e17
    replace e18 : (qf5 13).toInt = (qf 13).toInt := e18
    replace e19 : (qf5 14).toInt = (qf 14).toInt := e19
    replace e20 : (qf5 21).toInt = (qf 21).toInt := e20
    replace e21 : (qf5 23).toInt = (qf 23).toInt := e21
    replace e22 : (qf5 24).toInt = (qf 24).toInt := e22
    replace hw : pw D A s.heap H locs [wd_Mpr cs q qr (fun k => if k = 0 then (some h) else none) qf5 qa qg, wdP cs h r g tf ta pf na ma wa cf ca ef ea xf xa] := hw
    refine lv_iconst (v := 0) S.x S.b d_Mpr_takesWork_13 (by decide) ?_
    exact px_iret (v := 0) S hr rfl hlk hAe hw (Nat.le_of_ble_eq_true rfl) (Nat.le_of_ble_eq_true rfl) (⟨qf5, rfl, (show 0 ≤ (0 : Int) from by first | decide | omega), (show (0 : Int) ≤ 1 from by first | decide | omega), (show TkZ (0 : Int) (qf5 4).toInt (qf 4).toInt (qf5 2).toInt (qf 2).toInt from (by unfold TkZ; omega)), (show (qf5 1).toInt = (qf 1).toInt from by first | exact e10 | omega), (show (qf5 5).toInt = (qf 5).toInt from by first | exact e12 | omega), (show (qf5 6).toInt = (qf 6).toInt from by first | exact e13 | omega), (show (qf5 7).toInt = (qf 7).toInt from by first | exact e14 | omega), (show (qf5 10).toInt = (qf 10).toInt from by first | exact e15 | omega), (show (qf5 11).toInt = (qf 11).toInt from by first | exact e16 | omega), (show (qf5 12).toInt = (qf 12).toInt from by first | exact e17 | omega), (show (qf5 13).toInt = (qf 13).toInt from by first | exact e18 | omega), (show (qf5 14).toInt = (qf 14).toInt from by first | exact e19 | omega), (show (qf5 21).toInt = (qf 21).toInt from by first | exact e20 | omega), (show (qf5 23).toInt = (qf 23).toInt from by first | exact e21 | omega), (show (qf5 24).toInt = (qf 24).toInt from by first | exact e22 | omega)⟩) d_Mpr_takesWork_14
set_option maxHeartbeats 4000000 in
set_option maxRecDepth 100000 in
theorem c_mrr_rawStep (l : Launch) (D : va_G) (cs : Nat → ClassId) (nf : Int) (q : Nat) (qr : Nat → Nat) (qg : Nat → Nat → Option Nat) (qf : Nat → Int32) (qa : Nat → Nat → Int32) (h : Nat) (r : Nat → Nat) (g : Nat → Nat → Option Nat) (tf : Nat → Int32) (ta : Nat → Nat → Int32) (pf : Nat → Int32) (na : Nat → Nat → Int32) (ma : Nat → Nat → Int32) (wa : Nat → Nat → Int32) (cf : Nat → Int32) (ca : Nat → Nat → Int32) (ef : Nat → Int32) (ea : Nat → Nat → Int32) (xf : Nat → Int32) (xa : Nat → Nat → Int32)  (g0 : 0 ≤ (xf 68).toInt) (g1 : (xf 68).toInt ≤ 512) (g2 : (qf 2).toInt = -2) (g3 : 0 ≤ (qf 4).toInt) : MetI l y_Mpr_rawStep b_Mpr_rawStep 3 (.boolean) D cs 6 210 (0) (0) [.ref q] [wd_Mpr cs q qr (fun k => if k = 0 then (some h) else none) qf qa qg, wdP cs h r g tf ta pf na ma wa cf ca ef ea xf xa] (oX (fun A U H => (oP A g U H)) [wd_Mpr cs q qr (fun k => if k = 0 then (some h) else none) qf qa qg, wdP cs h r g tf ta pf na ma wa cf ca ef ea xf xa]) (fun v ps => ∃ (qf' : Nat → Int32) (qa' : Nat → Nat → Int32), (ps = [wd_Mpr cs q qr (fun k => if k = 0 then (some h) else none) qf' qa' qg, wdP cs h r g tf ta pf na ma wa cf ca ef ea xf xa]) ∧ (0 ≤ v.toInt) ∧ (v.toInt ≤ 1) ∧ (RsV v.toInt (qf' 2).toInt (qf' 4).toInt (qf 4).toInt) ∧ ((qf' 1).toInt = (qf 1).toInt) ∧ ((qf' 5).toInt = (qf 5).toInt) ∧ ((qf' 6).toInt = (qf 6).toInt) ∧ ((qf' 7).toInt = (qf 7).toInt) ∧ ((qf' 10).toInt = (qf 10).toInt) ∧ ((qf' 12).toInt = (qf 12).toInt) ∧ ((qf' 13).toInt = (qf 13).toInt) ∧ ((qf' 14).toInt = (qf 14).toInt) ∧ ((qf' 21).toInt = (qf 21).toInt) ∧ ((qf' 23).toInt = (qf 23).toInt) ∧ ((qf' 24).toInt = (qf 24).toInt)) := by
  refine px_enter (by decide) (Nat.le_of_ble_eq_true rfl) ?_
  intro p e s m below meth c A ls hAe S hr hlk hnm hA hT hX hw hl
  replace hl : lv_has ls 3 [(0, .ref q)] := hl
  have cstm2 : ((-2) : Int32).toInt = (-2) := rfl
  have cst0 : (0 : Int32).toInt = 0 := rfl
  have cst1 : (1 : Int32).toInt = 1 := rfl
  have cst4 : (4 : Int32).toInt = 4 := rfl
  have cst5 : (5 : Int32).toInt = 5 := rfl
  have cst115 : (115 : Int32).toInt = 115 := rfl
  have hX : (fun A U H => (oP A g U H)) A s s.heap := by rw [hAe]; exact hX
  have hP := hX
  have hZ := hP.1
  have hF0 := hP.2.1
  refine lv_aload_n S.x S.b d_Mpr_rawStep_0 rfl (lv_at hl 0 rfl) ?_
  refine px_get S k_Mpr hT hw 0 0 4 (v := .int (qf 4)) rfl rfl rfl (by decide) m10_229 d_Mpr_rawStep_1 ?_
  refine lv_if_ne (tgt := 15) S.x S.b d_Mpr_rawStep_4 (by decide) (fun c1 => ?_) (fun c1 => ?_)
  · have nc1 : ¬ (qf 4).toInt = (0 : Int) := mt (i_eq (x := (qf 4)) (y := 0)).mpr c1
    refine lv_aload_n S.x S.b d_Mpr_rawStep_15 rfl (lv_at hl 0 rfl) ?_
    refine lv_aload_n S.x S.b d_Mpr_rawStep_16 rfl (lv_at hl 0 rfl) ?_
    refine px_get S k_Mpr hT hw 0 0 11 (v := .int (qf 11)) rfl rfl rfl (by decide) m11_2 d_Mpr_rawStep_17 ?_
    refine px_calli (pr := []) (px_runV (As := [.int (qf 11)]) (rest := []) S (c_mr_isText l D cs (0 : Int) q qr qg qf qa h r g tf ta pf na ma wa cf ca ef ea xf xa (qf 11)  (show 0 ≤ (xf 68).toInt from by first | exact g0 | omega) (show (xf 68).toInt ≤ 512 from by first | exact g1 | omega) _) hT (pr := []) (pcs := [wd_Mpr cs q qr (fun k => if k = 0 then (some h) else none) qf qa qg, wdP cs h r g tf ta pf na ma wa cf ca ef ea xf xa]) hw (oX_call (P := (fun A U H => (oP A g U H))) (pr := []) oG_P hw hA hP) (px_recv hT hw 0 0 rfl rfl rfl) m13_181 m13_178 m13_180 ms_15_0 m1_22 q_Mpr_isText ⟨Nat.le_of_ble_eq_true rfl, Nat.le_of_ble_eq_true rfl⟩ hl.1 rfl (Nat.le_of_ble_eq_true rfl) d_Mpr_rawStep_20 ⟨Nat.le_of_ble_eq_true rfl, Nat.le_of_ble_eq_true rfl⟩) hw hA (fun v3 p2 H locs hp2 hw => ?_)
    obtain ⟨rfl, e4, e5, e6, e7⟩ := hp2
    replace e4 : 0 ≤ v3.toInt := e4
    replace e5 : v3.toInt ≤ 1 := e5
    replace e6 : v3.toInt = 1 → (4194304 ≤ (qf 11).toInt % 4294967296 ∧ (qf 11).toInt % 4294967296 < 4194304 + (4 * (xf 68).toInt + 4095) / 4096 * 4096) := e6
    replace e7 : (4194304 ≤ (qf 11).toInt % 4294967296 ∧ (qf 11).toInt % 4294967296 < 4194304 + (4 * (xf 68).toInt + 4095) / 4096 * 4096) → v3.toInt = 1 := e7
    replace hw : pw D A s.heap H locs [wd_Mpr cs q qr (fun k => if k = 0 then (some h) else none) qf qa qg, wdP cs h r g tf ta pf na ma wa cf ca ef ea xf xa] := hw
    have lv3 := Int32.le_toInt v3
    have uv3 := Int32.toInt_lt v3
    refine lv_if_eq (tgt := 35) S.x S.b d_Mpr_rawStep_23 (by decide) (fun c8 => ?_) (fun c8 => ?_)
    · have nc8 : v3.toInt = (0 : Int) := (i_eq (x := v3) (y := 0)).mp c8
      refine lv_aload_n S.x S.b d_Mpr_rawStep_35 rfl (lv_at hl 0 rfl) ?_
      refine px_callv (pr := []) (px_runV (As := []) (rest := []) S (c_mr_fault l D cs (0 : Int) q qr qg qa qf h r g tf ta pf na ma wa cf ca ef ea xf xa    _) hT (pr := []) (pcs := [wd_Mpr cs q qr (fun k => if k = 0 then (some h) else none) qf qa qg, wdP cs h r g tf ta pf na ma wa cf ca ef ea xf xa]) hw (oX_call (P := (fun A U H => (oP A g U H))) (pr := []) oG_P hw hA hP) (px_recv hT hw 0 0 rfl rfl rfl) m13_193 m13_190 m13_192 ms_15_1 m1_22 q_Mpr_fault ⟨Nat.le_of_ble_eq_true rfl, Nat.le_of_ble_eq_true rfl⟩ hl.1 rfl (Nat.le_of_ble_eq_true rfl) d_Mpr_rawStep_36 ⟨Nat.le_of_ble_eq_true rfl, Nat.le_of_ble_eq_true rfl⟩) hw hA (fun p11 H locs hp11 hw => ?_)
      obtain ⟨qf10, rfl, e13, e14, e15, e16, e17, e18, e19, e20, e21, e22, e23, e24, e25, e26⟩ := hp11
      replace e13 : (qf10 2).toInt = 7 := e13
      replace e14 : (qf10 1).toInt = (qf 1).toInt := e14
      replace e15 : (qf10 4).toInt = (qf 4).toInt := e15
      replace e16 : (qf10 5).toInt = (qf 5).toInt := e16
      replace e17 : (qf10 6).toInt = (qf 6).toInt := e17
      replace e18 : (qf10 7).toInt = (qf 7).toInt := e18
      replace e19 : (qf10 10).toInt = (qf 10).toInt := e19
      replace e20 : (qf10 11).toInt = (qf 11).toInt := e20
      replace e21 : (qf10 12).toInt = (qf 12).toInt := e21
      replace e22 : (qf10 13).toInt = (qf 13).toInt := e22
      replace e23 : (qf10 14).toInt = (qf 14).toInt := e23
      replace e24 : (qf10 21).toInt = (qf 21).toInt := e24
      replace e25 : (qf10 23).toInt = (qf 23).toInt := e25
      replace e26 : (qf10 24).toInt = (qf 24).toInt := e26
      replace hw : pw D A s.heap H locs [wd_Mpr cs q qr (fun k => if k = 0 then (some h) else none) qf10 qa qg, wdP cs h r g tf ta pf na ma wa cf ca ef ea xf xa] := hw
      refine lv_iconst (v := 0) S.x S.b d_Mpr_rawStep_39 (by decide) ?_
      exact px_iret (v := 0) S hr rfl hlk hAe hw (Nat.le_of_ble_eq_true rfl) (Nat.le_of_ble_eq_true rfl) (⟨qf10, qa, rfl, (show 0 ≤ (0 : Int) from by first | decide | omega), (show (0 : Int) ≤ 1 from by first | decide | omega), (show RsV (0 : Int) (qf10 2).toInt (qf10 4).toInt (qf 4).toInt from (by unfold RsV; omega)), (show (qf10 1).toInt = (qf 1).toInt from by first | exact e14 | omega), (show (qf10 5).toInt = (qf 5).toInt from by first | exact e16 | omega), (show (qf10 6).toInt = (qf 6).toInt from by first | exact e17 | omega), (show (qf10 7).toInt = (qf 7).toInt from by first | exact e18 | omega), (show (qf10 10).toInt = (qf 10).toInt from by first | exact e19 | omega), (show (qf10 12).toInt = (qf 12).toInt from by first | exact e21 | omega), (show (qf10 13).toInt = (qf 13).toInt from by first | exact e22 | omega), (show (qf10 14).toInt = (qf 14).toInt from by first | exact e23 | omega), (show (qf10 21).toInt = (qf 21).toInt from by first | exact e24 | omega), (show (qf10 23).toInt = (qf 23).toInt from by first | exact e25 | omega), (show (qf10 24).toInt = (qf 24).toInt from by first | exact e26 | omega)⟩) d_Mpr_rawStep_40
    · have nc8 : ¬ v3.toInt = (0 : Int) := mt (i_eq (x := v3) (y := 0)).mpr c8
      refine lv_aload_n S.x S.b d_Mpr_rawStep_26 rfl (lv_at hl 0 rfl) ?_
      refine px_get S k_Mpr hT hw 0 0 11 (v := .int (qf 11)) rfl rfl rfl (by decide) m11_2 d_Mpr_rawStep_27 ?_
      refine lv_iconst (v := 4) S.x S.b d_Mpr_rawStep_30 (by decide) ?_
      refine lv_irem S.x S.b d_Mpr_rawStep_31 (fun hz0 => by have hz1 := i_eq.mp hz0; omega) ?_
      refine lv_topi (fun z27 ez27 => ?_)
      have lz27 := Int32.le_toInt z27
      have uz27 := Int32.toInt_lt z27
      refine lv_if_eq (tgt := 41) S.x S.b d_Mpr_rawStep_32 (by decide) (fun c28 => ?_) (fun c28 => ?_)
      · have nc28 : z27.toInt = (0 : Int) := (i_eq (x := z27) (y := 0)).mp c28
        refine lv_aload_n S.x S.b d_Mpr_rawStep_41 rfl (lv_at hl 0 rfl) ?_
        refine lv_aload_n S.x S.b d_Mpr_rawStep_42 rfl (lv_at hl 0 rfl) ?_
        refine px_get S k_Mpr hT hw 0 0 11 (v := .int (qf 11)) rfl rfl rfl (by decide) m11_2 d_Mpr_rawStep_43 ?_
        refine px_calli (pr := []) (px_runV (As := [.int (qf 11)]) (rest := []) S (c_mr_wordAt l D cs (0 : Int) q qr qg qf qa h r g tf ta pf na ma wa cf ca ef ea xf xa (qf 11)  (show 0 ≤ (xf 68).toInt from by first | exact g0 | omega) (show (xf 68).toInt ≤ 512 from by first | exact g1 | omega) (show (4194304 ≤ (qf 11).toInt % 4294967296 ∧ (qf 11).toInt % 4294967296 < 4194304 + (4 * (xf 68).toInt + 4095) / 4096 * 4096) ∨ (5242880 ≤ (qf 11).toInt % 4294967296 ∧ (qf 11).toInt % 4294967296 < 5259264) ∨ (8257536 ≤ (qf 11).toInt % 4294967296 ∧ (qf 11).toInt % 4294967296 < 8388608) from by first | with_reducible rfl | with_reducible assumption | omega) _) hT (pr := []) (pcs := [wd_Mpr cs q qr (fun k => if k = 0 then (some h) else none) qf qa qg, wdP cs h r g tf ta pf na ma wa cf ca ef ea xf xa]) hw (oX_call (P := (fun A U H => (oP A g U H))) (pr := []) oG_P hw hA hP) (px_recv hT hw 0 0 rfl rfl rfl) m13_197 m13_194 m13_195 m13_196 m1_22 q_Mpr_wordAt ⟨Nat.le_of_ble_eq_true rfl, Nat.le_of_ble_eq_true rfl⟩ hl.1 rfl (Nat.le_of_ble_eq_true rfl) d_Mpr_rawStep_46 ⟨Nat.le_of_ble_eq_true rfl, Nat.le_of_ble_eq_true rfl⟩) hw hA (fun v30 p29 H locs hp29 hw => ?_)
        subst hp29
        replace hw : pw D A s.heap H locs [wd_Mpr cs q qr (fun k => if k = 0 then (some h) else none) qf qa qg, wdP cs h r g tf ta pf na ma wa cf ca ef ea xf xa] := hw
        have lv30 := Int32.le_toInt v30
        have uv30 := Int32.toInt_lt v30
        refine lv_istore_n (lv' := [(1, .int v30), (0, .ref q)]) S.x S.b d_Mpr_rawStep_49 rfl hl (by decide) rfl (fun ls hl => ?_)
        refine lv_iload_n S.x S.b d_Mpr_rawStep_50 rfl (lv_at hl 0 rfl) ?_
        refine lv_bipush (v := 115) S.x S.b d_Mpr_rawStep_51 (by decide) ?_
        refine lv_icmp_ne (tgt := 58) S.x S.b d_Mpr_rawStep_53 (by decide) (fun c31 => ?_) (fun c31 => ?_)
        · have nc31 : ¬ v30.toInt = (115 : Int) := mt (i_eq (x := v30) (y := 115)).mpr c31
          refine lv_aload_n S.x S.b d_Mpr_rawStep_58 rfl (lv_at hl 1 rfl) ?_
          refine lv_iload_n S.x S.b d_Mpr_rawStep_59 rfl (lv_at hl 0 rfl) ?_
          refine px_calli (pr := []) (px_runV (As := [.int v30]) (rest := []) S (c_mr_perform l D cs (0 : Int) q qr qg qf qa h r g tf ta pf na ma wa cf ca ef ea xf xa v30  (show 0 ≤ (xf 68).toInt from by first | exact g0 | omega) (show (xf 68).toInt ≤ 512 from by first | exact g1 | omega) _) hT (pr := []) (pcs := [wd_Mpr cs q qr (fun k => if k = 0 then (some h) else none) qf qa qg, wdP cs h r g tf ta pf na ma wa cf ca ef ea xf xa]) hw (oX_call (P := (fun A U H => (oP A g U H))) (pr := []) oG_P hw hA hP) (px_recv hT hw 0 0 rfl rfl rfl) m13_209 m13_206 m13_208 ms_15_3 m1_22 q_Mpr_perform ⟨Nat.le_of_ble_eq_true rfl, Nat.le_of_ble_eq_true rfl⟩ hl.1 rfl (Nat.le_of_ble_eq_true rfl) d_Mpr_rawStep_60 ⟨Nat.le_of_ble_eq_true rfl, Nat.le_of_ble_eq_true rfl⟩) hw hA (fun v37 p36 H locs hp36 hw => ?_)
          obtain ⟨qf34, qa35, rfl, e38, e39, e40, e41, e42, e43, e44, e45, e46, e47, e48, e49, e50, e51⟩ := hp36
          replace e38 : (qf34 2).toInt = (qf 2).toInt ∨ (qf34 2).toInt = 7 := e38
          replace e39 : (qf34 1).toInt = (qf 1).toInt := e39
          replace e40 : (qf34 4).toInt = (qf 4).toInt := e40
          replace e41 : (qf34 5).toInt = (qf 5).toInt := e41
          replace e42 : (qf34 6).toInt = (qf 6).toInt := e42
          replace e43 : (qf34 7).toInt = (qf 7).toInt := e43
          replace e44 : (qf34 10).toInt = (qf 10).toInt := e44
          replace e45 : (qf34 11).toInt = (qf 11).toInt := e45
          replace e46 : (qf34 12).toInt = (qf 12).toInt := e46
          replace e47 : (qf34 13).toInt = (qf 13).toInt := e47
          replace e48 : (qf34 14).toInt = (qf 14).toInt := e48
          replace e49 : (qf34 21).toInt = (qf 21).toInt := e49
          replace e50 : (qf34 23).toInt = (qf 23).toInt := e50
          replace e51 : (qf34 24).toInt = (qf 24).toInt := e51
          replace hw : pw D A s.heap H locs [wd_Mpr cs q qr (fun k => if k = 0 then (some h) else none) qf34 qa35 qg, wdP cs h r g tf ta pf na ma wa cf ca ef ea xf xa] := hw
          have lv37 := Int32.le_toInt v37
          have uv37 := Int32.toInt_lt v37
          refine lv_istore_n (lv' := [(2, .int v37), (1, .int v30), (0, .ref q)]) S.x S.b d_Mpr_rawStep_63 rfl hl (by decide) rfl (fun ls hl => ?_)
          refine lv_aload_n S.x S.b d_Mpr_rawStep_64 rfl (lv_at hl 2 rfl) ?_
          refine px_get S k_Mpr hT hw 0 0 2 (v := .int (qf34 2)) rfl rfl rfl (by decide) m10_225 d_Mpr_rawStep_65 ?_
          refine lv_bipush (v := (-2)) S.x S.b d_Mpr_rawStep_68 (by decide) ?_
          refine lv_icmp_ne (tgt := 88) S.x S.b d_Mpr_rawStep_70 (by decide) (fun c52 => ?_) (fun c52 => ?_)
          · have nc52 : ¬ (qf34 2).toInt = (-2 : Int) := mt (i_eq (x := (qf34 2)) (y := (-2))).mpr c52
            refine lv_iconst (v := 0) S.x S.b d_Mpr_rawStep_88 (by decide) ?_
            exact px_iret (v := 0) S hr rfl hlk hAe hw (Nat.le_of_ble_eq_true rfl) (Nat.le_of_ble_eq_true rfl) (⟨qf34, qa35, rfl, (show 0 ≤ (0 : Int) from by first | decide | omega), (show (0 : Int) ≤ 1 from by first | decide | omega), (show RsV (0 : Int) (qf34 2).toInt (qf34 4).toInt (qf 4).toInt from (by unfold RsV; omega)), (show (qf34 1).toInt = (qf 1).toInt from by first | exact e39 | omega), (show (qf34 5).toInt = (qf 5).toInt from by first | exact e41 | omega), (show (qf34 6).toInt = (qf 6).toInt from by first | exact e42 | omega), (show (qf34 7).toInt = (qf 7).toInt from by first | exact e43 | omega), (show (qf34 10).toInt = (qf 10).toInt from by first | exact e44 | omega), (show (qf34 12).toInt = (qf 12).toInt from by first | exact e46 | omega), (show (qf34 13).toInt = (qf 13).toInt from by first | exact e47 | omega), (show (qf34 14).toInt = (qf 14).toInt from by first | exact e48 | omega), (show (qf34 21).toInt = (qf 21).toInt from by first | exact e49 | omega), (show (qf34 23).toInt = (qf 23).toInt from by first | exact e50 | omega), (show (qf34 24).toInt = (qf 24).toInt from by first | exact e51 | omega)⟩) d_Mpr_rawStep_89
          · have nc52 : (qf34 2).toInt = (-2 : Int) := (i_eq (x := (qf34 2)) (y := (-2))).mp c52
            refine lv_aload_n S.x S.b d_Mpr_rawStep_73 rfl (lv_at hl 2 rfl) ?_
            refine lv_dup S.x S.b d_Mpr_rawStep_74 rfl ?_
            refine px_get S k_Mpr hT hw 0 0 4 (v := .int (qf34 4)) rfl rfl rfl (by decide) m10_229 d_Mpr_rawStep_75 ?_
            refine lv_iconst (v := 1) S.x S.b d_Mpr_rawStep_78 (by decide) ?_
            refine lv_isub S.x S.b d_Mpr_rawStep_79 ?_
            have lr53 := Int32.le_toInt (qf34 4)
            have ur53 := Int32.toInt_lt (qf34 4)
            refine lv_topi (fun z54 ez54 => ?_)
            have tz54 : z54.toInt = ((qf34 4).toInt - (1 : Int) + 2147483648) % 4294967296 - 2147483648 := by rw [ez54]; exact i_sub (qf34 4) 1
            have lz54 := Int32.le_toInt z54
            have uz54 := Int32.toInt_lt z54
            try replace tz54 : z54.toInt = (qf34 4).toInt - (1 : Int) := by omega
            refine px_put S k_Mpr hT hw 0 0 4 rfl rfl (by decide) m10_229 rfl rfl rfl (Nat.le_of_ble_eq_true rfl) d_Mpr_rawStep_80 (w' := wd_Mpr cs q qr (fun k => if k = 0 then (some h) else none) (upd qf34 4 z54) qa35 qg) (ps' := [wd_Mpr cs q qr (fun k => if k = 0 then (some h) else none) (upd qf34 4 z54) qa35 qg, wdP cs h r g tf ta pf na ma wa cf ca ef ea xf xa]) rfl rfl (fun H locs hw => ?_)
            refine lv_aload_n S.x S.b d_Mpr_rawStep_83 rfl (lv_at hl 2 rfl) ?_
            refine lv_iload_n S.x S.b d_Mpr_rawStep_84 rfl (lv_at hl 0 rfl) ?_
            refine px_put S k_Mpr hT hw 0 0 11 rfl rfl (by decide) m11_2 rfl rfl rfl (Nat.le_of_ble_eq_true rfl) d_Mpr_rawStep_85 (w' := wd_Mpr cs q qr (fun k => if k = 0 then (some h) else none) (upd (upd qf34 4 z54) 11 v37) qa35 qg) (ps' := [wd_Mpr cs q qr (fun k => if k = 0 then (some h) else none) (upd (upd qf34 4 z54) 11 v37) qa35 qg, wdP cs h r g tf ta pf na ma wa cf ca ef ea xf xa]) rfl rfl (fun H locs hw => ?_)
            refine lv_iconst (v := 0) S.x S.b d_Mpr_rawStep_88 (by decide) ?_
            exact px_iret (v := 0) S hr rfl hlk hAe hw (Nat.le_of_ble_eq_true rfl) (Nat.le_of_ble_eq_true rfl) (⟨(upd (upd qf34 4 z54) 11 v37), qa35, rfl, (show 0 ≤ (0 : Int) from by first | decide | omega), (show (0 : Int) ≤ 1 from by first | decide | omega), (show RsV (0 : Int) (qf34 2).toInt z54.toInt (qf 4).toInt from (by unfold RsV; omega)), (show (qf34 1).toInt = (qf 1).toInt from by first | exact e39 | omega), (show (qf34 5).toInt = (qf 5).toInt from by first | exact e41 | omega), (show (qf34 6).toInt = (qf 6).toInt from by first | exact e42 | omega), (show (qf34 7).toInt = (qf 7).toInt from by first | exact e43 | omega), (show (qf34 10).toInt = (qf 10).toInt from by first | exact e44 | omega), (show (qf34 12).toInt = (qf 12).toInt from by first | exact e46 | omega), (show (qf34 13).toInt = (qf 13).toInt from by first | exact e47 | omega), (show (qf34 14).toInt = (qf 14).toInt from by first | exact e48 | omega), (show (qf34 21).toInt = (qf 21).toInt from by first | exact e49 | omega), (show (qf34 23).toInt = (qf 23).toInt from by first | exact e50 | omega), (show (qf34 24).toInt = (qf 24).toInt from by first | exact e51 | omega)⟩) d_Mpr_rawStep_89
        · have nc31 : v30.toInt = (115 : Int) := (i_eq (x := v30) (y := 115)).mp c31
          refine lv_iconst (v := 1) S.x S.b d_Mpr_rawStep_56 (by decide) ?_
          exact px_iret (v := 1) S hr rfl hlk hAe hw (Nat.le_of_ble_eq_true rfl) (Nat.le_of_ble_eq_true rfl) (⟨qf, qa, rfl, (show 0 ≤ (1 : Int) from by first | decide | omega), (show (1 : Int) ≤ 1 from by first | decide | omega), (show RsV (1 : Int) (qf 2).toInt (qf 4).toInt (qf 4).toInt from (by unfold RsV; omega)), (show (qf 1).toInt = (qf 1).toInt from rfl), (show (qf 5).toInt = (qf 5).toInt from rfl), (show (qf 6).toInt = (qf 6).toInt from rfl), (show (qf 7).toInt = (qf 7).toInt from rfl), (show (qf 10).toInt = (qf 10).toInt from rfl), (show (qf 12).toInt = (qf 12).toInt from rfl), (show (qf 13).toInt = (qf 13).toInt from rfl), (show (qf 14).toInt = (qf 14).toInt from rfl), (show (qf 21).toInt = (qf 21).toInt from rfl), (show (qf 23).toInt = (qf 23).toInt from rfl), (show (qf 24).toInt = (qf 24).toInt from rfl)⟩) d_Mpr_rawStep_57
      · have nc28 : ¬ z27.toInt = (0 : Int) := mt (i_eq (x := z27) (y := 0)).mpr c28
        refine lv_aload_n S.x S.b d_Mpr_rawStep_35 rfl (lv_at hl 0 rfl) ?_
        refine px_callv (pr := []) (px_runV (As := []) (rest := []) S (c_mr_fault l D cs (0 : Int) q qr qg qa qf h r g tf ta pf na ma wa cf ca ef ea xf xa    _) hT (pr := []) (pcs := [wd_Mpr cs q qr (fun k => if k = 0 then (some h) else none) qf qa qg, wdP cs h r g tf ta pf na ma wa cf ca ef ea xf xa]) hw (oX_call (P := (fun A U H => (oP A g U H))) (pr := []) oG_P hw hA hP) (px_recv hT hw 0 0 rfl rfl rfl) m13_193 m13_190 m13_192 ms_15_1 m1_22 q_Mpr_fault ⟨Nat.le_of_ble_eq_true rfl, Nat.le_of_ble_eq_true rfl⟩ hl.1 rfl (Nat.le_of_ble_eq_true rfl) d_Mpr_rawStep_36 ⟨Nat.le_of_ble_eq_true rfl, Nat.le_of_ble_eq_true rfl⟩) hw hA (fun p57 H locs hp57 hw => ?_)
        obtain ⟨qf56, rfl, e59, e60, e61, e62, e63, e64, e65, e66, e67, e68, e69, e70, e71, e72⟩ := hp57
        replace e59 : (qf56 2).toInt = 7 := e59
        replace e60 : (qf56 1).toInt = (qf 1).toInt := e60
        replace e61 : (qf56 4).toInt = (qf 4).toInt := e61
        replace e62 : (qf56 5).toInt = (qf 5).toInt := e62
        replace e63 : (qf56 6).toInt = (qf 6).toInt := e63
        replace e64 : (qf56 7).toInt = (qf 7).toInt := e64
        replace e65 : (qf56 10).toInt = (qf 10).toInt := e65
        replace e66 : (qf56 11).toInt = (qf 11).toInt := e66
        replace e67 : (qf56 12).toInt = (qf 12).toInt := e67
        replace e68 : (qf56 13).toInt = (qf 13).toInt := e68
        replace e69 : (qf56 14).toInt = (qf 14).toInt := e69
        replace e70 : (qf56 21).toInt = (qf 21).toInt := e70
        replace e71 : (qf56 23).toInt = (qf 23).toInt := e71
        replace e72 : (qf56 24).toInt = (qf 24).toInt := e72
        replace hw : pw D A s.heap H locs [wd_Mpr cs q qr (fun k => if k = 0 then (some h) else none) qf56 qa qg, wdP cs h r g tf ta pf na ma wa cf ca ef ea xf xa] := hw
        refine lv_iconst (v := 0) S.x S.b d_Mpr_rawStep_39 (by decide) ?_
        exact px_iret (v := 0) S hr rfl hlk hAe hw (Nat.le_of_ble_eq_true rfl) (Nat.le_of_ble_eq_true rfl) (⟨qf56, qa, rfl, (show 0 ≤ (0 : Int) from by first | decide | omega), (show (0 : Int) ≤ 1 from by first | decide | omega), (show RsV (0 : Int) (qf56 2).toInt (qf56 4).toInt (qf 4).toInt from (by unfold RsV; omega)), (show (qf56 1).toInt = (qf 1).toInt from by first | exact e60 | omega), (show (qf56 5).toInt = (qf 5).toInt from by first | exact e62 | omega), (show (qf56 6).toInt = (qf 6).toInt from by first | exact e63 | omega), (show (qf56 7).toInt = (qf 7).toInt from by first | exact e64 | omega), (show (qf56 10).toInt = (qf 10).toInt from by first | exact e65 | omega), (show (qf56 12).toInt = (qf 12).toInt from by first | exact e67 | omega), (show (qf56 13).toInt = (qf 13).toInt from by first | exact e68 | omega), (show (qf56 14).toInt = (qf 14).toInt from by first | exact e69 | omega), (show (qf56 21).toInt = (qf 21).toInt from by first | exact e70 | omega), (show (qf56 23).toInt = (qf 23).toInt from by first | exact e71 | omega), (show (qf56 24).toInt = (qf 24).toInt from by first | exact e72 | omega)⟩) d_Mpr_rawStep_40
  · have nc1 : (qf 4).toInt = (0 : Int) := (i_eq (x := (qf 4)) (y := 0)).mp c1
    refine lv_aload_n S.x S.b d_Mpr_rawStep_7 rfl (lv_at hl 0 rfl) ?_
    refine lv_iconst (v := 5) S.x S.b d_Mpr_rawStep_8 (by decide) ?_
    refine lv_iconst (v := 0) S.x S.b d_Mpr_rawStep_9 (by decide) ?_
    refine px_callv (pr := []) (px_runV (As := [.int 5, .int 0]) (rest := []) S (c_mr_end l D cs (0 : Int) q qr qg qa qf h r g tf ta pf na ma wa cf ca ef ea xf xa 5 0   _) hT (pr := []) (pcs := [wd_Mpr cs q qr (fun k => if k = 0 then (some h) else none) qf qa qg, wdP cs h r g tf ta pf na ma wa cf ca ef ea xf xa]) hw (oX_call (P := (fun A U H => (oP A g U H))) (pr := []) oG_P hw hA hP) (px_recv hT hw 0 0 rfl rfl rfl) m13_177 m13_174 m13_175 m13_176 m1_22 q_Mpr_end ⟨Nat.le_of_ble_eq_true rfl, Nat.le_of_ble_eq_true rfl⟩ hl.1 rfl (Nat.le_of_ble_eq_true rfl) d_Mpr_rawStep_10 ⟨Nat.le_of_ble_eq_true rfl, Nat.le_of_ble_eq_true rfl⟩) hw hA (fun p75 H locs hp75 hw => ?_)
    obtain ⟨qf74, rfl, e77, e78, e79, e80, e81, e82, e83, e84, e85, e86, e87, e88, e89, e90, e91⟩ := hp75
    replace e77 : (qf74 2).toInt = (5 : Int) := e77
    replace e78 : (qf74 3).toInt = (0 : Int) := e78
    replace e79 : (qf74 1).toInt = (qf 1).toInt := e79
    replace e80 : (qf74 4).toInt = (qf 4).toInt := e80
    replace e81 : (qf74 5).toInt = (qf 5).toInt := e81
    replace e82 : (qf74 6).toInt = (qf 6).toInt := e82
    replace e83 : (qf74 7).toInt = (qf 7).toInt := e83
    replace e84 : (qf74 10).toInt = (qf 10).toInt := e84
    replace e85 : (qf74 11).toInt = (qf 11).toInt := e85
    replace e86 : (qf74 12).toInt = (qf 12).toInt := e86
    replace e87 : (qf74 13).toInt = (qf 13).toInt := e87
    replace e88 : (qf74 14).toInt = (qf 14).toInt := e88
    replace e89 : (qf74 21).toInt = (qf 21).toInt := e89
    replace e90 : (qf74 23).toInt = (qf 23).toInt := e90
    replace e91 : (qf74 24).toInt = (qf 24).toInt := e91
    replace hw : pw D A s.heap H locs [wd_Mpr cs q qr (fun k => if k = 0 then (some h) else none) qf74 qa qg, wdP cs h r g tf ta pf na ma wa cf ca ef ea xf xa] := hw
    refine lv_iconst (v := 0) S.x S.b d_Mpr_rawStep_13 (by decide) ?_
    exact px_iret (v := 0) S hr rfl hlk hAe hw (Nat.le_of_ble_eq_true rfl) (Nat.le_of_ble_eq_true rfl) (⟨qf74, qa, rfl, (show 0 ≤ (0 : Int) from by first | decide | omega), (show (0 : Int) ≤ 1 from by first | decide | omega), (show RsV (0 : Int) (qf74 2).toInt (qf74 4).toInt (qf 4).toInt from (by unfold RsV; omega)), (show (qf74 1).toInt = (qf 1).toInt from by first | exact e79 | omega), (show (qf74 5).toInt = (qf 5).toInt from by first | exact e81 | omega), (show (qf74 6).toInt = (qf 6).toInt from by first | exact e82 | omega), (show (qf74 7).toInt = (qf 7).toInt from by first | exact e83 | omega), (show (qf74 10).toInt = (qf 10).toInt from by first | exact e84 | omega), (show (qf74 12).toInt = (qf 12).toInt from by first | exact e86 | omega), (show (qf74 13).toInt = (qf 13).toInt from by first | exact e87 | omega), (show (qf74 14).toInt = (qf 14).toInt from by first | exact e88 | omega), (show (qf74 21).toInt = (qf 21).toInt from by first | exact e89 | omega), (show (qf74 23).toInt = (qf 23).toInt from by first | exact e90 | omega), (show (qf74 24).toInt = (qf 24).toInt from by first | exact e91 | omega)⟩) d_Mpr_rawStep_14
abbrev b_Mo_goOn : ByteArray := prog_14_method_27_code
def y_Mo_goOn : MethodName := ⟨"HomeSystemModel", "goOn", "(I)Z"⟩
theorem d_Mo_goOn_0 : decode b_Mo_goOn 0 = .ok (.aload_n 0, 1) := by decide +kernel
theorem d_Mo_goOn_1 : decode b_Mo_goOn 1 = .ok (.getfield 21, 3) := by decide +kernel
theorem d_Mo_goOn_4 : decode b_Mo_goOn 4 = .ok (.iload_n 1, 1) := by decide +kernel
theorem d_Mo_goOn_5 : decode b_Mo_goOn 5 = .ok (.aaload, 1) := by decide +kernel
theorem d_Mo_goOn_6 : decode b_Mo_goOn 6 = .ok (.astore_n 2, 1) := by decide +kernel
theorem d_Mo_goOn_7 : decode b_Mo_goOn 7 = .ok (.iconst 0, 1) := by decide +kernel
theorem d_Mo_goOn_8 : decode b_Mo_goOn 8 = .ok (.istore_n 3, 1) := by decide +kernel
theorem d_Mo_goOn_9 : decode b_Mo_goOn 9 = .ok (.iconst 1, 1) := by decide +kernel
theorem d_Mo_goOn_10 : decode b_Mo_goOn 10 = .ok (.istore 4, 2) := by decide +kernel
theorem d_Mo_goOn_12 : decode b_Mo_goOn 12 = .ok (.iload 4, 2) := by decide +kernel
theorem d_Mo_goOn_14 : decode b_Mo_goOn 14 = .ok (.ifCond .eq 245, 3) := by decide +kernel
theorem d_Mo_goOn_17 : decode b_Mo_goOn 17 = .ok (.aload_n 2, 1) := by decide +kernel
theorem d_Mo_goOn_18 : decode b_Mo_goOn 18 = .ok (.invokevirtual 178, 3) := by decide +kernel
theorem d_Mo_goOn_21 : decode b_Mo_goOn 21 = .ok (.ifCond .eq 238, 3) := by decide +kernel
theorem d_Mo_goOn_24 : decode b_Mo_goOn 24 = .ok (.aload_n 2, 1) := by decide +kernel
theorem d_Mo_goOn_25 : decode b_Mo_goOn 25 = .ok (.getfield 199, 3) := by decide +kernel
theorem d_Mo_goOn_28 : decode b_Mo_goOn 28 = .ok (.getfield 61, 3) := by decide +kernel
theorem d_Mo_goOn_31 : decode b_Mo_goOn 31 = .ok (.iconst 2, 1) := by decide +kernel
theorem d_Mo_goOn_32 : decode b_Mo_goOn 32 = .ok (.if_icmp .ne 32, 3) := by decide +kernel
theorem d_Mo_goOn_35 : decode b_Mo_goOn 35 = .ok (.aload_n 2, 1) := by decide +kernel
theorem d_Mo_goOn_36 : decode b_Mo_goOn 36 = .ok (.invokevirtual 203, 3) := by decide +kernel
theorem d_Mo_goOn_39 : decode b_Mo_goOn 39 = .ok (.istore 5, 2) := by decide +kernel
theorem d_Mo_goOn_41 : decode b_Mo_goOn 41 = .ok (.iload 5, 2) := by decide +kernel
theorem d_Mo_goOn_43 : decode b_Mo_goOn 43 = .ok (.ifCond .eq 11, 3) := by decide +kernel
theorem d_Mo_goOn_46 : decode b_Mo_goOn 46 = .ok (.aload_n 0, 1) := by decide +kernel
theorem d_Mo_goOn_47 : decode b_Mo_goOn 47 = .ok (.iload_n 1, 1) := by decide +kernel
theorem d_Mo_goOn_48 : decode b_Mo_goOn 48 = .ok (.invokevirtual 206, 3) := by decide +kernel
theorem d_Mo_goOn_51 : decode b_Mo_goOn 51 = .ok (.ifCond .eq 7, 3) := by decide +kernel
theorem d_Mo_goOn_54 : decode b_Mo_goOn 54 = .ok (.iconst 1, 1) := by decide +kernel
theorem d_Mo_goOn_55 : decode b_Mo_goOn 55 = .ok (.goto 4, 3) := by decide +kernel
theorem d_Mo_goOn_58 : decode b_Mo_goOn 58 = .ok (.iconst 0, 1) := by decide +kernel
theorem d_Mo_goOn_59 : decode b_Mo_goOn 59 = .ok (.istore 4, 2) := by decide +kernel
theorem d_Mo_goOn_61 : decode b_Mo_goOn 61 = .ok (.goto 180, 3) := by decide +kernel
theorem d_Mo_goOn_64 : decode b_Mo_goOn 64 = .ok (.aload_n 2, 1) := by decide +kernel
theorem d_Mo_goOn_65 : decode b_Mo_goOn 65 = .ok (.getfield 199, 3) := by decide +kernel
theorem d_Mo_goOn_68 : decode b_Mo_goOn 68 = .ok (.getfield 209, 3) := by decide +kernel
theorem d_Mo_goOn_71 : decode b_Mo_goOn 71 = .ok (.iconst 3, 1) := by decide +kernel
theorem d_Mo_goOn_72 : decode b_Mo_goOn 72 = .ok (.aload_n 2, 1) := by decide +kernel
theorem d_Mo_goOn_73 : decode b_Mo_goOn 73 = .ok (.getfield 181, 3) := by decide +kernel
theorem d_Mo_goOn_76 : decode b_Mo_goOn 76 = .ok (.imul, 1) := by decide +kernel
theorem d_Mo_goOn_77 : decode b_Mo_goOn 77 = .ok (.iaload, 1) := by decide +kernel
theorem d_Mo_goOn_78 : decode b_Mo_goOn 78 = .ok (.istore 5, 2) := by decide +kernel
theorem d_Mo_goOn_80 : decode b_Mo_goOn 80 = .ok (.aload_n 2, 1) := by decide +kernel
theorem d_Mo_goOn_81 : decode b_Mo_goOn 81 = .ok (.getfield 199, 3) := by decide +kernel
theorem d_Mo_goOn_84 : decode b_Mo_goOn 84 = .ok (.getfield 209, 3) := by decide +kernel
theorem d_Mo_goOn_87 : decode b_Mo_goOn 87 = .ok (.iconst 3, 1) := by decide +kernel
theorem d_Mo_goOn_88 : decode b_Mo_goOn 88 = .ok (.aload_n 2, 1) := by decide +kernel
theorem d_Mo_goOn_89 : decode b_Mo_goOn 89 = .ok (.getfield 181, 3) := by decide +kernel
theorem d_Mo_goOn_92 : decode b_Mo_goOn 92 = .ok (.imul, 1) := by decide +kernel
theorem d_Mo_goOn_93 : decode b_Mo_goOn 93 = .ok (.iconst 1, 1) := by decide +kernel
theorem d_Mo_goOn_94 : decode b_Mo_goOn 94 = .ok (.iadd, 1) := by decide +kernel
theorem d_Mo_goOn_95 : decode b_Mo_goOn 95 = .ok (.iaload, 1) := by decide +kernel
theorem d_Mo_goOn_96 : decode b_Mo_goOn 96 = .ok (.istore 6, 2) := by decide +kernel
theorem d_Mo_goOn_98 : decode b_Mo_goOn 98 = .ok (.aload_n 2, 1) := by decide +kernel
theorem d_Mo_goOn_99 : decode b_Mo_goOn 99 = .ok (.getfield 199, 3) := by decide +kernel
theorem d_Mo_goOn_102 : decode b_Mo_goOn 102 = .ok (.getfield 209, 3) := by decide +kernel
theorem d_Mo_goOn_105 : decode b_Mo_goOn 105 = .ok (.iconst 3, 1) := by decide +kernel
theorem d_Mo_goOn_106 : decode b_Mo_goOn 106 = .ok (.aload_n 2, 1) := by decide +kernel
theorem d_Mo_goOn_107 : decode b_Mo_goOn 107 = .ok (.getfield 181, 3) := by decide +kernel
theorem d_Mo_goOn_110 : decode b_Mo_goOn 110 = .ok (.imul, 1) := by decide +kernel
theorem d_Mo_goOn_111 : decode b_Mo_goOn 111 = .ok (.iconst 2, 1) := by decide +kernel
theorem d_Mo_goOn_112 : decode b_Mo_goOn 112 = .ok (.iadd, 1) := by decide +kernel
theorem d_Mo_goOn_113 : decode b_Mo_goOn 113 = .ok (.iaload, 1) := by decide +kernel
theorem d_Mo_goOn_114 : decode b_Mo_goOn 114 = .ok (.istore 7, 2) := by decide +kernel
theorem d_Mo_goOn_116 : decode b_Mo_goOn 116 = .ok (.iload 5, 2) := by decide +kernel
theorem d_Mo_goOn_118 : decode b_Mo_goOn 118 = .ok (.bipush 16, 2) := by decide +kernel
theorem d_Mo_goOn_120 : decode b_Mo_goOn 120 = .ok (.if_icmp .ne 101, 3) := by decide +kernel
theorem d_Mo_goOn_123 : decode b_Mo_goOn 123 = .ok (.aload_n 2, 1) := by decide +kernel
theorem d_Mo_goOn_124 : decode b_Mo_goOn 124 = .ok (.aload_n 2, 1) := by decide +kernel
theorem d_Mo_goOn_125 : decode b_Mo_goOn 125 = .ok (.getfield 212, 3) := by decide +kernel
theorem d_Mo_goOn_128 : decode b_Mo_goOn 128 = .ok (.ifCond .ne 15, 3) := by decide +kernel
theorem d_Mo_goOn_131 : decode b_Mo_goOn 131 = .ok (.iload 6, 2) := by decide +kernel
theorem d_Mo_goOn_133 : decode b_Mo_goOn 133 = .ok (.ifCond .eq 10, 3) := by decide +kernel
theorem d_Mo_goOn_136 : decode b_Mo_goOn 136 = .ok (.aload_n 2, 1) := by decide +kernel
theorem d_Mo_goOn_137 : decode b_Mo_goOn 137 = .ok (.invokevirtual 215, 3) := by decide +kernel
theorem d_Mo_goOn_140 : decode b_Mo_goOn 140 = .ok (.ifCond .eq 7, 3) := by decide +kernel
theorem d_Mo_goOn_143 : decode b_Mo_goOn 143 = .ok (.iconst 1, 1) := by decide +kernel
theorem d_Mo_goOn_144 : decode b_Mo_goOn 144 = .ok (.goto 4, 3) := by decide +kernel
theorem d_Mo_goOn_147 : decode b_Mo_goOn 147 = .ok (.iconst 0, 1) := by decide +kernel
theorem d_Mo_goOn_148 : decode b_Mo_goOn 148 = .ok (.putfield 212, 3) := by decide +kernel
theorem d_Mo_goOn_151 : decode b_Mo_goOn 151 = .ok (.aload_n 2, 1) := by decide +kernel
theorem d_Mo_goOn_152 : decode b_Mo_goOn 152 = .ok (.invokevirtual 178, 3) := by decide +kernel
theorem d_Mo_goOn_155 : decode b_Mo_goOn 155 = .ok (.ifCond .eq 13, 3) := by decide +kernel
theorem d_Mo_goOn_158 : decode b_Mo_goOn 158 = .ok (.aload_n 0, 1) := by decide +kernel
theorem d_Mo_goOn_159 : decode b_Mo_goOn 159 = .ok (.iload_n 1, 1) := by decide +kernel
theorem d_Mo_goOn_160 : decode b_Mo_goOn 160 = .ok (.iload 6, 2) := by decide +kernel
theorem d_Mo_goOn_162 : decode b_Mo_goOn 162 = .ok (.invokevirtual 218, 3) := by decide +kernel
theorem d_Mo_goOn_165 : decode b_Mo_goOn 165 = .ok (.ifCond .eq 7, 3) := by decide +kernel
theorem d_Mo_goOn_168 : decode b_Mo_goOn 168 = .ok (.iconst 1, 1) := by decide +kernel
theorem d_Mo_goOn_169 : decode b_Mo_goOn 169 = .ok (.goto 4, 3) := by decide +kernel
theorem d_Mo_goOn_172 : decode b_Mo_goOn 172 = .ok (.iconst 0, 1) := by decide +kernel
theorem d_Mo_goOn_173 : decode b_Mo_goOn 173 = .ok (.istore 4, 2) := by decide +kernel
theorem d_Mo_goOn_175 : decode b_Mo_goOn 175 = .ok (.aload_n 2, 1) := by decide +kernel
theorem d_Mo_goOn_176 : decode b_Mo_goOn 176 = .ok (.iload 4, 2) := by decide +kernel
theorem d_Mo_goOn_178 : decode b_Mo_goOn 178 = .ok (.ifCond .eq 12, 3) := by decide +kernel
theorem d_Mo_goOn_181 : decode b_Mo_goOn 181 = .ok (.aload_n 2, 1) := by decide +kernel
theorem d_Mo_goOn_182 : decode b_Mo_goOn 182 = .ok (.getfield 181, 3) := by decide +kernel
theorem d_Mo_goOn_185 : decode b_Mo_goOn 185 = .ok (.iconst 1, 1) := by decide +kernel
theorem d_Mo_goOn_186 : decode b_Mo_goOn 186 = .ok (.iadd, 1) := by decide +kernel
theorem d_Mo_goOn_187 : decode b_Mo_goOn 187 = .ok (.goto 7, 3) := by decide +kernel
theorem d_Mo_goOn_190 : decode b_Mo_goOn 190 = .ok (.aload_n 2, 1) := by decide +kernel
theorem d_Mo_goOn_191 : decode b_Mo_goOn 191 = .ok (.getfield 181, 3) := by decide +kernel
theorem d_Mo_goOn_194 : decode b_Mo_goOn 194 = .ok (.putfield 181, 3) := by decide +kernel
theorem d_Mo_goOn_197 : decode b_Mo_goOn 197 = .ok (.aload_n 2, 1) := by decide +kernel
theorem d_Mo_goOn_198 : decode b_Mo_goOn 198 = .ok (.aload_n 2, 1) := by decide +kernel
theorem d_Mo_goOn_199 : decode b_Mo_goOn 199 = .ok (.getfield 212, 3) := by decide +kernel
theorem d_Mo_goOn_202 : decode b_Mo_goOn 202 = .ok (.ifCond .eq 12, 3) := by decide +kernel
theorem d_Mo_goOn_205 : decode b_Mo_goOn 205 = .ok (.iload 4, 2) := by decide +kernel
theorem d_Mo_goOn_207 : decode b_Mo_goOn 207 = .ok (.ifCond .ne 7, 3) := by decide +kernel
theorem d_Mo_goOn_210 : decode b_Mo_goOn 210 = .ok (.iconst 1, 1) := by decide +kernel
theorem d_Mo_goOn_211 : decode b_Mo_goOn 211 = .ok (.goto 4, 3) := by decide +kernel
theorem d_Mo_goOn_214 : decode b_Mo_goOn 214 = .ok (.iconst 0, 1) := by decide +kernel
theorem d_Mo_goOn_215 : decode b_Mo_goOn 215 = .ok (.putfield 212, 3) := by decide +kernel
theorem d_Mo_goOn_218 : decode b_Mo_goOn 218 = .ok (.goto 23, 3) := by decide +kernel
theorem d_Mo_goOn_221 : decode b_Mo_goOn 221 = .ok (.aload_n 2, 1) := by decide +kernel
theorem d_Mo_goOn_222 : decode b_Mo_goOn 222 = .ok (.dup, 1) := by decide +kernel
theorem d_Mo_goOn_223 : decode b_Mo_goOn 223 = .ok (.getfield 181, 3) := by decide +kernel
theorem d_Mo_goOn_226 : decode b_Mo_goOn 226 = .ok (.iconst 1, 1) := by decide +kernel
theorem d_Mo_goOn_227 : decode b_Mo_goOn 227 = .ok (.iadd, 1) := by decide +kernel
theorem d_Mo_goOn_228 : decode b_Mo_goOn 228 = .ok (.putfield 181, 3) := by decide +kernel
theorem d_Mo_goOn_231 : decode b_Mo_goOn 231 = .ok (.aload_n 2, 1) := by decide +kernel
theorem d_Mo_goOn_232 : decode b_Mo_goOn 232 = .ok (.iload 5, 2) := by decide +kernel
theorem d_Mo_goOn_234 : decode b_Mo_goOn 234 = .ok (.iload 6, 2) := by decide +kernel
theorem d_Mo_goOn_236 : decode b_Mo_goOn 236 = .ok (.iload 7, 2) := by decide +kernel
theorem d_Mo_goOn_238 : decode b_Mo_goOn 238 = .ok (.invokevirtual 221, 3) := by decide +kernel
theorem d_Mo_goOn_241 : decode b_Mo_goOn 241 = .ok (.iload_n 3, 1) := by decide +kernel
theorem d_Mo_goOn_242 : decode b_Mo_goOn 242 = .ok (.ifCond .ne 8, 3) := by decide +kernel
theorem d_Mo_goOn_245 : decode b_Mo_goOn 245 = .ok (.iload 4, 2) := by decide +kernel
theorem d_Mo_goOn_247 : decode b_Mo_goOn 247 = .ok (.ifCond .eq 7, 3) := by decide +kernel
theorem d_Mo_goOn_250 : decode b_Mo_goOn 250 = .ok (.iconst 1, 1) := by decide +kernel
theorem d_Mo_goOn_251 : decode b_Mo_goOn 251 = .ok (.goto 4, 3) := by decide +kernel
theorem d_Mo_goOn_254 : decode b_Mo_goOn 254 = .ok (.iconst 0, 1) := by decide +kernel
theorem d_Mo_goOn_255 : decode b_Mo_goOn 255 = .ok (.istore_n 3, 1) := by decide +kernel
theorem d_Mo_goOn_256 : decode b_Mo_goOn 256 = .ok (.goto (-244), 3) := by decide +kernel
theorem d_Mo_goOn_259 : decode b_Mo_goOn 259 = .ok (.aload_n 2, 1) := by decide +kernel
theorem d_Mo_goOn_260 : decode b_Mo_goOn 260 = .ok (.invokevirtual 97, 3) := by decide +kernel
theorem d_Mo_goOn_263 : decode b_Mo_goOn 263 = .ok (.ifCond .eq 8, 3) := by decide +kernel
theorem d_Mo_goOn_266 : decode b_Mo_goOn 266 = .ok (.aload_n 0, 1) := by decide +kernel
theorem d_Mo_goOn_267 : decode b_Mo_goOn 267 = .ok (.iload_n 1, 1) := by decide +kernel
theorem d_Mo_goOn_268 : decode b_Mo_goOn 268 = .ok (.invokevirtual 224, 3) := by decide +kernel
theorem d_Mo_goOn_271 : decode b_Mo_goOn 271 = .ok (.iload_n 3, 1) := by decide +kernel
theorem d_Mo_goOn_272 : decode b_Mo_goOn 272 = .ok (.ireturn, 1) := by decide +kernel
theorem q_Mo_goOn : px_y y_Mo_goOn 1 := by unfold px_y; decide +kernel
set_option maxHeartbeats 4000000 in
set_option maxRecDepth 100000 in
theorem c_mo_goOn (l : Launch) (D : va_G) (cs : Nat → ClassId) (RR : Nat → Int) (mo : Nat) (mr : Nat → Nat) (mf : Nat → Int32) (md : Nat → Nat → Int32) (hq : Nat → Nat) (qr : Nat → Nat → Nat) (QO : Nat → Option Nat) (QF : Nat → Nat → Int32) (QA : Nat → Nat → Nat → Int32) (PG : Nat → Pgs) (p0 : Int32)  (g0 : 0 ≤ p0.toInt) (g1 : p0.toInt < 13) (g2 : 0 ≤ (mf 7).toInt) (g3 : (mf 7).toInt ≤ 100) (g4 : 0 ≤ (mf 8).toInt) (g5 : (mf 8).toInt ≤ 512) (hpr : PrA PG RR QO QF QA) (hpg : PgA PG) : MetI l y_Mo_goOn b_Mo_goOn 8 (.boolean) D cs 12 500 (0) (0) [.ref mo, .int p0] [wd_Mo cs mo mr (fun _ => none) mf md (gMo PG hq), fm 13 (fPr cs hq qr QO QF QA), fm 8 (fPg cs PG)] (oX (fun A U H => (∀ j : Nat, j < 8 → oP A (PG j).g U H) ∧ (oLW A U H)) [wd_Mo cs mo mr (fun _ => none) mf md (gMo PG hq), fm 13 (fPr cs hq qr QO QF QA), fm 8 (fPg cs PG)]) (fun v ps => ∃ (mf' : Nat → Int32) (md' : Nat → Nat → Int32) (QO' : Nat → Option Nat) (QF' : Nat → Nat → Int32) (QA' : Nat → Nat → Nat → Int32), (ps = [wd_Mo cs mo mr (fun _ => none) mf' md' (gMo PG hq), fm 13 (fPr cs hq qr QO' QF' QA'), fm 8 (fPg cs PG)]) ∧ (0 ≤ v.toInt) ∧ (v.toInt ≤ 1) ∧ (PrA PG (va_up RR p0.toNatClampNeg (RR p0.toNatClampNeg - v.toInt)) QO' QF' QA') ∧ ((mf' 0).toInt = (mf 0).toInt) ∧ ((mf' 2).toInt = (mf 2).toInt) ∧ ((mf' 3).toInt = (mf 3).toInt) ∧ ((mf' 7).toInt = (mf 7).toInt) ∧ ((mf' 8).toInt = (mf 8).toInt) ∧ ((mf' 10).toInt = (mf 10).toInt)) := by
  refine px_enter (by decide) (Nat.le_of_ble_eq_true rfl) ?_
  intro p e s m below meth c A ls hAe S hr hlk hnm hA hT hX hw hl
  replace hl : lv_has ls 8 [(0, .ref mo), (1, .int p0)] := hl
  have lp0 := Int32.le_toInt p0
  have up0 := Int32.toInt_lt p0
  have cst0 : (0 : Int32).toInt = 0 := rfl
  have cst1 : (1 : Int32).toInt = 1 := rfl
  have cst2 : (2 : Int32).toInt = 2 := rfl
  have cst3 : (3 : Int32).toInt = 3 := rfl
  have cst16 : (16 : Int32).toInt = 16 := rfl
  have hX : (fun A U H => (∀ j : Nat, j < 8 → oP A (PG j).g U H) ∧ (oLW A U H)) A s s.heap := by rw [hAe]; exact hX
  obtain ⟨hGG, hSh⟩ := hX
  have J12 : ∀ (n_12 : Nat) (mf_12 : Nat → Int32) (md_12 : Nat → Nat → Int32) (QO_12 : Nat → Option Nat) (QF_12 : Nat → Nat → Int32) (QA_12 : Nat → Nat → Nat → Int32) (R_12 : Int) (x12_3 x12_4 : Int32) (H : Heap) (locs : List Loc) (ls : Array Slot), (PrA PG (va_up RR p0.toNatClampNeg R_12) QO_12 QF_12 QA_12) → ((mf_12 0).toInt = (mf 0).toInt) → ((mf_12 2).toInt = (mf 2).toInt) → ((mf_12 3).toInt = (mf 3).toInt) → ((mf_12 7).toInt = (mf 7).toInt) → ((mf_12 8).toInt = (mf 8).toInt) → ((mf_12 10).toInt = (mf 10).toInt) → (0 ≤ x12_3.toInt) → (x12_3.toInt ≤ 1) → (0 ≤ x12_4.toInt) → (x12_4.toInt ≤ 1) → (R_12 + x12_3.toInt ≤ RR p0.toNatClampNeg) → 2 * R_12 + x12_4.toInt < (n_12 : Int) → pw D A s.heap H locs [wd_Mo cs mo mr (fun _ => none) mf_12 md_12 (gMo PG hq), fm 13 (fPr cs hq qr QO_12 QF_12 QA_12), fm 8 (fPg cs PG)] → lv_has ls 8 [(0, .ref mo), (1, .int p0), (2, .ref (hq p0.toNatClampNeg)), (3, .int x12_3), (4, .int x12_4)] → W p l e { frames := 12, cells := 0, slots := 0, locals := 500 } s m [.ref mo, .int p0].toArray below meth c H locs 0 0 (MQ below (va_Qi (fun v ps => ∃ (mf' : Nat → Int32) (md' : Nat → Nat → Int32) (QO' : Nat → Option Nat) (QF' : Nat → Nat → Int32) (QA' : Nat → Nat → Nat → Int32), (ps = [wd_Mo cs mo mr (fun _ => none) mf' md' (gMo PG hq), fm 13 (fPr cs hq qr QO' QF' QA'), fm 8 (fPg cs PG)]) ∧ (0 ≤ v.toInt) ∧ (v.toInt ≤ 1) ∧ (PrA PG (va_up RR p0.toNatClampNeg (RR p0.toNatClampNeg - v.toInt)) QO' QF' QA') ∧ ((mf' 0).toInt = (mf 0).toInt) ∧ ((mf' 2).toInt = (mf 2).toInt) ∧ ((mf' 3).toInt = (mf 3).toInt) ∧ ((mf' 7).toInt = (mf 7).toInt) ∧ ((mf' 8).toInt = (mf 8).toInt) ∧ ((mf' 10).toInt = (mf 10).toInt)) (pc_B D (va_A ([wd_Mo cs mo mr (fun _ => none) mf md (gMo PG hq), fm 13 (fPr cs hq qr QO QF QA), fm 8 (fPg cs PG)] : List va_W).flatten s.heap.size)) (va_A ([wd_Mo cs mo mr (fun _ => none) mf md (gMo PG hq), fm 13 (fPr cs hq qr QO QF QA), fm 8 (fPg cs PG)] : List va_W).flatten s.heap.size)) [.ref mo, .int p0].toArray s 0 0 A) (F0 m 12 ls []) := by
    intro  n_12
    induction n_12 with
    | zero =>
      intro mf_12 md_12 QO_12 QF_12 QA_12 R_12 x12_3 x12_4 H locs ls k12_0 k12_1 k12_2 k12_3 k12_4 k12_5 k12_6 k12_7 k12_8 k12_9 k12_10 k12_11 hm hw hl
      have lx12_3 := Int32.le_toInt x12_3
      have ux12_3 := Int32.toInt_lt x12_3
      have lx12_4 := Int32.le_toInt x12_4
      have ux12_4 := Int32.toInt_lt x12_4
      have hpr := k12_0
      have hcp := cl_nat (x := p0) (by first | exact g0 | omega)
      have hR0_k12_0 := (hpr.1 p0.toNatClampNeg (by omega)).2.1
      rw [va_up_s] at hR0_k12_0
      exact absurd hm (by omega)
    | succ n_12 ih12 =>
      intro mf_12 md_12 QO_12 QF_12 QA_12 R_12 x12_3 x12_4 H locs ls k12_0 k12_1 k12_2 k12_3 k12_4 k12_5 k12_6 k12_7 k12_8 k12_9 k12_10 k12_11 hm hw hl
      have lx12_3 := Int32.le_toInt x12_3
      have ux12_3 := Int32.toInt_lt x12_3
      have lx12_4 := Int32.le_toInt x12_4
      have ux12_4 := Int32.toInt_lt x12_4
      have hpr := k12_0
      have hcp := cl_nat (x := p0) (by first | exact g0 | omega)
      have hR0_k12_0 := (hpr.1 p0.toNatClampNeg (by omega)).2.1
      rw [va_up_s] at hR0_k12_0
      have J241 : ∀ (mf_241 : Nat → Int32) (md_241 : Nat → Nat → Int32) (QO_241 : Nat → Option Nat) (QF_241 : Nat → Nat → Int32) (QA_241 : Nat → Nat → Nat → Int32) (S_241 : Int) (x241_3 x241_4 : Int32) (H : Heap) (locs : List Loc) (ls : Array Slot), (PrA PG (va_up RR p0.toNatClampNeg S_241) QO_241 QF_241 QA_241) → ((mf_241 0).toInt = (mf 0).toInt) → ((mf_241 2).toInt = (mf 2).toInt) → ((mf_241 3).toInt = (mf 3).toInt) → ((mf_241 7).toInt = (mf 7).toInt) → ((mf_241 8).toInt = (mf 8).toInt) → ((mf_241 10).toInt = (mf 10).toInt) → (x241_3.toInt = x12_3.toInt) → (0 ≤ x241_4.toInt) → (x241_4.toInt ≤ 1) → (S_241 + x241_4.toInt ≤ R_12) → (S_241 ≤ R_12) → (1 ≤ x12_4.toInt) → pw D A s.heap H locs [wd_Mo cs mo mr (fun _ => none) mf_241 md_241 (gMo PG hq), fm 13 (fPr cs hq qr QO_241 QF_241 QA_241), fm 8 (fPg cs PG)] → lv_has ls 8 [(0, .ref mo), (1, .int p0), (2, .ref (hq p0.toNatClampNeg)), (3, .int x241_3), (4, .int x241_4)] → W p l e { frames := 12, cells := 0, slots := 0, locals := 500 } s m [.ref mo, .int p0].toArray below meth c H locs 0 0 (MQ below (va_Qi (fun v ps => ∃ (mf' : Nat → Int32) (md' : Nat → Nat → Int32) (QO' : Nat → Option Nat) (QF' : Nat → Nat → Int32) (QA' : Nat → Nat → Nat → Int32), (ps = [wd_Mo cs mo mr (fun _ => none) mf' md' (gMo PG hq), fm 13 (fPr cs hq qr QO' QF' QA'), fm 8 (fPg cs PG)]) ∧ (0 ≤ v.toInt) ∧ (v.toInt ≤ 1) ∧ (PrA PG (va_up RR p0.toNatClampNeg (RR p0.toNatClampNeg - v.toInt)) QO' QF' QA') ∧ ((mf' 0).toInt = (mf 0).toInt) ∧ ((mf' 2).toInt = (mf 2).toInt) ∧ ((mf' 3).toInt = (mf 3).toInt) ∧ ((mf' 7).toInt = (mf 7).toInt) ∧ ((mf' 8).toInt = (mf 8).toInt) ∧ ((mf' 10).toInt = (mf 10).toInt)) (pc_B D (va_A ([wd_Mo cs mo mr (fun _ => none) mf md (gMo PG hq), fm 13 (fPr cs hq qr QO QF QA), fm 8 (fPg cs PG)] : List va_W).flatten s.heap.size)) (va_A ([wd_Mo cs mo mr (fun _ => none) mf md (gMo PG hq), fm 13 (fPr cs hq qr QO QF QA), fm 8 (fPg cs PG)] : List va_W).flatten s.heap.size)) [.ref mo, .int p0].toArray s 0 0 A) (F0 m 241 ls []) := by
        intro mf_241 md_241 QO_241 QF_241 QA_241 S_241 x241_3 x241_4 H locs ls k241_0 k241_1 k241_2 k241_3 k241_4 k241_5 k241_6 k241_7 k241_8 k241_9 k241_10 k241_11 k241_12 hw hl
        have lx241_3 := Int32.le_toInt x241_3
        have ux241_3 := Int32.toInt_lt x241_3
        have lx241_4 := Int32.le_toInt x241_4
        have ux241_4 := Int32.toInt_lt x241_4
        have hpr := k241_0
        have hcp := cl_nat (x := p0) (by first | exact g0 | omega)
        have hR0_k241_0 := (hpr.1 p0.toNatClampNeg (by omega)).2.1
        rw [va_up_s] at hR0_k241_0
        refine lv_iload_n S.x S.b d_Mo_goOn_241 rfl (lv_at hl 3 rfl) ?_
        refine lv_if_ne (tgt := 250) S.x S.b d_Mo_goOn_242 (by decide) (fun c1 => ?_) (fun c1 => ?_)
        · have nc1 : ¬ x241_3.toInt = (0 : Int) := mt (i_eq (x := x241_3) (y := 0)).mpr c1
          refine lv_iconst (v := 1) S.x S.b d_Mo_goOn_250 (by decide) ?_
          refine lv_goto (tgt := 255) S.x S.b d_Mo_goOn_251 (by decide) ?_
          refine lv_istore_n (lv' := [(3, .int 1), (0, .ref mo), (1, .int p0), (2, .ref (hq p0.toNatClampNeg)), (4, .int x241_4)]) S.x S.b d_Mo_goOn_255 rfl hl (by decide) rfl (fun ls hl => ?_)
          refine lv_goto (tgt := 12) S.x S.b d_Mo_goOn_256 (by decide) ?_
          exact ih12 mf_241 md_241 QO_241 QF_241 QA_241 S_241 (1 : Int32) x241_4 _ _ ls (show PrA PG (va_up RR p0.toNatClampNeg S_241) QO_241 QF_241 QA_241 from hpr) (show (mf_241 0).toInt = (mf 0).toInt from by first | exact k241_1 | omega) (show (mf_241 2).toInt = (mf 2).toInt from by first | exact k241_2 | omega) (show (mf_241 3).toInt = (mf 3).toInt from by first | exact k241_3 | omega) (show (mf_241 7).toInt = (mf 7).toInt from by first | exact k241_4 | omega) (show (mf_241 8).toInt = (mf 8).toInt from by first | exact k241_5 | omega) (show (mf_241 10).toInt = (mf 10).toInt from by first | exact k241_6 | omega) (show 0 ≤ (1 : Int) from by first | decide | omega) (show (1 : Int) ≤ 1 from by first | decide | omega) (show 0 ≤ x241_4.toInt from by first | exact k241_8 | omega) (show x241_4.toInt ≤ 1 from by first | exact k241_9 | omega) (show S_241 + (1 : Int) ≤ RR p0.toNatClampNeg from by first | with_reducible rfl | with_reducible assumption | omega) (show 2 * S_241 + x241_4.toInt < (n_12 : Int) from by first | exact oz_c494451c9b hm k241_10 k241_11 k241_12 | omega) hw (lv_sub hl [1, 2, 3, 0, 4] rfl)
        · have nc1 : x241_3.toInt = (0 : Int) := (i_eq (x := x241_3) (y := 0)).mp c1
          refine lv_iload S.x S.b d_Mo_goOn_245 (lv_at hl 4 rfl) ?_
          refine lv_if_eq (tgt := 254) S.x S.b d_Mo_goOn_247 (by decide) (fun c2 => ?_) (fun c2 => ?_)
          · have nc2 : x241_4.toInt = (0 : Int) := (i_eq (x := x241_4) (y := 0)).mp c2
            refine lv_iconst (v := 0) S.x S.b d_Mo_goOn_254 (by decide) ?_
            refine lv_istore_n (lv' := [(3, .int 0), (0, .ref mo), (1, .int p0), (2, .ref (hq p0.toNatClampNeg)), (4, .int x241_4)]) S.x S.b d_Mo_goOn_255 rfl hl (by decide) rfl (fun ls hl => ?_)
            refine lv_goto (tgt := 12) S.x S.b d_Mo_goOn_256 (by decide) ?_
            exact ih12 mf_241 md_241 QO_241 QF_241 QA_241 S_241 (0 : Int32) x241_4 _ _ ls (show PrA PG (va_up RR p0.toNatClampNeg S_241) QO_241 QF_241 QA_241 from hpr) (show (mf_241 0).toInt = (mf 0).toInt from by first | exact k241_1 | omega) (show (mf_241 2).toInt = (mf 2).toInt from by first | exact k241_2 | omega) (show (mf_241 3).toInt = (mf 3).toInt from by first | exact k241_3 | omega) (show (mf_241 7).toInt = (mf 7).toInt from by first | exact k241_4 | omega) (show (mf_241 8).toInt = (mf 8).toInt from by first | exact k241_5 | omega) (show (mf_241 10).toInt = (mf 10).toInt from by first | exact k241_6 | omega) (show 0 ≤ (0 : Int) from by first | decide | omega) (show (0 : Int) ≤ 1 from by first | decide | omega) (show 0 ≤ x241_4.toInt from by first | exact k241_8 | omega) (show x241_4.toInt ≤ 1 from by first | exact k241_9 | omega) (show S_241 + (0 : Int) ≤ RR p0.toNatClampNeg from by first | with_reducible rfl | with_reducible assumption | omega) (show 2 * S_241 + x241_4.toInt < (n_12 : Int) from by first | exact oz_c494451c9b hm k241_10 k241_11 k241_12 | omega) hw (lv_sub hl [1, 2, 3, 0, 4] rfl)
          · have nc2 : ¬ x241_4.toInt = (0 : Int) := mt (i_eq (x := x241_4) (y := 0)).mpr c2
            refine lv_iconst (v := 1) S.x S.b d_Mo_goOn_250 (by decide) ?_
            refine lv_goto (tgt := 255) S.x S.b d_Mo_goOn_251 (by decide) ?_
            refine lv_istore_n (lv' := [(3, .int 1), (0, .ref mo), (1, .int p0), (2, .ref (hq p0.toNatClampNeg)), (4, .int x241_4)]) S.x S.b d_Mo_goOn_255 rfl hl (by decide) rfl (fun ls hl => ?_)
            refine lv_goto (tgt := 12) S.x S.b d_Mo_goOn_256 (by decide) ?_
            exact ih12 mf_241 md_241 QO_241 QF_241 QA_241 S_241 (1 : Int32) x241_4 _ _ ls (show PrA PG (va_up RR p0.toNatClampNeg S_241) QO_241 QF_241 QA_241 from hpr) (show (mf_241 0).toInt = (mf 0).toInt from by first | exact k241_1 | omega) (show (mf_241 2).toInt = (mf 2).toInt from by first | exact k241_2 | omega) (show (mf_241 3).toInt = (mf 3).toInt from by first | exact k241_3 | omega) (show (mf_241 7).toInt = (mf 7).toInt from by first | exact k241_4 | omega) (show (mf_241 8).toInt = (mf 8).toInt from by first | exact k241_5 | omega) (show (mf_241 10).toInt = (mf 10).toInt from by first | exact k241_6 | omega) (show 0 ≤ (1 : Int) from by first | decide | omega) (show (1 : Int) ≤ 1 from by first | decide | omega) (show 0 ≤ x241_4.toInt from by first | exact k241_8 | omega) (show x241_4.toInt ≤ 1 from by first | exact k241_9 | omega) (show S_241 + (1 : Int) ≤ RR p0.toNatClampNeg from by first | with_reducible rfl | with_reducible assumption | omega) (show 2 * S_241 + x241_4.toInt < (n_12 : Int) from by first | exact oz_c494451c9b hm k241_10 k241_11 k241_12 | omega) hw (lv_sub hl [1, 2, 3, 0, 4] rfl)
      refine lv_iload S.x S.b d_Mo_goOn_12 (lv_at hl 4 rfl) ?_
      refine lv_if_eq (tgt := 259) S.x S.b d_Mo_goOn_14 (by decide) (fun c3 => ?_) (fun c3 => ?_)
      · have nc3 : x12_4.toInt = (0 : Int) := (i_eq (x := x12_4) (y := 0)).mp c3
        refine lv_aload_n S.x S.b d_Mo_goOn_259 rfl (lv_at hl 2 rfl) ?_
        have hw : pw D A s.heap _ _ [wd_Mo cs mo mr (fun _ => none) mf_12 md_12 (gMo PG hq), fm 8 (fPg cs PG), fm 13 (fPr cs hq qr QO_12 QF_12 QA_12)] := hw.sub [0, 2, 1] rfl rfl
        have hc4 := cl_nat (x := p0) (by first | exact g0 | omega)
        have hi4 : p0.toNatClampNeg < 13 := by first | exact oz_9995642664 hcp g1 | omega
        have hw : pw D A s.heap _ _ [wd_Mo cs mo mr (fun _ => none) mf_12 md_12 (gMo PG hq), fm 8 (fPg cs PG), fo 13 (fPr cs hq qr QO_12 QF_12 QA_12) p0.toNatClampNeg, wd_Mpr cs (hq p0.toNatClampNeg) (qr p0.toNatClampNeg) (fun _ => QO_12 p0.toNatClampNeg) (QF_12 p0.toNatClampNeg) (QA_12 p0.toNatClampNeg) (fun _ _ => none)] := fm_out (pr := [wd_Mo cs mo mr (fun _ => none) mf_12 md_12 (gMo PG hq), fm 8 (fPg cs PG)]) (T := fPr cs hq qr QO_12 QF_12 QA_12) hw hi4
        have hps4 := hpr.1 p0.toNatClampNeg hi4
        have hpb4 := hps4.1
        unfold PsB at hpb4
        refine px_calli (pr := [wd_Mo cs mo mr (fun _ => none) mf_12 md_12 (gMo PG hq), fm 8 (fPg cs PG), fo 13 (fPr cs hq qr QO_12 QF_12 QA_12) p0.toNatClampNeg]) (px_runV (As := []) (rest := []) S (c_mqq_hasEnded l D cs (hq p0.toNatClampNeg) (qr p0.toNatClampNeg) (fun _ _ => none) (fun _ => QO_12 p0.toNatClampNeg) (QF_12 p0.toNatClampNeg) (QA_12 p0.toNatClampNeg)    _) hT (pr := [wd_Mo cs mo mr (fun _ => none) mf_12 md_12 (gMo PG hq), fm 8 (fPg cs PG), fo 13 (fPr cs hq qr QO_12 QF_12 QA_12) p0.toNatClampNeg]) (pcs := [wd_Mpr cs (hq p0.toNatClampNeg) (qr p0.toNatClampNeg) (fun _ => QO_12 p0.toNatClampNeg) (QF_12 p0.toNatClampNeg) (QA_12 p0.toNatClampNeg) (fun _ _ => none)]) hw px_X.tt (px_recv hT hw 3 0 rfl rfl rfl) m14_58 m14_55 m14_56 m14_57 m1_22 q_Mpr_hasEnded ⟨Nat.le_of_ble_eq_true rfl, Nat.le_of_ble_eq_true rfl⟩ hl.1 rfl (Nat.le_of_ble_eq_true rfl) d_Mo_goOn_260 ⟨Nat.le_of_ble_eq_true rfl, Nat.le_of_ble_eq_true rfl⟩) hw hA (fun v6 p5 H locs hp5 hw => ?_)
        obtain ⟨rfl, e7, e8⟩ := hp5
        replace e7 : 0 ≤ v6.toInt := e7
        replace e8 : v6.toInt ≤ 1 := e8
        replace hw : pw D A s.heap H locs [wd_Mo cs mo mr (fun _ => none) mf_12 md_12 (gMo PG hq), fm 8 (fPg cs PG), fo 13 (fPr cs hq qr QO_12 QF_12 QA_12) p0.toNatClampNeg, wd_Mpr cs (hq p0.toNatClampNeg) (qr p0.toNatClampNeg) (fun _ => QO_12 p0.toNatClampNeg) (QF_12 p0.toNatClampNeg) (QA_12 p0.toNatClampNeg) (fun _ _ => none)] := hw
        have lv6 := Int32.le_toInt v6
        have uv6 := Int32.toInt_lt v6
        refine lv_if_eq (tgt := 271) S.x S.b d_Mo_goOn_263 (by decide) (fun c9 => ?_) (fun c9 => ?_)
        · have nc9 : v6.toInt = (0 : Int) := (i_eq (x := v6) (y := 0)).mp c9
          refine lv_iload_n S.x S.b d_Mo_goOn_271 rfl (lv_at hl 3 rfl) ?_
          have hw : pw D A s.heap _ _ [wd_Mo cs mo mr (fun _ => none) mf_12 md_12 (gMo PG hq), fm 8 (fPg cs PG), fm 13 (fPr cs hq qr QO_12 QF_12 QA_12)] := fm_back (pr := [wd_Mo cs mo mr (fun _ => none) mf_12 md_12 (gMo PG hq), fm 8 (fPg cs PG)]) (T := fPr cs hq qr QO_12 QF_12 QA_12) hw hi4
          have hw : pw D A s.heap _ _ [wd_Mo cs mo mr (fun _ => none) mf_12 md_12 (gMo PG hq), fm 13 (fPr cs hq qr QO_12 QF_12 QA_12), fm 8 (fPg cs PG)] := hw.sub [0, 2, 1] rfl rfl
          exact px_iret (v := x12_3) S hr (z_nar (by omega)) hlk hAe hw (Nat.le_of_ble_eq_true rfl) (Nat.le_of_ble_eq_true rfl) (⟨mf_12, md_12, QO_12, QF_12, QA_12, rfl, (show 0 ≤ x12_3.toInt from by first | exact k12_7 | omega), (show x12_3.toInt ≤ 1 from by first | exact k12_8 | omega), (show PrA PG (va_up RR p0.toNatClampNeg (RR p0.toNatClampNeg - x12_3.toInt)) QO_12 QF_12 QA_12 from (hpr.ml (by omega))), (show (mf_12 0).toInt = (mf 0).toInt from by first | exact k12_1 | omega), (show (mf_12 2).toInt = (mf 2).toInt from by first | exact k12_2 | omega), (show (mf_12 3).toInt = (mf 3).toInt from by first | exact k12_3 | omega), (show (mf_12 7).toInt = (mf 7).toInt from by first | exact k12_4 | omega), (show (mf_12 8).toInt = (mf 8).toInt from by first | exact k12_5 | omega), (show (mf_12 10).toInt = (mf 10).toInt from by first | exact k12_6 | omega)⟩) d_Mo_goOn_272
        · have nc9 : ¬ v6.toInt = (0 : Int) := mt (i_eq (x := v6) (y := 0)).mpr c9
          refine lv_aload_n S.x S.b d_Mo_goOn_266 rfl (lv_at hl 0 rfl) ?_
          refine lv_iload_n S.x S.b d_Mo_goOn_267 rfl (lv_at hl 1 rfl) ?_
          have hw : pw D A s.heap _ _ [wd_Mo cs mo mr (fun _ => none) mf_12 md_12 (gMo PG hq), fm 8 (fPg cs PG), fm 13 (fPr cs hq qr QO_12 QF_12 QA_12)] := fm_back (pr := [wd_Mo cs mo mr (fun _ => none) mf_12 md_12 (gMo PG hq), fm 8 (fPg cs PG)]) (T := fPr cs hq qr QO_12 QF_12 QA_12) hw hi4
          have hw : pw D A s.heap _ _ [wd_Mo cs mo mr (fun _ => none) mf_12 md_12 (gMo PG hq), fm 13 (fPr cs hq qr QO_12 QF_12 QA_12), fm 8 (fPg cs PG)] := hw.sub [0, 2, 1] rfl rfl
          refine px_callv (pr := []) (px_runV (As := [.int p0]) (rest := []) S (c_mo_close l D cs (va_up RR p0.toNatClampNeg R_12) mo mr mf_12 md_12 hq qr QO_12 QF_12 QA_12 PG p0  (show 0 ≤ p0.toInt from by first | exact g0 | omega) (show p0.toInt < 13 from by first | exact g1 | omega) hpr hpg _) hT (pr := []) (pcs := [wd_Mo cs mo mr (fun _ => none) mf_12 md_12 (gMo PG hq), fm 13 (fPr cs hq qr QO_12 QF_12 QA_12), fm 8 (fPg cs PG)]) hw px_X.tt (px_recv hT hw 0 0 rfl rfl rfl) m14_173 m14_170 m14_172 ms_17_6 m1_20 q_Mo_close ⟨Nat.le_of_ble_eq_true rfl, Nat.le_of_ble_eq_true rfl⟩ hl.1 rfl (Nat.le_of_ble_eq_true rfl) d_Mo_goOn_268 ⟨Nat.le_of_ble_eq_true rfl, Nat.le_of_ble_eq_true rfl⟩) hw hA (fun p16 H locs hp16 hw => ?_)
          obtain ⟨QO13, QF14, QA15, rfl, e18, e19⟩ := hp16
          replace e18 : PrA PG (va_up RR p0.toNatClampNeg R_12) QO13 QF14 QA15 := e18
          have hpr := e18
          replace e19 : KpP QO_12 QF_12 QA_12 QO13 QF14 QA15 p0.toNatClampNeg := e19
          have hkp := e19
          replace hw : pw D A s.heap H locs [wd_Mo cs mo mr (fun _ => none) mf_12 md_12 (gMo PG hq), fm 13 (fPr cs hq qr QO13 QF14 QA15), fm 8 (fPg cs PG)] := hw
          refine lv_iload_n S.x S.b d_Mo_goOn_271 rfl (lv_at hl 3 rfl) ?_
          exact px_iret (v := x12_3) S hr (z_nar (by omega)) hlk hAe hw (Nat.le_of_ble_eq_true rfl) (Nat.le_of_ble_eq_true rfl) (⟨mf_12, md_12, QO13, QF14, QA15, rfl, (show 0 ≤ x12_3.toInt from by first | exact k12_7 | omega), (show x12_3.toInt ≤ 1 from by first | exact k12_8 | omega), (show PrA PG (va_up RR p0.toNatClampNeg (RR p0.toNatClampNeg - x12_3.toInt)) QO13 QF14 QA15 from (hpr.ml (by omega))), (show (mf_12 0).toInt = (mf 0).toInt from by first | exact k12_1 | omega), (show (mf_12 2).toInt = (mf 2).toInt from by first | exact k12_2 | omega), (show (mf_12 3).toInt = (mf 3).toInt from by first | exact k12_3 | omega), (show (mf_12 7).toInt = (mf 7).toInt from by first | exact k12_4 | omega), (show (mf_12 8).toInt = (mf 8).toInt from by first | exact k12_5 | omega), (show (mf_12 10).toInt = (mf 10).toInt from by first | exact k12_6 | omega)⟩) d_Mo_goOn_272
      · have nc3 : ¬ x12_4.toInt = (0 : Int) := mt (i_eq (x := x12_4) (y := 0)).mpr c3
        refine lv_aload_n S.x S.b d_Mo_goOn_17 rfl (lv_at hl 2 rfl) ?_
        have hw : pw D A s.heap _ _ [wd_Mo cs mo mr (fun _ => none) mf_12 md_12 (gMo PG hq), fm 8 (fPg cs PG), fm 13 (fPr cs hq qr QO_12 QF_12 QA_12)] := hw.sub [0, 2, 1] rfl rfl
        have hc20 := cl_nat (x := p0) (by first | exact g0 | omega)
        have hi20 : p0.toNatClampNeg < 13 := by first | exact oz_9995642664 hcp g1 | omega
        have hw : pw D A s.heap _ _ [wd_Mo cs mo mr (fun _ => none) mf_12 md_12 (gMo PG hq), fm 8 (fPg cs PG), fo 13 (fPr cs hq qr QO_12 QF_12 QA_12) p0.toNatClampNeg, wd_Mpr cs (hq p0.toNatClampNeg) (qr p0.toNatClampNeg) (fun _ => QO_12 p0.toNatClampNeg) (QF_12 p0.toNatClampNeg) (QA_12 p0.toNatClampNeg) (fun _ _ => none)] := fm_out (pr := [wd_Mo cs mo mr (fun _ => none) mf_12 md_12 (gMo PG hq), fm 8 (fPg cs PG)]) (T := fPr cs hq qr QO_12 QF_12 QA_12) hw hi20
        have hps20 := hpr.1 p0.toNatClampNeg hi20
        have hpb20 := hps20.1
        unfold PsB at hpb20
        refine px_calli (pr := [wd_Mo cs mo mr (fun _ => none) mf_12 md_12 (gMo PG hq), fm 8 (fPg cs PG), fo 13 (fPr cs hq qr QO_12 QF_12 QA_12) p0.toNatClampNeg]) (px_runV (As := []) (rest := []) S (c_mqq_isGoing l D cs (hq p0.toNatClampNeg) (qr p0.toNatClampNeg) (fun _ _ => none) (fun _ => QO_12 p0.toNatClampNeg) (QF_12 p0.toNatClampNeg) (QA_12 p0.toNatClampNeg)    _) hT (pr := [wd_Mo cs mo mr (fun _ => none) mf_12 md_12 (gMo PG hq), fm 8 (fPg cs PG), fo 13 (fPr cs hq qr QO_12 QF_12 QA_12) p0.toNatClampNeg]) (pcs := [wd_Mpr cs (hq p0.toNatClampNeg) (qr p0.toNatClampNeg) (fun _ => QO_12 p0.toNatClampNeg) (QF_12 p0.toNatClampNeg) (QA_12 p0.toNatClampNeg) (fun _ _ => none)]) hw px_X.tt (px_recv hT hw 3 0 rfl rfl rfl) m13_165 m13_162 m13_163 m13_164 m1_22 q_Mpr_isGoing ⟨Nat.le_of_ble_eq_true rfl, Nat.le_of_ble_eq_true rfl⟩ hl.1 rfl (Nat.le_of_ble_eq_true rfl) d_Mo_goOn_18 ⟨Nat.le_of_ble_eq_true rfl, Nat.le_of_ble_eq_true rfl⟩) hw hA (fun v22 p21 H locs hp21 hw => ?_)
        obtain ⟨rfl, e23, e24, e25⟩ := hp21
        replace e23 : 0 ≤ v22.toInt := e23
        replace e24 : v22.toInt ≤ 1 := e24
        replace e25 : IgV v22.toInt ((QF_12 p0.toNatClampNeg) 1).toInt ((QF_12 p0.toNatClampNeg) 2).toInt := e25
        have hig := e25
        replace hw : pw D A s.heap H locs [wd_Mo cs mo mr (fun _ => none) mf_12 md_12 (gMo PG hq), fm 8 (fPg cs PG), fo 13 (fPr cs hq qr QO_12 QF_12 QA_12) p0.toNatClampNeg, wd_Mpr cs (hq p0.toNatClampNeg) (qr p0.toNatClampNeg) (fun _ => QO_12 p0.toNatClampNeg) (QF_12 p0.toNatClampNeg) (QA_12 p0.toNatClampNeg) (fun _ _ => none)] := hw
        have lv22 := Int32.le_toInt v22
        have uv22 := Int32.toInt_lt v22
        refine lv_if_eq (tgt := 259) S.x S.b d_Mo_goOn_21 (by decide) (fun c26 => ?_) (fun c26 => ?_)
        · have nc26 : v22.toInt = (0 : Int) := (i_eq (x := v22) (y := 0)).mp c26
          refine lv_aload_n S.x S.b d_Mo_goOn_259 rfl (lv_at hl 2 rfl) ?_
          refine px_calli (pr := [wd_Mo cs mo mr (fun _ => none) mf_12 md_12 (gMo PG hq), fm 8 (fPg cs PG), fo 13 (fPr cs hq qr QO_12 QF_12 QA_12) p0.toNatClampNeg]) (px_runV (As := []) (rest := []) S (c_mqq_hasEnded l D cs (hq p0.toNatClampNeg) (qr p0.toNatClampNeg) (fun _ _ => none) (fun _ => QO_12 p0.toNatClampNeg) (QF_12 p0.toNatClampNeg) (QA_12 p0.toNatClampNeg)    _) hT (pr := [wd_Mo cs mo mr (fun _ => none) mf_12 md_12 (gMo PG hq), fm 8 (fPg cs PG), fo 13 (fPr cs hq qr QO_12 QF_12 QA_12) p0.toNatClampNeg]) (pcs := [wd_Mpr cs (hq p0.toNatClampNeg) (qr p0.toNatClampNeg) (fun _ => QO_12 p0.toNatClampNeg) (QF_12 p0.toNatClampNeg) (QA_12 p0.toNatClampNeg) (fun _ _ => none)]) hw px_X.tt (px_recv hT hw 3 0 rfl rfl rfl) m14_58 m14_55 m14_56 m14_57 m1_22 q_Mpr_hasEnded ⟨Nat.le_of_ble_eq_true rfl, Nat.le_of_ble_eq_true rfl⟩ hl.1 rfl (Nat.le_of_ble_eq_true rfl) d_Mo_goOn_260 ⟨Nat.le_of_ble_eq_true rfl, Nat.le_of_ble_eq_true rfl⟩) hw hA (fun v28 p27 H locs hp27 hw => ?_)
          obtain ⟨rfl, e29, e30⟩ := hp27
          replace e29 : 0 ≤ v28.toInt := e29
          replace e30 : v28.toInt ≤ 1 := e30
          replace hw : pw D A s.heap H locs [wd_Mo cs mo mr (fun _ => none) mf_12 md_12 (gMo PG hq), fm 8 (fPg cs PG), fo 13 (fPr cs hq qr QO_12 QF_12 QA_12) p0.toNatClampNeg, wd_Mpr cs (hq p0.toNatClampNeg) (qr p0.toNatClampNeg) (fun _ => QO_12 p0.toNatClampNeg) (QF_12 p0.toNatClampNeg) (QA_12 p0.toNatClampNeg) (fun _ _ => none)] := hw
          have lv28 := Int32.le_toInt v28
          have uv28 := Int32.toInt_lt v28
          refine lv_if_eq (tgt := 271) S.x S.b d_Mo_goOn_263 (by decide) (fun c31 => ?_) (fun c31 => ?_)
          · have nc31 : v28.toInt = (0 : Int) := (i_eq (x := v28) (y := 0)).mp c31
            refine lv_iload_n S.x S.b d_Mo_goOn_271 rfl (lv_at hl 3 rfl) ?_
            have hw : pw D A s.heap _ _ [wd_Mo cs mo mr (fun _ => none) mf_12 md_12 (gMo PG hq), fm 8 (fPg cs PG), fm 13 (fPr cs hq qr QO_12 QF_12 QA_12)] := fm_back (pr := [wd_Mo cs mo mr (fun _ => none) mf_12 md_12 (gMo PG hq), fm 8 (fPg cs PG)]) (T := fPr cs hq qr QO_12 QF_12 QA_12) hw hi20
            have hw : pw D A s.heap _ _ [wd_Mo cs mo mr (fun _ => none) mf_12 md_12 (gMo PG hq), fm 13 (fPr cs hq qr QO_12 QF_12 QA_12), fm 8 (fPg cs PG)] := hw.sub [0, 2, 1] rfl rfl
            exact px_iret (v := x12_3) S hr (z_nar (by omega)) hlk hAe hw (Nat.le_of_ble_eq_true rfl) (Nat.le_of_ble_eq_true rfl) (⟨mf_12, md_12, QO_12, QF_12, QA_12, rfl, (show 0 ≤ x12_3.toInt from by first | exact k12_7 | omega), (show x12_3.toInt ≤ 1 from by first | exact k12_8 | omega), (show PrA PG (va_up RR p0.toNatClampNeg (RR p0.toNatClampNeg - x12_3.toInt)) QO_12 QF_12 QA_12 from (hpr.ml (by omega))), (show (mf_12 0).toInt = (mf 0).toInt from by first | exact k12_1 | omega), (show (mf_12 2).toInt = (mf 2).toInt from by first | exact k12_2 | omega), (show (mf_12 3).toInt = (mf 3).toInt from by first | exact k12_3 | omega), (show (mf_12 7).toInt = (mf 7).toInt from by first | exact k12_4 | omega), (show (mf_12 8).toInt = (mf 8).toInt from by first | exact k12_5 | omega), (show (mf_12 10).toInt = (mf 10).toInt from by first | exact k12_6 | omega)⟩) d_Mo_goOn_272
          · have nc31 : ¬ v28.toInt = (0 : Int) := mt (i_eq (x := v28) (y := 0)).mpr c31
            refine lv_aload_n S.x S.b d_Mo_goOn_266 rfl (lv_at hl 0 rfl) ?_
            refine lv_iload_n S.x S.b d_Mo_goOn_267 rfl (lv_at hl 1 rfl) ?_
            have hw : pw D A s.heap _ _ [wd_Mo cs mo mr (fun _ => none) mf_12 md_12 (gMo PG hq), fm 8 (fPg cs PG), fm 13 (fPr cs hq qr QO_12 QF_12 QA_12)] := fm_back (pr := [wd_Mo cs mo mr (fun _ => none) mf_12 md_12 (gMo PG hq), fm 8 (fPg cs PG)]) (T := fPr cs hq qr QO_12 QF_12 QA_12) hw hi20
            have hw : pw D A s.heap _ _ [wd_Mo cs mo mr (fun _ => none) mf_12 md_12 (gMo PG hq), fm 13 (fPr cs hq qr QO_12 QF_12 QA_12), fm 8 (fPg cs PG)] := hw.sub [0, 2, 1] rfl rfl
            refine px_callv (pr := []) (px_runV (As := [.int p0]) (rest := []) S (c_mo_close l D cs (va_up RR p0.toNatClampNeg R_12) mo mr mf_12 md_12 hq qr QO_12 QF_12 QA_12 PG p0  (show 0 ≤ p0.toInt from by first | exact g0 | omega) (show p0.toInt < 13 from by first | exact g1 | omega) hpr hpg _) hT (pr := []) (pcs := [wd_Mo cs mo mr (fun _ => none) mf_12 md_12 (gMo PG hq), fm 13 (fPr cs hq qr QO_12 QF_12 QA_12), fm 8 (fPg cs PG)]) hw px_X.tt (px_recv hT hw 0 0 rfl rfl rfl) m14_173 m14_170 m14_172 ms_17_6 m1_20 q_Mo_close ⟨Nat.le_of_ble_eq_true rfl, Nat.le_of_ble_eq_true rfl⟩ hl.1 rfl (Nat.le_of_ble_eq_true rfl) d_Mo_goOn_268 ⟨Nat.le_of_ble_eq_true rfl, Nat.le_of_ble_eq_true rfl⟩) hw hA (fun p38 H locs hp38 hw => ?_)
            obtain ⟨QO35, QF36, QA37, rfl, e40, e41⟩ := hp38
            replace e40 : PrA PG (va_up RR p0.toNatClampNeg R_12) QO35 QF36 QA37 := e40
            have hpr := e40
            replace e41 : KpP QO_12 QF_12 QA_12 QO35 QF36 QA37 p0.toNatClampNeg := e41
            have hkp := e41
            replace hw : pw D A s.heap H locs [wd_Mo cs mo mr (fun _ => none) mf_12 md_12 (gMo PG hq), fm 13 (fPr cs hq qr QO35 QF36 QA37), fm 8 (fPg cs PG)] := hw
            refine lv_iload_n S.x S.b d_Mo_goOn_271 rfl (lv_at hl 3 rfl) ?_
            exact px_iret (v := x12_3) S hr (z_nar (by omega)) hlk hAe hw (Nat.le_of_ble_eq_true rfl) (Nat.le_of_ble_eq_true rfl) (⟨mf_12, md_12, QO35, QF36, QA37, rfl, (show 0 ≤ x12_3.toInt from by first | exact k12_7 | omega), (show x12_3.toInt ≤ 1 from by first | exact k12_8 | omega), (show PrA PG (va_up RR p0.toNatClampNeg (RR p0.toNatClampNeg - x12_3.toInt)) QO35 QF36 QA37 from (hpr.ml (by omega))), (show (mf_12 0).toInt = (mf 0).toInt from by first | exact k12_1 | omega), (show (mf_12 2).toInt = (mf 2).toInt from by first | exact k12_2 | omega), (show (mf_12 3).toInt = (mf 3).toInt from by first | exact k12_3 | omega), (show (mf_12 7).toInt = (mf 7).toInt from by first | exact k12_4 | omega), (show (mf_12 8).toInt = (mf 8).toInt from by first | exact k12_5 | omega), (show (mf_12 10).toInt = (mf 10).toInt from by first | exact k12_6 | omega)⟩) d_Mo_goOn_272
        · have nc26 : ¬ v22.toInt = (0 : Int) := mt (i_eq (x := v22) (y := 0)).mpr c26
          refine lv_aload_n S.x S.b d_Mo_goOn_24 rfl (lv_at hl 2 rfl) ?_
          have hg1 : (QF_12 p0.toNatClampNeg 1).toInt = 1 ∧ (QF_12 p0.toNatClampNeg 2).toInt = -2 := hig.elim (fun q8 => by omega) (fun q8 => absurd q8.1 (by omega))
          have hps8 := hps20
          rw [va_up_s] at hps8
          obtain ⟨j9, hj9, hqo, hkind⟩ := hps8.2.2.2 (by omega) (by omega)
          have hw : pw D A s.heap _ _ [wd_Mo cs mo mr (fun _ => none) mf_12 md_12 (gMo PG hq), fm 8 (fPg cs PG), fo 13 (fPr cs hq qr QO_12 QF_12 QA_12) p0.toNatClampNeg, wd_Mpr cs (hq p0.toNatClampNeg) (qr p0.toNatClampNeg) (fun k => if k = 0 then (some (PG j9).h) else none) (QF_12 p0.toNatClampNeg) (QA_12 p0.toNatClampNeg) (fun _ _ => none)] := (by have q8 := hw; rw [wd_oo (o := (fun _ => QO_12 p0.toNatClampNeg)) (o' := (fun k => if k = 0 then (some (PG j9).h) else none)) hqo] at q8; exact q8)
          have hw : pw D A s.heap _ _ [wd_Mo cs mo mr (fun _ => none) mf_12 md_12 (gMo PG hq), fo 13 (fPr cs hq qr QO_12 QF_12 QA_12) p0.toNatClampNeg, wd_Mpr cs (hq p0.toNatClampNeg) (qr p0.toNatClampNeg) (fun k => if k = 0 then (some (PG j9).h) else none) (QF_12 p0.toNatClampNeg) (QA_12 p0.toNatClampNeg) (fun _ _ => none), fm 8 (fPg cs PG)] := hw.sub [0, 2, 3, 1] rfl rfl
          have hw : pw D A s.heap _ _ [wd_Mo cs mo mr (fun _ => none) mf_12 md_12 (gMo PG hq), fo 13 (fPr cs hq qr QO_12 QF_12 QA_12) p0.toNatClampNeg, wd_Mpr cs (hq p0.toNatClampNeg) (qr p0.toNatClampNeg) (fun k => if k = 0 then (some (PG j9).h) else none) (QF_12 p0.toNatClampNeg) (QA_12 p0.toNatClampNeg) (fun _ _ => none), fo 8 (fPg cs PG) j9, wdP cs (PG j9).h (PG j9).r (PG j9).g (PG j9).tf (PG j9).ta (PG j9).pf (PG j9).na (PG j9).ma (PG j9).wa (PG j9).cf (PG j9).ca (PG j9).ef (PG j9).ea (PG j9).xf (PG j9).xa] := fm_out (pr := [wd_Mo cs mo mr (fun _ => none) mf_12 md_12 (gMo PG hq), fo 13 (fPr cs hq qr QO_12 QF_12 QA_12) p0.toNatClampNeg, wd_Mpr cs (hq p0.toNatClampNeg) (qr p0.toNatClampNeg) (fun k => if k = 0 then (some (PG j9).h) else none) (QF_12 p0.toNatClampNeg) (QA_12 p0.toNatClampNeg) (fun _ _ => none)]) (T := fPg cs PG) hw hj9
          have hpo42 := hpg j9 hj9
          have hp142 := hpo42.1
          have hp242 := hpo42.2.1
          have hP := hGG j9 hj9
          refine px_get S k_Mpr hT hw 2 0 0 (v := .ref (PG j9).h) rfl rfl rfl (by decide) m10_222 d_Mo_goOn_25 ?_
          refine px_get S k_Mpg hT hw 4 0 66 (v := .int ((PG j9).xf 66)) rfl rfl rfl (by decide) m10_67 d_Mo_goOn_28 ?_
          refine lv_iconst (v := 2) S.x S.b d_Mo_goOn_31 (by decide) ?_
          refine lv_icmp_ne (tgt := 64) S.x S.b d_Mo_goOn_32 (by decide) (fun c43 => ?_) (fun c43 => ?_)
          · have nc43 : ¬ ((PG j9).xf 66).toInt = (2 : Int) := mt (i_eq (x := ((PG j9).xf 66)) (y := 2)).mpr c43
            refine lv_aload_n S.x S.b d_Mo_goOn_64 rfl (lv_at hl 2 rfl) ?_
            have htk9 := hkind.elim (fun q8 => absurd q8.1 (by omega)) id; have h61 := htk9.1; have hpt := htk9.2; have hpn := hpt.num; have hptE := hpt; obtain ⟨X9, K9, st9, f9, S9, v8, P9, nb9, hen, hru, h59, hrk, h24, h79⟩ := hptE; have hft9 := (hpo42.2.2 h61).ft; have h79 : Hid _ := h79; have hft := hft9.1; have hfp := hft9.2; have hmdn := (hru.en hen h59).num; have hq9 := hru.2.2.2; have hlc9 := (hru.en hen h59).2.2.2.1
            refine px_get S k_Mpr hT hw 2 0 0 (v := .ref (PG j9).h) rfl rfl rfl (by decide) m10_222 d_Mo_goOn_65 ?_
            refine px_getN S k_Mpg hT hw 4 0 61 (v := .ref ((PG j9).r 61)) rfl rfl rfl (by decide) m10_59n d_Mo_goOn_68 ?_
            refine lv_iconst (v := 3) S.x S.b d_Mo_goOn_71 (by decide) ?_
            refine lv_aload_n S.x S.b d_Mo_goOn_72 rfl (lv_at hl 2 rfl) ?_
            refine px_get S k_Mpr hT hw 2 0 11 (v := .int ((QF_12 p0.toNatClampNeg) 11)) rfl rfl rfl (by decide) m11_3 d_Mo_goOn_73 ?_
            refine lv_imul S.x S.b d_Mo_goOn_76 ?_
            have lr44 := Int32.le_toInt ((QF_12 p0.toNatClampNeg) 11)
            have ur44 := Int32.toInt_lt ((QF_12 p0.toNatClampNeg) 11)
            refine lv_topi (fun z45 ez45 => ?_)
            have lz45 := Int32.le_toInt z45
            have uz45 := Int32.toInt_lt z45
            have tz45 : -2147483648 ≤ 3 * ((QF_12 p0.toNatClampNeg) 11).toInt → 3 * ((QF_12 p0.toNatClampNeg) 11).toInt < 2147483648 → z45.toInt = 3 * ((QF_12 p0.toNatClampNeg) 11).toInt := by rw [ez45]; exact i_mulc 3 ((QF_12 p0.toNatClampNeg) 11) (by decide)
            try replace tz45 : z45.toInt = 3 * ((QF_12 p0.toNatClampNeg) 11).toInt := by omega
            refine px_iald S hT hw 4 34 (n := 21000) (f := ((PG j9).ea 61)) rfl gp_61 (x := z45) (vp_in_iff.mpr (by constructor <;> omega)) d_Mo_goOn_77 ?_
            refine lv_topi (fun z46 ez46 => ?_)
            have lz46 := Int32.le_toInt z46
            have uz46 := Int32.toInt_lt z46
            have hz5 : z46 = (PG j9).ea 61 (3 * (QF_12 p0.toNatClampNeg 11).toInt).toNat := at_k (qa := (PG j9).ea) (k := 61) ez46 (by omega) (by omega)
            refine lv_istore (lv' := [(5, .int z46), (0, .ref mo), (1, .int p0), (2, .ref (hq p0.toNatClampNeg)), (3, .int x12_3), (4, .int x12_4)]) S.x S.b d_Mo_goOn_78 hl (by decide) rfl (fun ls hl => ?_)
            refine lv_aload_n S.x S.b d_Mo_goOn_80 rfl (lv_at hl 3 rfl) ?_
            refine px_get S k_Mpr hT hw 2 0 0 (v := .ref (PG j9).h) rfl rfl rfl (by decide) m10_222 d_Mo_goOn_81 ?_
            refine px_getN S k_Mpg hT hw 4 0 61 (v := .ref ((PG j9).r 61)) rfl rfl rfl (by decide) m10_59n d_Mo_goOn_84 ?_
            refine lv_iconst (v := 3) S.x S.b d_Mo_goOn_87 (by decide) ?_
            refine lv_aload_n S.x S.b d_Mo_goOn_88 rfl (lv_at hl 3 rfl) ?_
            refine px_get S k_Mpr hT hw 2 0 11 (v := .int ((QF_12 p0.toNatClampNeg) 11)) rfl rfl rfl (by decide) m11_3 d_Mo_goOn_89 ?_
            refine lv_imul S.x S.b d_Mo_goOn_92 ?_
            have lr47 := Int32.le_toInt ((QF_12 p0.toNatClampNeg) 11)
            have ur47 := Int32.toInt_lt ((QF_12 p0.toNatClampNeg) 11)
            refine lv_topi (fun z48 ez48 => ?_)
            have lz48 := Int32.le_toInt z48
            have uz48 := Int32.toInt_lt z48
            have tz48 : -2147483648 ≤ 3 * ((QF_12 p0.toNatClampNeg) 11).toInt → 3 * ((QF_12 p0.toNatClampNeg) 11).toInt < 2147483648 → z48.toInt = 3 * ((QF_12 p0.toNatClampNeg) 11).toInt := by rw [ez48]; exact i_mulc 3 ((QF_12 p0.toNatClampNeg) 11) (by decide)
            try replace tz48 : z48.toInt = 3 * ((QF_12 p0.toNatClampNeg) 11).toInt := by omega
            refine lv_iconst (v := 1) S.x S.b d_Mo_goOn_93 (by decide) ?_
            refine lv_iadd S.x S.b d_Mo_goOn_94 ?_
            refine lv_topi (fun z49 ez49 => ?_)
            have tz49 : z49.toInt = (z48.toInt + (1 : Int) + 2147483648) % 4294967296 - 2147483648 := by rw [ez49]; exact i_add z48 1
            have lz49 := Int32.le_toInt z49
            have uz49 := Int32.toInt_lt z49
            try replace tz49 : z49.toInt = z48.toInt + (1 : Int) := by omega
            refine px_iald S hT hw 4 34 (n := 21000) (f := ((PG j9).ea 61)) rfl gp_61 (x := z49) (vp_in_iff.mpr (by constructor <;> omega)) d_Mo_goOn_95 ?_
            refine lv_topi (fun z50 ez50 => ?_)
            have lz50 := Int32.le_toInt z50
            have uz50 := Int32.toInt_lt z50
            have hz6 : z50 = (PG j9).ea 61 (3 * (QF_12 p0.toNatClampNeg 11).toInt + 1).toNat := at_k (qa := (PG j9).ea) (k := 61) ez50 (by omega) (by omega)
            refine lv_istore (lv' := [(6, .int z50), (5, .int z46), (0, .ref mo), (1, .int p0), (2, .ref (hq p0.toNatClampNeg)), (3, .int x12_3), (4, .int x12_4)]) S.x S.b d_Mo_goOn_96 hl (by decide) rfl (fun ls hl => ?_)
            refine lv_aload_n S.x S.b d_Mo_goOn_98 rfl (lv_at hl 4 rfl) ?_
            refine px_get S k_Mpr hT hw 2 0 0 (v := .ref (PG j9).h) rfl rfl rfl (by decide) m10_222 d_Mo_goOn_99 ?_
            refine px_getN S k_Mpg hT hw 4 0 61 (v := .ref ((PG j9).r 61)) rfl rfl rfl (by decide) m10_59n d_Mo_goOn_102 ?_
            refine lv_iconst (v := 3) S.x S.b d_Mo_goOn_105 (by decide) ?_
            refine lv_aload_n S.x S.b d_Mo_goOn_106 rfl (lv_at hl 4 rfl) ?_
            refine px_get S k_Mpr hT hw 2 0 11 (v := .int ((QF_12 p0.toNatClampNeg) 11)) rfl rfl rfl (by decide) m11_3 d_Mo_goOn_107 ?_
            refine lv_imul S.x S.b d_Mo_goOn_110 ?_
            have lr51 := Int32.le_toInt ((QF_12 p0.toNatClampNeg) 11)
            have ur51 := Int32.toInt_lt ((QF_12 p0.toNatClampNeg) 11)
            refine lv_topi (fun z52 ez52 => ?_)
            have lz52 := Int32.le_toInt z52
            have uz52 := Int32.toInt_lt z52
            have tz52 : -2147483648 ≤ 3 * ((QF_12 p0.toNatClampNeg) 11).toInt → 3 * ((QF_12 p0.toNatClampNeg) 11).toInt < 2147483648 → z52.toInt = 3 * ((QF_12 p0.toNatClampNeg) 11).toInt := by rw [ez52]; exact i_mulc 3 ((QF_12 p0.toNatClampNeg) 11) (by decide)
            try replace tz52 : z52.toInt = 3 * ((QF_12 p0.toNatClampNeg) 11).toInt := by omega
            refine lv_iconst (v := 2) S.x S.b d_Mo_goOn_111 (by decide) ?_
            refine lv_iadd S.x S.b d_Mo_goOn_112 ?_
            refine lv_topi (fun z53 ez53 => ?_)
            have tz53 : z53.toInt = (z52.toInt + (2 : Int) + 2147483648) % 4294967296 - 2147483648 := by rw [ez53]; exact i_add z52 2
            have lz53 := Int32.le_toInt z53
            have uz53 := Int32.toInt_lt z53
            try replace tz53 : z53.toInt = z52.toInt + (2 : Int) := by omega
            refine px_iald S hT hw 4 34 (n := 21000) (f := ((PG j9).ea 61)) rfl gp_61 (x := z53) (vp_in_iff.mpr (by constructor <;> omega)) d_Mo_goOn_113 ?_
            refine lv_topi (fun z54 ez54 => ?_)
            have lz54 := Int32.le_toInt z54
            have uz54 := Int32.toInt_lt z54
            have hz7 : z54 = (PG j9).ea 61 (3 * (QF_12 p0.toNatClampNeg 11).toInt + 2).toNat := at_k (qa := (PG j9).ea) (k := 61) ez54 (by omega) (by omega)
            refine lv_istore (lv' := [(7, .int z54), (6, .int z50), (5, .int z46), (0, .ref mo), (1, .int p0), (2, .ref (hq p0.toNatClampNeg)), (3, .int x12_3), (4, .int x12_4)]) S.x S.b d_Mo_goOn_114 hl (by decide) rfl (fun ls hl => ?_)
            refine lv_iload S.x S.b d_Mo_goOn_116 (lv_at hl 2 rfl) ?_
            refine lv_bipush (v := 16) S.x S.b d_Mo_goOn_118 (by decide) ?_
            refine lv_icmp_ne (tgt := 221) S.x S.b d_Mo_goOn_120 (by decide) (fun c55 => ?_) (fun c55 => ?_)
            · have nc55 : ¬ z46.toInt = (16 : Int) := mt (i_eq (x := z46) (y := 16)).mpr c55
              refine lv_aload_n S.x S.b d_Mo_goOn_221 rfl (lv_at hl 5 rfl) ?_
              have hno : ¬ ((PG j9).ea 61 (3 * (QF_12 p0.toNatClampNeg 11).toInt).toNat).toInt = 16 := (by rw [← hz5]; omega); have h70 : ¬ (QF_12 p0.toNatClampNeg 7).toInt = 1 := fun q8 => hno (h79.o q8).1
              refine lv_dup S.x S.b d_Mo_goOn_222 rfl ?_
              refine px_get S k_Mpr hT hw 2 0 11 (v := .int ((QF_12 p0.toNatClampNeg) 11)) rfl rfl rfl (by decide) m11_3 d_Mo_goOn_223 ?_
              refine lv_iconst (v := 1) S.x S.b d_Mo_goOn_226 (by decide) ?_
              refine lv_iadd S.x S.b d_Mo_goOn_227 ?_
              have lr56 := Int32.le_toInt ((QF_12 p0.toNatClampNeg) 11)
              have ur56 := Int32.toInt_lt ((QF_12 p0.toNatClampNeg) 11)
              refine lv_topi (fun z57 ez57 => ?_)
              have tz57 : z57.toInt = (((QF_12 p0.toNatClampNeg) 11).toInt + (1 : Int) + 2147483648) % 4294967296 - 2147483648 := by rw [ez57]; exact i_add ((QF_12 p0.toNatClampNeg) 11) 1
              have lz57 := Int32.le_toInt z57
              have uz57 := Int32.toInt_lt z57
              try replace tz57 : z57.toInt = ((QF_12 p0.toNatClampNeg) 11).toInt + (1 : Int) := by omega
              refine px_put S k_Mpr hT hw 2 0 11 rfl rfl (by decide) m11_3 rfl rfl rfl (Nat.le_of_ble_eq_true rfl) d_Mo_goOn_228 (w' := wd_Mpr cs (hq p0.toNatClampNeg) (qr p0.toNatClampNeg) (fun k => if k = 0 then (some (PG j9).h) else none) (upd (QF_12 p0.toNatClampNeg) 11 z57) (QA_12 p0.toNatClampNeg) (fun _ _ => none)) (ps' := [wd_Mo cs mo mr (fun _ => none) mf_12 md_12 (gMo PG hq), fo 13 (fPr cs hq qr QO_12 QF_12 QA_12) p0.toNatClampNeg, wd_Mpr cs (hq p0.toNatClampNeg) (qr p0.toNatClampNeg) (fun k => if k = 0 then (some (PG j9).h) else none) (upd (QF_12 p0.toNatClampNeg) 11 z57) (QA_12 p0.toNatClampNeg) (fun _ _ => none), fo 8 (fPg cs PG) j9, wdP cs (PG j9).h (PG j9).r (PG j9).g (PG j9).tf (PG j9).ta (PG j9).pf (PG j9).na (PG j9).ma (PG j9).wa (PG j9).cf (PG j9).ca (PG j9).ef (PG j9).ea (PG j9).xf (PG j9).xa]) rfl rfl (fun H locs hw => ?_)
              refine lv_aload_n S.x S.b d_Mo_goOn_231 rfl (lv_at hl 5 rfl) ?_
              refine lv_iload S.x S.b d_Mo_goOn_232 (lv_at hl 2 rfl) ?_
              refine lv_iload S.x S.b d_Mo_goOn_234 (lv_at hl 1 rfl) ?_
              refine lv_iload S.x S.b d_Mo_goOn_236 (lv_at hl 0 rfl) ?_
              have hpe : (z57.toInt - 1) = (QF_12 p0.toNatClampNeg 11).toInt := (by omega); have hmd : MdI X9 K9 (PG j9).ca (PG j9).na (PG j9).ma ((PG j9).ea 61) ((PG j9).ea 62) ((PG j9).ea 63) (QA_12 p0.toNatClampNeg) ((PG j9).cf 55).toInt ((PG j9).cf 38).toInt ((PG j9).ef 60).toInt st9 (QF_12 p0.toNatClampNeg 14).toInt (z57.toInt - 1) (QF_12 p0.toNatClampNeg 10).toInt (QF_12 p0.toNatClampNeg 12).toInt (QF_12 p0.toNatClampNeg 13).toInt (QF_12 p0.toNatClampNeg 5).toInt (QF_12 p0.toNatClampNeg 4).toInt f9 S9 v8 P9 nb9 := (by rw [hpe]; exact hru.en hen h59); have hp0 : (PG j9).ea 61 (3 * (z57.toInt - 1).toNat) = z46 := (by rw [hpe, hz5]; congr 1; omega); have hp1 : (PG j9).ea 61 (3 * (z57.toInt - 1).toNat + 1) = z50 := (by rw [hpe, hz6]; congr 1; omega); have hp2 : (PG j9).ea 61 (3 * (z57.toInt - 1).toNat + 2) = z54 := (by rw [hpe, hz7]; congr 1; omega)
              have hw : pw D A s.heap _ _ [wd_Mo cs mo mr (fun _ => none) mf_12 md_12 (gMo PG hq), fo 13 (fPr cs hq qr QO_12 QF_12 QA_12) p0.toNatClampNeg, fo 8 (fPg cs PG) j9, wd_Mpr cs (hq p0.toNatClampNeg) (qr p0.toNatClampNeg) (fun k => if k = 0 then (some (PG j9).h) else none) (upd (QF_12 p0.toNatClampNeg) 11 z57) (QA_12 p0.toNatClampNeg) (fun _ _ => none), wdP cs (PG j9).h (PG j9).r (PG j9).g (PG j9).tf (PG j9).ta (PG j9).pf (PG j9).na (PG j9).ma (PG j9).wa (PG j9).cf (PG j9).ca (PG j9).ef (PG j9).ea (PG j9).xf (PG j9).xa] := hw.sub [0, 1, 3, 2, 4] rfl rfl
              refine px_callv (pr := [wd_Mo cs mo mr (fun _ => none) mf_12 md_12 (gMo PG hq), fo 13 (fPr cs hq qr QO_12 QF_12 QA_12) p0.toNatClampNeg, fo 8 (fPg cs PG) j9]) (px_runV (As := [.int z46, .int z50, .int z54]) (rest := []) S (c_mr_step l D cs X9 K9 st9 f9 S9 v8 P9 nb9 (hq p0.toNatClampNeg) (qr p0.toNatClampNeg) (fun _ _ => none) (upd (QF_12 p0.toNatClampNeg) 11 z57) (QA_12 p0.toNatClampNeg) (PG j9).h (PG j9).r (PG j9).g (PG j9).tf (PG j9).ta (PG j9).pf (PG j9).na (PG j9).ma (PG j9).wa (PG j9).cf (PG j9).ca (PG j9).ef (PG j9).ea (PG j9).xf (PG j9).xa z46 z50 z54  (show ((QF_12 p0.toNatClampNeg) 2).toInt = -2 from by first | exact oz_d5c43516a3 hg1.2 | omega) (show z46.toInt ≠ 16 from by first | with_reducible rfl | with_reducible assumption | omega) hmd hft hfp hp0 hp1 hp2 _) hT (pr := [wd_Mo cs mo mr (fun _ => none) mf_12 md_12 (gMo PG hq), fo 13 (fPr cs hq qr QO_12 QF_12 QA_12) p0.toNatClampNeg, fo 8 (fPg cs PG) j9]) (pcs := [wd_Mpr cs (hq p0.toNatClampNeg) (qr p0.toNatClampNeg) (fun k => if k = 0 then (some (PG j9).h) else none) (upd (QF_12 p0.toNatClampNeg) 11 z57) (QA_12 p0.toNatClampNeg) (fun _ _ => none), wdP cs (PG j9).h (PG j9).r (PG j9).g (PG j9).tf (PG j9).ta (PG j9).pf (PG j9).na (PG j9).ma (PG j9).wa (PG j9).cf (PG j9).ca (PG j9).ef (PG j9).ea (PG j9).xf (PG j9).xa]) hw (oX_call (P := (fun A U H => (oP A (PG j9).g U H) ∧ (oLW A U H))) (pr := [wd_Mo cs mo mr (fun _ => none) mf_12 md_12 (gMo PG hq), fo 13 (fPr cs hq qr QO_12 QF_12 QA_12) p0.toNatClampNeg, fo 8 (fPg cs PG) j9]) (oG_and oG_P oG_LW) hw hA ⟨hP, hSh⟩) (px_recv hT hw 3 0 rfl rfl rfl) m14_115 m14_112 m14_113 m14_114 m1_22 q_Mpr_step ⟨Nat.le_of_ble_eq_true rfl, Nat.le_of_ble_eq_true rfl⟩ hl.1 rfl (Nat.le_of_ble_eq_true rfl) d_Mo_goOn_238 ⟨Nat.le_of_ble_eq_true rfl, Nat.le_of_ble_eq_true rfl⟩) hw hA (fun p62 H locs hp62 hw => ?_)
              obtain ⟨qf60, qa61, rfl, e64, e65, e66, e67, e68, e69, e70⟩ := hp62
              replace e64 : (qf60 1).toInt = ((QF_12 p0.toNatClampNeg) 1).toInt := e64
              replace e65 : (qf60 6).toInt = ((QF_12 p0.toNatClampNeg) 6).toInt := e65
              replace e66 : (qf60 7).toInt = ((QF_12 p0.toNatClampNeg) 7).toInt := e66
              replace e67 : (qf60 21).toInt = ((QF_12 p0.toNatClampNeg) 21).toInt := e67
              replace e68 : (qf60 23).toInt = ((QF_12 p0.toNatClampNeg) 23).toInt := e68
              replace e69 : (qf60 24).toInt = ((QF_12 p0.toNatClampNeg) 24).toInt := e69
              replace e70 : RzO (qf60 2).toInt (RuZ X9 K9 (PG j9).ca qa61 ((PG j9).cf 55).toInt ((PG j9).cf 38).toInt st9 (qf60 14).toInt (qf60 11).toInt (qf60 10).toInt (qf60 12).toInt (qf60 13).toInt (qf60 5).toInt (qf60 4).toInt (rkN ((QF_12 p0.toNatClampNeg) 4).toInt ((QF_12 p0.toNatClampNeg) 14).toInt (v8 : Int) (z57.toInt - 1))) := e70
              have hrz := e70
              replace hw : pw D A s.heap H locs [wd_Mo cs mo mr (fun _ => none) mf_12 md_12 (gMo PG hq), fo 13 (fPr cs hq qr QO_12 QF_12 QA_12) p0.toNatClampNeg, fo 8 (fPg cs PG) j9, wd_Mpr cs (hq p0.toNatClampNeg) (qr p0.toNatClampNeg) (fun k => if k = 0 then (some (PG j9).h) else none) qf60 qa61 (fun _ _ => none), wdP cs (PG j9).h (PG j9).r (PG j9).g (PG j9).tf (PG j9).ta (PG j9).pf (PG j9).na (PG j9).ma (PG j9).wa (PG j9).cf (PG j9).ca (PG j9).ef (PG j9).ea (PG j9).xf (PG j9).xa] := hw
              have hw : pw D A s.heap _ _ [wd_Mo cs mo mr (fun _ => none) mf_12 md_12 (gMo PG hq), fo 8 (fPg cs PG) j9, wdP cs (PG j9).h (PG j9).r (PG j9).g (PG j9).tf (PG j9).ta (PG j9).pf (PG j9).na (PG j9).ma (PG j9).wa (PG j9).cf (PG j9).ca (PG j9).ef (PG j9).ea (PG j9).xf (PG j9).xa, fo 13 (fPr cs hq qr QO_12 QF_12 QA_12) p0.toNatClampNeg, wd_Mpr cs (hq p0.toNatClampNeg) (qr p0.toNatClampNeg) (fun k => if k = 0 then (some (PG j9).h) else none) qf60 qa61 (fun _ _ => none)] := hw.sub [0, 2, 4, 1, 3] rfl rfl
              have hw := fpr_in (pr := [wd_Mo cs mo mr (fun _ => none) mf_12 md_12 (gMo PG hq), fo 8 (fPg cs PG) j9, wdP cs (PG j9).h (PG j9).r (PG j9).g (PG j9).tf (PG j9).ta (PG j9).pf (PG j9).na (PG j9).ma (PG j9).wa (PG j9).cf (PG j9).ca (PG j9).ef (PG j9).ea (PG j9).xf (PG j9).xa]) hw hi20
              obtain ⟨QO71, hu_QO71⟩ : ∃ y : Nat → Option Nat, y = va_up QO_12 p0.toNatClampNeg ((fun k => if k = 0 then (some (PG j9).h) else none) 0) := ⟨_, rfl⟩
              obtain ⟨QF72, hu_QF72⟩ : ∃ y : Nat → Nat → Int32, y = va_up QF_12 p0.toNatClampNeg qf60 := ⟨_, rfl⟩
              obtain ⟨QA73, hu_QA73⟩ : ∃ y : Nat → Nat → Nat → Int32, y = va_up QA_12 p0.toNatClampNeg qa61 := ⟨_, rfl⟩
              have hw : pw D A s.heap _ _ [wd_Mo cs mo mr (fun _ => none) mf_12 md_12 (gMo PG hq), fo 8 (fPg cs PG) j9, wdP cs (PG j9).h (PG j9).r (PG j9).g (PG j9).tf (PG j9).ta (PG j9).pf (PG j9).na (PG j9).ma (PG j9).wa (PG j9).cf (PG j9).ca (PG j9).ef (PG j9).ea (PG j9).xf (PG j9).xa, fm 13 (fPr cs hq qr QO71 QF72 QA73)] := (by rw [hu_QO71, hu_QF72, hu_QA73]; exact hw)
              have hpr : PrA PG (va_up RR p0.toNatClampNeg (R_12 - 1)) QO71 QF72 QA73 := (by rw [hu_QO71, hu_QF72, hu_QA73]; exact PrA.upR2 hpr hi20 (psr_tx (j := j9) hj9 (show _ = some _ from rfl) h61 (show (0 ≤ (qf60 1).toInt ∧ (qf60 1).toInt ≤ 1) ∧ (0 ≤ (qf60 21).toInt ∧ (qf60 21).toInt ≤ 4) ∧ (0 ≤ (qf60 23).toInt ∧ (qf60 23).toInt ≤ 4) ∧ (0 ≤ (qf60 24).toInt ∧ (qf60 24).toInt ≤ 1000000) ∧ (0 ≤ (qf60 6).toInt ∧ (qf60 6).toInt ≤ 3) ∧ (0 ≤ (qf60 7).toInt ∧ (qf60 7).toInt ≤ 1) from by first | with_reducible rfl | with_reducible assumption | omega) (show (qf60 1).toInt = 1 from by first | exact oz_e863b17997 e64 hg1.1 | omega) (by omega) (fun q8 => PsT.mk hen (hrz q8) h59 (by have q6 := hrk; rw [← hpe] at q6; omega) (fun m9 v9 c9 a9 b9 d9 e9 f9 => by have q7 : rkN (qf60 4).toInt m9 v9 c9 < rkN _ _ _ _ := f9; unfold rkN at q7; show (qf60 24).toInt + (qf60 4).toInt ≤ 100; omega) (show (qf60 7).toInt = 0 from by first | with_reducible rfl | with_reducible assumption | omega))) (show (qf60 1).toInt = (QF_12 p0.toNatClampNeg 1).toInt from by first | exact oz_1811ac7fe4 e64 | omega) (show (QF_12 p0.toNatClampNeg 6).toInt ≤ (qf60 6).toInt from by first | exact oz_f9b42d1b56 e65 | omega))
              have hqk1_QF72 : (QF72 p0.toNatClampNeg 1).toInt = (qf60 1).toInt := (by rw [hu_QF72, va_up_s]; try rfl)
              have hqk2_QF72 : (QF72 p0.toNatClampNeg 2).toInt = (qf60 2).toInt := (by rw [hu_QF72, va_up_s]; try rfl)
              have hqk4_QF72 : (QF72 p0.toNatClampNeg 4).toInt = (qf60 4).toInt := (by rw [hu_QF72, va_up_s]; try rfl)
              have hqk7_QF72 : (QF72 p0.toNatClampNeg 7).toInt = (qf60 7).toInt := (by rw [hu_QF72, va_up_s]; try rfl)
              have hqk10_QF72 : (QF72 p0.toNatClampNeg 10).toInt = (qf60 10).toInt := (by rw [hu_QF72, va_up_s]; try rfl)
              have hqk11_QF72 : (QF72 p0.toNatClampNeg 11).toInt = (qf60 11).toInt := (by rw [hu_QF72, va_up_s]; try rfl)
              have hqk24_QF72 : (QF72 p0.toNatClampNeg 24).toInt = (qf60 24).toInt := (by rw [hu_QF72, va_up_s]; try rfl)
              have hw : pw D A s.heap _ _ [wd_Mo cs mo mr (fun _ => none) mf_12 md_12 (gMo PG hq), fm 13 (fPr cs hq qr QO71 QF72 QA73), fo 8 (fPg cs PG) j9, wdP cs (PG j9).h (PG j9).r (PG j9).g (PG j9).tf (PG j9).ta (PG j9).pf (PG j9).na (PG j9).ma (PG j9).wa (PG j9).cf (PG j9).ca (PG j9).ef (PG j9).ea (PG j9).xf (PG j9).xa] := hw.sub [0, 3, 1, 2] rfl rfl
              have hw : pw D A s.heap _ _ [wd_Mo cs mo mr (fun _ => none) mf_12 md_12 (gMo PG hq), fm 13 (fPr cs hq qr QO71 QF72 QA73), fm 8 (fPg cs PG)] := fm_back (pr := [wd_Mo cs mo mr (fun _ => none) mf_12 md_12 (gMo PG hq), fm 13 (fPr cs hq qr QO71 QF72 QA73)]) (T := fPg cs PG) hw hj9
              exact J241 mf_12 md_12 QO71 QF72 QA73 (R_12 - 1) x12_3 x12_4 _ _ ls (show PrA PG (va_up RR p0.toNatClampNeg (R_12 - 1)) QO71 QF72 QA73 from hpr) (show (mf_12 0).toInt = (mf 0).toInt from by first | exact k12_1 | omega) (show (mf_12 2).toInt = (mf 2).toInt from by first | exact k12_2 | omega) (show (mf_12 3).toInt = (mf 3).toInt from by first | exact k12_3 | omega) (show (mf_12 7).toInt = (mf 7).toInt from by first | exact k12_4 | omega) (show (mf_12 8).toInt = (mf 8).toInt from by first | exact k12_5 | omega) (show (mf_12 10).toInt = (mf 10).toInt from by first | exact k12_6 | omega) (show x12_3.toInt = x12_3.toInt from rfl) (show 0 ≤ x12_4.toInt from by first | exact k12_9 | omega) (show x12_4.toInt ≤ 1 from by first | exact k12_10 | omega) (show (R_12 - 1) + x12_4.toInt ≤ R_12 from by first | exact oz_3985e2c510 k12_10 | omega) (show (R_12 - 1) ≤ R_12 from by first | exact oz_f81ab12e42 | omega) (show 1 ≤ x12_4.toInt from by first | exact oz_70c2bdf1b6 k12_9 nc3 | omega) hw (lv_sub hl [3, 4, 5, 6, 7] rfl)
            · have nc55 : z46.toInt = (16 : Int) := (i_eq (x := z46) (y := 16)).mp c55
              refine lv_aload_n S.x S.b d_Mo_goOn_123 rfl (lv_at hl 5 rfl) ?_
              have ho16 : ((PG j9).ea 61 (3 * (QF_12 p0.toNatClampNeg 11).toInt).toNat).toInt = 16 := (by rw [← hz5]; omega); have hoa : ((PG j9).ea 61 (3 * (QF_12 p0.toNatClampNeg 11).toInt + 1).toNat).toInt = z50.toInt := (by rw [← hz6])
              refine lv_aload_n S.x S.b d_Mo_goOn_124 rfl (lv_at hl 5 rfl) ?_
              refine px_get S k_Mpr hT hw 2 0 7 (v := .int ((QF_12 p0.toNatClampNeg) 7)) rfl rfl rfl (by decide) m10_235 d_Mo_goOn_125 ?_
              refine lv_if_ne (tgt := 143) S.x S.b d_Mo_goOn_128 (by decide) (fun c74 => ?_) (fun c74 => ?_)
              · have nc74 : ¬ ((QF_12 p0.toNatClampNeg) 7).toInt = (0 : Int) := mt (i_eq (x := ((QF_12 p0.toNatClampNeg) 7)) (y := 0)).mpr c74
                refine lv_iconst (v := 1) S.x S.b d_Mo_goOn_143 (by decide) ?_
                refine lv_goto (tgt := 148) S.x S.b d_Mo_goOn_144 (by decide) ?_
                refine px_put S k_Mpr hT hw 2 0 7 rfl rfl (by decide) m10_235 rfl rfl rfl (Nat.le_of_ble_eq_true rfl) d_Mo_goOn_148 (w' := wd_Mpr cs (hq p0.toNatClampNeg) (qr p0.toNatClampNeg) (fun k => if k = 0 then (some (PG j9).h) else none) (upd (QF_12 p0.toNatClampNeg) 7 1) (QA_12 p0.toNatClampNeg) (fun _ _ => none)) (ps' := [wd_Mo cs mo mr (fun _ => none) mf_12 md_12 (gMo PG hq), fo 13 (fPr cs hq qr QO_12 QF_12 QA_12) p0.toNatClampNeg, wd_Mpr cs (hq p0.toNatClampNeg) (qr p0.toNatClampNeg) (fun k => if k = 0 then (some (PG j9).h) else none) (upd (QF_12 p0.toNatClampNeg) 7 1) (QA_12 p0.toNatClampNeg) (fun _ _ => none), fo 8 (fPg cs PG) j9, wdP cs (PG j9).h (PG j9).r (PG j9).g (PG j9).tf (PG j9).ta (PG j9).pf (PG j9).na (PG j9).ma (PG j9).wa (PG j9).cf (PG j9).ca (PG j9).ef (PG j9).ea (PG j9).xf (PG j9).xa]) rfl rfl (fun H locs hw => ?_)
                refine lv_aload_n S.x S.b d_Mo_goOn_151 rfl (lv_at hl 5 rfl) ?_
                have hw : pw D A s.heap _ _ [wd_Mo cs mo mr (fun _ => none) mf_12 md_12 (gMo PG hq), fo 13 (fPr cs hq qr QO_12 QF_12 QA_12) p0.toNatClampNeg, fo 8 (fPg cs PG) j9, wdP cs (PG j9).h (PG j9).r (PG j9).g (PG j9).tf (PG j9).ta (PG j9).pf (PG j9).na (PG j9).ma (PG j9).wa (PG j9).cf (PG j9).ca (PG j9).ef (PG j9).ea (PG j9).xf (PG j9).xa, wd_Mpr cs (hq p0.toNatClampNeg) (qr p0.toNatClampNeg) (fun k => if k = 0 then (some (PG j9).h) else none) (upd (QF_12 p0.toNatClampNeg) 7 1) (QA_12 p0.toNatClampNeg) (fun _ _ => none)] := hw.sub [0, 1, 3, 4, 2] rfl rfl
                refine px_calli (pr := [wd_Mo cs mo mr (fun _ => none) mf_12 md_12 (gMo PG hq), fo 13 (fPr cs hq qr QO_12 QF_12 QA_12) p0.toNatClampNeg, fo 8 (fPg cs PG) j9, wdP cs (PG j9).h (PG j9).r (PG j9).g (PG j9).tf (PG j9).ta (PG j9).pf (PG j9).na (PG j9).ma (PG j9).wa (PG j9).cf (PG j9).ca (PG j9).ef (PG j9).ea (PG j9).xf (PG j9).xa]) (px_runV (As := []) (rest := []) S (c_mqq_isGoing l D cs (hq p0.toNatClampNeg) (qr p0.toNatClampNeg) (fun _ _ => none) (fun k => if k = 0 then (some (PG j9).h) else none) (upd (QF_12 p0.toNatClampNeg) 7 1) (QA_12 p0.toNatClampNeg)    _) hT (pr := [wd_Mo cs mo mr (fun _ => none) mf_12 md_12 (gMo PG hq), fo 13 (fPr cs hq qr QO_12 QF_12 QA_12) p0.toNatClampNeg, fo 8 (fPg cs PG) j9, wdP cs (PG j9).h (PG j9).r (PG j9).g (PG j9).tf (PG j9).ta (PG j9).pf (PG j9).na (PG j9).ma (PG j9).wa (PG j9).cf (PG j9).ca (PG j9).ef (PG j9).ea (PG j9).xf (PG j9).xa]) (pcs := [wd_Mpr cs (hq p0.toNatClampNeg) (qr p0.toNatClampNeg) (fun k => if k = 0 then (some (PG j9).h) else none) (upd (QF_12 p0.toNatClampNeg) 7 1) (QA_12 p0.toNatClampNeg) (fun _ _ => none)]) hw px_X.tt (px_recv hT hw 4 0 rfl rfl rfl) m13_165 m13_162 m13_163 m13_164 m1_22 q_Mpr_isGoing ⟨Nat.le_of_ble_eq_true rfl, Nat.le_of_ble_eq_true rfl⟩ hl.1 rfl (Nat.le_of_ble_eq_true rfl) d_Mo_goOn_152 ⟨Nat.le_of_ble_eq_true rfl, Nat.le_of_ble_eq_true rfl⟩) hw hA (fun v76 p75 H locs hp75 hw => ?_)
                obtain ⟨rfl, e77, e78, e79⟩ := hp75
                replace e77 : 0 ≤ v76.toInt := e77
                replace e78 : v76.toInt ≤ 1 := e78
                replace e79 : IgV v76.toInt ((QF_12 p0.toNatClampNeg) 1).toInt ((QF_12 p0.toNatClampNeg) 2).toInt := e79
                have hig := e79
                replace hw : pw D A s.heap H locs [wd_Mo cs mo mr (fun _ => none) mf_12 md_12 (gMo PG hq), fo 13 (fPr cs hq qr QO_12 QF_12 QA_12) p0.toNatClampNeg, fo 8 (fPg cs PG) j9, wdP cs (PG j9).h (PG j9).r (PG j9).g (PG j9).tf (PG j9).ta (PG j9).pf (PG j9).na (PG j9).ma (PG j9).wa (PG j9).cf (PG j9).ca (PG j9).ef (PG j9).ea (PG j9).xf (PG j9).xa, wd_Mpr cs (hq p0.toNatClampNeg) (qr p0.toNatClampNeg) (fun k => if k = 0 then (some (PG j9).h) else none) (upd (QF_12 p0.toNatClampNeg) 7 1) (QA_12 p0.toNatClampNeg) (fun _ _ => none)] := hw
                have lv76 := Int32.le_toInt v76
                have uv76 := Int32.toInt_lt v76
                refine lv_if_eq (tgt := 168) S.x S.b d_Mo_goOn_155 (by decide) (fun c80 => ?_) (fun c80 => ?_)
                · have nc80 : v76.toInt = (0 : Int) := (i_eq (x := v76) (y := 0)).mp c80
                  refine lv_iconst (v := 1) S.x S.b d_Mo_goOn_168 (by decide) ?_
                  have hg3 := hig.elim (fun q8 => absurd q8.1 (by omega)) (fun q8 => q8.2)
                  refine lv_goto (tgt := 173) S.x S.b d_Mo_goOn_169 (by decide) ?_
                  refine lv_istore (lv' := [(4, .int 1), (7, .int z54), (6, .int z50), (5, .int z46), (0, .ref mo), (1, .int p0), (2, .ref (hq p0.toNatClampNeg)), (3, .int x12_3)]) S.x S.b d_Mo_goOn_173 hl (by decide) rfl (fun ls hl => ?_)
                  refine lv_aload_n S.x S.b d_Mo_goOn_175 rfl (lv_at hl 6 rfl) ?_
                  refine lv_iload S.x S.b d_Mo_goOn_176 (lv_at hl 0 rfl) ?_
                  refine lv_if_eq (tgt := 190) S.x S.b d_Mo_goOn_178 (by decide) (fun c81 => ?_) (fun c81 => ?_)
                  · exact absurd c81 (by decide)
                  ·
                    refine lv_aload_n S.x S.b d_Mo_goOn_181 rfl (lv_at hl 6 rfl) ?_
                    refine px_get S k_Mpr hT hw 4 0 11 (v := .int ((QF_12 p0.toNatClampNeg) 11)) rfl rfl rfl (by decide) m11_3 d_Mo_goOn_182 ?_
                    refine lv_iconst (v := 1) S.x S.b d_Mo_goOn_185 (by decide) ?_
                    refine lv_iadd S.x S.b d_Mo_goOn_186 ?_
                    have lr82 := Int32.le_toInt ((QF_12 p0.toNatClampNeg) 11)
                    have ur82 := Int32.toInt_lt ((QF_12 p0.toNatClampNeg) 11)
                    refine lv_topi (fun z83 ez83 => ?_)
                    have tz83 : z83.toInt = (((QF_12 p0.toNatClampNeg) 11).toInt + (1 : Int) + 2147483648) % 4294967296 - 2147483648 := by rw [ez83]; exact i_add ((QF_12 p0.toNatClampNeg) 11) 1
                    have lz83 := Int32.le_toInt z83
                    have uz83 := Int32.toInt_lt z83
                    try replace tz83 : z83.toInt = ((QF_12 p0.toNatClampNeg) 11).toInt + (1 : Int) := by omega
                    refine lv_goto (tgt := 194) S.x S.b d_Mo_goOn_187 (by decide) ?_
                    refine px_put S k_Mpr hT hw 4 0 11 rfl rfl (by decide) m11_3 rfl rfl rfl (Nat.le_of_ble_eq_true rfl) d_Mo_goOn_194 (w' := wd_Mpr cs (hq p0.toNatClampNeg) (qr p0.toNatClampNeg) (fun k => if k = 0 then (some (PG j9).h) else none) (upd (upd (QF_12 p0.toNatClampNeg) 7 1) 11 z83) (QA_12 p0.toNatClampNeg) (fun _ _ => none)) (ps' := [wd_Mo cs mo mr (fun _ => none) mf_12 md_12 (gMo PG hq), fo 13 (fPr cs hq qr QO_12 QF_12 QA_12) p0.toNatClampNeg, fo 8 (fPg cs PG) j9, wdP cs (PG j9).h (PG j9).r (PG j9).g (PG j9).tf (PG j9).ta (PG j9).pf (PG j9).na (PG j9).ma (PG j9).wa (PG j9).cf (PG j9).ca (PG j9).ef (PG j9).ea (PG j9).xf (PG j9).xa, wd_Mpr cs (hq p0.toNatClampNeg) (qr p0.toNatClampNeg) (fun k => if k = 0 then (some (PG j9).h) else none) (upd (upd (QF_12 p0.toNatClampNeg) 7 1) 11 z83) (QA_12 p0.toNatClampNeg) (fun _ _ => none)]) rfl rfl (fun H locs hw => ?_)
                    refine lv_aload_n S.x S.b d_Mo_goOn_197 rfl (lv_at hl 6 rfl) ?_
                    refine lv_aload_n S.x S.b d_Mo_goOn_198 rfl (lv_at hl 6 rfl) ?_
                    refine px_get S k_Mpr hT hw 4 0 7 (v := .int 1) rfl rfl rfl (by decide) m10_235 d_Mo_goOn_199 ?_
                    refine lv_if_eq (tgt := 214) S.x S.b d_Mo_goOn_202 (by decide) (fun c84 => ?_) (fun c84 => ?_)
                    · exact absurd c84 (by decide)
                    ·
                      refine lv_iload S.x S.b d_Mo_goOn_205 (lv_at hl 0 rfl) ?_
                      refine lv_if_ne (tgt := 214) S.x S.b d_Mo_goOn_207 (by decide) (fun c85 => ?_) (fun c85 => ?_)
                      ·
                        refine lv_iconst (v := 0) S.x S.b d_Mo_goOn_214 (by decide) ?_
                        refine px_put S k_Mpr hT hw 4 0 7 rfl rfl (by decide) m10_235 rfl rfl rfl (Nat.le_of_ble_eq_true rfl) d_Mo_goOn_215 (w' := wd_Mpr cs (hq p0.toNatClampNeg) (qr p0.toNatClampNeg) (fun k => if k = 0 then (some (PG j9).h) else none) (upd (upd (QF_12 p0.toNatClampNeg) 7 0) 11 z83) (QA_12 p0.toNatClampNeg) (fun _ _ => none)) (ps' := [wd_Mo cs mo mr (fun _ => none) mf_12 md_12 (gMo PG hq), fo 13 (fPr cs hq qr QO_12 QF_12 QA_12) p0.toNatClampNeg, fo 8 (fPg cs PG) j9, wdP cs (PG j9).h (PG j9).r (PG j9).g (PG j9).tf (PG j9).ta (PG j9).pf (PG j9).na (PG j9).ma (PG j9).wa (PG j9).cf (PG j9).ca (PG j9).ef (PG j9).ea (PG j9).xf (PG j9).xa, wd_Mpr cs (hq p0.toNatClampNeg) (qr p0.toNatClampNeg) (fun k => if k = 0 then (some (PG j9).h) else none) (upd (upd (QF_12 p0.toNatClampNeg) 7 0) 11 z83) (QA_12 p0.toNatClampNeg) (fun _ _ => none)]) rfl rfl (fun H locs hw => ?_)
                        refine lv_goto (tgt := 241) S.x S.b d_Mo_goOn_218 (by decide) ?_
                        have hw : pw D A s.heap _ _ [wd_Mo cs mo mr (fun _ => none) mf_12 md_12 (gMo PG hq), fo 8 (fPg cs PG) j9, wdP cs (PG j9).h (PG j9).r (PG j9).g (PG j9).tf (PG j9).ta (PG j9).pf (PG j9).na (PG j9).ma (PG j9).wa (PG j9).cf (PG j9).ca (PG j9).ef (PG j9).ea (PG j9).xf (PG j9).xa, fo 13 (fPr cs hq qr QO_12 QF_12 QA_12) p0.toNatClampNeg, wd_Mpr cs (hq p0.toNatClampNeg) (qr p0.toNatClampNeg) (fun k => if k = 0 then (some (PG j9).h) else none) (upd (upd (QF_12 p0.toNatClampNeg) 7 0) 11 z83) (QA_12 p0.toNatClampNeg) (fun _ _ => none)] := hw.sub [0, 2, 3, 1, 4] rfl rfl
                        have hw := fpr_in (pr := [wd_Mo cs mo mr (fun _ => none) mf_12 md_12 (gMo PG hq), fo 8 (fPg cs PG) j9, wdP cs (PG j9).h (PG j9).r (PG j9).g (PG j9).tf (PG j9).ta (PG j9).pf (PG j9).na (PG j9).ma (PG j9).wa (PG j9).cf (PG j9).ca (PG j9).ef (PG j9).ea (PG j9).xf (PG j9).xa]) hw hi20
                        obtain ⟨QO86, hu_QO86⟩ : ∃ y : Nat → Option Nat, y = va_up QO_12 p0.toNatClampNeg ((fun k => if k = 0 then (some (PG j9).h) else none) 0) := ⟨_, rfl⟩
                        obtain ⟨QF87, hu_QF87⟩ : ∃ y : Nat → Nat → Int32, y = va_up QF_12 p0.toNatClampNeg (upd (upd (QF_12 p0.toNatClampNeg) 7 0) 11 z83) := ⟨_, rfl⟩
                        obtain ⟨QA88, hu_QA88⟩ : ∃ y : Nat → Nat → Nat → Int32, y = va_up QA_12 p0.toNatClampNeg (QA_12 p0.toNatClampNeg) := ⟨_, rfl⟩
                        have hw : pw D A s.heap _ _ [wd_Mo cs mo mr (fun _ => none) mf_12 md_12 (gMo PG hq), fo 8 (fPg cs PG) j9, wdP cs (PG j9).h (PG j9).r (PG j9).g (PG j9).tf (PG j9).ta (PG j9).pf (PG j9).na (PG j9).ma (PG j9).wa (PG j9).cf (PG j9).ca (PG j9).ef (PG j9).ea (PG j9).xf (PG j9).xa, fm 13 (fPr cs hq qr QO86 QF87 QA88)] := (by rw [hu_QO86, hu_QF87, hu_QA88]; exact hw)
                        have hpr : PrA PG (va_up RR p0.toNatClampNeg (R_12 - 1)) QO86 QF87 QA88 := (by rw [hu_QO86, hu_QF87, hu_QA88]; exact PrA.upR2 hpr hi20 (psr_en (show (0 ≤ ((QF_12 p0.toNatClampNeg) 1).toInt ∧ ((QF_12 p0.toNatClampNeg) 1).toInt ≤ 1) ∧ (0 ≤ ((QF_12 p0.toNatClampNeg) 21).toInt ∧ ((QF_12 p0.toNatClampNeg) 21).toInt ≤ 4) ∧ (0 ≤ ((QF_12 p0.toNatClampNeg) 23).toInt ∧ ((QF_12 p0.toNatClampNeg) 23).toInt ≤ 4) ∧ (0 ≤ ((QF_12 p0.toNatClampNeg) 24).toInt ∧ ((QF_12 p0.toNatClampNeg) 24).toInt ≤ 1000000) ∧ (0 ≤ ((QF_12 p0.toNatClampNeg) 6).toInt ∧ ((QF_12 p0.toNatClampNeg) 6).toInt ≤ 3) ∧ (0 ≤ (0 : Int) ∧ (0 : Int) ≤ 1) from by first | with_reducible rfl | with_reducible assumption | omega) (show ((QF_12 p0.toNatClampNeg) 1).toInt = 1 from by first | exact oz_e213b53fb9 hg1.1 | omega) (by omega) (show ((QF_12 p0.toNatClampNeg) 2).toInt ≠ -2 from by first | with_reducible rfl | with_reducible assumption | omega)) (show ((QF_12 p0.toNatClampNeg) 1).toInt = (QF_12 p0.toNatClampNeg 1).toInt from by first | exact oz_507c05ca68 | omega) (show (QF_12 p0.toNatClampNeg 6).toInt ≤ ((QF_12 p0.toNatClampNeg) 6).toInt from by first | exact oz_1cb5f934a5 | omega))
                        have hqk1_QF87 : (QF87 p0.toNatClampNeg 1).toInt = ((QF_12 p0.toNatClampNeg) 1).toInt := (by rw [hu_QF87, va_up_s]; try rfl)
                        have hqk2_QF87 : (QF87 p0.toNatClampNeg 2).toInt = ((QF_12 p0.toNatClampNeg) 2).toInt := (by rw [hu_QF87, va_up_s]; try rfl)
                        have hqk4_QF87 : (QF87 p0.toNatClampNeg 4).toInt = ((QF_12 p0.toNatClampNeg) 4).toInt := (by rw [hu_QF87, va_up_s]; try rfl)
                        have hqk7_QF87 : (QF87 p0.toNatClampNeg 7).toInt = (0 : Int) := (by rw [hu_QF87, va_up_s]; try rfl)
                        have hqk10_QF87 : (QF87 p0.toNatClampNeg 10).toInt = ((QF_12 p0.toNatClampNeg) 10).toInt := (by rw [hu_QF87, va_up_s]; try rfl)
                        have hqk11_QF87 : (QF87 p0.toNatClampNeg 11).toInt = z83.toInt := (by rw [hu_QF87, va_up_s]; try rfl)
                        have hqk24_QF87 : (QF87 p0.toNatClampNeg 24).toInt = ((QF_12 p0.toNatClampNeg) 24).toInt := (by rw [hu_QF87, va_up_s]; try rfl)
                        have hw : pw D A s.heap _ _ [wd_Mo cs mo mr (fun _ => none) mf_12 md_12 (gMo PG hq), fm 13 (fPr cs hq qr QO86 QF87 QA88), fo 8 (fPg cs PG) j9, wdP cs (PG j9).h (PG j9).r (PG j9).g (PG j9).tf (PG j9).ta (PG j9).pf (PG j9).na (PG j9).ma (PG j9).wa (PG j9).cf (PG j9).ca (PG j9).ef (PG j9).ea (PG j9).xf (PG j9).xa] := hw.sub [0, 3, 1, 2] rfl rfl
                        have hw : pw D A s.heap _ _ [wd_Mo cs mo mr (fun _ => none) mf_12 md_12 (gMo PG hq), fm 13 (fPr cs hq qr QO86 QF87 QA88), fm 8 (fPg cs PG)] := fm_back (pr := [wd_Mo cs mo mr (fun _ => none) mf_12 md_12 (gMo PG hq), fm 13 (fPr cs hq qr QO86 QF87 QA88)]) (T := fPg cs PG) hw hj9
                        exact J241 mf_12 md_12 QO86 QF87 QA88 (R_12 - 1) x12_3 (1 : Int32) _ _ ls (show PrA PG (va_up RR p0.toNatClampNeg (R_12 - 1)) QO86 QF87 QA88 from hpr) (show (mf_12 0).toInt = (mf 0).toInt from by first | exact k12_1 | omega) (show (mf_12 2).toInt = (mf 2).toInt from by first | exact k12_2 | omega) (show (mf_12 3).toInt = (mf 3).toInt from by first | exact k12_3 | omega) (show (mf_12 7).toInt = (mf 7).toInt from by first | exact k12_4 | omega) (show (mf_12 8).toInt = (mf 8).toInt from by first | exact k12_5 | omega) (show (mf_12 10).toInt = (mf 10).toInt from by first | exact k12_6 | omega) (show x12_3.toInt = x12_3.toInt from rfl) (show 0 ≤ (1 : Int) from by first | decide | omega) (show (1 : Int) ≤ 1 from by first | decide | omega) (show (R_12 - 1) + (1 : Int) ≤ R_12 from by first | exact oz_9af69b5cb8 | omega) (show (R_12 - 1) ≤ R_12 from by first | exact oz_f81ab12e42 | omega) (show 1 ≤ x12_4.toInt from by first | exact oz_70c2bdf1b6 k12_9 nc3 | omega) hw (lv_sub hl [4, 5, 6, 7, 0] rfl)
                      · exact absurd c85 (by decide)
                · have nc80 : ¬ v76.toInt = (0 : Int) := mt (i_eq (x := v76) (y := 0)).mpr c80
                  refine lv_aload_n S.x S.b d_Mo_goOn_158 rfl (lv_at hl 3 rfl) ?_
                  have hg2 := hig.elim id (fun q8 => absurd q8.1 (by omega))
                  refine lv_iload_n S.x S.b d_Mo_goOn_159 rfl (lv_at hl 4 rfl) ?_
                  refine lv_iload S.x S.b d_Mo_goOn_160 (lv_at hl 1 rfl) ?_
                  have hw : pw D A s.heap _ _ [wd_Mo cs mo mr (fun _ => none) mf_12 md_12 (gMo PG hq), fo 8 (fPg cs PG) j9, wdP cs (PG j9).h (PG j9).r (PG j9).g (PG j9).tf (PG j9).ta (PG j9).pf (PG j9).na (PG j9).ma (PG j9).wa (PG j9).cf (PG j9).ca (PG j9).ef (PG j9).ea (PG j9).xf (PG j9).xa, fo 13 (fPr cs hq qr QO_12 QF_12 QA_12) p0.toNatClampNeg, wd_Mpr cs (hq p0.toNatClampNeg) (qr p0.toNatClampNeg) (fun k => if k = 0 then (some (PG j9).h) else none) (upd (QF_12 p0.toNatClampNeg) 7 1) (QA_12 p0.toNatClampNeg) (fun _ _ => none)] := hw.sub [0, 2, 3, 1, 4] rfl rfl
                  have hw := fpr_in (pr := [wd_Mo cs mo mr (fun _ => none) mf_12 md_12 (gMo PG hq), fo 8 (fPg cs PG) j9, wdP cs (PG j9).h (PG j9).r (PG j9).g (PG j9).tf (PG j9).ta (PG j9).pf (PG j9).na (PG j9).ma (PG j9).wa (PG j9).cf (PG j9).ca (PG j9).ef (PG j9).ea (PG j9).xf (PG j9).xa]) hw hi20
                  obtain ⟨QO89, hu_QO89⟩ : ∃ y : Nat → Option Nat, y = va_up QO_12 p0.toNatClampNeg ((fun k => if k = 0 then (some (PG j9).h) else none) 0) := ⟨_, rfl⟩
                  obtain ⟨QF90, hu_QF90⟩ : ∃ y : Nat → Nat → Int32, y = va_up QF_12 p0.toNatClampNeg (upd (QF_12 p0.toNatClampNeg) 7 1) := ⟨_, rfl⟩
                  obtain ⟨QA91, hu_QA91⟩ : ∃ y : Nat → Nat → Nat → Int32, y = va_up QA_12 p0.toNatClampNeg (QA_12 p0.toNatClampNeg) := ⟨_, rfl⟩
                  have hw : pw D A s.heap _ _ [wd_Mo cs mo mr (fun _ => none) mf_12 md_12 (gMo PG hq), fo 8 (fPg cs PG) j9, wdP cs (PG j9).h (PG j9).r (PG j9).g (PG j9).tf (PG j9).ta (PG j9).pf (PG j9).na (PG j9).ma (PG j9).wa (PG j9).cf (PG j9).ca (PG j9).ef (PG j9).ea (PG j9).xf (PG j9).xa, fm 13 (fPr cs hq qr QO89 QF90 QA91)] := (by rw [hu_QO89, hu_QF90, hu_QA91]; exact hw)
                  have hpay : PsT (PG j9) R_12 (upd (QF_12 p0.toNatClampNeg) 7 1) (QA_12 p0.toNatClampNeg) := (PsT.pay hpt (show ((QF_12 p0.toNatClampNeg) 5).toInt = (QF_12 p0.toNatClampNeg 5).toInt ∧ ((QF_12 p0.toNatClampNeg) 10).toInt = (QF_12 p0.toNatClampNeg 10).toInt ∧ ((QF_12 p0.toNatClampNeg) 11).toInt = (QF_12 p0.toNatClampNeg 11).toInt ∧ ((QF_12 p0.toNatClampNeg) 12).toInt = (QF_12 p0.toNatClampNeg 12).toInt ∧ ((QF_12 p0.toNatClampNeg) 13).toInt = (QF_12 p0.toNatClampNeg 13).toInt ∧ ((QF_12 p0.toNatClampNeg) 14).toInt = (QF_12 p0.toNatClampNeg 14).toInt ∧ ((QF_12 p0.toNatClampNeg) 24).toInt = (QF_12 p0.toNatClampNeg 24).toInt from by first | exact oz_4b2a01afc9 | omega) (show 0 ≤ ((QF_12 p0.toNatClampNeg) 4).toInt ∧ ((QF_12 p0.toNatClampNeg) 4).toInt ≤ (QF_12 p0.toNatClampNeg 4).toInt from by first | with_reducible rfl | with_reducible assumption | omega) ho16 (fun q8 => (show ((QF_12 p0.toNatClampNeg) 24).toInt + ((QF_12 p0.toNatClampNeg) 4).toInt ≤ 99 from by rw [hoa] at q8; have q7 := (h79.o (by omega)).2 (by rw [hoa]; exact q8); omega)))
                  have hpr : PrA PG (va_up RR p0.toNatClampNeg R_12) QO89 QF90 QA91 := (by rw [hu_QO89, hu_QF90, hu_QA91]; exact PrA.upR2 hpr hi20 (psr_tx (j := j9) hj9 (show _ = some _ from rfl) h61 (show (0 ≤ ((QF_12 p0.toNatClampNeg) 1).toInt ∧ ((QF_12 p0.toNatClampNeg) 1).toInt ≤ 1) ∧ (0 ≤ ((QF_12 p0.toNatClampNeg) 21).toInt ∧ ((QF_12 p0.toNatClampNeg) 21).toInt ≤ 4) ∧ (0 ≤ ((QF_12 p0.toNatClampNeg) 23).toInt ∧ ((QF_12 p0.toNatClampNeg) 23).toInt ≤ 4) ∧ (0 ≤ ((QF_12 p0.toNatClampNeg) 24).toInt ∧ ((QF_12 p0.toNatClampNeg) 24).toInt ≤ 1000000) ∧ (0 ≤ ((QF_12 p0.toNatClampNeg) 6).toInt ∧ ((QF_12 p0.toNatClampNeg) 6).toInt ≤ 3) ∧ (0 ≤ (1 : Int) ∧ (1 : Int) ≤ 1) from by first | with_reducible rfl | with_reducible assumption | omega) (show ((QF_12 p0.toNatClampNeg) 1).toInt = 1 from by first | exact oz_e213b53fb9 hg1.1 | omega) (by omega) (fun _ => hpay)) (show ((QF_12 p0.toNatClampNeg) 1).toInt = (QF_12 p0.toNatClampNeg 1).toInt from by first | exact oz_507c05ca68 | omega) (show (QF_12 p0.toNatClampNeg 6).toInt ≤ ((QF_12 p0.toNatClampNeg) 6).toInt from by first | exact oz_1cb5f934a5 | omega))
                  have hqk1_QF90 : (QF90 p0.toNatClampNeg 1).toInt = ((QF_12 p0.toNatClampNeg) 1).toInt := (by rw [hu_QF90, va_up_s]; try rfl)
                  have hqk2_QF90 : (QF90 p0.toNatClampNeg 2).toInt = ((QF_12 p0.toNatClampNeg) 2).toInt := (by rw [hu_QF90, va_up_s]; try rfl)
                  have hqk4_QF90 : (QF90 p0.toNatClampNeg 4).toInt = ((QF_12 p0.toNatClampNeg) 4).toInt := (by rw [hu_QF90, va_up_s]; try rfl)
                  have hqk7_QF90 : (QF90 p0.toNatClampNeg 7).toInt = (1 : Int) := (by rw [hu_QF90, va_up_s]; try rfl)
                  have hqk10_QF90 : (QF90 p0.toNatClampNeg 10).toInt = ((QF_12 p0.toNatClampNeg) 10).toInt := (by rw [hu_QF90, va_up_s]; try rfl)
                  have hqk11_QF90 : (QF90 p0.toNatClampNeg 11).toInt = ((QF_12 p0.toNatClampNeg) 11).toInt := (by rw [hu_QF90, va_up_s]; try rfl)
                  have hqk24_QF90 : (QF90 p0.toNatClampNeg 24).toInt = ((QF_12 p0.toNatClampNeg) 24).toInt := (by rw [hu_QF90, va_up_s]; try rfl)
                  have hqo : OqE (QO89 p0.toNatClampNeg) (PG j9).h := (by rw [hu_QO89, va_up_s]; exact rfl)
                  have hpo8 : (0 ≤ z50.toInt ∧ z50.toInt < 10) ∧ PoT (PG j9) ((va_up RR p0.toNatClampNeg R_12) p0.toNatClampNeg) z50.toInt (QF90 p0.toNatClampNeg) (QA91 p0.toNatClampNeg) := (by rw [va_up_s, hu_QF90, hu_QA91, va_up_s, va_up_s]; exact hpay.owc (by show ((PG j9).ea 61 (3 * ((QF_12 p0.toNatClampNeg) 11).toInt).toNat).toInt = 16; rw [show ((QF_12 p0.toNatClampNeg) 11).toInt = (QF_12 p0.toNatClampNeg 11).toInt by omega]; exact ho16) (by show ((PG j9).ea 61 (3 * ((QF_12 p0.toNatClampNeg) 11).toInt + 1).toNat).toInt = _; rw [show ((QF_12 p0.toNatClampNeg) 11).toInt = (QF_12 p0.toNatClampNeg 11).toInt by omega]; exact hoa) (fun q8 => (show ((QF_12 p0.toNatClampNeg) 24).toInt + ((QF_12 p0.toNatClampNeg) 4).toInt ≤ 99 from by have q7 := (h79.o (by omega)).2 (by rw [hoa]; exact q8); omega)))
                  have hpo81 := hpo8.1
                  have hw : pw D A s.heap _ _ [wd_Mo cs mo mr (fun _ => none) mf_12 md_12 (gMo PG hq), fm 13 (fPr cs hq qr QO89 QF90 QA91), fo 8 (fPg cs PG) j9, wdP cs (PG j9).h (PG j9).r (PG j9).g (PG j9).tf (PG j9).ta (PG j9).pf (PG j9).na (PG j9).ma (PG j9).wa (PG j9).cf (PG j9).ca (PG j9).ef (PG j9).ea (PG j9).xf (PG j9).xa] := hw.sub [0, 3, 1, 2] rfl rfl
                  have hw : pw D A s.heap _ _ [wd_Mo cs mo mr (fun _ => none) mf_12 md_12 (gMo PG hq), fm 13 (fPr cs hq qr QO89 QF90 QA91), fm 8 (fPg cs PG)] := fm_back (pr := [wd_Mo cs mo mr (fun _ => none) mf_12 md_12 (gMo PG hq), fm 13 (fPr cs hq qr QO89 QF90 QA91)]) (T := fPg cs PG) hw hj9
                  refine px_calli (pr := []) (px_runV (As := [.int p0, .int z50]) (rest := []) S (c_mo_ownCall l D cs (va_up RR p0.toNatClampNeg R_12) j9 mo mr mf_12 md_12 hq qr QO89 QF90 QA91 PG p0 z50  (show 0 ≤ p0.toInt from by first | exact g0 | omega) (show p0.toInt < 13 from by first | exact g1 | omega) (show 0 ≤ (mf_12 7).toInt from by first | exact oz_f3ebed1ad0 k12_4 g2 | omega) (show (mf_12 7).toInt ≤ 100 from by first | exact oz_b2552476a0 k12_4 g3 | omega) (show 0 ≤ (mf_12 8).toInt from by first | exact oz_f3ebed1ad0 k12_5 g4 | omega) (show (mf_12 8).toInt ≤ 512 from by first | exact oz_5926d5b85b k12_5 g5 | omega) (show 0 ≤ z50.toInt from by first | exact hpo81.1 | omega) (show z50.toInt < 10 from by first | exact hpo81.2 | omega) (show (QF90 p0.toNatClampNeg 1).toInt = 1 from by first | exact oz_e863b17997 hqk1_QF90 hg1.1 | omega) hpr hpg hpo8.2 _) hT (pr := []) (pcs := [wd_Mo cs mo mr (fun _ => none) mf_12 md_12 (gMo PG hq), fm 13 (fPr cs hq qr QO89 QF90 QA91), fm 8 (fPg cs PG)]) hw px_X.tt (px_recv hT hw 0 0 rfl rfl rfl) m14_106 m14_103 m14_105 ms_16_9 m1_20 q_Mo_ownCall ⟨Nat.le_of_ble_eq_true rfl, Nat.le_of_ble_eq_true rfl⟩ hl.1 rfl (Nat.le_of_ble_eq_true rfl) d_Mo_goOn_162 ⟨Nat.le_of_ble_eq_true rfl, Nat.le_of_ble_eq_true rfl⟩) hw hA (fun v103 p102 H locs hp102 hw => ?_)
                  obtain ⟨mf97, md98, QO99, QF100, QA101, rfl, e104, e105, e106, e107, e108, e109, e110, e111, e112, e113⟩ := hp102
                  replace e104 : 0 ≤ v103.toInt := e104
                  replace e105 : v103.toInt ≤ 1 := e105
                  replace e106 : OwQ v103.toInt (PrA PG (va_up RR p0.toNatClampNeg R_12) QO99 QF100 QA101) (PrX PG (va_up RR p0.toNatClampNeg R_12) QO99 QF100 QA101 p0.toNatClampNeg ∧ PdT (PG j9) ((va_up RR p0.toNatClampNeg R_12) p0.toNatClampNeg) (QF100 p0.toNatClampNeg) (QA101 p0.toNatClampNeg)) := e106
                  have hoq := e106
                  replace e107 : KpO QO89 QF90 QO99 QF100 p0.toNatClampNeg := e107
                  have hko := e107
                  have hko2 := hko.2
                  replace e108 : (mf97 0).toInt = (mf_12 0).toInt := e108
                  replace e109 : (mf97 2).toInt = (mf_12 2).toInt := e109
                  replace e110 : (mf97 3).toInt = (mf_12 3).toInt := e110
                  replace e111 : (mf97 7).toInt = (mf_12 7).toInt := e111
                  replace e112 : (mf97 8).toInt = (mf_12 8).toInt := e112
                  replace e113 : (mf97 10).toInt = (mf_12 10).toInt := e113
                  replace hw : pw D A s.heap H locs [wd_Mo cs mo mr (fun _ => none) mf97 md98 (gMo PG hq), fm 13 (fPr cs hq qr QO99 QF100 QA101), fm 8 (fPg cs PG)] := hw
                  have lv103 := Int32.le_toInt v103
                  have uv103 := Int32.toInt_lt v103
                  refine lv_if_eq (tgt := 172) S.x S.b d_Mo_goOn_165 (by decide) (fun c114 => ?_) (fun c114 => ?_)
                  · have nc114 : v103.toInt = (0 : Int) := (i_eq (x := v103) (y := 0)).mp c114
                    refine lv_iconst (v := 0) S.x S.b d_Mo_goOn_172 (by decide) ?_
                    have hpr := hoq.elim (fun q8 => q8.2) (fun q8 => absurd q8.1 (by omega))
                    refine lv_istore (lv' := [(4, .int 0), (7, .int z54), (6, .int z50), (5, .int z46), (0, .ref mo), (1, .int p0), (2, .ref (hq p0.toNatClampNeg)), (3, .int x12_3)]) S.x S.b d_Mo_goOn_173 hl (by decide) rfl (fun ls hl => ?_)
                    refine lv_aload_n S.x S.b d_Mo_goOn_175 rfl (lv_at hl 6 rfl) ?_
                    refine lv_iload S.x S.b d_Mo_goOn_176 (lv_at hl 0 rfl) ?_
                    refine lv_if_eq (tgt := 190) S.x S.b d_Mo_goOn_178 (by decide) (fun c115 => ?_) (fun c115 => ?_)
                    ·
                      refine lv_aload_n S.x S.b d_Mo_goOn_190 rfl (lv_at hl 6 rfl) ?_
                      have hw : pw D A s.heap _ _ [wd_Mo cs mo mr (fun _ => none) mf97 md98 (gMo PG hq), fm 8 (fPg cs PG), fm 13 (fPr cs hq qr QO99 QF100 QA101)] := hw.sub [0, 2, 1] rfl rfl
                      have hc116 := cl_nat (x := p0) (by first | exact g0 | omega)
                      have hi116 : p0.toNatClampNeg < 13 := by first | exact hi20 | omega
                      have hw : pw D A s.heap _ _ [wd_Mo cs mo mr (fun _ => none) mf97 md98 (gMo PG hq), fm 8 (fPg cs PG), fo 13 (fPr cs hq qr QO99 QF100 QA101) p0.toNatClampNeg, wd_Mpr cs (hq p0.toNatClampNeg) (qr p0.toNatClampNeg) (fun _ => QO99 p0.toNatClampNeg) (QF100 p0.toNatClampNeg) (QA101 p0.toNatClampNeg) (fun _ _ => none)] := fm_out (pr := [wd_Mo cs mo mr (fun _ => none) mf97 md98 (gMo PG hq), fm 8 (fPg cs PG)]) (T := fPr cs hq qr QO99 QF100 QA101) hw hi116
                      have hps116 := hpr.1 p0.toNatClampNeg hi116
                      have hpb116 := hps116.1
                      unfold PsB at hpb116
                      refine px_get S k_Mpr hT hw 3 0 11 (v := .int ((QF100 p0.toNatClampNeg) 11)) rfl rfl rfl (by decide) m11_3 d_Mo_goOn_191 ?_
                      refine px_put S k_Mpr hT hw 3 0 11 rfl rfl (by decide) m11_3 rfl rfl rfl (Nat.le_of_ble_eq_true rfl) d_Mo_goOn_194 (w' := wd_Mpr cs (hq p0.toNatClampNeg) (qr p0.toNatClampNeg) (fun _ => QO99 p0.toNatClampNeg) (upd (QF100 p0.toNatClampNeg) 11 ((QF100 p0.toNatClampNeg) 11)) (QA101 p0.toNatClampNeg) (fun _ _ => none)) (ps' := [wd_Mo cs mo mr (fun _ => none) mf97 md98 (gMo PG hq), fm 8 (fPg cs PG), fo 13 (fPr cs hq qr QO99 QF100 QA101) p0.toNatClampNeg, wd_Mpr cs (hq p0.toNatClampNeg) (qr p0.toNatClampNeg) (fun _ => QO99 p0.toNatClampNeg) (upd (QF100 p0.toNatClampNeg) 11 ((QF100 p0.toNatClampNeg) 11)) (QA101 p0.toNatClampNeg) (fun _ _ => none)]) rfl rfl (fun H locs hw => ?_)
                      refine lv_aload_n S.x S.b d_Mo_goOn_197 rfl (lv_at hl 6 rfl) ?_
                      refine lv_aload_n S.x S.b d_Mo_goOn_198 rfl (lv_at hl 6 rfl) ?_
                      refine px_get S k_Mpr hT hw 3 0 7 (v := .int ((QF100 p0.toNatClampNeg) 7)) rfl rfl rfl (by decide) m10_235 d_Mo_goOn_199 ?_
                      refine lv_if_eq (tgt := 214) S.x S.b d_Mo_goOn_202 (by decide) (fun c117 => ?_) (fun c117 => ?_)
                      · have nc117 : ((QF100 p0.toNatClampNeg) 7).toInt = (0 : Int) := (i_eq (x := ((QF100 p0.toNatClampNeg) 7)) (y := 0)).mp c117
                        exfalso
                        omega
                      · have nc117 : ¬ ((QF100 p0.toNatClampNeg) 7).toInt = (0 : Int) := mt (i_eq (x := ((QF100 p0.toNatClampNeg) 7)) (y := 0)).mpr c117
                        refine lv_iload S.x S.b d_Mo_goOn_205 (lv_at hl 0 rfl) ?_
                        refine lv_if_ne (tgt := 214) S.x S.b d_Mo_goOn_207 (by decide) (fun c118 => ?_) (fun c118 => ?_)
                        · exact absurd c118 (by decide)
                        ·
                          refine lv_iconst (v := 1) S.x S.b d_Mo_goOn_210 (by decide) ?_
                          refine lv_goto (tgt := 215) S.x S.b d_Mo_goOn_211 (by decide) ?_
                          refine px_put S k_Mpr hT hw 3 0 7 rfl rfl (by decide) m10_235 rfl rfl rfl (Nat.le_of_ble_eq_true rfl) d_Mo_goOn_215 (w' := wd_Mpr cs (hq p0.toNatClampNeg) (qr p0.toNatClampNeg) (fun _ => QO99 p0.toNatClampNeg) (upd (upd (QF100 p0.toNatClampNeg) 7 1) 11 ((QF100 p0.toNatClampNeg) 11)) (QA101 p0.toNatClampNeg) (fun _ _ => none)) (ps' := [wd_Mo cs mo mr (fun _ => none) mf97 md98 (gMo PG hq), fm 8 (fPg cs PG), fo 13 (fPr cs hq qr QO99 QF100 QA101) p0.toNatClampNeg, wd_Mpr cs (hq p0.toNatClampNeg) (qr p0.toNatClampNeg) (fun _ => QO99 p0.toNatClampNeg) (upd (upd (QF100 p0.toNatClampNeg) 7 1) 11 ((QF100 p0.toNatClampNeg) 11)) (QA101 p0.toNatClampNeg) (fun _ _ => none)]) rfl rfl (fun H locs hw => ?_)
                          refine lv_goto (tgt := 241) S.x S.b d_Mo_goOn_218 (by decide) ?_
                          have hw := fpr_in (pr := [wd_Mo cs mo mr (fun _ => none) mf97 md98 (gMo PG hq), fm 8 (fPg cs PG)]) hw hi116
                          obtain ⟨QO119, hu_QO119⟩ : ∃ y : Nat → Option Nat, y = va_up QO99 p0.toNatClampNeg ((fun _ => QO99 p0.toNatClampNeg) 0) := ⟨_, rfl⟩
                          obtain ⟨QF120, hu_QF120⟩ : ∃ y : Nat → Nat → Int32, y = va_up QF100 p0.toNatClampNeg (upd (upd (QF100 p0.toNatClampNeg) 7 1) 11 ((QF100 p0.toNatClampNeg) 11)) := ⟨_, rfl⟩
                          obtain ⟨QA121, hu_QA121⟩ : ∃ y : Nat → Nat → Nat → Int32, y = va_up QA101 p0.toNatClampNeg (QA101 p0.toNatClampNeg) := ⟨_, rfl⟩
                          have hw : pw D A s.heap _ _ [wd_Mo cs mo mr (fun _ => none) mf97 md98 (gMo PG hq), fm 8 (fPg cs PG), fm 13 (fPr cs hq qr QO119 QF120 QA121)] := (by rw [hu_QO119, hu_QF120, hu_QA121]; exact hw)
                          have hpr : PrA PG (va_up RR p0.toNatClampNeg R_12) QO119 QF120 QA121 := (by rw [hu_QO119, hu_QF120, hu_QA121]; exact PrA.upR2 hpr hi116 (PsR.kf (by have q8 := hps116; rw [va_up_s] at q8; exact q8) (show (0 ≤ ((QF100 p0.toNatClampNeg) 1).toInt ∧ ((QF100 p0.toNatClampNeg) 1).toInt ≤ 1) ∧ (0 ≤ ((QF100 p0.toNatClampNeg) 21).toInt ∧ ((QF100 p0.toNatClampNeg) 21).toInt ≤ 4) ∧ (0 ≤ ((QF100 p0.toNatClampNeg) 23).toInt ∧ ((QF100 p0.toNatClampNeg) 23).toInt ≤ 4) ∧ (0 ≤ ((QF100 p0.toNatClampNeg) 24).toInt ∧ ((QF100 p0.toNatClampNeg) 24).toInt ≤ 1000000) ∧ (0 ≤ ((QF100 p0.toNatClampNeg) 6).toInt ∧ ((QF100 p0.toNatClampNeg) 6).toInt ≤ 3) ∧ (0 ≤ (1 : Int) ∧ (1 : Int) ≤ 1) from by first | with_reducible rfl | with_reducible assumption | omega) (show (((QF100 p0.toNatClampNeg) 1).toInt = (QF100 p0.toNatClampNeg 1).toInt ∧ ((QF100 p0.toNatClampNeg) 4).toInt = (QF100 p0.toNatClampNeg 4).toInt ∧ ((QF100 p0.toNatClampNeg) 5).toInt = (QF100 p0.toNatClampNeg 5).toInt ∧ (1 : Int) = (QF100 p0.toNatClampNeg 7).toInt ∧ ((QF100 p0.toNatClampNeg) 10).toInt = (QF100 p0.toNatClampNeg 10).toInt ∧ ((QF100 p0.toNatClampNeg) 11).toInt = (QF100 p0.toNatClampNeg 11).toInt) ∧ ((QF100 p0.toNatClampNeg) 12).toInt = (QF100 p0.toNatClampNeg 12).toInt ∧ ((QF100 p0.toNatClampNeg) 13).toInt = (QF100 p0.toNatClampNeg 13).toInt ∧ ((QF100 p0.toNatClampNeg) 14).toInt = (QF100 p0.toNatClampNeg 14).toInt ∧ ((QF100 p0.toNatClampNeg) 24).toInt = (QF100 p0.toNatClampNeg 24).toInt from by first | with_reducible rfl | with_reducible assumption | omega) (show ((QF100 p0.toNatClampNeg) 2).toInt = (QF100 p0.toNatClampNeg 2).toInt from by first | exact oz_507c05ca68 | omega)) (show ((QF100 p0.toNatClampNeg) 1).toInt = (QF100 p0.toNatClampNeg 1).toInt from by first | exact oz_507c05ca68 | omega) (show (QF100 p0.toNatClampNeg 6).toInt ≤ ((QF100 p0.toNatClampNeg) 6).toInt from by first | exact oz_1cb5f934a5 | omega))
                          have hqk1_QF120 : (QF120 p0.toNatClampNeg 1).toInt = ((QF100 p0.toNatClampNeg) 1).toInt := (by rw [hu_QF120, va_up_s]; try rfl)
                          have hqk2_QF120 : (QF120 p0.toNatClampNeg 2).toInt = ((QF100 p0.toNatClampNeg) 2).toInt := (by rw [hu_QF120, va_up_s]; try rfl)
                          have hqk4_QF120 : (QF120 p0.toNatClampNeg 4).toInt = ((QF100 p0.toNatClampNeg) 4).toInt := (by rw [hu_QF120, va_up_s]; try rfl)
                          have hqk7_QF120 : (QF120 p0.toNatClampNeg 7).toInt = (1 : Int) := (by rw [hu_QF120, va_up_s]; try rfl)
                          have hqk10_QF120 : (QF120 p0.toNatClampNeg 10).toInt = ((QF100 p0.toNatClampNeg) 10).toInt := (by rw [hu_QF120, va_up_s]; try rfl)
                          have hqk11_QF120 : (QF120 p0.toNatClampNeg 11).toInt = ((QF100 p0.toNatClampNeg) 11).toInt := (by rw [hu_QF120, va_up_s]; try rfl)
                          have hqk24_QF120 : (QF120 p0.toNatClampNeg 24).toInt = ((QF100 p0.toNatClampNeg) 24).toInt := (by rw [hu_QF120, va_up_s]; try rfl)
                          have hw : pw D A s.heap _ _ [wd_Mo cs mo mr (fun _ => none) mf97 md98 (gMo PG hq), fm 13 (fPr cs hq qr QO119 QF120 QA121), fm 8 (fPg cs PG)] := hw.sub [0, 2, 1] rfl rfl
                          exact J241 mf97 md98 QO119 QF120 QA121 R_12 x12_3 (0 : Int32) _ _ ls (show PrA PG (va_up RR p0.toNatClampNeg R_12) QO119 QF120 QA121 from hpr) (show (mf97 0).toInt = (mf 0).toInt from by first | exact oz_1687f4cc65 k12_1 e108 | omega) (show (mf97 2).toInt = (mf 2).toInt from by first | exact oz_1687f4cc65 k12_2 e109 | omega) (show (mf97 3).toInt = (mf 3).toInt from by first | exact oz_1687f4cc65 k12_3 e110 | omega) (show (mf97 7).toInt = (mf 7).toInt from by first | exact oz_1687f4cc65 k12_4 e111 | omega) (show (mf97 8).toInt = (mf 8).toInt from by first | exact oz_1687f4cc65 k12_5 e112 | omega) (show (mf97 10).toInt = (mf 10).toInt from by first | exact oz_1687f4cc65 k12_6 e113 | omega) (show x12_3.toInt = x12_3.toInt from rfl) (show 0 ≤ (0 : Int) from by first | decide | omega) (show (0 : Int) ≤ 1 from by first | decide | omega) (show R_12 + (0 : Int) ≤ R_12 from by first | exact oz_9a4b2c0a69 | omega) (show R_12 ≤ R_12 from by first | exact oz_1cb5f934a5 | omega) (show 1 ≤ x12_4.toInt from by first | exact oz_70c2bdf1b6 k12_9 nc3 | omega) hw (lv_sub hl [4, 5, 6, 7, 0] rfl)
                    · exact absurd c115 (by decide)
                  · have nc114 : ¬ v103.toInt = (0 : Int) := mt (i_eq (x := v103) (y := 0)).mpr c114
                    refine lv_iconst (v := 1) S.x S.b d_Mo_goOn_168 (by decide) ?_
                    obtain ⟨hpx, hpd⟩ := hoq.elim (fun q8 => absurd q8.1 (by omega)) (fun q8 => q8.2)
                    refine lv_goto (tgt := 173) S.x S.b d_Mo_goOn_169 (by decide) ?_
                    refine lv_istore (lv' := [(4, .int 1), (7, .int z54), (6, .int z50), (5, .int z46), (0, .ref mo), (1, .int p0), (2, .ref (hq p0.toNatClampNeg)), (3, .int x12_3)]) S.x S.b d_Mo_goOn_173 hl (by decide) rfl (fun ls hl => ?_)
                    refine lv_aload_n S.x S.b d_Mo_goOn_175 rfl (lv_at hl 6 rfl) ?_
                    refine lv_iload S.x S.b d_Mo_goOn_176 (lv_at hl 0 rfl) ?_
                    refine lv_if_eq (tgt := 190) S.x S.b d_Mo_goOn_178 (by decide) (fun c122 => ?_) (fun c122 => ?_)
                    · exact absurd c122 (by decide)
                    ·
                      refine lv_aload_n S.x S.b d_Mo_goOn_181 rfl (lv_at hl 6 rfl) ?_
                      have hw : pw D A s.heap _ _ [wd_Mo cs mo mr (fun _ => none) mf97 md98 (gMo PG hq), fm 8 (fPg cs PG), fm 13 (fPr cs hq qr QO99 QF100 QA101)] := hw.sub [0, 2, 1] rfl rfl
                      have hc123 := cl_nat (x := p0) (by first | exact g0 | omega)
                      have hi123 : p0.toNatClampNeg < 13 := by first | exact hi20 | omega
                      have hw : pw D A s.heap _ _ [wd_Mo cs mo mr (fun _ => none) mf97 md98 (gMo PG hq), fm 8 (fPg cs PG), fo 13 (fPr cs hq qr QO99 QF100 QA101) p0.toNatClampNeg, wd_Mpr cs (hq p0.toNatClampNeg) (qr p0.toNatClampNeg) (fun _ => QO99 p0.toNatClampNeg) (QF100 p0.toNatClampNeg) (QA101 p0.toNatClampNeg) (fun _ _ => none)] := fm_out (pr := [wd_Mo cs mo mr (fun _ => none) mf97 md98 (gMo PG hq), fm 8 (fPg cs PG)]) (T := fPr cs hq qr QO99 QF100 QA101) hw hi123
                      have hpb123 := hpx.2.2
                      unfold PsB at hpb123
                      refine px_get S k_Mpr hT hw 3 0 11 (v := .int ((QF100 p0.toNatClampNeg) 11)) rfl rfl rfl (by decide) m11_3 d_Mo_goOn_182 ?_
                      refine lv_iconst (v := 1) S.x S.b d_Mo_goOn_185 (by decide) ?_
                      refine lv_iadd S.x S.b d_Mo_goOn_186 ?_
                      have lr124 := Int32.le_toInt ((QF100 p0.toNatClampNeg) 11)
                      have ur124 := Int32.toInt_lt ((QF100 p0.toNatClampNeg) 11)
                      refine lv_topi (fun z125 ez125 => ?_)
                      have tz125 : z125.toInt = (((QF100 p0.toNatClampNeg) 11).toInt + (1 : Int) + 2147483648) % 4294967296 - 2147483648 := by rw [ez125]; exact i_add ((QF100 p0.toNatClampNeg) 11) 1
                      have lz125 := Int32.le_toInt z125
                      have uz125 := Int32.toInt_lt z125
                      try replace tz125 : z125.toInt = ((QF100 p0.toNatClampNeg) 11).toInt + (1 : Int) := by omega
                      refine lv_goto (tgt := 194) S.x S.b d_Mo_goOn_187 (by decide) ?_
                      refine px_put S k_Mpr hT hw 3 0 11 rfl rfl (by decide) m11_3 rfl rfl rfl (Nat.le_of_ble_eq_true rfl) d_Mo_goOn_194 (w' := wd_Mpr cs (hq p0.toNatClampNeg) (qr p0.toNatClampNeg) (fun _ => QO99 p0.toNatClampNeg) (upd (QF100 p0.toNatClampNeg) 11 z125) (QA101 p0.toNatClampNeg) (fun _ _ => none)) (ps' := [wd_Mo cs mo mr (fun _ => none) mf97 md98 (gMo PG hq), fm 8 (fPg cs PG), fo 13 (fPr cs hq qr QO99 QF100 QA101) p0.toNatClampNeg, wd_Mpr cs (hq p0.toNatClampNeg) (qr p0.toNatClampNeg) (fun _ => QO99 p0.toNatClampNeg) (upd (QF100 p0.toNatClampNeg) 11 z125) (QA101 p0.toNatClampNeg) (fun _ _ => none)]) rfl rfl (fun H locs hw => ?_)
                      refine lv_aload_n S.x S.b d_Mo_goOn_197 rfl (lv_at hl 6 rfl) ?_
                      refine lv_aload_n S.x S.b d_Mo_goOn_198 rfl (lv_at hl 6 rfl) ?_
                      refine px_get S k_Mpr hT hw 3 0 7 (v := .int ((QF100 p0.toNatClampNeg) 7)) rfl rfl rfl (by decide) m10_235 d_Mo_goOn_199 ?_
                      refine lv_if_eq (tgt := 214) S.x S.b d_Mo_goOn_202 (by decide) (fun c126 => ?_) (fun c126 => ?_)
                      · have nc126 : ((QF100 p0.toNatClampNeg) 7).toInt = (0 : Int) := (i_eq (x := ((QF100 p0.toNatClampNeg) 7)) (y := 0)).mp c126
                        refine lv_iconst (v := 0) S.x S.b d_Mo_goOn_214 (by decide) ?_
                        refine px_put S k_Mpr hT hw 3 0 7 rfl rfl (by decide) m10_235 rfl rfl rfl (Nat.le_of_ble_eq_true rfl) d_Mo_goOn_215 (w' := wd_Mpr cs (hq p0.toNatClampNeg) (qr p0.toNatClampNeg) (fun _ => QO99 p0.toNatClampNeg) (upd (upd (QF100 p0.toNatClampNeg) 7 0) 11 z125) (QA101 p0.toNatClampNeg) (fun _ _ => none)) (ps' := [wd_Mo cs mo mr (fun _ => none) mf97 md98 (gMo PG hq), fm 8 (fPg cs PG), fo 13 (fPr cs hq qr QO99 QF100 QA101) p0.toNatClampNeg, wd_Mpr cs (hq p0.toNatClampNeg) (qr p0.toNatClampNeg) (fun _ => QO99 p0.toNatClampNeg) (upd (upd (QF100 p0.toNatClampNeg) 7 0) 11 z125) (QA101 p0.toNatClampNeg) (fun _ _ => none)]) rfl rfl (fun H locs hw => ?_)
                        refine lv_goto (tgt := 241) S.x S.b d_Mo_goOn_218 (by decide) ?_
                        have hw := fpr_in (pr := [wd_Mo cs mo mr (fun _ => none) mf97 md98 (gMo PG hq), fm 8 (fPg cs PG)]) hw hi123
                        obtain ⟨QO127, hu_QO127⟩ : ∃ y : Nat → Option Nat, y = va_up QO99 p0.toNatClampNeg ((fun _ => QO99 p0.toNatClampNeg) 0) := ⟨_, rfl⟩
                        obtain ⟨QF128, hu_QF128⟩ : ∃ y : Nat → Nat → Int32, y = va_up QF100 p0.toNatClampNeg (upd (upd (QF100 p0.toNatClampNeg) 7 0) 11 z125) := ⟨_, rfl⟩
                        obtain ⟨QA129, hu_QA129⟩ : ∃ y : Nat → Nat → Nat → Int32, y = va_up QA101 p0.toNatClampNeg (QA101 p0.toNatClampNeg) := ⟨_, rfl⟩
                        have hw : pw D A s.heap _ _ [wd_Mo cs mo mr (fun _ => none) mf97 md98 (gMo PG hq), fm 8 (fPg cs PG), fm 13 (fPr cs hq qr QO127 QF128 QA129)] := (by rw [hu_QO127, hu_QF128, hu_QA129]; exact hw)
                        have hpr : PrA PG (va_up RR p0.toNatClampNeg (R_12 - 1)) QO127 QF128 QA129 := (by rw [hu_QO127, hu_QF128, hu_QA129]; exact PrX.inR hpx (psr_tx (j := j9) hj9 (hko.1.trans hqo) h61 (show (0 ≤ ((QF100 p0.toNatClampNeg) 1).toInt ∧ ((QF100 p0.toNatClampNeg) 1).toInt ≤ 1) ∧ (0 ≤ ((QF100 p0.toNatClampNeg) 21).toInt ∧ ((QF100 p0.toNatClampNeg) 21).toInt ≤ 4) ∧ (0 ≤ ((QF100 p0.toNatClampNeg) 23).toInt ∧ ((QF100 p0.toNatClampNeg) 23).toInt ≤ 4) ∧ (0 ≤ ((QF100 p0.toNatClampNeg) 24).toInt ∧ ((QF100 p0.toNatClampNeg) 24).toInt ≤ 1000000) ∧ (0 ≤ ((QF100 p0.toNatClampNeg) 6).toInt ∧ ((QF100 p0.toNatClampNeg) 6).toInt ≤ 3) ∧ (0 ≤ (0 : Int) ∧ (0 : Int) ≤ 1) from by first | with_reducible rfl | with_reducible assumption | omega) (show ((QF100 p0.toNatClampNeg) 1).toInt = 1 from by first | exact oz_d145a98bf1 hko2.1 hqk1_QF90 hg1.1 | omega) (by omega) (fun _ => by have q8 := hpd; rw [va_up_s] at q8; exact PdT.nx q8 (show ((QF100 p0.toNatClampNeg) 4).toInt = (QF100 p0.toNatClampNeg 4).toInt ∧ ((QF100 p0.toNatClampNeg) 5).toInt = (QF100 p0.toNatClampNeg 5).toInt ∧ ((QF100 p0.toNatClampNeg) 10).toInt = (QF100 p0.toNatClampNeg 10).toInt ∧ ((QF100 p0.toNatClampNeg) 12).toInt = (QF100 p0.toNatClampNeg 12).toInt ∧ ((QF100 p0.toNatClampNeg) 13).toInt = (QF100 p0.toNatClampNeg 13).toInt ∧ ((QF100 p0.toNatClampNeg) 14).toInt = (QF100 p0.toNatClampNeg 14).toInt from by first | exact oz_28eebd5525 | omega) (show z125.toInt = (QF100 p0.toNatClampNeg 11).toInt + 1 from by first | exact oz_037caa6b79 tz125 | omega) (show ((QF100 p0.toNatClampNeg) 24).toInt = (QF100 p0.toNatClampNeg 24).toInt from by first | exact oz_507c05ca68 | omega) (show (0 : Int) = 0 from by first | decide | omega))) (show ((QF100 p0.toNatClampNeg) 1).toInt = (QF100 p0.toNatClampNeg 1).toInt from by first | exact oz_507c05ca68 | omega) (show (QF100 p0.toNatClampNeg 6).toInt ≤ ((QF100 p0.toNatClampNeg) 6).toInt from by first | exact oz_1cb5f934a5 | omega))
                        have hw : pw D A s.heap _ _ [wd_Mo cs mo mr (fun _ => none) mf97 md98 (gMo PG hq), fm 13 (fPr cs hq qr QO127 QF128 QA129), fm 8 (fPg cs PG)] := hw.sub [0, 2, 1] rfl rfl
                        exact J241 mf97 md98 QO127 QF128 QA129 (R_12 - 1) x12_3 (1 : Int32) _ _ ls (show PrA PG (va_up RR p0.toNatClampNeg (R_12 - 1)) QO127 QF128 QA129 from hpr) (show (mf97 0).toInt = (mf 0).toInt from by first | exact oz_1687f4cc65 k12_1 e108 | omega) (show (mf97 2).toInt = (mf 2).toInt from by first | exact oz_1687f4cc65 k12_2 e109 | omega) (show (mf97 3).toInt = (mf 3).toInt from by first | exact oz_1687f4cc65 k12_3 e110 | omega) (show (mf97 7).toInt = (mf 7).toInt from by first | exact oz_1687f4cc65 k12_4 e111 | omega) (show (mf97 8).toInt = (mf 8).toInt from by first | exact oz_1687f4cc65 k12_5 e112 | omega) (show (mf97 10).toInt = (mf 10).toInt from by first | exact oz_1687f4cc65 k12_6 e113 | omega) (show x12_3.toInt = x12_3.toInt from rfl) (show 0 ≤ (1 : Int) from by first | decide | omega) (show (1 : Int) ≤ 1 from by first | decide | omega) (show (R_12 - 1) + (1 : Int) ≤ R_12 from by first | exact oz_9af69b5cb8 | omega) (show (R_12 - 1) ≤ R_12 from by first | exact oz_f81ab12e42 | omega) (show 1 ≤ x12_4.toInt from by first | exact oz_70c2bdf1b6 k12_9 nc3 | omega) hw (lv_sub hl [4, 5, 6, 7, 0] rfl)
                      · have nc126 : ¬ ((QF100 p0.toNatClampNeg) 7).toInt = (0 : Int) := mt (i_eq (x := ((QF100 p0.toNatClampNeg) 7)) (y := 0)).mpr c126
                        refine lv_iload S.x S.b d_Mo_goOn_205 (lv_at hl 0 rfl) ?_
                        refine lv_if_ne (tgt := 214) S.x S.b d_Mo_goOn_207 (by decide) (fun c130 => ?_) (fun c130 => ?_)
                        ·
                          refine lv_iconst (v := 0) S.x S.b d_Mo_goOn_214 (by decide) ?_
                          refine px_put S k_Mpr hT hw 3 0 7 rfl rfl (by decide) m10_235 rfl rfl rfl (Nat.le_of_ble_eq_true rfl) d_Mo_goOn_215 (w' := wd_Mpr cs (hq p0.toNatClampNeg) (qr p0.toNatClampNeg) (fun _ => QO99 p0.toNatClampNeg) (upd (upd (QF100 p0.toNatClampNeg) 7 0) 11 z125) (QA101 p0.toNatClampNeg) (fun _ _ => none)) (ps' := [wd_Mo cs mo mr (fun _ => none) mf97 md98 (gMo PG hq), fm 8 (fPg cs PG), fo 13 (fPr cs hq qr QO99 QF100 QA101) p0.toNatClampNeg, wd_Mpr cs (hq p0.toNatClampNeg) (qr p0.toNatClampNeg) (fun _ => QO99 p0.toNatClampNeg) (upd (upd (QF100 p0.toNatClampNeg) 7 0) 11 z125) (QA101 p0.toNatClampNeg) (fun _ _ => none)]) rfl rfl (fun H locs hw => ?_)
                          refine lv_goto (tgt := 241) S.x S.b d_Mo_goOn_218 (by decide) ?_
                          have hw := fpr_in (pr := [wd_Mo cs mo mr (fun _ => none) mf97 md98 (gMo PG hq), fm 8 (fPg cs PG)]) hw hi123
                          obtain ⟨QO131, hu_QO131⟩ : ∃ y : Nat → Option Nat, y = va_up QO99 p0.toNatClampNeg ((fun _ => QO99 p0.toNatClampNeg) 0) := ⟨_, rfl⟩
                          obtain ⟨QF132, hu_QF132⟩ : ∃ y : Nat → Nat → Int32, y = va_up QF100 p0.toNatClampNeg (upd (upd (QF100 p0.toNatClampNeg) 7 0) 11 z125) := ⟨_, rfl⟩
                          obtain ⟨QA133, hu_QA133⟩ : ∃ y : Nat → Nat → Nat → Int32, y = va_up QA101 p0.toNatClampNeg (QA101 p0.toNatClampNeg) := ⟨_, rfl⟩
                          have hw : pw D A s.heap _ _ [wd_Mo cs mo mr (fun _ => none) mf97 md98 (gMo PG hq), fm 8 (fPg cs PG), fm 13 (fPr cs hq qr QO131 QF132 QA133)] := (by rw [hu_QO131, hu_QF132, hu_QA133]; exact hw)
                          have hpr : PrA PG (va_up RR p0.toNatClampNeg (R_12 - 1)) QO131 QF132 QA133 := (by rw [hu_QO131, hu_QF132, hu_QA133]; exact PrX.inR hpx (psr_tx (j := j9) hj9 (hko.1.trans hqo) h61 (show (0 ≤ ((QF100 p0.toNatClampNeg) 1).toInt ∧ ((QF100 p0.toNatClampNeg) 1).toInt ≤ 1) ∧ (0 ≤ ((QF100 p0.toNatClampNeg) 21).toInt ∧ ((QF100 p0.toNatClampNeg) 21).toInt ≤ 4) ∧ (0 ≤ ((QF100 p0.toNatClampNeg) 23).toInt ∧ ((QF100 p0.toNatClampNeg) 23).toInt ≤ 4) ∧ (0 ≤ ((QF100 p0.toNatClampNeg) 24).toInt ∧ ((QF100 p0.toNatClampNeg) 24).toInt ≤ 1000000) ∧ (0 ≤ ((QF100 p0.toNatClampNeg) 6).toInt ∧ ((QF100 p0.toNatClampNeg) 6).toInt ≤ 3) ∧ (0 ≤ (0 : Int) ∧ (0 : Int) ≤ 1) from by first | with_reducible rfl | with_reducible assumption | omega) (show ((QF100 p0.toNatClampNeg) 1).toInt = 1 from by first | exact oz_d145a98bf1 hko2.1 hqk1_QF90 hg1.1 | omega) (by omega) (fun _ => by have q8 := hpd; rw [va_up_s] at q8; exact PdT.nx q8 (show ((QF100 p0.toNatClampNeg) 4).toInt = (QF100 p0.toNatClampNeg 4).toInt ∧ ((QF100 p0.toNatClampNeg) 5).toInt = (QF100 p0.toNatClampNeg 5).toInt ∧ ((QF100 p0.toNatClampNeg) 10).toInt = (QF100 p0.toNatClampNeg 10).toInt ∧ ((QF100 p0.toNatClampNeg) 12).toInt = (QF100 p0.toNatClampNeg 12).toInt ∧ ((QF100 p0.toNatClampNeg) 13).toInt = (QF100 p0.toNatClampNeg 13).toInt ∧ ((QF100 p0.toNatClampNeg) 14).toInt = (QF100 p0.toNatClampNeg 14).toInt from by first | exact oz_28eebd5525 | omega) (show z125.toInt = (QF100 p0.toNatClampNeg 11).toInt + 1 from by first | exact oz_037caa6b79 tz125 | omega) (show ((QF100 p0.toNatClampNeg) 24).toInt = (QF100 p0.toNatClampNeg 24).toInt from by first | exact oz_507c05ca68 | omega) (show (0 : Int) = 0 from by first | decide | omega))) (show ((QF100 p0.toNatClampNeg) 1).toInt = (QF100 p0.toNatClampNeg 1).toInt from by first | exact oz_507c05ca68 | omega) (show (QF100 p0.toNatClampNeg 6).toInt ≤ ((QF100 p0.toNatClampNeg) 6).toInt from by first | exact oz_1cb5f934a5 | omega))
                          have hw : pw D A s.heap _ _ [wd_Mo cs mo mr (fun _ => none) mf97 md98 (gMo PG hq), fm 13 (fPr cs hq qr QO131 QF132 QA133), fm 8 (fPg cs PG)] := hw.sub [0, 2, 1] rfl rfl
                          exact J241 mf97 md98 QO131 QF132 QA133 (R_12 - 1) x12_3 (1 : Int32) _ _ ls (show PrA PG (va_up RR p0.toNatClampNeg (R_12 - 1)) QO131 QF132 QA133 from hpr) (show (mf97 0).toInt = (mf 0).toInt from by first | exact oz_1687f4cc65 k12_1 e108 | omega) (show (mf97 2).toInt = (mf 2).toInt from by first | exact oz_1687f4cc65 k12_2 e109 | omega) (show (mf97 3).toInt = (mf 3).toInt from by first | exact oz_1687f4cc65 k12_3 e110 | omega) (show (mf97 7).toInt = (mf 7).toInt from by first | exact oz_1687f4cc65 k12_4 e111 | omega) (show (mf97 8).toInt = (mf 8).toInt from by first | exact oz_1687f4cc65 k12_5 e112 | omega) (show (mf97 10).toInt = (mf 10).toInt from by first | exact oz_1687f4cc65 k12_6 e113 | omega) (show x12_3.toInt = x12_3.toInt from rfl) (show 0 ≤ (1 : Int) from by first | decide | omega) (show (1 : Int) ≤ 1 from by first | decide | omega) (show (R_12 - 1) + (1 : Int) ≤ R_12 from by first | exact oz_9af69b5cb8 | omega) (show (R_12 - 1) ≤ R_12 from by first | exact oz_f81ab12e42 | omega) (show 1 ≤ x12_4.toInt from by first | exact oz_70c2bdf1b6 k12_9 nc3 | omega) hw (lv_sub hl [4, 5, 6, 7, 0] rfl)
                        · exact absurd c130 (by decide)
              · have nc74 : ((QF_12 p0.toNatClampNeg) 7).toInt = (0 : Int) := (i_eq (x := ((QF_12 p0.toNatClampNeg) 7)) (y := 0)).mp c74
                refine lv_iload S.x S.b d_Mo_goOn_131 (lv_at hl 1 rfl) ?_
                refine lv_if_eq (tgt := 143) S.x S.b d_Mo_goOn_133 (by decide) (fun c134 => ?_) (fun c134 => ?_)
                · have nc134 : z50.toInt = (0 : Int) := (i_eq (x := z50) (y := 0)).mp c134
                  refine lv_iconst (v := 1) S.x S.b d_Mo_goOn_143 (by decide) ?_
                  refine lv_goto (tgt := 148) S.x S.b d_Mo_goOn_144 (by decide) ?_
                  refine px_put S k_Mpr hT hw 2 0 7 rfl rfl (by decide) m10_235 rfl rfl rfl (Nat.le_of_ble_eq_true rfl) d_Mo_goOn_148 (w' := wd_Mpr cs (hq p0.toNatClampNeg) (qr p0.toNatClampNeg) (fun k => if k = 0 then (some (PG j9).h) else none) (upd (QF_12 p0.toNatClampNeg) 7 1) (QA_12 p0.toNatClampNeg) (fun _ _ => none)) (ps' := [wd_Mo cs mo mr (fun _ => none) mf_12 md_12 (gMo PG hq), fo 13 (fPr cs hq qr QO_12 QF_12 QA_12) p0.toNatClampNeg, wd_Mpr cs (hq p0.toNatClampNeg) (qr p0.toNatClampNeg) (fun k => if k = 0 then (some (PG j9).h) else none) (upd (QF_12 p0.toNatClampNeg) 7 1) (QA_12 p0.toNatClampNeg) (fun _ _ => none), fo 8 (fPg cs PG) j9, wdP cs (PG j9).h (PG j9).r (PG j9).g (PG j9).tf (PG j9).ta (PG j9).pf (PG j9).na (PG j9).ma (PG j9).wa (PG j9).cf (PG j9).ca (PG j9).ef (PG j9).ea (PG j9).xf (PG j9).xa]) rfl rfl (fun H locs hw => ?_)
                  refine lv_aload_n S.x S.b d_Mo_goOn_151 rfl (lv_at hl 5 rfl) ?_
                  have hw : pw D A s.heap _ _ [wd_Mo cs mo mr (fun _ => none) mf_12 md_12 (gMo PG hq), fo 13 (fPr cs hq qr QO_12 QF_12 QA_12) p0.toNatClampNeg, fo 8 (fPg cs PG) j9, wdP cs (PG j9).h (PG j9).r (PG j9).g (PG j9).tf (PG j9).ta (PG j9).pf (PG j9).na (PG j9).ma (PG j9).wa (PG j9).cf (PG j9).ca (PG j9).ef (PG j9).ea (PG j9).xf (PG j9).xa, wd_Mpr cs (hq p0.toNatClampNeg) (qr p0.toNatClampNeg) (fun k => if k = 0 then (some (PG j9).h) else none) (upd (QF_12 p0.toNatClampNeg) 7 1) (QA_12 p0.toNatClampNeg) (fun _ _ => none)] := hw.sub [0, 1, 3, 4, 2] rfl rfl
                  refine px_calli (pr := [wd_Mo cs mo mr (fun _ => none) mf_12 md_12 (gMo PG hq), fo 13 (fPr cs hq qr QO_12 QF_12 QA_12) p0.toNatClampNeg, fo 8 (fPg cs PG) j9, wdP cs (PG j9).h (PG j9).r (PG j9).g (PG j9).tf (PG j9).ta (PG j9).pf (PG j9).na (PG j9).ma (PG j9).wa (PG j9).cf (PG j9).ca (PG j9).ef (PG j9).ea (PG j9).xf (PG j9).xa]) (px_runV (As := []) (rest := []) S (c_mqq_isGoing l D cs (hq p0.toNatClampNeg) (qr p0.toNatClampNeg) (fun _ _ => none) (fun k => if k = 0 then (some (PG j9).h) else none) (upd (QF_12 p0.toNatClampNeg) 7 1) (QA_12 p0.toNatClampNeg)    _) hT (pr := [wd_Mo cs mo mr (fun _ => none) mf_12 md_12 (gMo PG hq), fo 13 (fPr cs hq qr QO_12 QF_12 QA_12) p0.toNatClampNeg, fo 8 (fPg cs PG) j9, wdP cs (PG j9).h (PG j9).r (PG j9).g (PG j9).tf (PG j9).ta (PG j9).pf (PG j9).na (PG j9).ma (PG j9).wa (PG j9).cf (PG j9).ca (PG j9).ef (PG j9).ea (PG j9).xf (PG j9).xa]) (pcs := [wd_Mpr cs (hq p0.toNatClampNeg) (qr p0.toNatClampNeg) (fun k => if k = 0 then (some (PG j9).h) else none) (upd (QF_12 p0.toNatClampNeg) 7 1) (QA_12 p0.toNatClampNeg) (fun _ _ => none)]) hw px_X.tt (px_recv hT hw 4 0 rfl rfl rfl) m13_165 m13_162 m13_163 m13_164 m1_22 q_Mpr_isGoing ⟨Nat.le_of_ble_eq_true rfl, Nat.le_of_ble_eq_true rfl⟩ hl.1 rfl (Nat.le_of_ble_eq_true rfl) d_Mo_goOn_152 ⟨Nat.le_of_ble_eq_true rfl, Nat.le_of_ble_eq_true rfl⟩) hw hA (fun v136 p135 H locs hp135 hw => ?_)
                  obtain ⟨rfl, e137, e138, e139⟩ := hp135
                  replace e137 : 0 ≤ v136.toInt := e137
                  replace e138 : v136.toInt ≤ 1 := e138
                  replace e139 : IgV v136.toInt ((QF_12 p0.toNatClampNeg) 1).toInt ((QF_12 p0.toNatClampNeg) 2).toInt := e139
                  have hig := e139
                  replace hw : pw D A s.heap H locs [wd_Mo cs mo mr (fun _ => none) mf_12 md_12 (gMo PG hq), fo 13 (fPr cs hq qr QO_12 QF_12 QA_12) p0.toNatClampNeg, fo 8 (fPg cs PG) j9, wdP cs (PG j9).h (PG j9).r (PG j9).g (PG j9).tf (PG j9).ta (PG j9).pf (PG j9).na (PG j9).ma (PG j9).wa (PG j9).cf (PG j9).ca (PG j9).ef (PG j9).ea (PG j9).xf (PG j9).xa, wd_Mpr cs (hq p0.toNatClampNeg) (qr p0.toNatClampNeg) (fun k => if k = 0 then (some (PG j9).h) else none) (upd (QF_12 p0.toNatClampNeg) 7 1) (QA_12 p0.toNatClampNeg) (fun _ _ => none)] := hw
                  have lv136 := Int32.le_toInt v136
                  have uv136 := Int32.toInt_lt v136
                  refine lv_if_eq (tgt := 168) S.x S.b d_Mo_goOn_155 (by decide) (fun c140 => ?_) (fun c140 => ?_)
                  · have nc140 : v136.toInt = (0 : Int) := (i_eq (x := v136) (y := 0)).mp c140
                    refine lv_iconst (v := 1) S.x S.b d_Mo_goOn_168 (by decide) ?_
                    have hg3 := hig.elim (fun q8 => absurd q8.1 (by omega)) (fun q8 => q8.2)
                    refine lv_goto (tgt := 173) S.x S.b d_Mo_goOn_169 (by decide) ?_
                    refine lv_istore (lv' := [(4, .int 1), (7, .int z54), (6, .int z50), (5, .int z46), (0, .ref mo), (1, .int p0), (2, .ref (hq p0.toNatClampNeg)), (3, .int x12_3)]) S.x S.b d_Mo_goOn_173 hl (by decide) rfl (fun ls hl => ?_)
                    refine lv_aload_n S.x S.b d_Mo_goOn_175 rfl (lv_at hl 6 rfl) ?_
                    refine lv_iload S.x S.b d_Mo_goOn_176 (lv_at hl 0 rfl) ?_
                    refine lv_if_eq (tgt := 190) S.x S.b d_Mo_goOn_178 (by decide) (fun c141 => ?_) (fun c141 => ?_)
                    · exact absurd c141 (by decide)
                    ·
                      refine lv_aload_n S.x S.b d_Mo_goOn_181 rfl (lv_at hl 6 rfl) ?_
                      refine px_get S k_Mpr hT hw 4 0 11 (v := .int ((QF_12 p0.toNatClampNeg) 11)) rfl rfl rfl (by decide) m11_3 d_Mo_goOn_182 ?_
                      refine lv_iconst (v := 1) S.x S.b d_Mo_goOn_185 (by decide) ?_
                      refine lv_iadd S.x S.b d_Mo_goOn_186 ?_
                      have lr142 := Int32.le_toInt ((QF_12 p0.toNatClampNeg) 11)
                      have ur142 := Int32.toInt_lt ((QF_12 p0.toNatClampNeg) 11)
                      refine lv_topi (fun z143 ez143 => ?_)
                      have tz143 : z143.toInt = (((QF_12 p0.toNatClampNeg) 11).toInt + (1 : Int) + 2147483648) % 4294967296 - 2147483648 := by rw [ez143]; exact i_add ((QF_12 p0.toNatClampNeg) 11) 1
                      have lz143 := Int32.le_toInt z143
                      have uz143 := Int32.toInt_lt z143
                      try replace tz143 : z143.toInt = ((QF_12 p0.toNatClampNeg) 11).toInt + (1 : Int) := by omega
                      refine lv_goto (tgt := 194) S.x S.b d_Mo_goOn_187 (by decide) ?_
                      refine px_put S k_Mpr hT hw 4 0 11 rfl rfl (by decide) m11_3 rfl rfl rfl (Nat.le_of_ble_eq_true rfl) d_Mo_goOn_194 (w' := wd_Mpr cs (hq p0.toNatClampNeg) (qr p0.toNatClampNeg) (fun k => if k = 0 then (some (PG j9).h) else none) (upd (upd (QF_12 p0.toNatClampNeg) 7 1) 11 z143) (QA_12 p0.toNatClampNeg) (fun _ _ => none)) (ps' := [wd_Mo cs mo mr (fun _ => none) mf_12 md_12 (gMo PG hq), fo 13 (fPr cs hq qr QO_12 QF_12 QA_12) p0.toNatClampNeg, fo 8 (fPg cs PG) j9, wdP cs (PG j9).h (PG j9).r (PG j9).g (PG j9).tf (PG j9).ta (PG j9).pf (PG j9).na (PG j9).ma (PG j9).wa (PG j9).cf (PG j9).ca (PG j9).ef (PG j9).ea (PG j9).xf (PG j9).xa, wd_Mpr cs (hq p0.toNatClampNeg) (qr p0.toNatClampNeg) (fun k => if k = 0 then (some (PG j9).h) else none) (upd (upd (QF_12 p0.toNatClampNeg) 7 1) 11 z143) (QA_12 p0.toNatClampNeg) (fun _ _ => none)]) rfl rfl (fun H locs hw => ?_)
                      refine lv_aload_n S.x S.b d_Mo_goOn_197 rfl (lv_at hl 6 rfl) ?_
                      refine lv_aload_n S.x S.b d_Mo_goOn_198 rfl (lv_at hl 6 rfl) ?_
                      refine px_get S k_Mpr hT hw 4 0 7 (v := .int 1) rfl rfl rfl (by decide) m10_235 d_Mo_goOn_199 ?_
                      refine lv_if_eq (tgt := 214) S.x S.b d_Mo_goOn_202 (by decide) (fun c144 => ?_) (fun c144 => ?_)
                      · exact absurd c144 (by decide)
                      ·
                        refine lv_iload S.x S.b d_Mo_goOn_205 (lv_at hl 0 rfl) ?_
                        refine lv_if_ne (tgt := 214) S.x S.b d_Mo_goOn_207 (by decide) (fun c145 => ?_) (fun c145 => ?_)
                        ·
                          refine lv_iconst (v := 0) S.x S.b d_Mo_goOn_214 (by decide) ?_
                          refine px_put S k_Mpr hT hw 4 0 7 rfl rfl (by decide) m10_235 rfl rfl rfl (Nat.le_of_ble_eq_true rfl) d_Mo_goOn_215 (w' := wd_Mpr cs (hq p0.toNatClampNeg) (qr p0.toNatClampNeg) (fun k => if k = 0 then (some (PG j9).h) else none) (upd (upd (QF_12 p0.toNatClampNeg) 7 0) 11 z143) (QA_12 p0.toNatClampNeg) (fun _ _ => none)) (ps' := [wd_Mo cs mo mr (fun _ => none) mf_12 md_12 (gMo PG hq), fo 13 (fPr cs hq qr QO_12 QF_12 QA_12) p0.toNatClampNeg, fo 8 (fPg cs PG) j9, wdP cs (PG j9).h (PG j9).r (PG j9).g (PG j9).tf (PG j9).ta (PG j9).pf (PG j9).na (PG j9).ma (PG j9).wa (PG j9).cf (PG j9).ca (PG j9).ef (PG j9).ea (PG j9).xf (PG j9).xa, wd_Mpr cs (hq p0.toNatClampNeg) (qr p0.toNatClampNeg) (fun k => if k = 0 then (some (PG j9).h) else none) (upd (upd (QF_12 p0.toNatClampNeg) 7 0) 11 z143) (QA_12 p0.toNatClampNeg) (fun _ _ => none)]) rfl rfl (fun H locs hw => ?_)
                          refine lv_goto (tgt := 241) S.x S.b d_Mo_goOn_218 (by decide) ?_
                          have hw : pw D A s.heap _ _ [wd_Mo cs mo mr (fun _ => none) mf_12 md_12 (gMo PG hq), fo 8 (fPg cs PG) j9, wdP cs (PG j9).h (PG j9).r (PG j9).g (PG j9).tf (PG j9).ta (PG j9).pf (PG j9).na (PG j9).ma (PG j9).wa (PG j9).cf (PG j9).ca (PG j9).ef (PG j9).ea (PG j9).xf (PG j9).xa, fo 13 (fPr cs hq qr QO_12 QF_12 QA_12) p0.toNatClampNeg, wd_Mpr cs (hq p0.toNatClampNeg) (qr p0.toNatClampNeg) (fun k => if k = 0 then (some (PG j9).h) else none) (upd (upd (QF_12 p0.toNatClampNeg) 7 0) 11 z143) (QA_12 p0.toNatClampNeg) (fun _ _ => none)] := hw.sub [0, 2, 3, 1, 4] rfl rfl
                          have hw := fpr_in (pr := [wd_Mo cs mo mr (fun _ => none) mf_12 md_12 (gMo PG hq), fo 8 (fPg cs PG) j9, wdP cs (PG j9).h (PG j9).r (PG j9).g (PG j9).tf (PG j9).ta (PG j9).pf (PG j9).na (PG j9).ma (PG j9).wa (PG j9).cf (PG j9).ca (PG j9).ef (PG j9).ea (PG j9).xf (PG j9).xa]) hw hi20
                          obtain ⟨QO146, hu_QO146⟩ : ∃ y : Nat → Option Nat, y = va_up QO_12 p0.toNatClampNeg ((fun k => if k = 0 then (some (PG j9).h) else none) 0) := ⟨_, rfl⟩
                          obtain ⟨QF147, hu_QF147⟩ : ∃ y : Nat → Nat → Int32, y = va_up QF_12 p0.toNatClampNeg (upd (upd (QF_12 p0.toNatClampNeg) 7 0) 11 z143) := ⟨_, rfl⟩
                          obtain ⟨QA148, hu_QA148⟩ : ∃ y : Nat → Nat → Nat → Int32, y = va_up QA_12 p0.toNatClampNeg (QA_12 p0.toNatClampNeg) := ⟨_, rfl⟩
                          have hw : pw D A s.heap _ _ [wd_Mo cs mo mr (fun _ => none) mf_12 md_12 (gMo PG hq), fo 8 (fPg cs PG) j9, wdP cs (PG j9).h (PG j9).r (PG j9).g (PG j9).tf (PG j9).ta (PG j9).pf (PG j9).na (PG j9).ma (PG j9).wa (PG j9).cf (PG j9).ca (PG j9).ef (PG j9).ea (PG j9).xf (PG j9).xa, fm 13 (fPr cs hq qr QO146 QF147 QA148)] := (by rw [hu_QO146, hu_QF147, hu_QA148]; exact hw)
                          have hpr : PrA PG (va_up RR p0.toNatClampNeg (R_12 - 1)) QO146 QF147 QA148 := (by rw [hu_QO146, hu_QF147, hu_QA148]; exact PrA.upR2 hpr hi20 (psr_en (show (0 ≤ ((QF_12 p0.toNatClampNeg) 1).toInt ∧ ((QF_12 p0.toNatClampNeg) 1).toInt ≤ 1) ∧ (0 ≤ ((QF_12 p0.toNatClampNeg) 21).toInt ∧ ((QF_12 p0.toNatClampNeg) 21).toInt ≤ 4) ∧ (0 ≤ ((QF_12 p0.toNatClampNeg) 23).toInt ∧ ((QF_12 p0.toNatClampNeg) 23).toInt ≤ 4) ∧ (0 ≤ ((QF_12 p0.toNatClampNeg) 24).toInt ∧ ((QF_12 p0.toNatClampNeg) 24).toInt ≤ 1000000) ∧ (0 ≤ ((QF_12 p0.toNatClampNeg) 6).toInt ∧ ((QF_12 p0.toNatClampNeg) 6).toInt ≤ 3) ∧ (0 ≤ (0 : Int) ∧ (0 : Int) ≤ 1) from by first | with_reducible rfl | with_reducible assumption | omega) (show ((QF_12 p0.toNatClampNeg) 1).toInt = 1 from by first | exact oz_e213b53fb9 hg1.1 | omega) (by omega) (show ((QF_12 p0.toNatClampNeg) 2).toInt ≠ -2 from by first | with_reducible rfl | with_reducible assumption | omega)) (show ((QF_12 p0.toNatClampNeg) 1).toInt = (QF_12 p0.toNatClampNeg 1).toInt from by first | exact oz_507c05ca68 | omega) (show (QF_12 p0.toNatClampNeg 6).toInt ≤ ((QF_12 p0.toNatClampNeg) 6).toInt from by first | exact oz_1cb5f934a5 | omega))
                          have hqk1_QF147 : (QF147 p0.toNatClampNeg 1).toInt = ((QF_12 p0.toNatClampNeg) 1).toInt := (by rw [hu_QF147, va_up_s]; try rfl)
                          have hqk2_QF147 : (QF147 p0.toNatClampNeg 2).toInt = ((QF_12 p0.toNatClampNeg) 2).toInt := (by rw [hu_QF147, va_up_s]; try rfl)
                          have hqk4_QF147 : (QF147 p0.toNatClampNeg 4).toInt = ((QF_12 p0.toNatClampNeg) 4).toInt := (by rw [hu_QF147, va_up_s]; try rfl)
                          have hqk7_QF147 : (QF147 p0.toNatClampNeg 7).toInt = (0 : Int) := (by rw [hu_QF147, va_up_s]; try rfl)
                          have hqk10_QF147 : (QF147 p0.toNatClampNeg 10).toInt = ((QF_12 p0.toNatClampNeg) 10).toInt := (by rw [hu_QF147, va_up_s]; try rfl)
                          have hqk11_QF147 : (QF147 p0.toNatClampNeg 11).toInt = z143.toInt := (by rw [hu_QF147, va_up_s]; try rfl)
                          have hqk24_QF147 : (QF147 p0.toNatClampNeg 24).toInt = ((QF_12 p0.toNatClampNeg) 24).toInt := (by rw [hu_QF147, va_up_s]; try rfl)
                          have hw : pw D A s.heap _ _ [wd_Mo cs mo mr (fun _ => none) mf_12 md_12 (gMo PG hq), fm 13 (fPr cs hq qr QO146 QF147 QA148), fo 8 (fPg cs PG) j9, wdP cs (PG j9).h (PG j9).r (PG j9).g (PG j9).tf (PG j9).ta (PG j9).pf (PG j9).na (PG j9).ma (PG j9).wa (PG j9).cf (PG j9).ca (PG j9).ef (PG j9).ea (PG j9).xf (PG j9).xa] := hw.sub [0, 3, 1, 2] rfl rfl
                          have hw : pw D A s.heap _ _ [wd_Mo cs mo mr (fun _ => none) mf_12 md_12 (gMo PG hq), fm 13 (fPr cs hq qr QO146 QF147 QA148), fm 8 (fPg cs PG)] := fm_back (pr := [wd_Mo cs mo mr (fun _ => none) mf_12 md_12 (gMo PG hq), fm 13 (fPr cs hq qr QO146 QF147 QA148)]) (T := fPg cs PG) hw hj9
                          exact J241 mf_12 md_12 QO146 QF147 QA148 (R_12 - 1) x12_3 (1 : Int32) _ _ ls (show PrA PG (va_up RR p0.toNatClampNeg (R_12 - 1)) QO146 QF147 QA148 from hpr) (show (mf_12 0).toInt = (mf 0).toInt from by first | exact k12_1 | omega) (show (mf_12 2).toInt = (mf 2).toInt from by first | exact k12_2 | omega) (show (mf_12 3).toInt = (mf 3).toInt from by first | exact k12_3 | omega) (show (mf_12 7).toInt = (mf 7).toInt from by first | exact k12_4 | omega) (show (mf_12 8).toInt = (mf 8).toInt from by first | exact k12_5 | omega) (show (mf_12 10).toInt = (mf 10).toInt from by first | exact k12_6 | omega) (show x12_3.toInt = x12_3.toInt from rfl) (show 0 ≤ (1 : Int) from by first | decide | omega) (show (1 : Int) ≤ 1 from by first | decide | omega) (show (R_12 - 1) + (1 : Int) ≤ R_12 from by first | exact oz_9af69b5cb8 | omega) (show (R_12 - 1) ≤ R_12 from by first | exact oz_f81ab12e42 | omega) (show 1 ≤ x12_4.toInt from by first | exact oz_70c2bdf1b6 k12_9 nc3 | omega) hw (lv_sub hl [4, 5, 6, 7, 0] rfl)
                        · exact absurd c145 (by decide)
                  · have nc140 : ¬ v136.toInt = (0 : Int) := mt (i_eq (x := v136) (y := 0)).mpr c140
                    refine lv_aload_n S.x S.b d_Mo_goOn_158 rfl (lv_at hl 3 rfl) ?_
                    have hg2 := hig.elim id (fun q8 => absurd q8.1 (by omega))
                    refine lv_iload_n S.x S.b d_Mo_goOn_159 rfl (lv_at hl 4 rfl) ?_
                    refine lv_iload S.x S.b d_Mo_goOn_160 (lv_at hl 1 rfl) ?_
                    have hw : pw D A s.heap _ _ [wd_Mo cs mo mr (fun _ => none) mf_12 md_12 (gMo PG hq), fo 8 (fPg cs PG) j9, wdP cs (PG j9).h (PG j9).r (PG j9).g (PG j9).tf (PG j9).ta (PG j9).pf (PG j9).na (PG j9).ma (PG j9).wa (PG j9).cf (PG j9).ca (PG j9).ef (PG j9).ea (PG j9).xf (PG j9).xa, fo 13 (fPr cs hq qr QO_12 QF_12 QA_12) p0.toNatClampNeg, wd_Mpr cs (hq p0.toNatClampNeg) (qr p0.toNatClampNeg) (fun k => if k = 0 then (some (PG j9).h) else none) (upd (QF_12 p0.toNatClampNeg) 7 1) (QA_12 p0.toNatClampNeg) (fun _ _ => none)] := hw.sub [0, 2, 3, 1, 4] rfl rfl
                    have hw := fpr_in (pr := [wd_Mo cs mo mr (fun _ => none) mf_12 md_12 (gMo PG hq), fo 8 (fPg cs PG) j9, wdP cs (PG j9).h (PG j9).r (PG j9).g (PG j9).tf (PG j9).ta (PG j9).pf (PG j9).na (PG j9).ma (PG j9).wa (PG j9).cf (PG j9).ca (PG j9).ef (PG j9).ea (PG j9).xf (PG j9).xa]) hw hi20
                    obtain ⟨QO149, hu_QO149⟩ : ∃ y : Nat → Option Nat, y = va_up QO_12 p0.toNatClampNeg ((fun k => if k = 0 then (some (PG j9).h) else none) 0) := ⟨_, rfl⟩
                    obtain ⟨QF150, hu_QF150⟩ : ∃ y : Nat → Nat → Int32, y = va_up QF_12 p0.toNatClampNeg (upd (QF_12 p0.toNatClampNeg) 7 1) := ⟨_, rfl⟩
                    obtain ⟨QA151, hu_QA151⟩ : ∃ y : Nat → Nat → Nat → Int32, y = va_up QA_12 p0.toNatClampNeg (QA_12 p0.toNatClampNeg) := ⟨_, rfl⟩
                    have hw : pw D A s.heap _ _ [wd_Mo cs mo mr (fun _ => none) mf_12 md_12 (gMo PG hq), fo 8 (fPg cs PG) j9, wdP cs (PG j9).h (PG j9).r (PG j9).g (PG j9).tf (PG j9).ta (PG j9).pf (PG j9).na (PG j9).ma (PG j9).wa (PG j9).cf (PG j9).ca (PG j9).ef (PG j9).ea (PG j9).xf (PG j9).xa, fm 13 (fPr cs hq qr QO149 QF150 QA151)] := (by rw [hu_QO149, hu_QF150, hu_QA151]; exact hw)
                    have hpay : PsT (PG j9) R_12 (upd (QF_12 p0.toNatClampNeg) 7 1) (QA_12 p0.toNatClampNeg) := (PsT.pay hpt (show ((QF_12 p0.toNatClampNeg) 5).toInt = (QF_12 p0.toNatClampNeg 5).toInt ∧ ((QF_12 p0.toNatClampNeg) 10).toInt = (QF_12 p0.toNatClampNeg 10).toInt ∧ ((QF_12 p0.toNatClampNeg) 11).toInt = (QF_12 p0.toNatClampNeg 11).toInt ∧ ((QF_12 p0.toNatClampNeg) 12).toInt = (QF_12 p0.toNatClampNeg 12).toInt ∧ ((QF_12 p0.toNatClampNeg) 13).toInt = (QF_12 p0.toNatClampNeg 13).toInt ∧ ((QF_12 p0.toNatClampNeg) 14).toInt = (QF_12 p0.toNatClampNeg 14).toInt ∧ ((QF_12 p0.toNatClampNeg) 24).toInt = (QF_12 p0.toNatClampNeg 24).toInt from by first | exact oz_4b2a01afc9 | omega) (show 0 ≤ ((QF_12 p0.toNatClampNeg) 4).toInt ∧ ((QF_12 p0.toNatClampNeg) 4).toInt ≤ (QF_12 p0.toNatClampNeg 4).toInt from by first | with_reducible rfl | with_reducible assumption | omega) ho16 (fun q8 => (show ((QF_12 p0.toNatClampNeg) 24).toInt + ((QF_12 p0.toNatClampNeg) 4).toInt ≤ 99 from by rw [hoa] at q8; omega)))
                    have hpr : PrA PG (va_up RR p0.toNatClampNeg R_12) QO149 QF150 QA151 := (by rw [hu_QO149, hu_QF150, hu_QA151]; exact PrA.upR2 hpr hi20 (psr_tx (j := j9) hj9 (show _ = some _ from rfl) h61 (show (0 ≤ ((QF_12 p0.toNatClampNeg) 1).toInt ∧ ((QF_12 p0.toNatClampNeg) 1).toInt ≤ 1) ∧ (0 ≤ ((QF_12 p0.toNatClampNeg) 21).toInt ∧ ((QF_12 p0.toNatClampNeg) 21).toInt ≤ 4) ∧ (0 ≤ ((QF_12 p0.toNatClampNeg) 23).toInt ∧ ((QF_12 p0.toNatClampNeg) 23).toInt ≤ 4) ∧ (0 ≤ ((QF_12 p0.toNatClampNeg) 24).toInt ∧ ((QF_12 p0.toNatClampNeg) 24).toInt ≤ 1000000) ∧ (0 ≤ ((QF_12 p0.toNatClampNeg) 6).toInt ∧ ((QF_12 p0.toNatClampNeg) 6).toInt ≤ 3) ∧ (0 ≤ (1 : Int) ∧ (1 : Int) ≤ 1) from by first | with_reducible rfl | with_reducible assumption | omega) (show ((QF_12 p0.toNatClampNeg) 1).toInt = 1 from by first | exact oz_e213b53fb9 hg1.1 | omega) (by omega) (fun _ => hpay)) (show ((QF_12 p0.toNatClampNeg) 1).toInt = (QF_12 p0.toNatClampNeg 1).toInt from by first | exact oz_507c05ca68 | omega) (show (QF_12 p0.toNatClampNeg 6).toInt ≤ ((QF_12 p0.toNatClampNeg) 6).toInt from by first | exact oz_1cb5f934a5 | omega))
                    have hqk1_QF150 : (QF150 p0.toNatClampNeg 1).toInt = ((QF_12 p0.toNatClampNeg) 1).toInt := (by rw [hu_QF150, va_up_s]; try rfl)
                    have hqk2_QF150 : (QF150 p0.toNatClampNeg 2).toInt = ((QF_12 p0.toNatClampNeg) 2).toInt := (by rw [hu_QF150, va_up_s]; try rfl)
                    have hqk4_QF150 : (QF150 p0.toNatClampNeg 4).toInt = ((QF_12 p0.toNatClampNeg) 4).toInt := (by rw [hu_QF150, va_up_s]; try rfl)
                    have hqk7_QF150 : (QF150 p0.toNatClampNeg 7).toInt = (1 : Int) := (by rw [hu_QF150, va_up_s]; try rfl)
                    have hqk10_QF150 : (QF150 p0.toNatClampNeg 10).toInt = ((QF_12 p0.toNatClampNeg) 10).toInt := (by rw [hu_QF150, va_up_s]; try rfl)
                    have hqk11_QF150 : (QF150 p0.toNatClampNeg 11).toInt = ((QF_12 p0.toNatClampNeg) 11).toInt := (by rw [hu_QF150, va_up_s]; try rfl)
                    have hqk24_QF150 : (QF150 p0.toNatClampNeg 24).toInt = ((QF_12 p0.toNatClampNeg) 24).toInt := (by rw [hu_QF150, va_up_s]; try rfl)
                    have hqo : OqE (QO149 p0.toNatClampNeg) (PG j9).h := (by rw [hu_QO149, va_up_s]; exact rfl)
                    have hpo8 : (0 ≤ z50.toInt ∧ z50.toInt < 10) ∧ PoT (PG j9) ((va_up RR p0.toNatClampNeg R_12) p0.toNatClampNeg) z50.toInt (QF150 p0.toNatClampNeg) (QA151 p0.toNatClampNeg) := (by rw [va_up_s, hu_QF150, hu_QA151, va_up_s, va_up_s]; exact hpay.owc (by show ((PG j9).ea 61 (3 * ((QF_12 p0.toNatClampNeg) 11).toInt).toNat).toInt = 16; rw [show ((QF_12 p0.toNatClampNeg) 11).toInt = (QF_12 p0.toNatClampNeg 11).toInt by omega]; exact ho16) (by show ((PG j9).ea 61 (3 * ((QF_12 p0.toNatClampNeg) 11).toInt + 1).toNat).toInt = _; rw [show ((QF_12 p0.toNatClampNeg) 11).toInt = (QF_12 p0.toNatClampNeg 11).toInt by omega]; exact hoa) (fun q8 => (show ((QF_12 p0.toNatClampNeg) 24).toInt + ((QF_12 p0.toNatClampNeg) 4).toInt ≤ 99 from by first | with_reducible rfl | with_reducible assumption | omega)))
                    have hpo81 := hpo8.1
                    have hw : pw D A s.heap _ _ [wd_Mo cs mo mr (fun _ => none) mf_12 md_12 (gMo PG hq), fm 13 (fPr cs hq qr QO149 QF150 QA151), fo 8 (fPg cs PG) j9, wdP cs (PG j9).h (PG j9).r (PG j9).g (PG j9).tf (PG j9).ta (PG j9).pf (PG j9).na (PG j9).ma (PG j9).wa (PG j9).cf (PG j9).ca (PG j9).ef (PG j9).ea (PG j9).xf (PG j9).xa] := hw.sub [0, 3, 1, 2] rfl rfl
                    have hw : pw D A s.heap _ _ [wd_Mo cs mo mr (fun _ => none) mf_12 md_12 (gMo PG hq), fm 13 (fPr cs hq qr QO149 QF150 QA151), fm 8 (fPg cs PG)] := fm_back (pr := [wd_Mo cs mo mr (fun _ => none) mf_12 md_12 (gMo PG hq), fm 13 (fPr cs hq qr QO149 QF150 QA151)]) (T := fPg cs PG) hw hj9
                    refine px_calli (pr := []) (px_runV (As := [.int p0, .int z50]) (rest := []) S (c_mo_ownCall l D cs (va_up RR p0.toNatClampNeg R_12) j9 mo mr mf_12 md_12 hq qr QO149 QF150 QA151 PG p0 z50  (show 0 ≤ p0.toInt from by first | exact g0 | omega) (show p0.toInt < 13 from by first | exact g1 | omega) (show 0 ≤ (mf_12 7).toInt from by first | exact oz_f3ebed1ad0 k12_4 g2 | omega) (show (mf_12 7).toInt ≤ 100 from by first | exact oz_b2552476a0 k12_4 g3 | omega) (show 0 ≤ (mf_12 8).toInt from by first | exact oz_f3ebed1ad0 k12_5 g4 | omega) (show (mf_12 8).toInt ≤ 512 from by first | exact oz_5926d5b85b k12_5 g5 | omega) (show 0 ≤ z50.toInt from by first | exact hpo81.1 | omega) (show z50.toInt < 10 from by first | exact hpo81.2 | omega) (show (QF150 p0.toNatClampNeg 1).toInt = 1 from by first | exact oz_e863b17997 hqk1_QF150 hg1.1 | omega) hpr hpg hpo8.2 _) hT (pr := []) (pcs := [wd_Mo cs mo mr (fun _ => none) mf_12 md_12 (gMo PG hq), fm 13 (fPr cs hq qr QO149 QF150 QA151), fm 8 (fPg cs PG)]) hw px_X.tt (px_recv hT hw 0 0 rfl rfl rfl) m14_106 m14_103 m14_105 ms_16_9 m1_20 q_Mo_ownCall ⟨Nat.le_of_ble_eq_true rfl, Nat.le_of_ble_eq_true rfl⟩ hl.1 rfl (Nat.le_of_ble_eq_true rfl) d_Mo_goOn_162 ⟨Nat.le_of_ble_eq_true rfl, Nat.le_of_ble_eq_true rfl⟩) hw hA (fun v163 p162 H locs hp162 hw => ?_)
                    obtain ⟨mf157, md158, QO159, QF160, QA161, rfl, e164, e165, e166, e167, e168, e169, e170, e171, e172, e173⟩ := hp162
                    replace e164 : 0 ≤ v163.toInt := e164
                    replace e165 : v163.toInt ≤ 1 := e165
                    replace e166 : OwQ v163.toInt (PrA PG (va_up RR p0.toNatClampNeg R_12) QO159 QF160 QA161) (PrX PG (va_up RR p0.toNatClampNeg R_12) QO159 QF160 QA161 p0.toNatClampNeg ∧ PdT (PG j9) ((va_up RR p0.toNatClampNeg R_12) p0.toNatClampNeg) (QF160 p0.toNatClampNeg) (QA161 p0.toNatClampNeg)) := e166
                    have hoq := e166
                    replace e167 : KpO QO149 QF150 QO159 QF160 p0.toNatClampNeg := e167
                    have hko := e167
                    have hko2 := hko.2
                    replace e168 : (mf157 0).toInt = (mf_12 0).toInt := e168
                    replace e169 : (mf157 2).toInt = (mf_12 2).toInt := e169
                    replace e170 : (mf157 3).toInt = (mf_12 3).toInt := e170
                    replace e171 : (mf157 7).toInt = (mf_12 7).toInt := e171
                    replace e172 : (mf157 8).toInt = (mf_12 8).toInt := e172
                    replace e173 : (mf157 10).toInt = (mf_12 10).toInt := e173
                    replace hw : pw D A s.heap H locs [wd_Mo cs mo mr (fun _ => none) mf157 md158 (gMo PG hq), fm 13 (fPr cs hq qr QO159 QF160 QA161), fm 8 (fPg cs PG)] := hw
                    have lv163 := Int32.le_toInt v163
                    have uv163 := Int32.toInt_lt v163
                    refine lv_if_eq (tgt := 172) S.x S.b d_Mo_goOn_165 (by decide) (fun c174 => ?_) (fun c174 => ?_)
                    · have nc174 : v163.toInt = (0 : Int) := (i_eq (x := v163) (y := 0)).mp c174
                      refine lv_iconst (v := 0) S.x S.b d_Mo_goOn_172 (by decide) ?_
                      have hpr := hoq.elim (fun q8 => q8.2) (fun q8 => absurd q8.1 (by omega))
                      refine lv_istore (lv' := [(4, .int 0), (7, .int z54), (6, .int z50), (5, .int z46), (0, .ref mo), (1, .int p0), (2, .ref (hq p0.toNatClampNeg)), (3, .int x12_3)]) S.x S.b d_Mo_goOn_173 hl (by decide) rfl (fun ls hl => ?_)
                      refine lv_aload_n S.x S.b d_Mo_goOn_175 rfl (lv_at hl 6 rfl) ?_
                      refine lv_iload S.x S.b d_Mo_goOn_176 (lv_at hl 0 rfl) ?_
                      refine lv_if_eq (tgt := 190) S.x S.b d_Mo_goOn_178 (by decide) (fun c175 => ?_) (fun c175 => ?_)
                      ·
                        refine lv_aload_n S.x S.b d_Mo_goOn_190 rfl (lv_at hl 6 rfl) ?_
                        have hw : pw D A s.heap _ _ [wd_Mo cs mo mr (fun _ => none) mf157 md158 (gMo PG hq), fm 8 (fPg cs PG), fm 13 (fPr cs hq qr QO159 QF160 QA161)] := hw.sub [0, 2, 1] rfl rfl
                        have hc176 := cl_nat (x := p0) (by first | exact g0 | omega)
                        have hi176 : p0.toNatClampNeg < 13 := by first | exact hi20 | omega
                        have hw : pw D A s.heap _ _ [wd_Mo cs mo mr (fun _ => none) mf157 md158 (gMo PG hq), fm 8 (fPg cs PG), fo 13 (fPr cs hq qr QO159 QF160 QA161) p0.toNatClampNeg, wd_Mpr cs (hq p0.toNatClampNeg) (qr p0.toNatClampNeg) (fun _ => QO159 p0.toNatClampNeg) (QF160 p0.toNatClampNeg) (QA161 p0.toNatClampNeg) (fun _ _ => none)] := fm_out (pr := [wd_Mo cs mo mr (fun _ => none) mf157 md158 (gMo PG hq), fm 8 (fPg cs PG)]) (T := fPr cs hq qr QO159 QF160 QA161) hw hi176
                        have hps176 := hpr.1 p0.toNatClampNeg hi176
                        have hpb176 := hps176.1
                        unfold PsB at hpb176
                        refine px_get S k_Mpr hT hw 3 0 11 (v := .int ((QF160 p0.toNatClampNeg) 11)) rfl rfl rfl (by decide) m11_3 d_Mo_goOn_191 ?_
                        refine px_put S k_Mpr hT hw 3 0 11 rfl rfl (by decide) m11_3 rfl rfl rfl (Nat.le_of_ble_eq_true rfl) d_Mo_goOn_194 (w' := wd_Mpr cs (hq p0.toNatClampNeg) (qr p0.toNatClampNeg) (fun _ => QO159 p0.toNatClampNeg) (upd (QF160 p0.toNatClampNeg) 11 ((QF160 p0.toNatClampNeg) 11)) (QA161 p0.toNatClampNeg) (fun _ _ => none)) (ps' := [wd_Mo cs mo mr (fun _ => none) mf157 md158 (gMo PG hq), fm 8 (fPg cs PG), fo 13 (fPr cs hq qr QO159 QF160 QA161) p0.toNatClampNeg, wd_Mpr cs (hq p0.toNatClampNeg) (qr p0.toNatClampNeg) (fun _ => QO159 p0.toNatClampNeg) (upd (QF160 p0.toNatClampNeg) 11 ((QF160 p0.toNatClampNeg) 11)) (QA161 p0.toNatClampNeg) (fun _ _ => none)]) rfl rfl (fun H locs hw => ?_)
                        refine lv_aload_n S.x S.b d_Mo_goOn_197 rfl (lv_at hl 6 rfl) ?_
                        refine lv_aload_n S.x S.b d_Mo_goOn_198 rfl (lv_at hl 6 rfl) ?_
                        refine px_get S k_Mpr hT hw 3 0 7 (v := .int ((QF160 p0.toNatClampNeg) 7)) rfl rfl rfl (by decide) m10_235 d_Mo_goOn_199 ?_
                        refine lv_if_eq (tgt := 214) S.x S.b d_Mo_goOn_202 (by decide) (fun c177 => ?_) (fun c177 => ?_)
                        · have nc177 : ((QF160 p0.toNatClampNeg) 7).toInt = (0 : Int) := (i_eq (x := ((QF160 p0.toNatClampNeg) 7)) (y := 0)).mp c177
                          exfalso
                          omega
                        · have nc177 : ¬ ((QF160 p0.toNatClampNeg) 7).toInt = (0 : Int) := mt (i_eq (x := ((QF160 p0.toNatClampNeg) 7)) (y := 0)).mpr c177
                          refine lv_iload S.x S.b d_Mo_goOn_205 (lv_at hl 0 rfl) ?_
                          refine lv_if_ne (tgt := 214) S.x S.b d_Mo_goOn_207 (by decide) (fun c178 => ?_) (fun c178 => ?_)
                          · exact absurd c178 (by decide)
                          ·
                            refine lv_iconst (v := 1) S.x S.b d_Mo_goOn_210 (by decide) ?_
                            refine lv_goto (tgt := 215) S.x S.b d_Mo_goOn_211 (by decide) ?_
                            refine px_put S k_Mpr hT hw 3 0 7 rfl rfl (by decide) m10_235 rfl rfl rfl (Nat.le_of_ble_eq_true rfl) d_Mo_goOn_215 (w' := wd_Mpr cs (hq p0.toNatClampNeg) (qr p0.toNatClampNeg) (fun _ => QO159 p0.toNatClampNeg) (upd (upd (QF160 p0.toNatClampNeg) 7 1) 11 ((QF160 p0.toNatClampNeg) 11)) (QA161 p0.toNatClampNeg) (fun _ _ => none)) (ps' := [wd_Mo cs mo mr (fun _ => none) mf157 md158 (gMo PG hq), fm 8 (fPg cs PG), fo 13 (fPr cs hq qr QO159 QF160 QA161) p0.toNatClampNeg, wd_Mpr cs (hq p0.toNatClampNeg) (qr p0.toNatClampNeg) (fun _ => QO159 p0.toNatClampNeg) (upd (upd (QF160 p0.toNatClampNeg) 7 1) 11 ((QF160 p0.toNatClampNeg) 11)) (QA161 p0.toNatClampNeg) (fun _ _ => none)]) rfl rfl (fun H locs hw => ?_)
                            refine lv_goto (tgt := 241) S.x S.b d_Mo_goOn_218 (by decide) ?_
                            have hw := fpr_in (pr := [wd_Mo cs mo mr (fun _ => none) mf157 md158 (gMo PG hq), fm 8 (fPg cs PG)]) hw hi176
                            obtain ⟨QO179, hu_QO179⟩ : ∃ y : Nat → Option Nat, y = va_up QO159 p0.toNatClampNeg ((fun _ => QO159 p0.toNatClampNeg) 0) := ⟨_, rfl⟩
                            obtain ⟨QF180, hu_QF180⟩ : ∃ y : Nat → Nat → Int32, y = va_up QF160 p0.toNatClampNeg (upd (upd (QF160 p0.toNatClampNeg) 7 1) 11 ((QF160 p0.toNatClampNeg) 11)) := ⟨_, rfl⟩
                            obtain ⟨QA181, hu_QA181⟩ : ∃ y : Nat → Nat → Nat → Int32, y = va_up QA161 p0.toNatClampNeg (QA161 p0.toNatClampNeg) := ⟨_, rfl⟩
                            have hw : pw D A s.heap _ _ [wd_Mo cs mo mr (fun _ => none) mf157 md158 (gMo PG hq), fm 8 (fPg cs PG), fm 13 (fPr cs hq qr QO179 QF180 QA181)] := (by rw [hu_QO179, hu_QF180, hu_QA181]; exact hw)
                            have hpr : PrA PG (va_up RR p0.toNatClampNeg R_12) QO179 QF180 QA181 := (by rw [hu_QO179, hu_QF180, hu_QA181]; exact PrA.upR2 hpr hi176 (PsR.kf (by have q8 := hps176; rw [va_up_s] at q8; exact q8) (show (0 ≤ ((QF160 p0.toNatClampNeg) 1).toInt ∧ ((QF160 p0.toNatClampNeg) 1).toInt ≤ 1) ∧ (0 ≤ ((QF160 p0.toNatClampNeg) 21).toInt ∧ ((QF160 p0.toNatClampNeg) 21).toInt ≤ 4) ∧ (0 ≤ ((QF160 p0.toNatClampNeg) 23).toInt ∧ ((QF160 p0.toNatClampNeg) 23).toInt ≤ 4) ∧ (0 ≤ ((QF160 p0.toNatClampNeg) 24).toInt ∧ ((QF160 p0.toNatClampNeg) 24).toInt ≤ 1000000) ∧ (0 ≤ ((QF160 p0.toNatClampNeg) 6).toInt ∧ ((QF160 p0.toNatClampNeg) 6).toInt ≤ 3) ∧ (0 ≤ (1 : Int) ∧ (1 : Int) ≤ 1) from by first | with_reducible rfl | with_reducible assumption | omega) (show (((QF160 p0.toNatClampNeg) 1).toInt = (QF160 p0.toNatClampNeg 1).toInt ∧ ((QF160 p0.toNatClampNeg) 4).toInt = (QF160 p0.toNatClampNeg 4).toInt ∧ ((QF160 p0.toNatClampNeg) 5).toInt = (QF160 p0.toNatClampNeg 5).toInt ∧ (1 : Int) = (QF160 p0.toNatClampNeg 7).toInt ∧ ((QF160 p0.toNatClampNeg) 10).toInt = (QF160 p0.toNatClampNeg 10).toInt ∧ ((QF160 p0.toNatClampNeg) 11).toInt = (QF160 p0.toNatClampNeg 11).toInt) ∧ ((QF160 p0.toNatClampNeg) 12).toInt = (QF160 p0.toNatClampNeg 12).toInt ∧ ((QF160 p0.toNatClampNeg) 13).toInt = (QF160 p0.toNatClampNeg 13).toInt ∧ ((QF160 p0.toNatClampNeg) 14).toInt = (QF160 p0.toNatClampNeg 14).toInt ∧ ((QF160 p0.toNatClampNeg) 24).toInt = (QF160 p0.toNatClampNeg 24).toInt from by first | with_reducible rfl | with_reducible assumption | omega) (show ((QF160 p0.toNatClampNeg) 2).toInt = (QF160 p0.toNatClampNeg 2).toInt from by first | exact oz_507c05ca68 | omega)) (show ((QF160 p0.toNatClampNeg) 1).toInt = (QF160 p0.toNatClampNeg 1).toInt from by first | exact oz_507c05ca68 | omega) (show (QF160 p0.toNatClampNeg 6).toInt ≤ ((QF160 p0.toNatClampNeg) 6).toInt from by first | exact oz_1cb5f934a5 | omega))
                            have hqk1_QF180 : (QF180 p0.toNatClampNeg 1).toInt = ((QF160 p0.toNatClampNeg) 1).toInt := (by rw [hu_QF180, va_up_s]; try rfl)
                            have hqk2_QF180 : (QF180 p0.toNatClampNeg 2).toInt = ((QF160 p0.toNatClampNeg) 2).toInt := (by rw [hu_QF180, va_up_s]; try rfl)
                            have hqk4_QF180 : (QF180 p0.toNatClampNeg 4).toInt = ((QF160 p0.toNatClampNeg) 4).toInt := (by rw [hu_QF180, va_up_s]; try rfl)
                            have hqk7_QF180 : (QF180 p0.toNatClampNeg 7).toInt = (1 : Int) := (by rw [hu_QF180, va_up_s]; try rfl)
                            have hqk10_QF180 : (QF180 p0.toNatClampNeg 10).toInt = ((QF160 p0.toNatClampNeg) 10).toInt := (by rw [hu_QF180, va_up_s]; try rfl)
                            have hqk11_QF180 : (QF180 p0.toNatClampNeg 11).toInt = ((QF160 p0.toNatClampNeg) 11).toInt := (by rw [hu_QF180, va_up_s]; try rfl)
                            have hqk24_QF180 : (QF180 p0.toNatClampNeg 24).toInt = ((QF160 p0.toNatClampNeg) 24).toInt := (by rw [hu_QF180, va_up_s]; try rfl)
                            have hw : pw D A s.heap _ _ [wd_Mo cs mo mr (fun _ => none) mf157 md158 (gMo PG hq), fm 13 (fPr cs hq qr QO179 QF180 QA181), fm 8 (fPg cs PG)] := hw.sub [0, 2, 1] rfl rfl
                            exact J241 mf157 md158 QO179 QF180 QA181 R_12 x12_3 (0 : Int32) _ _ ls (show PrA PG (va_up RR p0.toNatClampNeg R_12) QO179 QF180 QA181 from hpr) (show (mf157 0).toInt = (mf 0).toInt from by first | exact oz_1687f4cc65 k12_1 e168 | omega) (show (mf157 2).toInt = (mf 2).toInt from by first | exact oz_1687f4cc65 k12_2 e169 | omega) (show (mf157 3).toInt = (mf 3).toInt from by first | exact oz_1687f4cc65 k12_3 e170 | omega) (show (mf157 7).toInt = (mf 7).toInt from by first | exact oz_1687f4cc65 k12_4 e171 | omega) (show (mf157 8).toInt = (mf 8).toInt from by first | exact oz_1687f4cc65 k12_5 e172 | omega) (show (mf157 10).toInt = (mf 10).toInt from by first | exact oz_1687f4cc65 k12_6 e173 | omega) (show x12_3.toInt = x12_3.toInt from rfl) (show 0 ≤ (0 : Int) from by first | decide | omega) (show (0 : Int) ≤ 1 from by first | decide | omega) (show R_12 + (0 : Int) ≤ R_12 from by first | exact oz_9a4b2c0a69 | omega) (show R_12 ≤ R_12 from by first | exact oz_1cb5f934a5 | omega) (show 1 ≤ x12_4.toInt from by first | exact oz_70c2bdf1b6 k12_9 nc3 | omega) hw (lv_sub hl [4, 5, 6, 7, 0] rfl)
                      · exact absurd c175 (by decide)
                    · have nc174 : ¬ v163.toInt = (0 : Int) := mt (i_eq (x := v163) (y := 0)).mpr c174
                      refine lv_iconst (v := 1) S.x S.b d_Mo_goOn_168 (by decide) ?_
                      obtain ⟨hpx, hpd⟩ := hoq.elim (fun q8 => absurd q8.1 (by omega)) (fun q8 => q8.2)
                      refine lv_goto (tgt := 173) S.x S.b d_Mo_goOn_169 (by decide) ?_
                      refine lv_istore (lv' := [(4, .int 1), (7, .int z54), (6, .int z50), (5, .int z46), (0, .ref mo), (1, .int p0), (2, .ref (hq p0.toNatClampNeg)), (3, .int x12_3)]) S.x S.b d_Mo_goOn_173 hl (by decide) rfl (fun ls hl => ?_)
                      refine lv_aload_n S.x S.b d_Mo_goOn_175 rfl (lv_at hl 6 rfl) ?_
                      refine lv_iload S.x S.b d_Mo_goOn_176 (lv_at hl 0 rfl) ?_
                      refine lv_if_eq (tgt := 190) S.x S.b d_Mo_goOn_178 (by decide) (fun c182 => ?_) (fun c182 => ?_)
                      · exact absurd c182 (by decide)
                      ·
                        refine lv_aload_n S.x S.b d_Mo_goOn_181 rfl (lv_at hl 6 rfl) ?_
                        have hw : pw D A s.heap _ _ [wd_Mo cs mo mr (fun _ => none) mf157 md158 (gMo PG hq), fm 8 (fPg cs PG), fm 13 (fPr cs hq qr QO159 QF160 QA161)] := hw.sub [0, 2, 1] rfl rfl
                        have hc183 := cl_nat (x := p0) (by first | exact g0 | omega)
                        have hi183 : p0.toNatClampNeg < 13 := by first | exact hi20 | omega
                        have hw : pw D A s.heap _ _ [wd_Mo cs mo mr (fun _ => none) mf157 md158 (gMo PG hq), fm 8 (fPg cs PG), fo 13 (fPr cs hq qr QO159 QF160 QA161) p0.toNatClampNeg, wd_Mpr cs (hq p0.toNatClampNeg) (qr p0.toNatClampNeg) (fun _ => QO159 p0.toNatClampNeg) (QF160 p0.toNatClampNeg) (QA161 p0.toNatClampNeg) (fun _ _ => none)] := fm_out (pr := [wd_Mo cs mo mr (fun _ => none) mf157 md158 (gMo PG hq), fm 8 (fPg cs PG)]) (T := fPr cs hq qr QO159 QF160 QA161) hw hi183
                        have hpb183 := hpx.2.2
                        unfold PsB at hpb183
                        refine px_get S k_Mpr hT hw 3 0 11 (v := .int ((QF160 p0.toNatClampNeg) 11)) rfl rfl rfl (by decide) m11_3 d_Mo_goOn_182 ?_
                        refine lv_iconst (v := 1) S.x S.b d_Mo_goOn_185 (by decide) ?_
                        refine lv_iadd S.x S.b d_Mo_goOn_186 ?_
                        have lr184 := Int32.le_toInt ((QF160 p0.toNatClampNeg) 11)
                        have ur184 := Int32.toInt_lt ((QF160 p0.toNatClampNeg) 11)
                        refine lv_topi (fun z185 ez185 => ?_)
                        have tz185 : z185.toInt = (((QF160 p0.toNatClampNeg) 11).toInt + (1 : Int) + 2147483648) % 4294967296 - 2147483648 := by rw [ez185]; exact i_add ((QF160 p0.toNatClampNeg) 11) 1
                        have lz185 := Int32.le_toInt z185
                        have uz185 := Int32.toInt_lt z185
                        try replace tz185 : z185.toInt = ((QF160 p0.toNatClampNeg) 11).toInt + (1 : Int) := by omega
                        refine lv_goto (tgt := 194) S.x S.b d_Mo_goOn_187 (by decide) ?_
                        refine px_put S k_Mpr hT hw 3 0 11 rfl rfl (by decide) m11_3 rfl rfl rfl (Nat.le_of_ble_eq_true rfl) d_Mo_goOn_194 (w' := wd_Mpr cs (hq p0.toNatClampNeg) (qr p0.toNatClampNeg) (fun _ => QO159 p0.toNatClampNeg) (upd (QF160 p0.toNatClampNeg) 11 z185) (QA161 p0.toNatClampNeg) (fun _ _ => none)) (ps' := [wd_Mo cs mo mr (fun _ => none) mf157 md158 (gMo PG hq), fm 8 (fPg cs PG), fo 13 (fPr cs hq qr QO159 QF160 QA161) p0.toNatClampNeg, wd_Mpr cs (hq p0.toNatClampNeg) (qr p0.toNatClampNeg) (fun _ => QO159 p0.toNatClampNeg) (upd (QF160 p0.toNatClampNeg) 11 z185) (QA161 p0.toNatClampNeg) (fun _ _ => none)]) rfl rfl (fun H locs hw => ?_)
                        refine lv_aload_n S.x S.b d_Mo_goOn_197 rfl (lv_at hl 6 rfl) ?_
                        refine lv_aload_n S.x S.b d_Mo_goOn_198 rfl (lv_at hl 6 rfl) ?_
                        refine px_get S k_Mpr hT hw 3 0 7 (v := .int ((QF160 p0.toNatClampNeg) 7)) rfl rfl rfl (by decide) m10_235 d_Mo_goOn_199 ?_
                        refine lv_if_eq (tgt := 214) S.x S.b d_Mo_goOn_202 (by decide) (fun c186 => ?_) (fun c186 => ?_)
                        · have nc186 : ((QF160 p0.toNatClampNeg) 7).toInt = (0 : Int) := (i_eq (x := ((QF160 p0.toNatClampNeg) 7)) (y := 0)).mp c186
                          refine lv_iconst (v := 0) S.x S.b d_Mo_goOn_214 (by decide) ?_
                          refine px_put S k_Mpr hT hw 3 0 7 rfl rfl (by decide) m10_235 rfl rfl rfl (Nat.le_of_ble_eq_true rfl) d_Mo_goOn_215 (w' := wd_Mpr cs (hq p0.toNatClampNeg) (qr p0.toNatClampNeg) (fun _ => QO159 p0.toNatClampNeg) (upd (upd (QF160 p0.toNatClampNeg) 7 0) 11 z185) (QA161 p0.toNatClampNeg) (fun _ _ => none)) (ps' := [wd_Mo cs mo mr (fun _ => none) mf157 md158 (gMo PG hq), fm 8 (fPg cs PG), fo 13 (fPr cs hq qr QO159 QF160 QA161) p0.toNatClampNeg, wd_Mpr cs (hq p0.toNatClampNeg) (qr p0.toNatClampNeg) (fun _ => QO159 p0.toNatClampNeg) (upd (upd (QF160 p0.toNatClampNeg) 7 0) 11 z185) (QA161 p0.toNatClampNeg) (fun _ _ => none)]) rfl rfl (fun H locs hw => ?_)
                          refine lv_goto (tgt := 241) S.x S.b d_Mo_goOn_218 (by decide) ?_
                          have hw := fpr_in (pr := [wd_Mo cs mo mr (fun _ => none) mf157 md158 (gMo PG hq), fm 8 (fPg cs PG)]) hw hi183
                          obtain ⟨QO187, hu_QO187⟩ : ∃ y : Nat → Option Nat, y = va_up QO159 p0.toNatClampNeg ((fun _ => QO159 p0.toNatClampNeg) 0) := ⟨_, rfl⟩
                          obtain ⟨QF188, hu_QF188⟩ : ∃ y : Nat → Nat → Int32, y = va_up QF160 p0.toNatClampNeg (upd (upd (QF160 p0.toNatClampNeg) 7 0) 11 z185) := ⟨_, rfl⟩
                          obtain ⟨QA189, hu_QA189⟩ : ∃ y : Nat → Nat → Nat → Int32, y = va_up QA161 p0.toNatClampNeg (QA161 p0.toNatClampNeg) := ⟨_, rfl⟩
                          have hw : pw D A s.heap _ _ [wd_Mo cs mo mr (fun _ => none) mf157 md158 (gMo PG hq), fm 8 (fPg cs PG), fm 13 (fPr cs hq qr QO187 QF188 QA189)] := (by rw [hu_QO187, hu_QF188, hu_QA189]; exact hw)
                          have hpr : PrA PG (va_up RR p0.toNatClampNeg (R_12 - 1)) QO187 QF188 QA189 := (by rw [hu_QO187, hu_QF188, hu_QA189]; exact PrX.inR hpx (psr_tx (j := j9) hj9 (hko.1.trans hqo) h61 (show (0 ≤ ((QF160 p0.toNatClampNeg) 1).toInt ∧ ((QF160 p0.toNatClampNeg) 1).toInt ≤ 1) ∧ (0 ≤ ((QF160 p0.toNatClampNeg) 21).toInt ∧ ((QF160 p0.toNatClampNeg) 21).toInt ≤ 4) ∧ (0 ≤ ((QF160 p0.toNatClampNeg) 23).toInt ∧ ((QF160 p0.toNatClampNeg) 23).toInt ≤ 4) ∧ (0 ≤ ((QF160 p0.toNatClampNeg) 24).toInt ∧ ((QF160 p0.toNatClampNeg) 24).toInt ≤ 1000000) ∧ (0 ≤ ((QF160 p0.toNatClampNeg) 6).toInt ∧ ((QF160 p0.toNatClampNeg) 6).toInt ≤ 3) ∧ (0 ≤ (0 : Int) ∧ (0 : Int) ≤ 1) from by first | with_reducible rfl | with_reducible assumption | omega) (show ((QF160 p0.toNatClampNeg) 1).toInt = 1 from by first | exact oz_d145a98bf1 hko2.1 hqk1_QF150 hg1.1 | omega) (by omega) (fun _ => by have q8 := hpd; rw [va_up_s] at q8; exact PdT.nx q8 (show ((QF160 p0.toNatClampNeg) 4).toInt = (QF160 p0.toNatClampNeg 4).toInt ∧ ((QF160 p0.toNatClampNeg) 5).toInt = (QF160 p0.toNatClampNeg 5).toInt ∧ ((QF160 p0.toNatClampNeg) 10).toInt = (QF160 p0.toNatClampNeg 10).toInt ∧ ((QF160 p0.toNatClampNeg) 12).toInt = (QF160 p0.toNatClampNeg 12).toInt ∧ ((QF160 p0.toNatClampNeg) 13).toInt = (QF160 p0.toNatClampNeg 13).toInt ∧ ((QF160 p0.toNatClampNeg) 14).toInt = (QF160 p0.toNatClampNeg 14).toInt from by first | exact oz_28eebd5525 | omega) (show z185.toInt = (QF160 p0.toNatClampNeg 11).toInt + 1 from by first | exact oz_037caa6b79 tz185 | omega) (show ((QF160 p0.toNatClampNeg) 24).toInt = (QF160 p0.toNatClampNeg 24).toInt from by first | exact oz_507c05ca68 | omega) (show (0 : Int) = 0 from by first | decide | omega))) (show ((QF160 p0.toNatClampNeg) 1).toInt = (QF160 p0.toNatClampNeg 1).toInt from by first | exact oz_507c05ca68 | omega) (show (QF160 p0.toNatClampNeg 6).toInt ≤ ((QF160 p0.toNatClampNeg) 6).toInt from by first | exact oz_1cb5f934a5 | omega))
                          have hw : pw D A s.heap _ _ [wd_Mo cs mo mr (fun _ => none) mf157 md158 (gMo PG hq), fm 13 (fPr cs hq qr QO187 QF188 QA189), fm 8 (fPg cs PG)] := hw.sub [0, 2, 1] rfl rfl
                          exact J241 mf157 md158 QO187 QF188 QA189 (R_12 - 1) x12_3 (1 : Int32) _ _ ls (show PrA PG (va_up RR p0.toNatClampNeg (R_12 - 1)) QO187 QF188 QA189 from hpr) (show (mf157 0).toInt = (mf 0).toInt from by first | exact oz_1687f4cc65 k12_1 e168 | omega) (show (mf157 2).toInt = (mf 2).toInt from by first | exact oz_1687f4cc65 k12_2 e169 | omega) (show (mf157 3).toInt = (mf 3).toInt from by first | exact oz_1687f4cc65 k12_3 e170 | omega) (show (mf157 7).toInt = (mf 7).toInt from by first | exact oz_1687f4cc65 k12_4 e171 | omega) (show (mf157 8).toInt = (mf 8).toInt from by first | exact oz_1687f4cc65 k12_5 e172 | omega) (show (mf157 10).toInt = (mf 10).toInt from by first | exact oz_1687f4cc65 k12_6 e173 | omega) (show x12_3.toInt = x12_3.toInt from rfl) (show 0 ≤ (1 : Int) from by first | decide | omega) (show (1 : Int) ≤ 1 from by first | decide | omega) (show (R_12 - 1) + (1 : Int) ≤ R_12 from by first | exact oz_9af69b5cb8 | omega) (show (R_12 - 1) ≤ R_12 from by first | exact oz_f81ab12e42 | omega) (show 1 ≤ x12_4.toInt from by first | exact oz_70c2bdf1b6 k12_9 nc3 | omega) hw (lv_sub hl [4, 5, 6, 7, 0] rfl)
                        · have nc186 : ¬ ((QF160 p0.toNatClampNeg) 7).toInt = (0 : Int) := mt (i_eq (x := ((QF160 p0.toNatClampNeg) 7)) (y := 0)).mpr c186
                          refine lv_iload S.x S.b d_Mo_goOn_205 (lv_at hl 0 rfl) ?_
                          refine lv_if_ne (tgt := 214) S.x S.b d_Mo_goOn_207 (by decide) (fun c190 => ?_) (fun c190 => ?_)
                          ·
                            refine lv_iconst (v := 0) S.x S.b d_Mo_goOn_214 (by decide) ?_
                            refine px_put S k_Mpr hT hw 3 0 7 rfl rfl (by decide) m10_235 rfl rfl rfl (Nat.le_of_ble_eq_true rfl) d_Mo_goOn_215 (w' := wd_Mpr cs (hq p0.toNatClampNeg) (qr p0.toNatClampNeg) (fun _ => QO159 p0.toNatClampNeg) (upd (upd (QF160 p0.toNatClampNeg) 7 0) 11 z185) (QA161 p0.toNatClampNeg) (fun _ _ => none)) (ps' := [wd_Mo cs mo mr (fun _ => none) mf157 md158 (gMo PG hq), fm 8 (fPg cs PG), fo 13 (fPr cs hq qr QO159 QF160 QA161) p0.toNatClampNeg, wd_Mpr cs (hq p0.toNatClampNeg) (qr p0.toNatClampNeg) (fun _ => QO159 p0.toNatClampNeg) (upd (upd (QF160 p0.toNatClampNeg) 7 0) 11 z185) (QA161 p0.toNatClampNeg) (fun _ _ => none)]) rfl rfl (fun H locs hw => ?_)
                            refine lv_goto (tgt := 241) S.x S.b d_Mo_goOn_218 (by decide) ?_
                            have hw := fpr_in (pr := [wd_Mo cs mo mr (fun _ => none) mf157 md158 (gMo PG hq), fm 8 (fPg cs PG)]) hw hi183
                            obtain ⟨QO191, hu_QO191⟩ : ∃ y : Nat → Option Nat, y = va_up QO159 p0.toNatClampNeg ((fun _ => QO159 p0.toNatClampNeg) 0) := ⟨_, rfl⟩
                            obtain ⟨QF192, hu_QF192⟩ : ∃ y : Nat → Nat → Int32, y = va_up QF160 p0.toNatClampNeg (upd (upd (QF160 p0.toNatClampNeg) 7 0) 11 z185) := ⟨_, rfl⟩
                            obtain ⟨QA193, hu_QA193⟩ : ∃ y : Nat → Nat → Nat → Int32, y = va_up QA161 p0.toNatClampNeg (QA161 p0.toNatClampNeg) := ⟨_, rfl⟩
                            have hw : pw D A s.heap _ _ [wd_Mo cs mo mr (fun _ => none) mf157 md158 (gMo PG hq), fm 8 (fPg cs PG), fm 13 (fPr cs hq qr QO191 QF192 QA193)] := (by rw [hu_QO191, hu_QF192, hu_QA193]; exact hw)
                            have hpr : PrA PG (va_up RR p0.toNatClampNeg (R_12 - 1)) QO191 QF192 QA193 := (by rw [hu_QO191, hu_QF192, hu_QA193]; exact PrX.inR hpx (psr_tx (j := j9) hj9 (hko.1.trans hqo) h61 (show (0 ≤ ((QF160 p0.toNatClampNeg) 1).toInt ∧ ((QF160 p0.toNatClampNeg) 1).toInt ≤ 1) ∧ (0 ≤ ((QF160 p0.toNatClampNeg) 21).toInt ∧ ((QF160 p0.toNatClampNeg) 21).toInt ≤ 4) ∧ (0 ≤ ((QF160 p0.toNatClampNeg) 23).toInt ∧ ((QF160 p0.toNatClampNeg) 23).toInt ≤ 4) ∧ (0 ≤ ((QF160 p0.toNatClampNeg) 24).toInt ∧ ((QF160 p0.toNatClampNeg) 24).toInt ≤ 1000000) ∧ (0 ≤ ((QF160 p0.toNatClampNeg) 6).toInt ∧ ((QF160 p0.toNatClampNeg) 6).toInt ≤ 3) ∧ (0 ≤ (0 : Int) ∧ (0 : Int) ≤ 1) from by first | with_reducible rfl | with_reducible assumption | omega) (show ((QF160 p0.toNatClampNeg) 1).toInt = 1 from by first | exact oz_d145a98bf1 hko2.1 hqk1_QF150 hg1.1 | omega) (by omega) (fun _ => by have q8 := hpd; rw [va_up_s] at q8; exact PdT.nx q8 (show ((QF160 p0.toNatClampNeg) 4).toInt = (QF160 p0.toNatClampNeg 4).toInt ∧ ((QF160 p0.toNatClampNeg) 5).toInt = (QF160 p0.toNatClampNeg 5).toInt ∧ ((QF160 p0.toNatClampNeg) 10).toInt = (QF160 p0.toNatClampNeg 10).toInt ∧ ((QF160 p0.toNatClampNeg) 12).toInt = (QF160 p0.toNatClampNeg 12).toInt ∧ ((QF160 p0.toNatClampNeg) 13).toInt = (QF160 p0.toNatClampNeg 13).toInt ∧ ((QF160 p0.toNatClampNeg) 14).toInt = (QF160 p0.toNatClampNeg 14).toInt from by first | exact oz_28eebd5525 | omega) (show z185.toInt = (QF160 p0.toNatClampNeg 11).toInt + 1 from by first | exact oz_037caa6b79 tz185 | omega) (show ((QF160 p0.toNatClampNeg) 24).toInt = (QF160 p0.toNatClampNeg 24).toInt from by first | exact oz_507c05ca68 | omega) (show (0 : Int) = 0 from by first | decide | omega))) (show ((QF160 p0.toNatClampNeg) 1).toInt = (QF160 p0.toNatClampNeg 1).toInt from by first | exact oz_507c05ca68 | omega) (show (QF160 p0.toNatClampNeg 6).toInt ≤ ((QF160 p0.toNatClampNeg) 6).toInt from by first | exact oz_1cb5f934a5 | omega))
                            have hw : pw D A s.heap _ _ [wd_Mo cs mo mr (fun _ => none) mf157 md158 (gMo PG hq), fm 13 (fPr cs hq qr QO191 QF192 QA193), fm 8 (fPg cs PG)] := hw.sub [0, 2, 1] rfl rfl
                            exact J241 mf157 md158 QO191 QF192 QA193 (R_12 - 1) x12_3 (1 : Int32) _ _ ls (show PrA PG (va_up RR p0.toNatClampNeg (R_12 - 1)) QO191 QF192 QA193 from hpr) (show (mf157 0).toInt = (mf 0).toInt from by first | exact oz_1687f4cc65 k12_1 e168 | omega) (show (mf157 2).toInt = (mf 2).toInt from by first | exact oz_1687f4cc65 k12_2 e169 | omega) (show (mf157 3).toInt = (mf 3).toInt from by first | exact oz_1687f4cc65 k12_3 e170 | omega) (show (mf157 7).toInt = (mf 7).toInt from by first | exact oz_1687f4cc65 k12_4 e171 | omega) (show (mf157 8).toInt = (mf 8).toInt from by first | exact oz_1687f4cc65 k12_5 e172 | omega) (show (mf157 10).toInt = (mf 10).toInt from by first | exact oz_1687f4cc65 k12_6 e173 | omega) (show x12_3.toInt = x12_3.toInt from rfl) (show 0 ≤ (1 : Int) from by first | decide | omega) (show (1 : Int) ≤ 1 from by first | decide | omega) (show (R_12 - 1) + (1 : Int) ≤ R_12 from by first | exact oz_9af69b5cb8 | omega) (show (R_12 - 1) ≤ R_12 from by first | exact oz_f81ab12e42 | omega) (show 1 ≤ x12_4.toInt from by first | exact oz_70c2bdf1b6 k12_9 nc3 | omega) hw (lv_sub hl [4, 5, 6, 7, 0] rfl)
                          · exact absurd c190 (by decide)
                · have nc134 : ¬ z50.toInt = (0 : Int) := mt (i_eq (x := z50) (y := 0)).mpr c134
                  refine lv_aload_n S.x S.b d_Mo_goOn_136 rfl (lv_at hl 5 rfl) ?_
                  have hw : pw D A s.heap _ _ [wd_Mo cs mo mr (fun _ => none) mf_12 md_12 (gMo PG hq), fo 13 (fPr cs hq qr QO_12 QF_12 QA_12) p0.toNatClampNeg, fo 8 (fPg cs PG) j9, wd_Mpr cs (hq p0.toNatClampNeg) (qr p0.toNatClampNeg) (fun k => if k = 0 then (some (PG j9).h) else none) (QF_12 p0.toNatClampNeg) (QA_12 p0.toNatClampNeg) (fun _ _ => none), wdP cs (PG j9).h (PG j9).r (PG j9).g (PG j9).tf (PG j9).ta (PG j9).pf (PG j9).na (PG j9).ma (PG j9).wa (PG j9).cf (PG j9).ca (PG j9).ef (PG j9).ea (PG j9).xf (PG j9).xa] := hw.sub [0, 1, 3, 2, 4] rfl rfl
                  refine px_calli (pr := [wd_Mo cs mo mr (fun _ => none) mf_12 md_12 (gMo PG hq), fo 13 (fPr cs hq qr QO_12 QF_12 QA_12) p0.toNatClampNeg, fo 8 (fPg cs PG) j9]) (px_runV (As := []) (rest := [.ref (hq p0.toNatClampNeg)]) S (c_mrr_takesWork l D cs (0 : Int) (hq p0.toNatClampNeg) (qr p0.toNatClampNeg) (fun _ _ => none) (QA_12 p0.toNatClampNeg) (QF_12 p0.toNatClampNeg) (PG j9).h (PG j9).r (PG j9).g (PG j9).tf (PG j9).ta (PG j9).pf (PG j9).na (PG j9).ma (PG j9).wa (PG j9).cf (PG j9).ca (PG j9).ef (PG j9).ea (PG j9).xf (PG j9).xa   (show 0 ≤ ((QF_12 p0.toNatClampNeg) 4).toInt from by first | with_reducible rfl | with_reducible assumption | omega) _) hT (pr := [wd_Mo cs mo mr (fun _ => none) mf_12 md_12 (gMo PG hq), fo 13 (fPr cs hq qr QO_12 QF_12 QA_12) p0.toNatClampNeg, fo 8 (fPg cs PG) j9]) (pcs := [wd_Mpr cs (hq p0.toNatClampNeg) (qr p0.toNatClampNeg) (fun k => if k = 0 then (some (PG j9).h) else none) (QF_12 p0.toNatClampNeg) (QA_12 p0.toNatClampNeg) (fun _ _ => none), wdP cs (PG j9).h (PG j9).r (PG j9).g (PG j9).tf (PG j9).ta (PG j9).pf (PG j9).na (PG j9).ma (PG j9).wa (PG j9).cf (PG j9).ca (PG j9).ef (PG j9).ea (PG j9).xf (PG j9).xa]) hw (oX_call (P := (fun A U H => (oP A (PG j9).g U H))) (pr := [wd_Mo cs mo mr (fun _ => none) mf_12 md_12 (gMo PG hq), fo 13 (fPr cs hq qr QO_12 QF_12 QA_12) p0.toNatClampNeg, fo 8 (fPg cs PG) j9]) oG_P hw hA hP) (px_recv hT hw 3 0 rfl rfl rfl) m14_102 m14_99 m14_100 m14_101 m1_22 q_Mpr_takesWork ⟨Nat.le_of_ble_eq_true rfl, Nat.le_of_ble_eq_true rfl⟩ hl.1 rfl (Nat.le_of_ble_eq_true rfl) d_Mo_goOn_137 ⟨Nat.le_of_ble_eq_true rfl, Nat.le_of_ble_eq_true rfl⟩) hw hA (fun v197 p196 H locs hp196 hw => ?_)
                  obtain ⟨qf195, rfl, e198, e199, e200, e201, e202, e203, e204, e205, e206, e207, e208, e209, e210, e211, e212⟩ := hp196
                  replace e198 : 0 ≤ v197.toInt := e198
                  replace e199 : v197.toInt ≤ 1 := e199
                  replace e200 : TkZ v197.toInt (qf195 4).toInt ((QF_12 p0.toNatClampNeg) 4).toInt (qf195 2).toInt ((QF_12 p0.toNatClampNeg) 2).toInt := e200
                  have htkv := e200
                  replace e201 : (qf195 1).toInt = ((QF_12 p0.toNatClampNeg) 1).toInt := e201
                  replace e202 : (qf195 5).toInt = ((QF_12 p0.toNatClampNeg) 5).toInt := e202
                  replace e203 : (qf195 6).toInt = ((QF_12 p0.toNatClampNeg) 6).toInt := e203
                  replace e204 : (qf195 7).toInt = ((QF_12 p0.toNatClampNeg) 7).toInt := e204
                  replace e205 : (qf195 10).toInt = ((QF_12 p0.toNatClampNeg) 10).toInt := e205
                  replace e206 : (qf195 11).toInt = ((QF_12 p0.toNatClampNeg) 11).toInt := e206
                  replace e207 : (qf195 12).toInt = ((QF_12 p0.toNatClampNeg) 12).toInt := e207
                  replace e208 : (qf195 13).toInt = ((QF_12 p0.toNatClampNeg) 13).toInt := e208
                  replace e209 : (qf195 14).toInt = ((QF_12 p0.toNatClampNeg) 14).toInt := e209
                  replace e210 : (qf195 21).toInt = ((QF_12 p0.toNatClampNeg) 21).toInt := e210
                  replace e211 : (qf195 23).toInt = ((QF_12 p0.toNatClampNeg) 23).toInt := e211
                  replace e212 : (qf195 24).toInt = ((QF_12 p0.toNatClampNeg) 24).toInt := e212
                  replace hw : pw D A s.heap H locs [wd_Mo cs mo mr (fun _ => none) mf_12 md_12 (gMo PG hq), fo 13 (fPr cs hq qr QO_12 QF_12 QA_12) p0.toNatClampNeg, fo 8 (fPg cs PG) j9, wd_Mpr cs (hq p0.toNatClampNeg) (qr p0.toNatClampNeg) (fun k => if k = 0 then (some (PG j9).h) else none) qf195 (QA_12 p0.toNatClampNeg) (fun _ _ => none), wdP cs (PG j9).h (PG j9).r (PG j9).g (PG j9).tf (PG j9).ta (PG j9).pf (PG j9).na (PG j9).ma (PG j9).wa (PG j9).cf (PG j9).ca (PG j9).ef (PG j9).ea (PG j9).xf (PG j9).xa] := hw
                  have lv197 := Int32.le_toInt v197
                  have uv197 := Int32.toInt_lt v197
                  refine lv_if_eq (tgt := 147) S.x S.b d_Mo_goOn_140 (by decide) (fun c213 => ?_) (fun c213 => ?_)
                  · have nc213 : v197.toInt = (0 : Int) := (i_eq (x := v197) (y := 0)).mp c213
                    refine lv_iconst (v := 0) S.x S.b d_Mo_goOn_147 (by decide) ?_
                    have htw0 := htkv.elim (fun q8 => absurd q8.1 (by omega)) id
                    refine px_put S k_Mpr hT hw 3 0 7 rfl rfl (by decide) m10_235 rfl rfl rfl (Nat.le_of_ble_eq_true rfl) d_Mo_goOn_148 (w' := wd_Mpr cs (hq p0.toNatClampNeg) (qr p0.toNatClampNeg) (fun k => if k = 0 then (some (PG j9).h) else none) (upd qf195 7 0) (QA_12 p0.toNatClampNeg) (fun _ _ => none)) (ps' := [wd_Mo cs mo mr (fun _ => none) mf_12 md_12 (gMo PG hq), fo 13 (fPr cs hq qr QO_12 QF_12 QA_12) p0.toNatClampNeg, fo 8 (fPg cs PG) j9, wd_Mpr cs (hq p0.toNatClampNeg) (qr p0.toNatClampNeg) (fun k => if k = 0 then (some (PG j9).h) else none) (upd qf195 7 0) (QA_12 p0.toNatClampNeg) (fun _ _ => none), wdP cs (PG j9).h (PG j9).r (PG j9).g (PG j9).tf (PG j9).ta (PG j9).pf (PG j9).na (PG j9).ma (PG j9).wa (PG j9).cf (PG j9).ca (PG j9).ef (PG j9).ea (PG j9).xf (PG j9).xa]) rfl rfl (fun H locs hw => ?_)
                    refine lv_aload_n S.x S.b d_Mo_goOn_151 rfl (lv_at hl 5 rfl) ?_
                    have hw : pw D A s.heap _ _ [wd_Mo cs mo mr (fun _ => none) mf_12 md_12 (gMo PG hq), fo 13 (fPr cs hq qr QO_12 QF_12 QA_12) p0.toNatClampNeg, fo 8 (fPg cs PG) j9, wdP cs (PG j9).h (PG j9).r (PG j9).g (PG j9).tf (PG j9).ta (PG j9).pf (PG j9).na (PG j9).ma (PG j9).wa (PG j9).cf (PG j9).ca (PG j9).ef (PG j9).ea (PG j9).xf (PG j9).xa, wd_Mpr cs (hq p0.toNatClampNeg) (qr p0.toNatClampNeg) (fun k => if k = 0 then (some (PG j9).h) else none) (upd qf195 7 0) (QA_12 p0.toNatClampNeg) (fun _ _ => none)] := hw.sub [0, 1, 2, 4, 3] rfl rfl
                    refine px_calli (pr := [wd_Mo cs mo mr (fun _ => none) mf_12 md_12 (gMo PG hq), fo 13 (fPr cs hq qr QO_12 QF_12 QA_12) p0.toNatClampNeg, fo 8 (fPg cs PG) j9, wdP cs (PG j9).h (PG j9).r (PG j9).g (PG j9).tf (PG j9).ta (PG j9).pf (PG j9).na (PG j9).ma (PG j9).wa (PG j9).cf (PG j9).ca (PG j9).ef (PG j9).ea (PG j9).xf (PG j9).xa]) (px_runV (As := []) (rest := []) S (c_mqq_isGoing l D cs (hq p0.toNatClampNeg) (qr p0.toNatClampNeg) (fun _ _ => none) (fun k => if k = 0 then (some (PG j9).h) else none) (upd qf195 7 0) (QA_12 p0.toNatClampNeg)    _) hT (pr := [wd_Mo cs mo mr (fun _ => none) mf_12 md_12 (gMo PG hq), fo 13 (fPr cs hq qr QO_12 QF_12 QA_12) p0.toNatClampNeg, fo 8 (fPg cs PG) j9, wdP cs (PG j9).h (PG j9).r (PG j9).g (PG j9).tf (PG j9).ta (PG j9).pf (PG j9).na (PG j9).ma (PG j9).wa (PG j9).cf (PG j9).ca (PG j9).ef (PG j9).ea (PG j9).xf (PG j9).xa]) (pcs := [wd_Mpr cs (hq p0.toNatClampNeg) (qr p0.toNatClampNeg) (fun k => if k = 0 then (some (PG j9).h) else none) (upd qf195 7 0) (QA_12 p0.toNatClampNeg) (fun _ _ => none)]) hw px_X.tt (px_recv hT hw 4 0 rfl rfl rfl) m13_165 m13_162 m13_163 m13_164 m1_22 q_Mpr_isGoing ⟨Nat.le_of_ble_eq_true rfl, Nat.le_of_ble_eq_true rfl⟩ hl.1 rfl (Nat.le_of_ble_eq_true rfl) d_Mo_goOn_152 ⟨Nat.le_of_ble_eq_true rfl, Nat.le_of_ble_eq_true rfl⟩) hw hA (fun v215 p214 H locs hp214 hw => ?_)
                    obtain ⟨rfl, e216, e217, e218⟩ := hp214
                    replace e216 : 0 ≤ v215.toInt := e216
                    replace e217 : v215.toInt ≤ 1 := e217
                    replace e218 : IgV v215.toInt (qf195 1).toInt (qf195 2).toInt := e218
                    have hig := e218
                    replace hw : pw D A s.heap H locs [wd_Mo cs mo mr (fun _ => none) mf_12 md_12 (gMo PG hq), fo 13 (fPr cs hq qr QO_12 QF_12 QA_12) p0.toNatClampNeg, fo 8 (fPg cs PG) j9, wdP cs (PG j9).h (PG j9).r (PG j9).g (PG j9).tf (PG j9).ta (PG j9).pf (PG j9).na (PG j9).ma (PG j9).wa (PG j9).cf (PG j9).ca (PG j9).ef (PG j9).ea (PG j9).xf (PG j9).xa, wd_Mpr cs (hq p0.toNatClampNeg) (qr p0.toNatClampNeg) (fun k => if k = 0 then (some (PG j9).h) else none) (upd qf195 7 0) (QA_12 p0.toNatClampNeg) (fun _ _ => none)] := hw
                    have lv215 := Int32.le_toInt v215
                    have uv215 := Int32.toInt_lt v215
                    refine lv_if_eq (tgt := 168) S.x S.b d_Mo_goOn_155 (by decide) (fun c219 => ?_) (fun c219 => ?_)
                    · have nc219 : v215.toInt = (0 : Int) := (i_eq (x := v215) (y := 0)).mp c219
                      refine lv_iconst (v := 1) S.x S.b d_Mo_goOn_168 (by decide) ?_
                      have hg3 := hig.elim (fun q8 => absurd q8.1 (by omega)) (fun q8 => q8.2)
                      refine lv_goto (tgt := 173) S.x S.b d_Mo_goOn_169 (by decide) ?_
                      refine lv_istore (lv' := [(4, .int 1), (7, .int z54), (6, .int z50), (5, .int z46), (0, .ref mo), (1, .int p0), (2, .ref (hq p0.toNatClampNeg)), (3, .int x12_3)]) S.x S.b d_Mo_goOn_173 hl (by decide) rfl (fun ls hl => ?_)
                      refine lv_aload_n S.x S.b d_Mo_goOn_175 rfl (lv_at hl 6 rfl) ?_
                      refine lv_iload S.x S.b d_Mo_goOn_176 (lv_at hl 0 rfl) ?_
                      refine lv_if_eq (tgt := 190) S.x S.b d_Mo_goOn_178 (by decide) (fun c220 => ?_) (fun c220 => ?_)
                      · exact absurd c220 (by decide)
                      ·
                        refine lv_aload_n S.x S.b d_Mo_goOn_181 rfl (lv_at hl 6 rfl) ?_
                        refine px_get S k_Mpr hT hw 4 0 11 (v := .int (qf195 11)) rfl rfl rfl (by decide) m11_3 d_Mo_goOn_182 ?_
                        refine lv_iconst (v := 1) S.x S.b d_Mo_goOn_185 (by decide) ?_
                        refine lv_iadd S.x S.b d_Mo_goOn_186 ?_
                        have lr221 := Int32.le_toInt (qf195 11)
                        have ur221 := Int32.toInt_lt (qf195 11)
                        refine lv_topi (fun z222 ez222 => ?_)
                        have tz222 : z222.toInt = ((qf195 11).toInt + (1 : Int) + 2147483648) % 4294967296 - 2147483648 := by rw [ez222]; exact i_add (qf195 11) 1
                        have lz222 := Int32.le_toInt z222
                        have uz222 := Int32.toInt_lt z222
                        try replace tz222 : z222.toInt = (qf195 11).toInt + (1 : Int) := by omega
                        refine lv_goto (tgt := 194) S.x S.b d_Mo_goOn_187 (by decide) ?_
                        refine px_put S k_Mpr hT hw 4 0 11 rfl rfl (by decide) m11_3 rfl rfl rfl (Nat.le_of_ble_eq_true rfl) d_Mo_goOn_194 (w' := wd_Mpr cs (hq p0.toNatClampNeg) (qr p0.toNatClampNeg) (fun k => if k = 0 then (some (PG j9).h) else none) (upd (upd qf195 7 0) 11 z222) (QA_12 p0.toNatClampNeg) (fun _ _ => none)) (ps' := [wd_Mo cs mo mr (fun _ => none) mf_12 md_12 (gMo PG hq), fo 13 (fPr cs hq qr QO_12 QF_12 QA_12) p0.toNatClampNeg, fo 8 (fPg cs PG) j9, wdP cs (PG j9).h (PG j9).r (PG j9).g (PG j9).tf (PG j9).ta (PG j9).pf (PG j9).na (PG j9).ma (PG j9).wa (PG j9).cf (PG j9).ca (PG j9).ef (PG j9).ea (PG j9).xf (PG j9).xa, wd_Mpr cs (hq p0.toNatClampNeg) (qr p0.toNatClampNeg) (fun k => if k = 0 then (some (PG j9).h) else none) (upd (upd qf195 7 0) 11 z222) (QA_12 p0.toNatClampNeg) (fun _ _ => none)]) rfl rfl (fun H locs hw => ?_)
                        refine lv_aload_n S.x S.b d_Mo_goOn_197 rfl (lv_at hl 6 rfl) ?_
                        refine lv_aload_n S.x S.b d_Mo_goOn_198 rfl (lv_at hl 6 rfl) ?_
                        refine px_get S k_Mpr hT hw 4 0 7 (v := .int 0) rfl rfl rfl (by decide) m10_235 d_Mo_goOn_199 ?_
                        refine lv_if_eq (tgt := 214) S.x S.b d_Mo_goOn_202 (by decide) (fun c223 => ?_) (fun c223 => ?_)
                        ·
                          refine lv_iconst (v := 0) S.x S.b d_Mo_goOn_214 (by decide) ?_
                          refine px_put S k_Mpr hT hw 4 0 7 rfl rfl (by decide) m10_235 rfl rfl rfl (Nat.le_of_ble_eq_true rfl) d_Mo_goOn_215 (w' := wd_Mpr cs (hq p0.toNatClampNeg) (qr p0.toNatClampNeg) (fun k => if k = 0 then (some (PG j9).h) else none) (upd (upd qf195 7 0) 11 z222) (QA_12 p0.toNatClampNeg) (fun _ _ => none)) (ps' := [wd_Mo cs mo mr (fun _ => none) mf_12 md_12 (gMo PG hq), fo 13 (fPr cs hq qr QO_12 QF_12 QA_12) p0.toNatClampNeg, fo 8 (fPg cs PG) j9, wdP cs (PG j9).h (PG j9).r (PG j9).g (PG j9).tf (PG j9).ta (PG j9).pf (PG j9).na (PG j9).ma (PG j9).wa (PG j9).cf (PG j9).ca (PG j9).ef (PG j9).ea (PG j9).xf (PG j9).xa, wd_Mpr cs (hq p0.toNatClampNeg) (qr p0.toNatClampNeg) (fun k => if k = 0 then (some (PG j9).h) else none) (upd (upd qf195 7 0) 11 z222) (QA_12 p0.toNatClampNeg) (fun _ _ => none)]) rfl rfl (fun H locs hw => ?_)
                          refine lv_goto (tgt := 241) S.x S.b d_Mo_goOn_218 (by decide) ?_
                          have hw : pw D A s.heap _ _ [wd_Mo cs mo mr (fun _ => none) mf_12 md_12 (gMo PG hq), fo 8 (fPg cs PG) j9, wdP cs (PG j9).h (PG j9).r (PG j9).g (PG j9).tf (PG j9).ta (PG j9).pf (PG j9).na (PG j9).ma (PG j9).wa (PG j9).cf (PG j9).ca (PG j9).ef (PG j9).ea (PG j9).xf (PG j9).xa, fo 13 (fPr cs hq qr QO_12 QF_12 QA_12) p0.toNatClampNeg, wd_Mpr cs (hq p0.toNatClampNeg) (qr p0.toNatClampNeg) (fun k => if k = 0 then (some (PG j9).h) else none) (upd (upd qf195 7 0) 11 z222) (QA_12 p0.toNatClampNeg) (fun _ _ => none)] := hw.sub [0, 2, 3, 1, 4] rfl rfl
                          have hw := fpr_in (pr := [wd_Mo cs mo mr (fun _ => none) mf_12 md_12 (gMo PG hq), fo 8 (fPg cs PG) j9, wdP cs (PG j9).h (PG j9).r (PG j9).g (PG j9).tf (PG j9).ta (PG j9).pf (PG j9).na (PG j9).ma (PG j9).wa (PG j9).cf (PG j9).ca (PG j9).ef (PG j9).ea (PG j9).xf (PG j9).xa]) hw hi20
                          obtain ⟨QO224, hu_QO224⟩ : ∃ y : Nat → Option Nat, y = va_up QO_12 p0.toNatClampNeg ((fun k => if k = 0 then (some (PG j9).h) else none) 0) := ⟨_, rfl⟩
                          obtain ⟨QF225, hu_QF225⟩ : ∃ y : Nat → Nat → Int32, y = va_up QF_12 p0.toNatClampNeg (upd (upd qf195 7 0) 11 z222) := ⟨_, rfl⟩
                          obtain ⟨QA226, hu_QA226⟩ : ∃ y : Nat → Nat → Nat → Int32, y = va_up QA_12 p0.toNatClampNeg (QA_12 p0.toNatClampNeg) := ⟨_, rfl⟩
                          have hw : pw D A s.heap _ _ [wd_Mo cs mo mr (fun _ => none) mf_12 md_12 (gMo PG hq), fo 8 (fPg cs PG) j9, wdP cs (PG j9).h (PG j9).r (PG j9).g (PG j9).tf (PG j9).ta (PG j9).pf (PG j9).na (PG j9).ma (PG j9).wa (PG j9).cf (PG j9).ca (PG j9).ef (PG j9).ea (PG j9).xf (PG j9).xa, fm 13 (fPr cs hq qr QO224 QF225 QA226)] := (by rw [hu_QO224, hu_QF225, hu_QA226]; exact hw)
                          have hpr : PrA PG (va_up RR p0.toNatClampNeg (R_12 - 1)) QO224 QF225 QA226 := (by rw [hu_QO224, hu_QF225, hu_QA226]; exact PrA.upR2 hpr hi20 (psr_en (show (0 ≤ (qf195 1).toInt ∧ (qf195 1).toInt ≤ 1) ∧ (0 ≤ (qf195 21).toInt ∧ (qf195 21).toInt ≤ 4) ∧ (0 ≤ (qf195 23).toInt ∧ (qf195 23).toInt ≤ 4) ∧ (0 ≤ (qf195 24).toInt ∧ (qf195 24).toInt ≤ 1000000) ∧ (0 ≤ (qf195 6).toInt ∧ (qf195 6).toInt ≤ 3) ∧ (0 ≤ (0 : Int) ∧ (0 : Int) ≤ 1) from by first | with_reducible rfl | with_reducible assumption | omega) (show (qf195 1).toInt = 1 from by first | exact oz_e863b17997 e201 hg1.1 | omega) (by omega) (show (qf195 2).toInt ≠ -2 from by first | with_reducible rfl | with_reducible assumption | omega)) (show (qf195 1).toInt = (QF_12 p0.toNatClampNeg 1).toInt from by first | exact oz_1811ac7fe4 e201 | omega) (show (QF_12 p0.toNatClampNeg 6).toInt ≤ (qf195 6).toInt from by first | exact oz_f9b42d1b56 e203 | omega))
                          have hqk1_QF225 : (QF225 p0.toNatClampNeg 1).toInt = (qf195 1).toInt := (by rw [hu_QF225, va_up_s]; try rfl)
                          have hqk2_QF225 : (QF225 p0.toNatClampNeg 2).toInt = (qf195 2).toInt := (by rw [hu_QF225, va_up_s]; try rfl)
                          have hqk4_QF225 : (QF225 p0.toNatClampNeg 4).toInt = (qf195 4).toInt := (by rw [hu_QF225, va_up_s]; try rfl)
                          have hqk7_QF225 : (QF225 p0.toNatClampNeg 7).toInt = (0 : Int) := (by rw [hu_QF225, va_up_s]; try rfl)
                          have hqk10_QF225 : (QF225 p0.toNatClampNeg 10).toInt = (qf195 10).toInt := (by rw [hu_QF225, va_up_s]; try rfl)
                          have hqk11_QF225 : (QF225 p0.toNatClampNeg 11).toInt = z222.toInt := (by rw [hu_QF225, va_up_s]; try rfl)
                          have hqk24_QF225 : (QF225 p0.toNatClampNeg 24).toInt = (qf195 24).toInt := (by rw [hu_QF225, va_up_s]; try rfl)
                          have hw : pw D A s.heap _ _ [wd_Mo cs mo mr (fun _ => none) mf_12 md_12 (gMo PG hq), fm 13 (fPr cs hq qr QO224 QF225 QA226), fo 8 (fPg cs PG) j9, wdP cs (PG j9).h (PG j9).r (PG j9).g (PG j9).tf (PG j9).ta (PG j9).pf (PG j9).na (PG j9).ma (PG j9).wa (PG j9).cf (PG j9).ca (PG j9).ef (PG j9).ea (PG j9).xf (PG j9).xa] := hw.sub [0, 3, 1, 2] rfl rfl
                          have hw : pw D A s.heap _ _ [wd_Mo cs mo mr (fun _ => none) mf_12 md_12 (gMo PG hq), fm 13 (fPr cs hq qr QO224 QF225 QA226), fm 8 (fPg cs PG)] := fm_back (pr := [wd_Mo cs mo mr (fun _ => none) mf_12 md_12 (gMo PG hq), fm 13 (fPr cs hq qr QO224 QF225 QA226)]) (T := fPg cs PG) hw hj9
                          exact J241 mf_12 md_12 QO224 QF225 QA226 (R_12 - 1) x12_3 (1 : Int32) _ _ ls (show PrA PG (va_up RR p0.toNatClampNeg (R_12 - 1)) QO224 QF225 QA226 from hpr) (show (mf_12 0).toInt = (mf 0).toInt from by first | exact k12_1 | omega) (show (mf_12 2).toInt = (mf 2).toInt from by first | exact k12_2 | omega) (show (mf_12 3).toInt = (mf 3).toInt from by first | exact k12_3 | omega) (show (mf_12 7).toInt = (mf 7).toInt from by first | exact k12_4 | omega) (show (mf_12 8).toInt = (mf 8).toInt from by first | exact k12_5 | omega) (show (mf_12 10).toInt = (mf 10).toInt from by first | exact k12_6 | omega) (show x12_3.toInt = x12_3.toInt from rfl) (show 0 ≤ (1 : Int) from by first | decide | omega) (show (1 : Int) ≤ 1 from by first | decide | omega) (show (R_12 - 1) + (1 : Int) ≤ R_12 from by first | exact oz_9af69b5cb8 | omega) (show (R_12 - 1) ≤ R_12 from by first | exact oz_f81ab12e42 | omega) (show 1 ≤ x12_4.toInt from by first | exact oz_70c2bdf1b6 k12_9 nc3 | omega) hw (lv_sub hl [4, 5, 6, 7, 0] rfl)
                        · exact absurd c223 (by decide)
                    · have nc219 : ¬ v215.toInt = (0 : Int) := mt (i_eq (x := v215) (y := 0)).mpr c219
                      refine lv_aload_n S.x S.b d_Mo_goOn_158 rfl (lv_at hl 3 rfl) ?_
                      have hg2 := hig.elim id (fun q8 => absurd q8.1 (by omega))
                      refine lv_iload_n S.x S.b d_Mo_goOn_159 rfl (lv_at hl 4 rfl) ?_
                      refine lv_iload S.x S.b d_Mo_goOn_160 (lv_at hl 1 rfl) ?_
                      have hw : pw D A s.heap _ _ [wd_Mo cs mo mr (fun _ => none) mf_12 md_12 (gMo PG hq), fo 8 (fPg cs PG) j9, wdP cs (PG j9).h (PG j9).r (PG j9).g (PG j9).tf (PG j9).ta (PG j9).pf (PG j9).na (PG j9).ma (PG j9).wa (PG j9).cf (PG j9).ca (PG j9).ef (PG j9).ea (PG j9).xf (PG j9).xa, fo 13 (fPr cs hq qr QO_12 QF_12 QA_12) p0.toNatClampNeg, wd_Mpr cs (hq p0.toNatClampNeg) (qr p0.toNatClampNeg) (fun k => if k = 0 then (some (PG j9).h) else none) (upd qf195 7 0) (QA_12 p0.toNatClampNeg) (fun _ _ => none)] := hw.sub [0, 2, 3, 1, 4] rfl rfl
                      have hw := fpr_in (pr := [wd_Mo cs mo mr (fun _ => none) mf_12 md_12 (gMo PG hq), fo 8 (fPg cs PG) j9, wdP cs (PG j9).h (PG j9).r (PG j9).g (PG j9).tf (PG j9).ta (PG j9).pf (PG j9).na (PG j9).ma (PG j9).wa (PG j9).cf (PG j9).ca (PG j9).ef (PG j9).ea (PG j9).xf (PG j9).xa]) hw hi20
                      obtain ⟨QO227, hu_QO227⟩ : ∃ y : Nat → Option Nat, y = va_up QO_12 p0.toNatClampNeg ((fun k => if k = 0 then (some (PG j9).h) else none) 0) := ⟨_, rfl⟩
                      obtain ⟨QF228, hu_QF228⟩ : ∃ y : Nat → Nat → Int32, y = va_up QF_12 p0.toNatClampNeg (upd qf195 7 0) := ⟨_, rfl⟩
                      obtain ⟨QA229, hu_QA229⟩ : ∃ y : Nat → Nat → Nat → Int32, y = va_up QA_12 p0.toNatClampNeg (QA_12 p0.toNatClampNeg) := ⟨_, rfl⟩
                      have hw : pw D A s.heap _ _ [wd_Mo cs mo mr (fun _ => none) mf_12 md_12 (gMo PG hq), fo 8 (fPg cs PG) j9, wdP cs (PG j9).h (PG j9).r (PG j9).g (PG j9).tf (PG j9).ta (PG j9).pf (PG j9).na (PG j9).ma (PG j9).wa (PG j9).cf (PG j9).ca (PG j9).ef (PG j9).ea (PG j9).xf (PG j9).xa, fm 13 (fPr cs hq qr QO227 QF228 QA229)] := (by rw [hu_QO227, hu_QF228, hu_QA229]; exact hw)
                      have hpay : PsT (PG j9) R_12 (upd qf195 7 0) (QA_12 p0.toNatClampNeg) := (PsT.pay hpt (show (qf195 5).toInt = (QF_12 p0.toNatClampNeg 5).toInt ∧ (qf195 10).toInt = (QF_12 p0.toNatClampNeg 10).toInt ∧ (qf195 11).toInt = (QF_12 p0.toNatClampNeg 11).toInt ∧ (qf195 12).toInt = (QF_12 p0.toNatClampNeg 12).toInt ∧ (qf195 13).toInt = (QF_12 p0.toNatClampNeg 13).toInt ∧ (qf195 14).toInt = (QF_12 p0.toNatClampNeg 14).toInt ∧ (qf195 24).toInt = (QF_12 p0.toNatClampNeg 24).toInt from by first | exact oz_b005c07786 e202 e205 e206 e207 e208 e209 e212 | omega) (show 0 ≤ (qf195 4).toInt ∧ (qf195 4).toInt ≤ (QF_12 p0.toNatClampNeg 4).toInt from by first | with_reducible rfl | with_reducible assumption | omega) ho16 (fun q8 => (show (qf195 24).toInt + (qf195 4).toInt ≤ 99 from by rw [hoa] at q8; omega)))
                      have hpr : PrA PG (va_up RR p0.toNatClampNeg R_12) QO227 QF228 QA229 := (by rw [hu_QO227, hu_QF228, hu_QA229]; exact PrA.upR2 hpr hi20 (psr_tx (j := j9) hj9 (show _ = some _ from rfl) h61 (show (0 ≤ (qf195 1).toInt ∧ (qf195 1).toInt ≤ 1) ∧ (0 ≤ (qf195 21).toInt ∧ (qf195 21).toInt ≤ 4) ∧ (0 ≤ (qf195 23).toInt ∧ (qf195 23).toInt ≤ 4) ∧ (0 ≤ (qf195 24).toInt ∧ (qf195 24).toInt ≤ 1000000) ∧ (0 ≤ (qf195 6).toInt ∧ (qf195 6).toInt ≤ 3) ∧ (0 ≤ (0 : Int) ∧ (0 : Int) ≤ 1) from by first | with_reducible rfl | with_reducible assumption | omega) (show (qf195 1).toInt = 1 from by first | exact oz_e863b17997 e201 hg1.1 | omega) (by omega) (fun _ => hpay)) (show (qf195 1).toInt = (QF_12 p0.toNatClampNeg 1).toInt from by first | exact oz_1811ac7fe4 e201 | omega) (show (QF_12 p0.toNatClampNeg 6).toInt ≤ (qf195 6).toInt from by first | exact oz_f9b42d1b56 e203 | omega))
                      have hqk1_QF228 : (QF228 p0.toNatClampNeg 1).toInt = (qf195 1).toInt := (by rw [hu_QF228, va_up_s]; try rfl)
                      have hqk2_QF228 : (QF228 p0.toNatClampNeg 2).toInt = (qf195 2).toInt := (by rw [hu_QF228, va_up_s]; try rfl)
                      have hqk4_QF228 : (QF228 p0.toNatClampNeg 4).toInt = (qf195 4).toInt := (by rw [hu_QF228, va_up_s]; try rfl)
                      have hqk7_QF228 : (QF228 p0.toNatClampNeg 7).toInt = (0 : Int) := (by rw [hu_QF228, va_up_s]; try rfl)
                      have hqk10_QF228 : (QF228 p0.toNatClampNeg 10).toInt = (qf195 10).toInt := (by rw [hu_QF228, va_up_s]; try rfl)
                      have hqk11_QF228 : (QF228 p0.toNatClampNeg 11).toInt = (qf195 11).toInt := (by rw [hu_QF228, va_up_s]; try rfl)
                      have hqk24_QF228 : (QF228 p0.toNatClampNeg 24).toInt = (qf195 24).toInt := (by rw [hu_QF228, va_up_s]; try rfl)
                      have hqo : OqE (QO227 p0.toNatClampNeg) (PG j9).h := (by rw [hu_QO227, va_up_s]; exact rfl)
                      have hpo8 : (0 ≤ z50.toInt ∧ z50.toInt < 10) ∧ PoT (PG j9) ((va_up RR p0.toNatClampNeg R_12) p0.toNatClampNeg) z50.toInt (QF228 p0.toNatClampNeg) (QA229 p0.toNatClampNeg) := (by rw [va_up_s, hu_QF228, hu_QA229, va_up_s, va_up_s]; exact hpay.owc (by show ((PG j9).ea 61 (3 * (qf195 11).toInt).toNat).toInt = 16; rw [show (qf195 11).toInt = (QF_12 p0.toNatClampNeg 11).toInt by omega]; exact ho16) (by show ((PG j9).ea 61 (3 * (qf195 11).toInt + 1).toNat).toInt = _; rw [show (qf195 11).toInt = (QF_12 p0.toNatClampNeg 11).toInt by omega]; exact hoa) (fun q8 => (show (qf195 24).toInt + (qf195 4).toInt ≤ 99 from by first | with_reducible rfl | with_reducible assumption | omega)))
                      have hpo81 := hpo8.1
                      have hw : pw D A s.heap _ _ [wd_Mo cs mo mr (fun _ => none) mf_12 md_12 (gMo PG hq), fm 13 (fPr cs hq qr QO227 QF228 QA229), fo 8 (fPg cs PG) j9, wdP cs (PG j9).h (PG j9).r (PG j9).g (PG j9).tf (PG j9).ta (PG j9).pf (PG j9).na (PG j9).ma (PG j9).wa (PG j9).cf (PG j9).ca (PG j9).ef (PG j9).ea (PG j9).xf (PG j9).xa] := hw.sub [0, 3, 1, 2] rfl rfl
                      have hw : pw D A s.heap _ _ [wd_Mo cs mo mr (fun _ => none) mf_12 md_12 (gMo PG hq), fm 13 (fPr cs hq qr QO227 QF228 QA229), fm 8 (fPg cs PG)] := fm_back (pr := [wd_Mo cs mo mr (fun _ => none) mf_12 md_12 (gMo PG hq), fm 13 (fPr cs hq qr QO227 QF228 QA229)]) (T := fPg cs PG) hw hj9
                      refine px_calli (pr := []) (px_runV (As := [.int p0, .int z50]) (rest := []) S (c_mo_ownCall l D cs (va_up RR p0.toNatClampNeg R_12) j9 mo mr mf_12 md_12 hq qr QO227 QF228 QA229 PG p0 z50  (show 0 ≤ p0.toInt from by first | exact g0 | omega) (show p0.toInt < 13 from by first | exact g1 | omega) (show 0 ≤ (mf_12 7).toInt from by first | exact oz_f3ebed1ad0 k12_4 g2 | omega) (show (mf_12 7).toInt ≤ 100 from by first | exact oz_b2552476a0 k12_4 g3 | omega) (show 0 ≤ (mf_12 8).toInt from by first | exact oz_f3ebed1ad0 k12_5 g4 | omega) (show (mf_12 8).toInt ≤ 512 from by first | exact oz_5926d5b85b k12_5 g5 | omega) (show 0 ≤ z50.toInt from by first | exact hpo81.1 | omega) (show z50.toInt < 10 from by first | exact hpo81.2 | omega) (show (QF228 p0.toNatClampNeg 1).toInt = 1 from by first | exact oz_d145a98bf1 hqk1_QF228 e201 hg1.1 | omega) hpr hpg hpo8.2 _) hT (pr := []) (pcs := [wd_Mo cs mo mr (fun _ => none) mf_12 md_12 (gMo PG hq), fm 13 (fPr cs hq qr QO227 QF228 QA229), fm 8 (fPg cs PG)]) hw px_X.tt (px_recv hT hw 0 0 rfl rfl rfl) m14_106 m14_103 m14_105 ms_16_9 m1_20 q_Mo_ownCall ⟨Nat.le_of_ble_eq_true rfl, Nat.le_of_ble_eq_true rfl⟩ hl.1 rfl (Nat.le_of_ble_eq_true rfl) d_Mo_goOn_162 ⟨Nat.le_of_ble_eq_true rfl, Nat.le_of_ble_eq_true rfl⟩) hw hA (fun v241 p240 H locs hp240 hw => ?_)
                      obtain ⟨mf235, md236, QO237, QF238, QA239, rfl, e242, e243, e244, e245, e246, e247, e248, e249, e250, e251⟩ := hp240
                      replace e242 : 0 ≤ v241.toInt := e242
                      replace e243 : v241.toInt ≤ 1 := e243
                      replace e244 : OwQ v241.toInt (PrA PG (va_up RR p0.toNatClampNeg R_12) QO237 QF238 QA239) (PrX PG (va_up RR p0.toNatClampNeg R_12) QO237 QF238 QA239 p0.toNatClampNeg ∧ PdT (PG j9) ((va_up RR p0.toNatClampNeg R_12) p0.toNatClampNeg) (QF238 p0.toNatClampNeg) (QA239 p0.toNatClampNeg)) := e244
                      have hoq := e244
                      replace e245 : KpO QO227 QF228 QO237 QF238 p0.toNatClampNeg := e245
                      have hko := e245
                      have hko2 := hko.2
                      replace e246 : (mf235 0).toInt = (mf_12 0).toInt := e246
                      replace e247 : (mf235 2).toInt = (mf_12 2).toInt := e247
                      replace e248 : (mf235 3).toInt = (mf_12 3).toInt := e248
                      replace e249 : (mf235 7).toInt = (mf_12 7).toInt := e249
                      replace e250 : (mf235 8).toInt = (mf_12 8).toInt := e250
                      replace e251 : (mf235 10).toInt = (mf_12 10).toInt := e251
                      replace hw : pw D A s.heap H locs [wd_Mo cs mo mr (fun _ => none) mf235 md236 (gMo PG hq), fm 13 (fPr cs hq qr QO237 QF238 QA239), fm 8 (fPg cs PG)] := hw
                      have lv241 := Int32.le_toInt v241
                      have uv241 := Int32.toInt_lt v241
                      refine lv_if_eq (tgt := 172) S.x S.b d_Mo_goOn_165 (by decide) (fun c252 => ?_) (fun c252 => ?_)
                      · have nc252 : v241.toInt = (0 : Int) := (i_eq (x := v241) (y := 0)).mp c252
                        refine lv_iconst (v := 0) S.x S.b d_Mo_goOn_172 (by decide) ?_
                        have hpr := hoq.elim (fun q8 => q8.2) (fun q8 => absurd q8.1 (by omega))
                        refine lv_istore (lv' := [(4, .int 0), (7, .int z54), (6, .int z50), (5, .int z46), (0, .ref mo), (1, .int p0), (2, .ref (hq p0.toNatClampNeg)), (3, .int x12_3)]) S.x S.b d_Mo_goOn_173 hl (by decide) rfl (fun ls hl => ?_)
                        refine lv_aload_n S.x S.b d_Mo_goOn_175 rfl (lv_at hl 6 rfl) ?_
                        refine lv_iload S.x S.b d_Mo_goOn_176 (lv_at hl 0 rfl) ?_
                        refine lv_if_eq (tgt := 190) S.x S.b d_Mo_goOn_178 (by decide) (fun c253 => ?_) (fun c253 => ?_)
                        ·
                          refine lv_aload_n S.x S.b d_Mo_goOn_190 rfl (lv_at hl 6 rfl) ?_
                          have hw : pw D A s.heap _ _ [wd_Mo cs mo mr (fun _ => none) mf235 md236 (gMo PG hq), fm 8 (fPg cs PG), fm 13 (fPr cs hq qr QO237 QF238 QA239)] := hw.sub [0, 2, 1] rfl rfl
                          have hc254 := cl_nat (x := p0) (by first | exact g0 | omega)
                          have hi254 : p0.toNatClampNeg < 13 := by first | exact hi20 | omega
                          have hw : pw D A s.heap _ _ [wd_Mo cs mo mr (fun _ => none) mf235 md236 (gMo PG hq), fm 8 (fPg cs PG), fo 13 (fPr cs hq qr QO237 QF238 QA239) p0.toNatClampNeg, wd_Mpr cs (hq p0.toNatClampNeg) (qr p0.toNatClampNeg) (fun _ => QO237 p0.toNatClampNeg) (QF238 p0.toNatClampNeg) (QA239 p0.toNatClampNeg) (fun _ _ => none)] := fm_out (pr := [wd_Mo cs mo mr (fun _ => none) mf235 md236 (gMo PG hq), fm 8 (fPg cs PG)]) (T := fPr cs hq qr QO237 QF238 QA239) hw hi254
                          have hps254 := hpr.1 p0.toNatClampNeg hi254
                          have hpb254 := hps254.1
                          unfold PsB at hpb254
                          refine px_get S k_Mpr hT hw 3 0 11 (v := .int ((QF238 p0.toNatClampNeg) 11)) rfl rfl rfl (by decide) m11_3 d_Mo_goOn_191 ?_
                          refine px_put S k_Mpr hT hw 3 0 11 rfl rfl (by decide) m11_3 rfl rfl rfl (Nat.le_of_ble_eq_true rfl) d_Mo_goOn_194 (w' := wd_Mpr cs (hq p0.toNatClampNeg) (qr p0.toNatClampNeg) (fun _ => QO237 p0.toNatClampNeg) (upd (QF238 p0.toNatClampNeg) 11 ((QF238 p0.toNatClampNeg) 11)) (QA239 p0.toNatClampNeg) (fun _ _ => none)) (ps' := [wd_Mo cs mo mr (fun _ => none) mf235 md236 (gMo PG hq), fm 8 (fPg cs PG), fo 13 (fPr cs hq qr QO237 QF238 QA239) p0.toNatClampNeg, wd_Mpr cs (hq p0.toNatClampNeg) (qr p0.toNatClampNeg) (fun _ => QO237 p0.toNatClampNeg) (upd (QF238 p0.toNatClampNeg) 11 ((QF238 p0.toNatClampNeg) 11)) (QA239 p0.toNatClampNeg) (fun _ _ => none)]) rfl rfl (fun H locs hw => ?_)
                          refine lv_aload_n S.x S.b d_Mo_goOn_197 rfl (lv_at hl 6 rfl) ?_
                          refine lv_aload_n S.x S.b d_Mo_goOn_198 rfl (lv_at hl 6 rfl) ?_
                          refine px_get S k_Mpr hT hw 3 0 7 (v := .int ((QF238 p0.toNatClampNeg) 7)) rfl rfl rfl (by decide) m10_235 d_Mo_goOn_199 ?_
                          refine lv_if_eq (tgt := 214) S.x S.b d_Mo_goOn_202 (by decide) (fun c255 => ?_) (fun c255 => ?_)
                          · have nc255 : ((QF238 p0.toNatClampNeg) 7).toInt = (0 : Int) := (i_eq (x := ((QF238 p0.toNatClampNeg) 7)) (y := 0)).mp c255
                            exfalso
                            omega
                          · have nc255 : ¬ ((QF238 p0.toNatClampNeg) 7).toInt = (0 : Int) := mt (i_eq (x := ((QF238 p0.toNatClampNeg) 7)) (y := 0)).mpr c255
                            refine lv_iload S.x S.b d_Mo_goOn_205 (lv_at hl 0 rfl) ?_
                            refine lv_if_ne (tgt := 214) S.x S.b d_Mo_goOn_207 (by decide) (fun c256 => ?_) (fun c256 => ?_)
                            · exact absurd c256 (by decide)
                            ·
                              refine lv_iconst (v := 1) S.x S.b d_Mo_goOn_210 (by decide) ?_
                              refine lv_goto (tgt := 215) S.x S.b d_Mo_goOn_211 (by decide) ?_
                              refine px_put S k_Mpr hT hw 3 0 7 rfl rfl (by decide) m10_235 rfl rfl rfl (Nat.le_of_ble_eq_true rfl) d_Mo_goOn_215 (w' := wd_Mpr cs (hq p0.toNatClampNeg) (qr p0.toNatClampNeg) (fun _ => QO237 p0.toNatClampNeg) (upd (upd (QF238 p0.toNatClampNeg) 7 1) 11 ((QF238 p0.toNatClampNeg) 11)) (QA239 p0.toNatClampNeg) (fun _ _ => none)) (ps' := [wd_Mo cs mo mr (fun _ => none) mf235 md236 (gMo PG hq), fm 8 (fPg cs PG), fo 13 (fPr cs hq qr QO237 QF238 QA239) p0.toNatClampNeg, wd_Mpr cs (hq p0.toNatClampNeg) (qr p0.toNatClampNeg) (fun _ => QO237 p0.toNatClampNeg) (upd (upd (QF238 p0.toNatClampNeg) 7 1) 11 ((QF238 p0.toNatClampNeg) 11)) (QA239 p0.toNatClampNeg) (fun _ _ => none)]) rfl rfl (fun H locs hw => ?_)
                              refine lv_goto (tgt := 241) S.x S.b d_Mo_goOn_218 (by decide) ?_
                              have hw := fpr_in (pr := [wd_Mo cs mo mr (fun _ => none) mf235 md236 (gMo PG hq), fm 8 (fPg cs PG)]) hw hi254
                              obtain ⟨QO257, hu_QO257⟩ : ∃ y : Nat → Option Nat, y = va_up QO237 p0.toNatClampNeg ((fun _ => QO237 p0.toNatClampNeg) 0) := ⟨_, rfl⟩
                              obtain ⟨QF258, hu_QF258⟩ : ∃ y : Nat → Nat → Int32, y = va_up QF238 p0.toNatClampNeg (upd (upd (QF238 p0.toNatClampNeg) 7 1) 11 ((QF238 p0.toNatClampNeg) 11)) := ⟨_, rfl⟩
                              obtain ⟨QA259, hu_QA259⟩ : ∃ y : Nat → Nat → Nat → Int32, y = va_up QA239 p0.toNatClampNeg (QA239 p0.toNatClampNeg) := ⟨_, rfl⟩
                              have hw : pw D A s.heap _ _ [wd_Mo cs mo mr (fun _ => none) mf235 md236 (gMo PG hq), fm 8 (fPg cs PG), fm 13 (fPr cs hq qr QO257 QF258 QA259)] := (by rw [hu_QO257, hu_QF258, hu_QA259]; exact hw)
                              have hpr : PrA PG (va_up RR p0.toNatClampNeg R_12) QO257 QF258 QA259 := (by rw [hu_QO257, hu_QF258, hu_QA259]; exact PrA.upR2 hpr hi254 (PsR.kf (by have q8 := hps254; rw [va_up_s] at q8; exact q8) (show (0 ≤ ((QF238 p0.toNatClampNeg) 1).toInt ∧ ((QF238 p0.toNatClampNeg) 1).toInt ≤ 1) ∧ (0 ≤ ((QF238 p0.toNatClampNeg) 21).toInt ∧ ((QF238 p0.toNatClampNeg) 21).toInt ≤ 4) ∧ (0 ≤ ((QF238 p0.toNatClampNeg) 23).toInt ∧ ((QF238 p0.toNatClampNeg) 23).toInt ≤ 4) ∧ (0 ≤ ((QF238 p0.toNatClampNeg) 24).toInt ∧ ((QF238 p0.toNatClampNeg) 24).toInt ≤ 1000000) ∧ (0 ≤ ((QF238 p0.toNatClampNeg) 6).toInt ∧ ((QF238 p0.toNatClampNeg) 6).toInt ≤ 3) ∧ (0 ≤ (1 : Int) ∧ (1 : Int) ≤ 1) from by first | with_reducible rfl | with_reducible assumption | omega) (show (((QF238 p0.toNatClampNeg) 1).toInt = (QF238 p0.toNatClampNeg 1).toInt ∧ ((QF238 p0.toNatClampNeg) 4).toInt = (QF238 p0.toNatClampNeg 4).toInt ∧ ((QF238 p0.toNatClampNeg) 5).toInt = (QF238 p0.toNatClampNeg 5).toInt ∧ (1 : Int) = (QF238 p0.toNatClampNeg 7).toInt ∧ ((QF238 p0.toNatClampNeg) 10).toInt = (QF238 p0.toNatClampNeg 10).toInt ∧ ((QF238 p0.toNatClampNeg) 11).toInt = (QF238 p0.toNatClampNeg 11).toInt) ∧ ((QF238 p0.toNatClampNeg) 12).toInt = (QF238 p0.toNatClampNeg 12).toInt ∧ ((QF238 p0.toNatClampNeg) 13).toInt = (QF238 p0.toNatClampNeg 13).toInt ∧ ((QF238 p0.toNatClampNeg) 14).toInt = (QF238 p0.toNatClampNeg 14).toInt ∧ ((QF238 p0.toNatClampNeg) 24).toInt = (QF238 p0.toNatClampNeg 24).toInt from by first | with_reducible rfl | with_reducible assumption | omega) (show ((QF238 p0.toNatClampNeg) 2).toInt = (QF238 p0.toNatClampNeg 2).toInt from by first | exact oz_507c05ca68 | omega)) (show ((QF238 p0.toNatClampNeg) 1).toInt = (QF238 p0.toNatClampNeg 1).toInt from by first | exact oz_507c05ca68 | omega) (show (QF238 p0.toNatClampNeg 6).toInt ≤ ((QF238 p0.toNatClampNeg) 6).toInt from by first | exact oz_1cb5f934a5 | omega))
                              have hqk1_QF258 : (QF258 p0.toNatClampNeg 1).toInt = ((QF238 p0.toNatClampNeg) 1).toInt := (by rw [hu_QF258, va_up_s]; try rfl)
                              have hqk2_QF258 : (QF258 p0.toNatClampNeg 2).toInt = ((QF238 p0.toNatClampNeg) 2).toInt := (by rw [hu_QF258, va_up_s]; try rfl)
                              have hqk4_QF258 : (QF258 p0.toNatClampNeg 4).toInt = ((QF238 p0.toNatClampNeg) 4).toInt := (by rw [hu_QF258, va_up_s]; try rfl)
                              have hqk7_QF258 : (QF258 p0.toNatClampNeg 7).toInt = (1 : Int) := (by rw [hu_QF258, va_up_s]; try rfl)
                              have hqk10_QF258 : (QF258 p0.toNatClampNeg 10).toInt = ((QF238 p0.toNatClampNeg) 10).toInt := (by rw [hu_QF258, va_up_s]; try rfl)
                              have hqk11_QF258 : (QF258 p0.toNatClampNeg 11).toInt = ((QF238 p0.toNatClampNeg) 11).toInt := (by rw [hu_QF258, va_up_s]; try rfl)
                              have hqk24_QF258 : (QF258 p0.toNatClampNeg 24).toInt = ((QF238 p0.toNatClampNeg) 24).toInt := (by rw [hu_QF258, va_up_s]; try rfl)
                              have hw : pw D A s.heap _ _ [wd_Mo cs mo mr (fun _ => none) mf235 md236 (gMo PG hq), fm 13 (fPr cs hq qr QO257 QF258 QA259), fm 8 (fPg cs PG)] := hw.sub [0, 2, 1] rfl rfl
                              exact J241 mf235 md236 QO257 QF258 QA259 R_12 x12_3 (0 : Int32) _ _ ls (show PrA PG (va_up RR p0.toNatClampNeg R_12) QO257 QF258 QA259 from hpr) (show (mf235 0).toInt = (mf 0).toInt from by first | exact oz_1687f4cc65 k12_1 e246 | omega) (show (mf235 2).toInt = (mf 2).toInt from by first | exact oz_1687f4cc65 k12_2 e247 | omega) (show (mf235 3).toInt = (mf 3).toInt from by first | exact oz_1687f4cc65 k12_3 e248 | omega) (show (mf235 7).toInt = (mf 7).toInt from by first | exact oz_1687f4cc65 k12_4 e249 | omega) (show (mf235 8).toInt = (mf 8).toInt from by first | exact oz_1687f4cc65 k12_5 e250 | omega) (show (mf235 10).toInt = (mf 10).toInt from by first | exact oz_1687f4cc65 k12_6 e251 | omega) (show x12_3.toInt = x12_3.toInt from rfl) (show 0 ≤ (0 : Int) from by first | decide | omega) (show (0 : Int) ≤ 1 from by first | decide | omega) (show R_12 + (0 : Int) ≤ R_12 from by first | exact oz_9a4b2c0a69 | omega) (show R_12 ≤ R_12 from by first | exact oz_1cb5f934a5 | omega) (show 1 ≤ x12_4.toInt from by first | exact oz_70c2bdf1b6 k12_9 nc3 | omega) hw (lv_sub hl [4, 5, 6, 7, 0] rfl)
                        · exact absurd c253 (by decide)
                      · have nc252 : ¬ v241.toInt = (0 : Int) := mt (i_eq (x := v241) (y := 0)).mpr c252
                        refine lv_iconst (v := 1) S.x S.b d_Mo_goOn_168 (by decide) ?_
                        obtain ⟨hpx, hpd⟩ := hoq.elim (fun q8 => absurd q8.1 (by omega)) (fun q8 => q8.2)
                        refine lv_goto (tgt := 173) S.x S.b d_Mo_goOn_169 (by decide) ?_
                        refine lv_istore (lv' := [(4, .int 1), (7, .int z54), (6, .int z50), (5, .int z46), (0, .ref mo), (1, .int p0), (2, .ref (hq p0.toNatClampNeg)), (3, .int x12_3)]) S.x S.b d_Mo_goOn_173 hl (by decide) rfl (fun ls hl => ?_)
                        refine lv_aload_n S.x S.b d_Mo_goOn_175 rfl (lv_at hl 6 rfl) ?_
                        refine lv_iload S.x S.b d_Mo_goOn_176 (lv_at hl 0 rfl) ?_
                        refine lv_if_eq (tgt := 190) S.x S.b d_Mo_goOn_178 (by decide) (fun c260 => ?_) (fun c260 => ?_)
                        · exact absurd c260 (by decide)
                        ·
                          refine lv_aload_n S.x S.b d_Mo_goOn_181 rfl (lv_at hl 6 rfl) ?_
                          have hw : pw D A s.heap _ _ [wd_Mo cs mo mr (fun _ => none) mf235 md236 (gMo PG hq), fm 8 (fPg cs PG), fm 13 (fPr cs hq qr QO237 QF238 QA239)] := hw.sub [0, 2, 1] rfl rfl
                          have hc261 := cl_nat (x := p0) (by first | exact g0 | omega)
                          have hi261 : p0.toNatClampNeg < 13 := by first | exact hi20 | omega
                          have hw : pw D A s.heap _ _ [wd_Mo cs mo mr (fun _ => none) mf235 md236 (gMo PG hq), fm 8 (fPg cs PG), fo 13 (fPr cs hq qr QO237 QF238 QA239) p0.toNatClampNeg, wd_Mpr cs (hq p0.toNatClampNeg) (qr p0.toNatClampNeg) (fun _ => QO237 p0.toNatClampNeg) (QF238 p0.toNatClampNeg) (QA239 p0.toNatClampNeg) (fun _ _ => none)] := fm_out (pr := [wd_Mo cs mo mr (fun _ => none) mf235 md236 (gMo PG hq), fm 8 (fPg cs PG)]) (T := fPr cs hq qr QO237 QF238 QA239) hw hi261
                          have hpb261 := hpx.2.2
                          unfold PsB at hpb261
                          refine px_get S k_Mpr hT hw 3 0 11 (v := .int ((QF238 p0.toNatClampNeg) 11)) rfl rfl rfl (by decide) m11_3 d_Mo_goOn_182 ?_
                          refine lv_iconst (v := 1) S.x S.b d_Mo_goOn_185 (by decide) ?_
                          refine lv_iadd S.x S.b d_Mo_goOn_186 ?_
                          have lr262 := Int32.le_toInt ((QF238 p0.toNatClampNeg) 11)
                          have ur262 := Int32.toInt_lt ((QF238 p0.toNatClampNeg) 11)
                          refine lv_topi (fun z263 ez263 => ?_)
                          have tz263 : z263.toInt = (((QF238 p0.toNatClampNeg) 11).toInt + (1 : Int) + 2147483648) % 4294967296 - 2147483648 := by rw [ez263]; exact i_add ((QF238 p0.toNatClampNeg) 11) 1
                          have lz263 := Int32.le_toInt z263
                          have uz263 := Int32.toInt_lt z263
                          try replace tz263 : z263.toInt = ((QF238 p0.toNatClampNeg) 11).toInt + (1 : Int) := by omega
                          refine lv_goto (tgt := 194) S.x S.b d_Mo_goOn_187 (by decide) ?_
                          refine px_put S k_Mpr hT hw 3 0 11 rfl rfl (by decide) m11_3 rfl rfl rfl (Nat.le_of_ble_eq_true rfl) d_Mo_goOn_194 (w' := wd_Mpr cs (hq p0.toNatClampNeg) (qr p0.toNatClampNeg) (fun _ => QO237 p0.toNatClampNeg) (upd (QF238 p0.toNatClampNeg) 11 z263) (QA239 p0.toNatClampNeg) (fun _ _ => none)) (ps' := [wd_Mo cs mo mr (fun _ => none) mf235 md236 (gMo PG hq), fm 8 (fPg cs PG), fo 13 (fPr cs hq qr QO237 QF238 QA239) p0.toNatClampNeg, wd_Mpr cs (hq p0.toNatClampNeg) (qr p0.toNatClampNeg) (fun _ => QO237 p0.toNatClampNeg) (upd (QF238 p0.toNatClampNeg) 11 z263) (QA239 p0.toNatClampNeg) (fun _ _ => none)]) rfl rfl (fun H locs hw => ?_)
                          refine lv_aload_n S.x S.b d_Mo_goOn_197 rfl (lv_at hl 6 rfl) ?_
                          refine lv_aload_n S.x S.b d_Mo_goOn_198 rfl (lv_at hl 6 rfl) ?_
                          refine px_get S k_Mpr hT hw 3 0 7 (v := .int ((QF238 p0.toNatClampNeg) 7)) rfl rfl rfl (by decide) m10_235 d_Mo_goOn_199 ?_
                          refine lv_if_eq (tgt := 214) S.x S.b d_Mo_goOn_202 (by decide) (fun c264 => ?_) (fun c264 => ?_)
                          · have nc264 : ((QF238 p0.toNatClampNeg) 7).toInt = (0 : Int) := (i_eq (x := ((QF238 p0.toNatClampNeg) 7)) (y := 0)).mp c264
                            refine lv_iconst (v := 0) S.x S.b d_Mo_goOn_214 (by decide) ?_
                            refine px_put S k_Mpr hT hw 3 0 7 rfl rfl (by decide) m10_235 rfl rfl rfl (Nat.le_of_ble_eq_true rfl) d_Mo_goOn_215 (w' := wd_Mpr cs (hq p0.toNatClampNeg) (qr p0.toNatClampNeg) (fun _ => QO237 p0.toNatClampNeg) (upd (upd (QF238 p0.toNatClampNeg) 7 0) 11 z263) (QA239 p0.toNatClampNeg) (fun _ _ => none)) (ps' := [wd_Mo cs mo mr (fun _ => none) mf235 md236 (gMo PG hq), fm 8 (fPg cs PG), fo 13 (fPr cs hq qr QO237 QF238 QA239) p0.toNatClampNeg, wd_Mpr cs (hq p0.toNatClampNeg) (qr p0.toNatClampNeg) (fun _ => QO237 p0.toNatClampNeg) (upd (upd (QF238 p0.toNatClampNeg) 7 0) 11 z263) (QA239 p0.toNatClampNeg) (fun _ _ => none)]) rfl rfl (fun H locs hw => ?_)
                            refine lv_goto (tgt := 241) S.x S.b d_Mo_goOn_218 (by decide) ?_
                            have hw := fpr_in (pr := [wd_Mo cs mo mr (fun _ => none) mf235 md236 (gMo PG hq), fm 8 (fPg cs PG)]) hw hi261
                            obtain ⟨QO265, hu_QO265⟩ : ∃ y : Nat → Option Nat, y = va_up QO237 p0.toNatClampNeg ((fun _ => QO237 p0.toNatClampNeg) 0) := ⟨_, rfl⟩
                            obtain ⟨QF266, hu_QF266⟩ : ∃ y : Nat → Nat → Int32, y = va_up QF238 p0.toNatClampNeg (upd (upd (QF238 p0.toNatClampNeg) 7 0) 11 z263) := ⟨_, rfl⟩
                            obtain ⟨QA267, hu_QA267⟩ : ∃ y : Nat → Nat → Nat → Int32, y = va_up QA239 p0.toNatClampNeg (QA239 p0.toNatClampNeg) := ⟨_, rfl⟩
                            have hw : pw D A s.heap _ _ [wd_Mo cs mo mr (fun _ => none) mf235 md236 (gMo PG hq), fm 8 (fPg cs PG), fm 13 (fPr cs hq qr QO265 QF266 QA267)] := (by rw [hu_QO265, hu_QF266, hu_QA267]; exact hw)
                            have hpr : PrA PG (va_up RR p0.toNatClampNeg (R_12 - 1)) QO265 QF266 QA267 := (by rw [hu_QO265, hu_QF266, hu_QA267]; exact PrX.inR hpx (psr_tx (j := j9) hj9 (hko.1.trans hqo) h61 (show (0 ≤ ((QF238 p0.toNatClampNeg) 1).toInt ∧ ((QF238 p0.toNatClampNeg) 1).toInt ≤ 1) ∧ (0 ≤ ((QF238 p0.toNatClampNeg) 21).toInt ∧ ((QF238 p0.toNatClampNeg) 21).toInt ≤ 4) ∧ (0 ≤ ((QF238 p0.toNatClampNeg) 23).toInt ∧ ((QF238 p0.toNatClampNeg) 23).toInt ≤ 4) ∧ (0 ≤ ((QF238 p0.toNatClampNeg) 24).toInt ∧ ((QF238 p0.toNatClampNeg) 24).toInt ≤ 1000000) ∧ (0 ≤ ((QF238 p0.toNatClampNeg) 6).toInt ∧ ((QF238 p0.toNatClampNeg) 6).toInt ≤ 3) ∧ (0 ≤ (0 : Int) ∧ (0 : Int) ≤ 1) from by first | with_reducible rfl | with_reducible assumption | omega) (show ((QF238 p0.toNatClampNeg) 1).toInt = 1 from by first | exact oz_154b4b53d6 hko2.1 hqk1_QF228 e201 hg1.1 | omega) (by omega) (fun _ => by have q8 := hpd; rw [va_up_s] at q8; exact PdT.nx q8 (show ((QF238 p0.toNatClampNeg) 4).toInt = (QF238 p0.toNatClampNeg 4).toInt ∧ ((QF238 p0.toNatClampNeg) 5).toInt = (QF238 p0.toNatClampNeg 5).toInt ∧ ((QF238 p0.toNatClampNeg) 10).toInt = (QF238 p0.toNatClampNeg 10).toInt ∧ ((QF238 p0.toNatClampNeg) 12).toInt = (QF238 p0.toNatClampNeg 12).toInt ∧ ((QF238 p0.toNatClampNeg) 13).toInt = (QF238 p0.toNatClampNeg 13).toInt ∧ ((QF238 p0.toNatClampNeg) 14).toInt = (QF238 p0.toNatClampNeg 14).toInt from by first | exact oz_28eebd5525 | omega) (show z263.toInt = (QF238 p0.toNatClampNeg 11).toInt + 1 from by first | exact oz_037caa6b79 tz263 | omega) (show ((QF238 p0.toNatClampNeg) 24).toInt = (QF238 p0.toNatClampNeg 24).toInt from by first | exact oz_507c05ca68 | omega) (show (0 : Int) = 0 from by first | decide | omega))) (show ((QF238 p0.toNatClampNeg) 1).toInt = (QF238 p0.toNatClampNeg 1).toInt from by first | exact oz_507c05ca68 | omega) (show (QF238 p0.toNatClampNeg 6).toInt ≤ ((QF238 p0.toNatClampNeg) 6).toInt from by first | exact oz_1cb5f934a5 | omega))
                            have hw : pw D A s.heap _ _ [wd_Mo cs mo mr (fun _ => none) mf235 md236 (gMo PG hq), fm 13 (fPr cs hq qr QO265 QF266 QA267), fm 8 (fPg cs PG)] := hw.sub [0, 2, 1] rfl rfl
                            exact J241 mf235 md236 QO265 QF266 QA267 (R_12 - 1) x12_3 (1 : Int32) _ _ ls (show PrA PG (va_up RR p0.toNatClampNeg (R_12 - 1)) QO265 QF266 QA267 from hpr) (show (mf235 0).toInt = (mf 0).toInt from by first | exact oz_1687f4cc65 k12_1 e246 | omega) (show (mf235 2).toInt = (mf 2).toInt from by first | exact oz_1687f4cc65 k12_2 e247 | omega) (show (mf235 3).toInt = (mf 3).toInt from by first | exact oz_1687f4cc65 k12_3 e248 | omega) (show (mf235 7).toInt = (mf 7).toInt from by first | exact oz_1687f4cc65 k12_4 e249 | omega) (show (mf235 8).toInt = (mf 8).toInt from by first | exact oz_1687f4cc65 k12_5 e250 | omega) (show (mf235 10).toInt = (mf 10).toInt from by first | exact oz_1687f4cc65 k12_6 e251 | omega) (show x12_3.toInt = x12_3.toInt from rfl) (show 0 ≤ (1 : Int) from by first | decide | omega) (show (1 : Int) ≤ 1 from by first | decide | omega) (show (R_12 - 1) + (1 : Int) ≤ R_12 from by first | exact oz_9af69b5cb8 | omega) (show (R_12 - 1) ≤ R_12 from by first | exact oz_f81ab12e42 | omega) (show 1 ≤ x12_4.toInt from by first | exact oz_70c2bdf1b6 k12_9 nc3 | omega) hw (lv_sub hl [4, 5, 6, 7, 0] rfl)
                          · have nc264 : ¬ ((QF238 p0.toNatClampNeg) 7).toInt = (0 : Int) := mt (i_eq (x := ((QF238 p0.toNatClampNeg) 7)) (y := 0)).mpr c264
                            refine lv_iload S.x S.b d_Mo_goOn_205 (lv_at hl 0 rfl) ?_
                            refine lv_if_ne (tgt := 214) S.x S.b d_Mo_goOn_207 (by decide) (fun c268 => ?_) (fun c268 => ?_)
                            ·
                              refine lv_iconst (v := 0) S.x S.b d_Mo_goOn_214 (by decide) ?_
                              refine px_put S k_Mpr hT hw 3 0 7 rfl rfl (by decide) m10_235 rfl rfl rfl (Nat.le_of_ble_eq_true rfl) d_Mo_goOn_215 (w' := wd_Mpr cs (hq p0.toNatClampNeg) (qr p0.toNatClampNeg) (fun _ => QO237 p0.toNatClampNeg) (upd (upd (QF238 p0.toNatClampNeg) 7 0) 11 z263) (QA239 p0.toNatClampNeg) (fun _ _ => none)) (ps' := [wd_Mo cs mo mr (fun _ => none) mf235 md236 (gMo PG hq), fm 8 (fPg cs PG), fo 13 (fPr cs hq qr QO237 QF238 QA239) p0.toNatClampNeg, wd_Mpr cs (hq p0.toNatClampNeg) (qr p0.toNatClampNeg) (fun _ => QO237 p0.toNatClampNeg) (upd (upd (QF238 p0.toNatClampNeg) 7 0) 11 z263) (QA239 p0.toNatClampNeg) (fun _ _ => none)]) rfl rfl (fun H locs hw => ?_)
                              refine lv_goto (tgt := 241) S.x S.b d_Mo_goOn_218 (by decide) ?_
                              have hw := fpr_in (pr := [wd_Mo cs mo mr (fun _ => none) mf235 md236 (gMo PG hq), fm 8 (fPg cs PG)]) hw hi261
                              obtain ⟨QO269, hu_QO269⟩ : ∃ y : Nat → Option Nat, y = va_up QO237 p0.toNatClampNeg ((fun _ => QO237 p0.toNatClampNeg) 0) := ⟨_, rfl⟩
                              obtain ⟨QF270, hu_QF270⟩ : ∃ y : Nat → Nat → Int32, y = va_up QF238 p0.toNatClampNeg (upd (upd (QF238 p0.toNatClampNeg) 7 0) 11 z263) := ⟨_, rfl⟩
                              obtain ⟨QA271, hu_QA271⟩ : ∃ y : Nat → Nat → Nat → Int32, y = va_up QA239 p0.toNatClampNeg (QA239 p0.toNatClampNeg) := ⟨_, rfl⟩
                              have hw : pw D A s.heap _ _ [wd_Mo cs mo mr (fun _ => none) mf235 md236 (gMo PG hq), fm 8 (fPg cs PG), fm 13 (fPr cs hq qr QO269 QF270 QA271)] := (by rw [hu_QO269, hu_QF270, hu_QA271]; exact hw)
                              have hpr : PrA PG (va_up RR p0.toNatClampNeg (R_12 - 1)) QO269 QF270 QA271 := (by rw [hu_QO269, hu_QF270, hu_QA271]; exact PrX.inR hpx (psr_tx (j := j9) hj9 (hko.1.trans hqo) h61 (show (0 ≤ ((QF238 p0.toNatClampNeg) 1).toInt ∧ ((QF238 p0.toNatClampNeg) 1).toInt ≤ 1) ∧ (0 ≤ ((QF238 p0.toNatClampNeg) 21).toInt ∧ ((QF238 p0.toNatClampNeg) 21).toInt ≤ 4) ∧ (0 ≤ ((QF238 p0.toNatClampNeg) 23).toInt ∧ ((QF238 p0.toNatClampNeg) 23).toInt ≤ 4) ∧ (0 ≤ ((QF238 p0.toNatClampNeg) 24).toInt ∧ ((QF238 p0.toNatClampNeg) 24).toInt ≤ 1000000) ∧ (0 ≤ ((QF238 p0.toNatClampNeg) 6).toInt ∧ ((QF238 p0.toNatClampNeg) 6).toInt ≤ 3) ∧ (0 ≤ (0 : Int) ∧ (0 : Int) ≤ 1) from by first | with_reducible rfl | with_reducible assumption | omega) (show ((QF238 p0.toNatClampNeg) 1).toInt = 1 from by first | exact oz_154b4b53d6 hko2.1 hqk1_QF228 e201 hg1.1 | omega) (by omega) (fun _ => by have q8 := hpd; rw [va_up_s] at q8; exact PdT.nx q8 (show ((QF238 p0.toNatClampNeg) 4).toInt = (QF238 p0.toNatClampNeg 4).toInt ∧ ((QF238 p0.toNatClampNeg) 5).toInt = (QF238 p0.toNatClampNeg 5).toInt ∧ ((QF238 p0.toNatClampNeg) 10).toInt = (QF238 p0.toNatClampNeg 10).toInt ∧ ((QF238 p0.toNatClampNeg) 12).toInt = (QF238 p0.toNatClampNeg 12).toInt ∧ ((QF238 p0.toNatClampNeg) 13).toInt = (QF238 p0.toNatClampNeg 13).toInt ∧ ((QF238 p0.toNatClampNeg) 14).toInt = (QF238 p0.toNatClampNeg 14).toInt from by first | exact oz_28eebd5525 | omega) (show z263.toInt = (QF238 p0.toNatClampNeg 11).toInt + 1 from by first | exact oz_037caa6b79 tz263 | omega) (show ((QF238 p0.toNatClampNeg) 24).toInt = (QF238 p0.toNatClampNeg 24).toInt from by first | exact oz_507c05ca68 | omega) (show (0 : Int) = 0 from by first | decide | omega))) (show ((QF238 p0.toNatClampNeg) 1).toInt = (QF238 p0.toNatClampNeg 1).toInt from by first | exact oz_507c05ca68 | omega) (show (QF238 p0.toNatClampNeg 6).toInt ≤ ((QF238 p0.toNatClampNeg) 6).toInt from by first | exact oz_1cb5f934a5 | omega))
                              have hw : pw D A s.heap _ _ [wd_Mo cs mo mr (fun _ => none) mf235 md236 (gMo PG hq), fm 13 (fPr cs hq qr QO269 QF270 QA271), fm 8 (fPg cs PG)] := hw.sub [0, 2, 1] rfl rfl
                              exact J241 mf235 md236 QO269 QF270 QA271 (R_12 - 1) x12_3 (1 : Int32) _ _ ls (show PrA PG (va_up RR p0.toNatClampNeg (R_12 - 1)) QO269 QF270 QA271 from hpr) (show (mf235 0).toInt = (mf 0).toInt from by first | exact oz_1687f4cc65 k12_1 e246 | omega) (show (mf235 2).toInt = (mf 2).toInt from by first | exact oz_1687f4cc65 k12_2 e247 | omega) (show (mf235 3).toInt = (mf 3).toInt from by first | exact oz_1687f4cc65 k12_3 e248 | omega) (show (mf235 7).toInt = (mf 7).toInt from by first | exact oz_1687f4cc65 k12_4 e249 | omega) (show (mf235 8).toInt = (mf 8).toInt from by first | exact oz_1687f4cc65 k12_5 e250 | omega) (show (mf235 10).toInt = (mf 10).toInt from by first | exact oz_1687f4cc65 k12_6 e251 | omega) (show x12_3.toInt = x12_3.toInt from rfl) (show 0 ≤ (1 : Int) from by first | decide | omega) (show (1 : Int) ≤ 1 from by first | decide | omega) (show (R_12 - 1) + (1 : Int) ≤ R_12 from by first | exact oz_9af69b5cb8 | omega) (show (R_12 - 1) ≤ R_12 from by first | exact oz_f81ab12e42 | omega) (show 1 ≤ x12_4.toInt from by first | exact oz_70c2bdf1b6 k12_9 nc3 | omega) hw (lv_sub hl [4, 5, 6, 7, 0] rfl)
                            · exact absurd c268 (by decide)
                  · have nc213 : ¬ v197.toInt = (0 : Int) := mt (i_eq (x := v197) (y := 0)).mpr c213
                    refine lv_iconst (v := 1) S.x S.b d_Mo_goOn_143 (by decide) ?_
                    have htw1 := htkv.elim id (fun q8 => absurd q8.1 (by omega))
                    refine lv_goto (tgt := 148) S.x S.b d_Mo_goOn_144 (by decide) ?_
                    refine px_put S k_Mpr hT hw 3 0 7 rfl rfl (by decide) m10_235 rfl rfl rfl (Nat.le_of_ble_eq_true rfl) d_Mo_goOn_148 (w' := wd_Mpr cs (hq p0.toNatClampNeg) (qr p0.toNatClampNeg) (fun k => if k = 0 then (some (PG j9).h) else none) (upd qf195 7 1) (QA_12 p0.toNatClampNeg) (fun _ _ => none)) (ps' := [wd_Mo cs mo mr (fun _ => none) mf_12 md_12 (gMo PG hq), fo 13 (fPr cs hq qr QO_12 QF_12 QA_12) p0.toNatClampNeg, fo 8 (fPg cs PG) j9, wd_Mpr cs (hq p0.toNatClampNeg) (qr p0.toNatClampNeg) (fun k => if k = 0 then (some (PG j9).h) else none) (upd qf195 7 1) (QA_12 p0.toNatClampNeg) (fun _ _ => none), wdP cs (PG j9).h (PG j9).r (PG j9).g (PG j9).tf (PG j9).ta (PG j9).pf (PG j9).na (PG j9).ma (PG j9).wa (PG j9).cf (PG j9).ca (PG j9).ef (PG j9).ea (PG j9).xf (PG j9).xa]) rfl rfl (fun H locs hw => ?_)
                    refine lv_aload_n S.x S.b d_Mo_goOn_151 rfl (lv_at hl 5 rfl) ?_
                    have hw : pw D A s.heap _ _ [wd_Mo cs mo mr (fun _ => none) mf_12 md_12 (gMo PG hq), fo 13 (fPr cs hq qr QO_12 QF_12 QA_12) p0.toNatClampNeg, fo 8 (fPg cs PG) j9, wdP cs (PG j9).h (PG j9).r (PG j9).g (PG j9).tf (PG j9).ta (PG j9).pf (PG j9).na (PG j9).ma (PG j9).wa (PG j9).cf (PG j9).ca (PG j9).ef (PG j9).ea (PG j9).xf (PG j9).xa, wd_Mpr cs (hq p0.toNatClampNeg) (qr p0.toNatClampNeg) (fun k => if k = 0 then (some (PG j9).h) else none) (upd qf195 7 1) (QA_12 p0.toNatClampNeg) (fun _ _ => none)] := hw.sub [0, 1, 2, 4, 3] rfl rfl
                    refine px_calli (pr := [wd_Mo cs mo mr (fun _ => none) mf_12 md_12 (gMo PG hq), fo 13 (fPr cs hq qr QO_12 QF_12 QA_12) p0.toNatClampNeg, fo 8 (fPg cs PG) j9, wdP cs (PG j9).h (PG j9).r (PG j9).g (PG j9).tf (PG j9).ta (PG j9).pf (PG j9).na (PG j9).ma (PG j9).wa (PG j9).cf (PG j9).ca (PG j9).ef (PG j9).ea (PG j9).xf (PG j9).xa]) (px_runV (As := []) (rest := []) S (c_mqq_isGoing l D cs (hq p0.toNatClampNeg) (qr p0.toNatClampNeg) (fun _ _ => none) (fun k => if k = 0 then (some (PG j9).h) else none) (upd qf195 7 1) (QA_12 p0.toNatClampNeg)    _) hT (pr := [wd_Mo cs mo mr (fun _ => none) mf_12 md_12 (gMo PG hq), fo 13 (fPr cs hq qr QO_12 QF_12 QA_12) p0.toNatClampNeg, fo 8 (fPg cs PG) j9, wdP cs (PG j9).h (PG j9).r (PG j9).g (PG j9).tf (PG j9).ta (PG j9).pf (PG j9).na (PG j9).ma (PG j9).wa (PG j9).cf (PG j9).ca (PG j9).ef (PG j9).ea (PG j9).xf (PG j9).xa]) (pcs := [wd_Mpr cs (hq p0.toNatClampNeg) (qr p0.toNatClampNeg) (fun k => if k = 0 then (some (PG j9).h) else none) (upd qf195 7 1) (QA_12 p0.toNatClampNeg) (fun _ _ => none)]) hw px_X.tt (px_recv hT hw 4 0 rfl rfl rfl) m13_165 m13_162 m13_163 m13_164 m1_22 q_Mpr_isGoing ⟨Nat.le_of_ble_eq_true rfl, Nat.le_of_ble_eq_true rfl⟩ hl.1 rfl (Nat.le_of_ble_eq_true rfl) d_Mo_goOn_152 ⟨Nat.le_of_ble_eq_true rfl, Nat.le_of_ble_eq_true rfl⟩) hw hA (fun v273 p272 H locs hp272 hw => ?_)
                    obtain ⟨rfl, e274, e275, e276⟩ := hp272
                    replace e274 : 0 ≤ v273.toInt := e274
                    replace e275 : v273.toInt ≤ 1 := e275
                    replace e276 : IgV v273.toInt (qf195 1).toInt (qf195 2).toInt := e276
                    have hig := e276
                    replace hw : pw D A s.heap H locs [wd_Mo cs mo mr (fun _ => none) mf_12 md_12 (gMo PG hq), fo 13 (fPr cs hq qr QO_12 QF_12 QA_12) p0.toNatClampNeg, fo 8 (fPg cs PG) j9, wdP cs (PG j9).h (PG j9).r (PG j9).g (PG j9).tf (PG j9).ta (PG j9).pf (PG j9).na (PG j9).ma (PG j9).wa (PG j9).cf (PG j9).ca (PG j9).ef (PG j9).ea (PG j9).xf (PG j9).xa, wd_Mpr cs (hq p0.toNatClampNeg) (qr p0.toNatClampNeg) (fun k => if k = 0 then (some (PG j9).h) else none) (upd qf195 7 1) (QA_12 p0.toNatClampNeg) (fun _ _ => none)] := hw
                    have lv273 := Int32.le_toInt v273
                    have uv273 := Int32.toInt_lt v273
                    refine lv_if_eq (tgt := 168) S.x S.b d_Mo_goOn_155 (by decide) (fun c277 => ?_) (fun c277 => ?_)
                    · have nc277 : v273.toInt = (0 : Int) := (i_eq (x := v273) (y := 0)).mp c277
                      refine lv_iconst (v := 1) S.x S.b d_Mo_goOn_168 (by decide) ?_
                      have hg3 := hig.elim (fun q8 => absurd q8.1 (by omega)) (fun q8 => q8.2)
                      refine lv_goto (tgt := 173) S.x S.b d_Mo_goOn_169 (by decide) ?_
                      refine lv_istore (lv' := [(4, .int 1), (7, .int z54), (6, .int z50), (5, .int z46), (0, .ref mo), (1, .int p0), (2, .ref (hq p0.toNatClampNeg)), (3, .int x12_3)]) S.x S.b d_Mo_goOn_173 hl (by decide) rfl (fun ls hl => ?_)
                      refine lv_aload_n S.x S.b d_Mo_goOn_175 rfl (lv_at hl 6 rfl) ?_
                      refine lv_iload S.x S.b d_Mo_goOn_176 (lv_at hl 0 rfl) ?_
                      refine lv_if_eq (tgt := 190) S.x S.b d_Mo_goOn_178 (by decide) (fun c278 => ?_) (fun c278 => ?_)
                      · exact absurd c278 (by decide)
                      ·
                        refine lv_aload_n S.x S.b d_Mo_goOn_181 rfl (lv_at hl 6 rfl) ?_
                        refine px_get S k_Mpr hT hw 4 0 11 (v := .int (qf195 11)) rfl rfl rfl (by decide) m11_3 d_Mo_goOn_182 ?_
                        refine lv_iconst (v := 1) S.x S.b d_Mo_goOn_185 (by decide) ?_
                        refine lv_iadd S.x S.b d_Mo_goOn_186 ?_
                        have lr279 := Int32.le_toInt (qf195 11)
                        have ur279 := Int32.toInt_lt (qf195 11)
                        refine lv_topi (fun z280 ez280 => ?_)
                        have tz280 : z280.toInt = ((qf195 11).toInt + (1 : Int) + 2147483648) % 4294967296 - 2147483648 := by rw [ez280]; exact i_add (qf195 11) 1
                        have lz280 := Int32.le_toInt z280
                        have uz280 := Int32.toInt_lt z280
                        try replace tz280 : z280.toInt = (qf195 11).toInt + (1 : Int) := by omega
                        refine lv_goto (tgt := 194) S.x S.b d_Mo_goOn_187 (by decide) ?_
                        refine px_put S k_Mpr hT hw 4 0 11 rfl rfl (by decide) m11_3 rfl rfl rfl (Nat.le_of_ble_eq_true rfl) d_Mo_goOn_194 (w' := wd_Mpr cs (hq p0.toNatClampNeg) (qr p0.toNatClampNeg) (fun k => if k = 0 then (some (PG j9).h) else none) (upd (upd qf195 7 1) 11 z280) (QA_12 p0.toNatClampNeg) (fun _ _ => none)) (ps' := [wd_Mo cs mo mr (fun _ => none) mf_12 md_12 (gMo PG hq), fo 13 (fPr cs hq qr QO_12 QF_12 QA_12) p0.toNatClampNeg, fo 8 (fPg cs PG) j9, wdP cs (PG j9).h (PG j9).r (PG j9).g (PG j9).tf (PG j9).ta (PG j9).pf (PG j9).na (PG j9).ma (PG j9).wa (PG j9).cf (PG j9).ca (PG j9).ef (PG j9).ea (PG j9).xf (PG j9).xa, wd_Mpr cs (hq p0.toNatClampNeg) (qr p0.toNatClampNeg) (fun k => if k = 0 then (some (PG j9).h) else none) (upd (upd qf195 7 1) 11 z280) (QA_12 p0.toNatClampNeg) (fun _ _ => none)]) rfl rfl (fun H locs hw => ?_)
                        refine lv_aload_n S.x S.b d_Mo_goOn_197 rfl (lv_at hl 6 rfl) ?_
                        refine lv_aload_n S.x S.b d_Mo_goOn_198 rfl (lv_at hl 6 rfl) ?_
                        refine px_get S k_Mpr hT hw 4 0 7 (v := .int 1) rfl rfl rfl (by decide) m10_235 d_Mo_goOn_199 ?_
                        refine lv_if_eq (tgt := 214) S.x S.b d_Mo_goOn_202 (by decide) (fun c281 => ?_) (fun c281 => ?_)
                        · exact absurd c281 (by decide)
                        ·
                          refine lv_iload S.x S.b d_Mo_goOn_205 (lv_at hl 0 rfl) ?_
                          refine lv_if_ne (tgt := 214) S.x S.b d_Mo_goOn_207 (by decide) (fun c282 => ?_) (fun c282 => ?_)
                          ·
                            refine lv_iconst (v := 0) S.x S.b d_Mo_goOn_214 (by decide) ?_
                            refine px_put S k_Mpr hT hw 4 0 7 rfl rfl (by decide) m10_235 rfl rfl rfl (Nat.le_of_ble_eq_true rfl) d_Mo_goOn_215 (w' := wd_Mpr cs (hq p0.toNatClampNeg) (qr p0.toNatClampNeg) (fun k => if k = 0 then (some (PG j9).h) else none) (upd (upd qf195 7 0) 11 z280) (QA_12 p0.toNatClampNeg) (fun _ _ => none)) (ps' := [wd_Mo cs mo mr (fun _ => none) mf_12 md_12 (gMo PG hq), fo 13 (fPr cs hq qr QO_12 QF_12 QA_12) p0.toNatClampNeg, fo 8 (fPg cs PG) j9, wdP cs (PG j9).h (PG j9).r (PG j9).g (PG j9).tf (PG j9).ta (PG j9).pf (PG j9).na (PG j9).ma (PG j9).wa (PG j9).cf (PG j9).ca (PG j9).ef (PG j9).ea (PG j9).xf (PG j9).xa, wd_Mpr cs (hq p0.toNatClampNeg) (qr p0.toNatClampNeg) (fun k => if k = 0 then (some (PG j9).h) else none) (upd (upd qf195 7 0) 11 z280) (QA_12 p0.toNatClampNeg) (fun _ _ => none)]) rfl rfl (fun H locs hw => ?_)
                            refine lv_goto (tgt := 241) S.x S.b d_Mo_goOn_218 (by decide) ?_
                            have hw : pw D A s.heap _ _ [wd_Mo cs mo mr (fun _ => none) mf_12 md_12 (gMo PG hq), fo 8 (fPg cs PG) j9, wdP cs (PG j9).h (PG j9).r (PG j9).g (PG j9).tf (PG j9).ta (PG j9).pf (PG j9).na (PG j9).ma (PG j9).wa (PG j9).cf (PG j9).ca (PG j9).ef (PG j9).ea (PG j9).xf (PG j9).xa, fo 13 (fPr cs hq qr QO_12 QF_12 QA_12) p0.toNatClampNeg, wd_Mpr cs (hq p0.toNatClampNeg) (qr p0.toNatClampNeg) (fun k => if k = 0 then (some (PG j9).h) else none) (upd (upd qf195 7 0) 11 z280) (QA_12 p0.toNatClampNeg) (fun _ _ => none)] := hw.sub [0, 2, 3, 1, 4] rfl rfl
                            have hw := fpr_in (pr := [wd_Mo cs mo mr (fun _ => none) mf_12 md_12 (gMo PG hq), fo 8 (fPg cs PG) j9, wdP cs (PG j9).h (PG j9).r (PG j9).g (PG j9).tf (PG j9).ta (PG j9).pf (PG j9).na (PG j9).ma (PG j9).wa (PG j9).cf (PG j9).ca (PG j9).ef (PG j9).ea (PG j9).xf (PG j9).xa]) hw hi20
                            obtain ⟨QO283, hu_QO283⟩ : ∃ y : Nat → Option Nat, y = va_up QO_12 p0.toNatClampNeg ((fun k => if k = 0 then (some (PG j9).h) else none) 0) := ⟨_, rfl⟩
                            obtain ⟨QF284, hu_QF284⟩ : ∃ y : Nat → Nat → Int32, y = va_up QF_12 p0.toNatClampNeg (upd (upd qf195 7 0) 11 z280) := ⟨_, rfl⟩
                            obtain ⟨QA285, hu_QA285⟩ : ∃ y : Nat → Nat → Nat → Int32, y = va_up QA_12 p0.toNatClampNeg (QA_12 p0.toNatClampNeg) := ⟨_, rfl⟩
                            have hw : pw D A s.heap _ _ [wd_Mo cs mo mr (fun _ => none) mf_12 md_12 (gMo PG hq), fo 8 (fPg cs PG) j9, wdP cs (PG j9).h (PG j9).r (PG j9).g (PG j9).tf (PG j9).ta (PG j9).pf (PG j9).na (PG j9).ma (PG j9).wa (PG j9).cf (PG j9).ca (PG j9).ef (PG j9).ea (PG j9).xf (PG j9).xa, fm 13 (fPr cs hq qr QO283 QF284 QA285)] := (by rw [hu_QO283, hu_QF284, hu_QA285]; exact hw)
                            have hpr : PrA PG (va_up RR p0.toNatClampNeg (R_12 - 1)) QO283 QF284 QA285 := (by rw [hu_QO283, hu_QF284, hu_QA285]; exact PrA.upR2 hpr hi20 (psr_en (show (0 ≤ (qf195 1).toInt ∧ (qf195 1).toInt ≤ 1) ∧ (0 ≤ (qf195 21).toInt ∧ (qf195 21).toInt ≤ 4) ∧ (0 ≤ (qf195 23).toInt ∧ (qf195 23).toInt ≤ 4) ∧ (0 ≤ (qf195 24).toInt ∧ (qf195 24).toInt ≤ 1000000) ∧ (0 ≤ (qf195 6).toInt ∧ (qf195 6).toInt ≤ 3) ∧ (0 ≤ (0 : Int) ∧ (0 : Int) ≤ 1) from by first | with_reducible rfl | with_reducible assumption | omega) (show (qf195 1).toInt = 1 from by first | exact oz_e863b17997 e201 hg1.1 | omega) (by omega) (show (qf195 2).toInt ≠ -2 from by first | with_reducible rfl | with_reducible assumption | omega)) (show (qf195 1).toInt = (QF_12 p0.toNatClampNeg 1).toInt from by first | exact oz_1811ac7fe4 e201 | omega) (show (QF_12 p0.toNatClampNeg 6).toInt ≤ (qf195 6).toInt from by first | exact oz_f9b42d1b56 e203 | omega))
                            have hqk1_QF284 : (QF284 p0.toNatClampNeg 1).toInt = (qf195 1).toInt := (by rw [hu_QF284, va_up_s]; try rfl)
                            have hqk2_QF284 : (QF284 p0.toNatClampNeg 2).toInt = (qf195 2).toInt := (by rw [hu_QF284, va_up_s]; try rfl)
                            have hqk4_QF284 : (QF284 p0.toNatClampNeg 4).toInt = (qf195 4).toInt := (by rw [hu_QF284, va_up_s]; try rfl)
                            have hqk7_QF284 : (QF284 p0.toNatClampNeg 7).toInt = (0 : Int) := (by rw [hu_QF284, va_up_s]; try rfl)
                            have hqk10_QF284 : (QF284 p0.toNatClampNeg 10).toInt = (qf195 10).toInt := (by rw [hu_QF284, va_up_s]; try rfl)
                            have hqk11_QF284 : (QF284 p0.toNatClampNeg 11).toInt = z280.toInt := (by rw [hu_QF284, va_up_s]; try rfl)
                            have hqk24_QF284 : (QF284 p0.toNatClampNeg 24).toInt = (qf195 24).toInt := (by rw [hu_QF284, va_up_s]; try rfl)
                            have hw : pw D A s.heap _ _ [wd_Mo cs mo mr (fun _ => none) mf_12 md_12 (gMo PG hq), fm 13 (fPr cs hq qr QO283 QF284 QA285), fo 8 (fPg cs PG) j9, wdP cs (PG j9).h (PG j9).r (PG j9).g (PG j9).tf (PG j9).ta (PG j9).pf (PG j9).na (PG j9).ma (PG j9).wa (PG j9).cf (PG j9).ca (PG j9).ef (PG j9).ea (PG j9).xf (PG j9).xa] := hw.sub [0, 3, 1, 2] rfl rfl
                            have hw : pw D A s.heap _ _ [wd_Mo cs mo mr (fun _ => none) mf_12 md_12 (gMo PG hq), fm 13 (fPr cs hq qr QO283 QF284 QA285), fm 8 (fPg cs PG)] := fm_back (pr := [wd_Mo cs mo mr (fun _ => none) mf_12 md_12 (gMo PG hq), fm 13 (fPr cs hq qr QO283 QF284 QA285)]) (T := fPg cs PG) hw hj9
                            exact J241 mf_12 md_12 QO283 QF284 QA285 (R_12 - 1) x12_3 (1 : Int32) _ _ ls (show PrA PG (va_up RR p0.toNatClampNeg (R_12 - 1)) QO283 QF284 QA285 from hpr) (show (mf_12 0).toInt = (mf 0).toInt from by first | exact k12_1 | omega) (show (mf_12 2).toInt = (mf 2).toInt from by first | exact k12_2 | omega) (show (mf_12 3).toInt = (mf 3).toInt from by first | exact k12_3 | omega) (show (mf_12 7).toInt = (mf 7).toInt from by first | exact k12_4 | omega) (show (mf_12 8).toInt = (mf 8).toInt from by first | exact k12_5 | omega) (show (mf_12 10).toInt = (mf 10).toInt from by first | exact k12_6 | omega) (show x12_3.toInt = x12_3.toInt from rfl) (show 0 ≤ (1 : Int) from by first | decide | omega) (show (1 : Int) ≤ 1 from by first | decide | omega) (show (R_12 - 1) + (1 : Int) ≤ R_12 from by first | exact oz_9af69b5cb8 | omega) (show (R_12 - 1) ≤ R_12 from by first | exact oz_f81ab12e42 | omega) (show 1 ≤ x12_4.toInt from by first | exact oz_70c2bdf1b6 k12_9 nc3 | omega) hw (lv_sub hl [4, 5, 6, 7, 0] rfl)
                          · exact absurd c282 (by decide)
                    · have nc277 : ¬ v273.toInt = (0 : Int) := mt (i_eq (x := v273) (y := 0)).mpr c277
                      refine lv_aload_n S.x S.b d_Mo_goOn_158 rfl (lv_at hl 3 rfl) ?_
                      have hg2 := hig.elim id (fun q8 => absurd q8.1 (by omega))
                      refine lv_iload_n S.x S.b d_Mo_goOn_159 rfl (lv_at hl 4 rfl) ?_
                      refine lv_iload S.x S.b d_Mo_goOn_160 (lv_at hl 1 rfl) ?_
                      have hw : pw D A s.heap _ _ [wd_Mo cs mo mr (fun _ => none) mf_12 md_12 (gMo PG hq), fo 8 (fPg cs PG) j9, wdP cs (PG j9).h (PG j9).r (PG j9).g (PG j9).tf (PG j9).ta (PG j9).pf (PG j9).na (PG j9).ma (PG j9).wa (PG j9).cf (PG j9).ca (PG j9).ef (PG j9).ea (PG j9).xf (PG j9).xa, fo 13 (fPr cs hq qr QO_12 QF_12 QA_12) p0.toNatClampNeg, wd_Mpr cs (hq p0.toNatClampNeg) (qr p0.toNatClampNeg) (fun k => if k = 0 then (some (PG j9).h) else none) (upd qf195 7 1) (QA_12 p0.toNatClampNeg) (fun _ _ => none)] := hw.sub [0, 2, 3, 1, 4] rfl rfl
                      have hw := fpr_in (pr := [wd_Mo cs mo mr (fun _ => none) mf_12 md_12 (gMo PG hq), fo 8 (fPg cs PG) j9, wdP cs (PG j9).h (PG j9).r (PG j9).g (PG j9).tf (PG j9).ta (PG j9).pf (PG j9).na (PG j9).ma (PG j9).wa (PG j9).cf (PG j9).ca (PG j9).ef (PG j9).ea (PG j9).xf (PG j9).xa]) hw hi20
                      obtain ⟨QO286, hu_QO286⟩ : ∃ y : Nat → Option Nat, y = va_up QO_12 p0.toNatClampNeg ((fun k => if k = 0 then (some (PG j9).h) else none) 0) := ⟨_, rfl⟩
                      obtain ⟨QF287, hu_QF287⟩ : ∃ y : Nat → Nat → Int32, y = va_up QF_12 p0.toNatClampNeg (upd qf195 7 1) := ⟨_, rfl⟩
                      obtain ⟨QA288, hu_QA288⟩ : ∃ y : Nat → Nat → Nat → Int32, y = va_up QA_12 p0.toNatClampNeg (QA_12 p0.toNatClampNeg) := ⟨_, rfl⟩
                      have hw : pw D A s.heap _ _ [wd_Mo cs mo mr (fun _ => none) mf_12 md_12 (gMo PG hq), fo 8 (fPg cs PG) j9, wdP cs (PG j9).h (PG j9).r (PG j9).g (PG j9).tf (PG j9).ta (PG j9).pf (PG j9).na (PG j9).ma (PG j9).wa (PG j9).cf (PG j9).ca (PG j9).ef (PG j9).ea (PG j9).xf (PG j9).xa, fm 13 (fPr cs hq qr QO286 QF287 QA288)] := (by rw [hu_QO286, hu_QF287, hu_QA288]; exact hw)
                      have hpay : PsT (PG j9) R_12 (upd qf195 7 1) (QA_12 p0.toNatClampNeg) := (PsT.pay hpt (show (qf195 5).toInt = (QF_12 p0.toNatClampNeg 5).toInt ∧ (qf195 10).toInt = (QF_12 p0.toNatClampNeg 10).toInt ∧ (qf195 11).toInt = (QF_12 p0.toNatClampNeg 11).toInt ∧ (qf195 12).toInt = (QF_12 p0.toNatClampNeg 12).toInt ∧ (qf195 13).toInt = (QF_12 p0.toNatClampNeg 13).toInt ∧ (qf195 14).toInt = (QF_12 p0.toNatClampNeg 14).toInt ∧ (qf195 24).toInt = (QF_12 p0.toNatClampNeg 24).toInt from by first | exact oz_b005c07786 e202 e205 e206 e207 e208 e209 e212 | omega) (show 0 ≤ (qf195 4).toInt ∧ (qf195 4).toInt ≤ (QF_12 p0.toNatClampNeg 4).toInt from by first | with_reducible rfl | with_reducible assumption | omega) ho16 (fun q8 => (show (qf195 24).toInt + (qf195 4).toInt ≤ 99 from by rw [hoa] at q8; omega)))
                      have hpr : PrA PG (va_up RR p0.toNatClampNeg R_12) QO286 QF287 QA288 := (by rw [hu_QO286, hu_QF287, hu_QA288]; exact PrA.upR2 hpr hi20 (psr_tx (j := j9) hj9 (show _ = some _ from rfl) h61 (show (0 ≤ (qf195 1).toInt ∧ (qf195 1).toInt ≤ 1) ∧ (0 ≤ (qf195 21).toInt ∧ (qf195 21).toInt ≤ 4) ∧ (0 ≤ (qf195 23).toInt ∧ (qf195 23).toInt ≤ 4) ∧ (0 ≤ (qf195 24).toInt ∧ (qf195 24).toInt ≤ 1000000) ∧ (0 ≤ (qf195 6).toInt ∧ (qf195 6).toInt ≤ 3) ∧ (0 ≤ (1 : Int) ∧ (1 : Int) ≤ 1) from by first | with_reducible rfl | with_reducible assumption | omega) (show (qf195 1).toInt = 1 from by first | exact oz_e863b17997 e201 hg1.1 | omega) (by omega) (fun _ => hpay)) (show (qf195 1).toInt = (QF_12 p0.toNatClampNeg 1).toInt from by first | exact oz_1811ac7fe4 e201 | omega) (show (QF_12 p0.toNatClampNeg 6).toInt ≤ (qf195 6).toInt from by first | exact oz_f9b42d1b56 e203 | omega))
                      have hqk1_QF287 : (QF287 p0.toNatClampNeg 1).toInt = (qf195 1).toInt := (by rw [hu_QF287, va_up_s]; try rfl)
                      have hqk2_QF287 : (QF287 p0.toNatClampNeg 2).toInt = (qf195 2).toInt := (by rw [hu_QF287, va_up_s]; try rfl)
                      have hqk4_QF287 : (QF287 p0.toNatClampNeg 4).toInt = (qf195 4).toInt := (by rw [hu_QF287, va_up_s]; try rfl)
                      have hqk7_QF287 : (QF287 p0.toNatClampNeg 7).toInt = (1 : Int) := (by rw [hu_QF287, va_up_s]; try rfl)
                      have hqk10_QF287 : (QF287 p0.toNatClampNeg 10).toInt = (qf195 10).toInt := (by rw [hu_QF287, va_up_s]; try rfl)
                      have hqk11_QF287 : (QF287 p0.toNatClampNeg 11).toInt = (qf195 11).toInt := (by rw [hu_QF287, va_up_s]; try rfl)
                      have hqk24_QF287 : (QF287 p0.toNatClampNeg 24).toInt = (qf195 24).toInt := (by rw [hu_QF287, va_up_s]; try rfl)
                      have hqo : OqE (QO286 p0.toNatClampNeg) (PG j9).h := (by rw [hu_QO286, va_up_s]; exact rfl)
                      have hpo8 : (0 ≤ z50.toInt ∧ z50.toInt < 10) ∧ PoT (PG j9) ((va_up RR p0.toNatClampNeg R_12) p0.toNatClampNeg) z50.toInt (QF287 p0.toNatClampNeg) (QA288 p0.toNatClampNeg) := (by rw [va_up_s, hu_QF287, hu_QA288, va_up_s, va_up_s]; exact hpay.owc (by show ((PG j9).ea 61 (3 * (qf195 11).toInt).toNat).toInt = 16; rw [show (qf195 11).toInt = (QF_12 p0.toNatClampNeg 11).toInt by omega]; exact ho16) (by show ((PG j9).ea 61 (3 * (qf195 11).toInt + 1).toNat).toInt = _; rw [show (qf195 11).toInt = (QF_12 p0.toNatClampNeg 11).toInt by omega]; exact hoa) (fun q8 => (show (qf195 24).toInt + (qf195 4).toInt ≤ 99 from by first | with_reducible rfl | with_reducible assumption | omega)))
                      have hpo81 := hpo8.1
                      have hw : pw D A s.heap _ _ [wd_Mo cs mo mr (fun _ => none) mf_12 md_12 (gMo PG hq), fm 13 (fPr cs hq qr QO286 QF287 QA288), fo 8 (fPg cs PG) j9, wdP cs (PG j9).h (PG j9).r (PG j9).g (PG j9).tf (PG j9).ta (PG j9).pf (PG j9).na (PG j9).ma (PG j9).wa (PG j9).cf (PG j9).ca (PG j9).ef (PG j9).ea (PG j9).xf (PG j9).xa] := hw.sub [0, 3, 1, 2] rfl rfl
                      have hw : pw D A s.heap _ _ [wd_Mo cs mo mr (fun _ => none) mf_12 md_12 (gMo PG hq), fm 13 (fPr cs hq qr QO286 QF287 QA288), fm 8 (fPg cs PG)] := fm_back (pr := [wd_Mo cs mo mr (fun _ => none) mf_12 md_12 (gMo PG hq), fm 13 (fPr cs hq qr QO286 QF287 QA288)]) (T := fPg cs PG) hw hj9
                      refine px_calli (pr := []) (px_runV (As := [.int p0, .int z50]) (rest := []) S (c_mo_ownCall l D cs (va_up RR p0.toNatClampNeg R_12) j9 mo mr mf_12 md_12 hq qr QO286 QF287 QA288 PG p0 z50  (show 0 ≤ p0.toInt from by first | exact g0 | omega) (show p0.toInt < 13 from by first | exact g1 | omega) (show 0 ≤ (mf_12 7).toInt from by first | exact oz_f3ebed1ad0 k12_4 g2 | omega) (show (mf_12 7).toInt ≤ 100 from by first | exact oz_b2552476a0 k12_4 g3 | omega) (show 0 ≤ (mf_12 8).toInt from by first | exact oz_f3ebed1ad0 k12_5 g4 | omega) (show (mf_12 8).toInt ≤ 512 from by first | exact oz_5926d5b85b k12_5 g5 | omega) (show 0 ≤ z50.toInt from by first | exact hpo81.1 | omega) (show z50.toInt < 10 from by first | exact hpo81.2 | omega) (show (QF287 p0.toNatClampNeg 1).toInt = 1 from by first | exact oz_d145a98bf1 hqk1_QF287 e201 hg1.1 | omega) hpr hpg hpo8.2 _) hT (pr := []) (pcs := [wd_Mo cs mo mr (fun _ => none) mf_12 md_12 (gMo PG hq), fm 13 (fPr cs hq qr QO286 QF287 QA288), fm 8 (fPg cs PG)]) hw px_X.tt (px_recv hT hw 0 0 rfl rfl rfl) m14_106 m14_103 m14_105 ms_16_9 m1_20 q_Mo_ownCall ⟨Nat.le_of_ble_eq_true rfl, Nat.le_of_ble_eq_true rfl⟩ hl.1 rfl (Nat.le_of_ble_eq_true rfl) d_Mo_goOn_162 ⟨Nat.le_of_ble_eq_true rfl, Nat.le_of_ble_eq_true rfl⟩) hw hA (fun v300 p299 H locs hp299 hw => ?_)
                      obtain ⟨mf294, md295, QO296, QF297, QA298, rfl, e301, e302, e303, e304, e305, e306, e307, e308, e309, e310⟩ := hp299
                      replace e301 : 0 ≤ v300.toInt := e301
                      replace e302 : v300.toInt ≤ 1 := e302
                      replace e303 : OwQ v300.toInt (PrA PG (va_up RR p0.toNatClampNeg R_12) QO296 QF297 QA298) (PrX PG (va_up RR p0.toNatClampNeg R_12) QO296 QF297 QA298 p0.toNatClampNeg ∧ PdT (PG j9) ((va_up RR p0.toNatClampNeg R_12) p0.toNatClampNeg) (QF297 p0.toNatClampNeg) (QA298 p0.toNatClampNeg)) := e303
                      have hoq := e303
                      replace e304 : KpO QO286 QF287 QO296 QF297 p0.toNatClampNeg := e304
                      have hko := e304
                      have hko2 := hko.2
                      replace e305 : (mf294 0).toInt = (mf_12 0).toInt := e305
                      replace e306 : (mf294 2).toInt = (mf_12 2).toInt := e306
                      replace e307 : (mf294 3).toInt = (mf_12 3).toInt := e307
                      replace e308 : (mf294 7).toInt = (mf_12 7).toInt := e308
                      replace e309 : (mf294 8).toInt = (mf_12 8).toInt := e309
                      replace e310 : (mf294 10).toInt = (mf_12 10).toInt := e310
                      replace hw : pw D A s.heap H locs [wd_Mo cs mo mr (fun _ => none) mf294 md295 (gMo PG hq), fm 13 (fPr cs hq qr QO296 QF297 QA298), fm 8 (fPg cs PG)] := hw
                      have lv300 := Int32.le_toInt v300
                      have uv300 := Int32.toInt_lt v300
                      refine lv_if_eq (tgt := 172) S.x S.b d_Mo_goOn_165 (by decide) (fun c311 => ?_) (fun c311 => ?_)
                      · have nc311 : v300.toInt = (0 : Int) := (i_eq (x := v300) (y := 0)).mp c311
                        refine lv_iconst (v := 0) S.x S.b d_Mo_goOn_172 (by decide) ?_
                        have hpr := hoq.elim (fun q8 => q8.2) (fun q8 => absurd q8.1 (by omega))
                        refine lv_istore (lv' := [(4, .int 0), (7, .int z54), (6, .int z50), (5, .int z46), (0, .ref mo), (1, .int p0), (2, .ref (hq p0.toNatClampNeg)), (3, .int x12_3)]) S.x S.b d_Mo_goOn_173 hl (by decide) rfl (fun ls hl => ?_)
                        refine lv_aload_n S.x S.b d_Mo_goOn_175 rfl (lv_at hl 6 rfl) ?_
                        refine lv_iload S.x S.b d_Mo_goOn_176 (lv_at hl 0 rfl) ?_
                        refine lv_if_eq (tgt := 190) S.x S.b d_Mo_goOn_178 (by decide) (fun c312 => ?_) (fun c312 => ?_)
                        ·
                          refine lv_aload_n S.x S.b d_Mo_goOn_190 rfl (lv_at hl 6 rfl) ?_
                          have hw : pw D A s.heap _ _ [wd_Mo cs mo mr (fun _ => none) mf294 md295 (gMo PG hq), fm 8 (fPg cs PG), fm 13 (fPr cs hq qr QO296 QF297 QA298)] := hw.sub [0, 2, 1] rfl rfl
                          have hc313 := cl_nat (x := p0) (by first | exact g0 | omega)
                          have hi313 : p0.toNatClampNeg < 13 := by first | exact hi20 | omega
                          have hw : pw D A s.heap _ _ [wd_Mo cs mo mr (fun _ => none) mf294 md295 (gMo PG hq), fm 8 (fPg cs PG), fo 13 (fPr cs hq qr QO296 QF297 QA298) p0.toNatClampNeg, wd_Mpr cs (hq p0.toNatClampNeg) (qr p0.toNatClampNeg) (fun _ => QO296 p0.toNatClampNeg) (QF297 p0.toNatClampNeg) (QA298 p0.toNatClampNeg) (fun _ _ => none)] := fm_out (pr := [wd_Mo cs mo mr (fun _ => none) mf294 md295 (gMo PG hq), fm 8 (fPg cs PG)]) (T := fPr cs hq qr QO296 QF297 QA298) hw hi313
                          have hps313 := hpr.1 p0.toNatClampNeg hi313
                          have hpb313 := hps313.1
                          unfold PsB at hpb313
                          refine px_get S k_Mpr hT hw 3 0 11 (v := .int ((QF297 p0.toNatClampNeg) 11)) rfl rfl rfl (by decide) m11_3 d_Mo_goOn_191 ?_
                          refine px_put S k_Mpr hT hw 3 0 11 rfl rfl (by decide) m11_3 rfl rfl rfl (Nat.le_of_ble_eq_true rfl) d_Mo_goOn_194 (w' := wd_Mpr cs (hq p0.toNatClampNeg) (qr p0.toNatClampNeg) (fun _ => QO296 p0.toNatClampNeg) (upd (QF297 p0.toNatClampNeg) 11 ((QF297 p0.toNatClampNeg) 11)) (QA298 p0.toNatClampNeg) (fun _ _ => none)) (ps' := [wd_Mo cs mo mr (fun _ => none) mf294 md295 (gMo PG hq), fm 8 (fPg cs PG), fo 13 (fPr cs hq qr QO296 QF297 QA298) p0.toNatClampNeg, wd_Mpr cs (hq p0.toNatClampNeg) (qr p0.toNatClampNeg) (fun _ => QO296 p0.toNatClampNeg) (upd (QF297 p0.toNatClampNeg) 11 ((QF297 p0.toNatClampNeg) 11)) (QA298 p0.toNatClampNeg) (fun _ _ => none)]) rfl rfl (fun H locs hw => ?_)
                          refine lv_aload_n S.x S.b d_Mo_goOn_197 rfl (lv_at hl 6 rfl) ?_
                          refine lv_aload_n S.x S.b d_Mo_goOn_198 rfl (lv_at hl 6 rfl) ?_
                          refine px_get S k_Mpr hT hw 3 0 7 (v := .int ((QF297 p0.toNatClampNeg) 7)) rfl rfl rfl (by decide) m10_235 d_Mo_goOn_199 ?_
                          refine lv_if_eq (tgt := 214) S.x S.b d_Mo_goOn_202 (by decide) (fun c314 => ?_) (fun c314 => ?_)
                          · have nc314 : ((QF297 p0.toNatClampNeg) 7).toInt = (0 : Int) := (i_eq (x := ((QF297 p0.toNatClampNeg) 7)) (y := 0)).mp c314
                            exfalso
                            omega
                          · have nc314 : ¬ ((QF297 p0.toNatClampNeg) 7).toInt = (0 : Int) := mt (i_eq (x := ((QF297 p0.toNatClampNeg) 7)) (y := 0)).mpr c314
                            refine lv_iload S.x S.b d_Mo_goOn_205 (lv_at hl 0 rfl) ?_
                            refine lv_if_ne (tgt := 214) S.x S.b d_Mo_goOn_207 (by decide) (fun c315 => ?_) (fun c315 => ?_)
                            · exact absurd c315 (by decide)
                            ·
                              refine lv_iconst (v := 1) S.x S.b d_Mo_goOn_210 (by decide) ?_
                              refine lv_goto (tgt := 215) S.x S.b d_Mo_goOn_211 (by decide) ?_
                              refine px_put S k_Mpr hT hw 3 0 7 rfl rfl (by decide) m10_235 rfl rfl rfl (Nat.le_of_ble_eq_true rfl) d_Mo_goOn_215 (w' := wd_Mpr cs (hq p0.toNatClampNeg) (qr p0.toNatClampNeg) (fun _ => QO296 p0.toNatClampNeg) (upd (upd (QF297 p0.toNatClampNeg) 7 1) 11 ((QF297 p0.toNatClampNeg) 11)) (QA298 p0.toNatClampNeg) (fun _ _ => none)) (ps' := [wd_Mo cs mo mr (fun _ => none) mf294 md295 (gMo PG hq), fm 8 (fPg cs PG), fo 13 (fPr cs hq qr QO296 QF297 QA298) p0.toNatClampNeg, wd_Mpr cs (hq p0.toNatClampNeg) (qr p0.toNatClampNeg) (fun _ => QO296 p0.toNatClampNeg) (upd (upd (QF297 p0.toNatClampNeg) 7 1) 11 ((QF297 p0.toNatClampNeg) 11)) (QA298 p0.toNatClampNeg) (fun _ _ => none)]) rfl rfl (fun H locs hw => ?_)
                              refine lv_goto (tgt := 241) S.x S.b d_Mo_goOn_218 (by decide) ?_
                              have hw := fpr_in (pr := [wd_Mo cs mo mr (fun _ => none) mf294 md295 (gMo PG hq), fm 8 (fPg cs PG)]) hw hi313
                              obtain ⟨QO316, hu_QO316⟩ : ∃ y : Nat → Option Nat, y = va_up QO296 p0.toNatClampNeg ((fun _ => QO296 p0.toNatClampNeg) 0) := ⟨_, rfl⟩
                              obtain ⟨QF317, hu_QF317⟩ : ∃ y : Nat → Nat → Int32, y = va_up QF297 p0.toNatClampNeg (upd (upd (QF297 p0.toNatClampNeg) 7 1) 11 ((QF297 p0.toNatClampNeg) 11)) := ⟨_, rfl⟩
                              obtain ⟨QA318, hu_QA318⟩ : ∃ y : Nat → Nat → Nat → Int32, y = va_up QA298 p0.toNatClampNeg (QA298 p0.toNatClampNeg) := ⟨_, rfl⟩
                              have hw : pw D A s.heap _ _ [wd_Mo cs mo mr (fun _ => none) mf294 md295 (gMo PG hq), fm 8 (fPg cs PG), fm 13 (fPr cs hq qr QO316 QF317 QA318)] := (by rw [hu_QO316, hu_QF317, hu_QA318]; exact hw)
                              have hpr : PrA PG (va_up RR p0.toNatClampNeg R_12) QO316 QF317 QA318 := (by rw [hu_QO316, hu_QF317, hu_QA318]; exact PrA.upR2 hpr hi313 (PsR.kf (by have q8 := hps313; rw [va_up_s] at q8; exact q8) (show (0 ≤ ((QF297 p0.toNatClampNeg) 1).toInt ∧ ((QF297 p0.toNatClampNeg) 1).toInt ≤ 1) ∧ (0 ≤ ((QF297 p0.toNatClampNeg) 21).toInt ∧ ((QF297 p0.toNatClampNeg) 21).toInt ≤ 4) ∧ (0 ≤ ((QF297 p0.toNatClampNeg) 23).toInt ∧ ((QF297 p0.toNatClampNeg) 23).toInt ≤ 4) ∧ (0 ≤ ((QF297 p0.toNatClampNeg) 24).toInt ∧ ((QF297 p0.toNatClampNeg) 24).toInt ≤ 1000000) ∧ (0 ≤ ((QF297 p0.toNatClampNeg) 6).toInt ∧ ((QF297 p0.toNatClampNeg) 6).toInt ≤ 3) ∧ (0 ≤ (1 : Int) ∧ (1 : Int) ≤ 1) from by first | with_reducible rfl | with_reducible assumption | omega) (show (((QF297 p0.toNatClampNeg) 1).toInt = (QF297 p0.toNatClampNeg 1).toInt ∧ ((QF297 p0.toNatClampNeg) 4).toInt = (QF297 p0.toNatClampNeg 4).toInt ∧ ((QF297 p0.toNatClampNeg) 5).toInt = (QF297 p0.toNatClampNeg 5).toInt ∧ (1 : Int) = (QF297 p0.toNatClampNeg 7).toInt ∧ ((QF297 p0.toNatClampNeg) 10).toInt = (QF297 p0.toNatClampNeg 10).toInt ∧ ((QF297 p0.toNatClampNeg) 11).toInt = (QF297 p0.toNatClampNeg 11).toInt) ∧ ((QF297 p0.toNatClampNeg) 12).toInt = (QF297 p0.toNatClampNeg 12).toInt ∧ ((QF297 p0.toNatClampNeg) 13).toInt = (QF297 p0.toNatClampNeg 13).toInt ∧ ((QF297 p0.toNatClampNeg) 14).toInt = (QF297 p0.toNatClampNeg 14).toInt ∧ ((QF297 p0.toNatClampNeg) 24).toInt = (QF297 p0.toNatClampNeg 24).toInt from by first | with_reducible rfl | with_reducible assumption | omega) (show ((QF297 p0.toNatClampNeg) 2).toInt = (QF297 p0.toNatClampNeg 2).toInt from by first | exact oz_507c05ca68 | omega)) (show ((QF297 p0.toNatClampNeg) 1).toInt = (QF297 p0.toNatClampNeg 1).toInt from by first | exact oz_507c05ca68 | omega) (show (QF297 p0.toNatClampNeg 6).toInt ≤ ((QF297 p0.toNatClampNeg) 6).toInt from by first | exact oz_1cb5f934a5 | omega))
                              have hqk1_QF317 : (QF317 p0.toNatClampNeg 1).toInt = ((QF297 p0.toNatClampNeg) 1).toInt := (by rw [hu_QF317, va_up_s]; try rfl)
                              have hqk2_QF317 : (QF317 p0.toNatClampNeg 2).toInt = ((QF297 p0.toNatClampNeg) 2).toInt := (by rw [hu_QF317, va_up_s]; try rfl)
                              have hqk4_QF317 : (QF317 p0.toNatClampNeg 4).toInt = ((QF297 p0.toNatClampNeg) 4).toInt := (by rw [hu_QF317, va_up_s]; try rfl)
                              have hqk7_QF317 : (QF317 p0.toNatClampNeg 7).toInt = (1 : Int) := (by rw [hu_QF317, va_up_s]; try rfl)
                              have hqk10_QF317 : (QF317 p0.toNatClampNeg 10).toInt = ((QF297 p0.toNatClampNeg) 10).toInt := (by rw [hu_QF317, va_up_s]; try rfl)
                              have hqk11_QF317 : (QF317 p0.toNatClampNeg 11).toInt = ((QF297 p0.toNatClampNeg) 11).toInt := (by rw [hu_QF317, va_up_s]; try rfl)
                              have hqk24_QF317 : (QF317 p0.toNatClampNeg 24).toInt = ((QF297 p0.toNatClampNeg) 24).toInt := (by rw [hu_QF317, va_up_s]; try rfl)
                              have hw : pw D A s.heap _ _ [wd_Mo cs mo mr (fun _ => none) mf294 md295 (gMo PG hq), fm 13 (fPr cs hq qr QO316 QF317 QA318), fm 8 (fPg cs PG)] := hw.sub [0, 2, 1] rfl rfl
                              exact J241 mf294 md295 QO316 QF317 QA318 R_12 x12_3 (0 : Int32) _ _ ls (show PrA PG (va_up RR p0.toNatClampNeg R_12) QO316 QF317 QA318 from hpr) (show (mf294 0).toInt = (mf 0).toInt from by first | exact oz_1687f4cc65 k12_1 e305 | omega) (show (mf294 2).toInt = (mf 2).toInt from by first | exact oz_1687f4cc65 k12_2 e306 | omega) (show (mf294 3).toInt = (mf 3).toInt from by first | exact oz_1687f4cc65 k12_3 e307 | omega) (show (mf294 7).toInt = (mf 7).toInt from by first | exact oz_1687f4cc65 k12_4 e308 | omega) (show (mf294 8).toInt = (mf 8).toInt from by first | exact oz_1687f4cc65 k12_5 e309 | omega) (show (mf294 10).toInt = (mf 10).toInt from by first | exact oz_1687f4cc65 k12_6 e310 | omega) (show x12_3.toInt = x12_3.toInt from rfl) (show 0 ≤ (0 : Int) from by first | decide | omega) (show (0 : Int) ≤ 1 from by first | decide | omega) (show R_12 + (0 : Int) ≤ R_12 from by first | exact oz_9a4b2c0a69 | omega) (show R_12 ≤ R_12 from by first | exact oz_1cb5f934a5 | omega) (show 1 ≤ x12_4.toInt from by first | exact oz_70c2bdf1b6 k12_9 nc3 | omega) hw (lv_sub hl [4, 5, 6, 7, 0] rfl)
                        · exact absurd c312 (by decide)
                      · have nc311 : ¬ v300.toInt = (0 : Int) := mt (i_eq (x := v300) (y := 0)).mpr c311
                        refine lv_iconst (v := 1) S.x S.b d_Mo_goOn_168 (by decide) ?_
                        obtain ⟨hpx, hpd⟩ := hoq.elim (fun q8 => absurd q8.1 (by omega)) (fun q8 => q8.2)
                        refine lv_goto (tgt := 173) S.x S.b d_Mo_goOn_169 (by decide) ?_
                        refine lv_istore (lv' := [(4, .int 1), (7, .int z54), (6, .int z50), (5, .int z46), (0, .ref mo), (1, .int p0), (2, .ref (hq p0.toNatClampNeg)), (3, .int x12_3)]) S.x S.b d_Mo_goOn_173 hl (by decide) rfl (fun ls hl => ?_)
                        refine lv_aload_n S.x S.b d_Mo_goOn_175 rfl (lv_at hl 6 rfl) ?_
                        refine lv_iload S.x S.b d_Mo_goOn_176 (lv_at hl 0 rfl) ?_
                        refine lv_if_eq (tgt := 190) S.x S.b d_Mo_goOn_178 (by decide) (fun c319 => ?_) (fun c319 => ?_)
                        · exact absurd c319 (by decide)
                        ·
                          refine lv_aload_n S.x S.b d_Mo_goOn_181 rfl (lv_at hl 6 rfl) ?_
                          have hw : pw D A s.heap _ _ [wd_Mo cs mo mr (fun _ => none) mf294 md295 (gMo PG hq), fm 8 (fPg cs PG), fm 13 (fPr cs hq qr QO296 QF297 QA298)] := hw.sub [0, 2, 1] rfl rfl
                          have hc320 := cl_nat (x := p0) (by first | exact g0 | omega)
                          have hi320 : p0.toNatClampNeg < 13 := by first | exact hi20 | omega
                          have hw : pw D A s.heap _ _ [wd_Mo cs mo mr (fun _ => none) mf294 md295 (gMo PG hq), fm 8 (fPg cs PG), fo 13 (fPr cs hq qr QO296 QF297 QA298) p0.toNatClampNeg, wd_Mpr cs (hq p0.toNatClampNeg) (qr p0.toNatClampNeg) (fun _ => QO296 p0.toNatClampNeg) (QF297 p0.toNatClampNeg) (QA298 p0.toNatClampNeg) (fun _ _ => none)] := fm_out (pr := [wd_Mo cs mo mr (fun _ => none) mf294 md295 (gMo PG hq), fm 8 (fPg cs PG)]) (T := fPr cs hq qr QO296 QF297 QA298) hw hi320
                          have hpb320 := hpx.2.2
                          unfold PsB at hpb320
                          refine px_get S k_Mpr hT hw 3 0 11 (v := .int ((QF297 p0.toNatClampNeg) 11)) rfl rfl rfl (by decide) m11_3 d_Mo_goOn_182 ?_
                          refine lv_iconst (v := 1) S.x S.b d_Mo_goOn_185 (by decide) ?_
                          refine lv_iadd S.x S.b d_Mo_goOn_186 ?_
                          have lr321 := Int32.le_toInt ((QF297 p0.toNatClampNeg) 11)
                          have ur321 := Int32.toInt_lt ((QF297 p0.toNatClampNeg) 11)
                          refine lv_topi (fun z322 ez322 => ?_)
                          have tz322 : z322.toInt = (((QF297 p0.toNatClampNeg) 11).toInt + (1 : Int) + 2147483648) % 4294967296 - 2147483648 := by rw [ez322]; exact i_add ((QF297 p0.toNatClampNeg) 11) 1
                          have lz322 := Int32.le_toInt z322
                          have uz322 := Int32.toInt_lt z322
                          try replace tz322 : z322.toInt = ((QF297 p0.toNatClampNeg) 11).toInt + (1 : Int) := by omega
                          refine lv_goto (tgt := 194) S.x S.b d_Mo_goOn_187 (by decide) ?_
                          refine px_put S k_Mpr hT hw 3 0 11 rfl rfl (by decide) m11_3 rfl rfl rfl (Nat.le_of_ble_eq_true rfl) d_Mo_goOn_194 (w' := wd_Mpr cs (hq p0.toNatClampNeg) (qr p0.toNatClampNeg) (fun _ => QO296 p0.toNatClampNeg) (upd (QF297 p0.toNatClampNeg) 11 z322) (QA298 p0.toNatClampNeg) (fun _ _ => none)) (ps' := [wd_Mo cs mo mr (fun _ => none) mf294 md295 (gMo PG hq), fm 8 (fPg cs PG), fo 13 (fPr cs hq qr QO296 QF297 QA298) p0.toNatClampNeg, wd_Mpr cs (hq p0.toNatClampNeg) (qr p0.toNatClampNeg) (fun _ => QO296 p0.toNatClampNeg) (upd (QF297 p0.toNatClampNeg) 11 z322) (QA298 p0.toNatClampNeg) (fun _ _ => none)]) rfl rfl (fun H locs hw => ?_)
                          refine lv_aload_n S.x S.b d_Mo_goOn_197 rfl (lv_at hl 6 rfl) ?_
                          refine lv_aload_n S.x S.b d_Mo_goOn_198 rfl (lv_at hl 6 rfl) ?_
                          refine px_get S k_Mpr hT hw 3 0 7 (v := .int ((QF297 p0.toNatClampNeg) 7)) rfl rfl rfl (by decide) m10_235 d_Mo_goOn_199 ?_
                          refine lv_if_eq (tgt := 214) S.x S.b d_Mo_goOn_202 (by decide) (fun c323 => ?_) (fun c323 => ?_)
                          · have nc323 : ((QF297 p0.toNatClampNeg) 7).toInt = (0 : Int) := (i_eq (x := ((QF297 p0.toNatClampNeg) 7)) (y := 0)).mp c323
                            refine lv_iconst (v := 0) S.x S.b d_Mo_goOn_214 (by decide) ?_
                            refine px_put S k_Mpr hT hw 3 0 7 rfl rfl (by decide) m10_235 rfl rfl rfl (Nat.le_of_ble_eq_true rfl) d_Mo_goOn_215 (w' := wd_Mpr cs (hq p0.toNatClampNeg) (qr p0.toNatClampNeg) (fun _ => QO296 p0.toNatClampNeg) (upd (upd (QF297 p0.toNatClampNeg) 7 0) 11 z322) (QA298 p0.toNatClampNeg) (fun _ _ => none)) (ps' := [wd_Mo cs mo mr (fun _ => none) mf294 md295 (gMo PG hq), fm 8 (fPg cs PG), fo 13 (fPr cs hq qr QO296 QF297 QA298) p0.toNatClampNeg, wd_Mpr cs (hq p0.toNatClampNeg) (qr p0.toNatClampNeg) (fun _ => QO296 p0.toNatClampNeg) (upd (upd (QF297 p0.toNatClampNeg) 7 0) 11 z322) (QA298 p0.toNatClampNeg) (fun _ _ => none)]) rfl rfl (fun H locs hw => ?_)
                            refine lv_goto (tgt := 241) S.x S.b d_Mo_goOn_218 (by decide) ?_
                            have hw := fpr_in (pr := [wd_Mo cs mo mr (fun _ => none) mf294 md295 (gMo PG hq), fm 8 (fPg cs PG)]) hw hi320
                            obtain ⟨QO324, hu_QO324⟩ : ∃ y : Nat → Option Nat, y = va_up QO296 p0.toNatClampNeg ((fun _ => QO296 p0.toNatClampNeg) 0) := ⟨_, rfl⟩
                            obtain ⟨QF325, hu_QF325⟩ : ∃ y : Nat → Nat → Int32, y = va_up QF297 p0.toNatClampNeg (upd (upd (QF297 p0.toNatClampNeg) 7 0) 11 z322) := ⟨_, rfl⟩
                            obtain ⟨QA326, hu_QA326⟩ : ∃ y : Nat → Nat → Nat → Int32, y = va_up QA298 p0.toNatClampNeg (QA298 p0.toNatClampNeg) := ⟨_, rfl⟩
                            have hw : pw D A s.heap _ _ [wd_Mo cs mo mr (fun _ => none) mf294 md295 (gMo PG hq), fm 8 (fPg cs PG), fm 13 (fPr cs hq qr QO324 QF325 QA326)] := (by rw [hu_QO324, hu_QF325, hu_QA326]; exact hw)
                            have hpr : PrA PG (va_up RR p0.toNatClampNeg (R_12 - 1)) QO324 QF325 QA326 := (by rw [hu_QO324, hu_QF325, hu_QA326]; exact PrX.inR hpx (psr_tx (j := j9) hj9 (hko.1.trans hqo) h61 (show (0 ≤ ((QF297 p0.toNatClampNeg) 1).toInt ∧ ((QF297 p0.toNatClampNeg) 1).toInt ≤ 1) ∧ (0 ≤ ((QF297 p0.toNatClampNeg) 21).toInt ∧ ((QF297 p0.toNatClampNeg) 21).toInt ≤ 4) ∧ (0 ≤ ((QF297 p0.toNatClampNeg) 23).toInt ∧ ((QF297 p0.toNatClampNeg) 23).toInt ≤ 4) ∧ (0 ≤ ((QF297 p0.toNatClampNeg) 24).toInt ∧ ((QF297 p0.toNatClampNeg) 24).toInt ≤ 1000000) ∧ (0 ≤ ((QF297 p0.toNatClampNeg) 6).toInt ∧ ((QF297 p0.toNatClampNeg) 6).toInt ≤ 3) ∧ (0 ≤ (0 : Int) ∧ (0 : Int) ≤ 1) from by first | with_reducible rfl | with_reducible assumption | omega) (show ((QF297 p0.toNatClampNeg) 1).toInt = 1 from by first | exact oz_154b4b53d6 hko2.1 hqk1_QF287 e201 hg1.1 | omega) (by omega) (fun _ => by have q8 := hpd; rw [va_up_s] at q8; exact PdT.nx q8 (show ((QF297 p0.toNatClampNeg) 4).toInt = (QF297 p0.toNatClampNeg 4).toInt ∧ ((QF297 p0.toNatClampNeg) 5).toInt = (QF297 p0.toNatClampNeg 5).toInt ∧ ((QF297 p0.toNatClampNeg) 10).toInt = (QF297 p0.toNatClampNeg 10).toInt ∧ ((QF297 p0.toNatClampNeg) 12).toInt = (QF297 p0.toNatClampNeg 12).toInt ∧ ((QF297 p0.toNatClampNeg) 13).toInt = (QF297 p0.toNatClampNeg 13).toInt ∧ ((QF297 p0.toNatClampNeg) 14).toInt = (QF297 p0.toNatClampNeg 14).toInt from by first | exact oz_28eebd5525 | omega) (show z322.toInt = (QF297 p0.toNatClampNeg 11).toInt + 1 from by first | exact oz_037caa6b79 tz322 | omega) (show ((QF297 p0.toNatClampNeg) 24).toInt = (QF297 p0.toNatClampNeg 24).toInt from by first | exact oz_507c05ca68 | omega) (show (0 : Int) = 0 from by first | decide | omega))) (show ((QF297 p0.toNatClampNeg) 1).toInt = (QF297 p0.toNatClampNeg 1).toInt from by first | exact oz_507c05ca68 | omega) (show (QF297 p0.toNatClampNeg 6).toInt ≤ ((QF297 p0.toNatClampNeg) 6).toInt from by first | exact oz_1cb5f934a5 | omega))
                            have hw : pw D A s.heap _ _ [wd_Mo cs mo mr (fun _ => none) mf294 md295 (gMo PG hq), fm 13 (fPr cs hq qr QO324 QF325 QA326), fm 8 (fPg cs PG)] := hw.sub [0, 2, 1] rfl rfl
                            exact J241 mf294 md295 QO324 QF325 QA326 (R_12 - 1) x12_3 (1 : Int32) _ _ ls (show PrA PG (va_up RR p0.toNatClampNeg (R_12 - 1)) QO324 QF325 QA326 from hpr) (show (mf294 0).toInt = (mf 0).toInt from by first | exact oz_1687f4cc65 k12_1 e305 | omega) (show (mf294 2).toInt = (mf 2).toInt from by first | exact oz_1687f4cc65 k12_2 e306 | omega) (show (mf294 3).toInt = (mf 3).toInt from by first | exact oz_1687f4cc65 k12_3 e307 | omega) (show (mf294 7).toInt = (mf 7).toInt from by first | exact oz_1687f4cc65 k12_4 e308 | omega) (show (mf294 8).toInt = (mf 8).toInt from by first | exact oz_1687f4cc65 k12_5 e309 | omega) (show (mf294 10).toInt = (mf 10).toInt from by first | exact oz_1687f4cc65 k12_6 e310 | omega) (show x12_3.toInt = x12_3.toInt from rfl) (show 0 ≤ (1 : Int) from by first | decide | omega) (show (1 : Int) ≤ 1 from by first | decide | omega) (show (R_12 - 1) + (1 : Int) ≤ R_12 from by first | exact oz_9af69b5cb8 | omega) (show (R_12 - 1) ≤ R_12 from by first | exact oz_f81ab12e42 | omega) (show 1 ≤ x12_4.toInt from by first | exact oz_70c2bdf1b6 k12_9 nc3 | omega) hw (lv_sub hl [4, 5, 6, 7, 0] rfl)
                          · have nc323 : ¬ ((QF297 p0.toNatClampNeg) 7).toInt = (0 : Int) := mt (i_eq (x := ((QF297 p0.toNatClampNeg) 7)) (y := 0)).mpr c323
                            refine lv_iload S.x S.b d_Mo_goOn_205 (lv_at hl 0 rfl) ?_
                            refine lv_if_ne (tgt := 214) S.x S.b d_Mo_goOn_207 (by decide) (fun c327 => ?_) (fun c327 => ?_)
                            ·
                              refine lv_iconst (v := 0) S.x S.b d_Mo_goOn_214 (by decide) ?_
                              refine px_put S k_Mpr hT hw 3 0 7 rfl rfl (by decide) m10_235 rfl rfl rfl (Nat.le_of_ble_eq_true rfl) d_Mo_goOn_215 (w' := wd_Mpr cs (hq p0.toNatClampNeg) (qr p0.toNatClampNeg) (fun _ => QO296 p0.toNatClampNeg) (upd (upd (QF297 p0.toNatClampNeg) 7 0) 11 z322) (QA298 p0.toNatClampNeg) (fun _ _ => none)) (ps' := [wd_Mo cs mo mr (fun _ => none) mf294 md295 (gMo PG hq), fm 8 (fPg cs PG), fo 13 (fPr cs hq qr QO296 QF297 QA298) p0.toNatClampNeg, wd_Mpr cs (hq p0.toNatClampNeg) (qr p0.toNatClampNeg) (fun _ => QO296 p0.toNatClampNeg) (upd (upd (QF297 p0.toNatClampNeg) 7 0) 11 z322) (QA298 p0.toNatClampNeg) (fun _ _ => none)]) rfl rfl (fun H locs hw => ?_)
                              refine lv_goto (tgt := 241) S.x S.b d_Mo_goOn_218 (by decide) ?_
                              have hw := fpr_in (pr := [wd_Mo cs mo mr (fun _ => none) mf294 md295 (gMo PG hq), fm 8 (fPg cs PG)]) hw hi320
                              obtain ⟨QO328, hu_QO328⟩ : ∃ y : Nat → Option Nat, y = va_up QO296 p0.toNatClampNeg ((fun _ => QO296 p0.toNatClampNeg) 0) := ⟨_, rfl⟩
                              obtain ⟨QF329, hu_QF329⟩ : ∃ y : Nat → Nat → Int32, y = va_up QF297 p0.toNatClampNeg (upd (upd (QF297 p0.toNatClampNeg) 7 0) 11 z322) := ⟨_, rfl⟩
                              obtain ⟨QA330, hu_QA330⟩ : ∃ y : Nat → Nat → Nat → Int32, y = va_up QA298 p0.toNatClampNeg (QA298 p0.toNatClampNeg) := ⟨_, rfl⟩
                              have hw : pw D A s.heap _ _ [wd_Mo cs mo mr (fun _ => none) mf294 md295 (gMo PG hq), fm 8 (fPg cs PG), fm 13 (fPr cs hq qr QO328 QF329 QA330)] := (by rw [hu_QO328, hu_QF329, hu_QA330]; exact hw)
                              have hpr : PrA PG (va_up RR p0.toNatClampNeg (R_12 - 1)) QO328 QF329 QA330 := (by rw [hu_QO328, hu_QF329, hu_QA330]; exact PrX.inR hpx (psr_tx (j := j9) hj9 (hko.1.trans hqo) h61 (show (0 ≤ ((QF297 p0.toNatClampNeg) 1).toInt ∧ ((QF297 p0.toNatClampNeg) 1).toInt ≤ 1) ∧ (0 ≤ ((QF297 p0.toNatClampNeg) 21).toInt ∧ ((QF297 p0.toNatClampNeg) 21).toInt ≤ 4) ∧ (0 ≤ ((QF297 p0.toNatClampNeg) 23).toInt ∧ ((QF297 p0.toNatClampNeg) 23).toInt ≤ 4) ∧ (0 ≤ ((QF297 p0.toNatClampNeg) 24).toInt ∧ ((QF297 p0.toNatClampNeg) 24).toInt ≤ 1000000) ∧ (0 ≤ ((QF297 p0.toNatClampNeg) 6).toInt ∧ ((QF297 p0.toNatClampNeg) 6).toInt ≤ 3) ∧ (0 ≤ (0 : Int) ∧ (0 : Int) ≤ 1) from by first | with_reducible rfl | with_reducible assumption | omega) (show ((QF297 p0.toNatClampNeg) 1).toInt = 1 from by first | exact oz_154b4b53d6 hko2.1 hqk1_QF287 e201 hg1.1 | omega) (by omega) (fun _ => by have q8 := hpd; rw [va_up_s] at q8; exact PdT.nx q8 (show ((QF297 p0.toNatClampNeg) 4).toInt = (QF297 p0.toNatClampNeg 4).toInt ∧ ((QF297 p0.toNatClampNeg) 5).toInt = (QF297 p0.toNatClampNeg 5).toInt ∧ ((QF297 p0.toNatClampNeg) 10).toInt = (QF297 p0.toNatClampNeg 10).toInt ∧ ((QF297 p0.toNatClampNeg) 12).toInt = (QF297 p0.toNatClampNeg 12).toInt ∧ ((QF297 p0.toNatClampNeg) 13).toInt = (QF297 p0.toNatClampNeg 13).toInt ∧ ((QF297 p0.toNatClampNeg) 14).toInt = (QF297 p0.toNatClampNeg 14).toInt from by first | exact oz_28eebd5525 | omega) (show z322.toInt = (QF297 p0.toNatClampNeg 11).toInt + 1 from by first | exact oz_037caa6b79 tz322 | omega) (show ((QF297 p0.toNatClampNeg) 24).toInt = (QF297 p0.toNatClampNeg 24).toInt from by first | exact oz_507c05ca68 | omega) (show (0 : Int) = 0 from by first | decide | omega))) (show ((QF297 p0.toNatClampNeg) 1).toInt = (QF297 p0.toNatClampNeg 1).toInt from by first | exact oz_507c05ca68 | omega) (show (QF297 p0.toNatClampNeg 6).toInt ≤ ((QF297 p0.toNatClampNeg) 6).toInt from by first | exact oz_1cb5f934a5 | omega))
                              have hw : pw D A s.heap _ _ [wd_Mo cs mo mr (fun _ => none) mf294 md295 (gMo PG hq), fm 13 (fPr cs hq qr QO328 QF329 QA330), fm 8 (fPg cs PG)] := hw.sub [0, 2, 1] rfl rfl
                              exact J241 mf294 md295 QO328 QF329 QA330 (R_12 - 1) x12_3 (1 : Int32) _ _ ls (show PrA PG (va_up RR p0.toNatClampNeg (R_12 - 1)) QO328 QF329 QA330 from hpr) (show (mf294 0).toInt = (mf 0).toInt from by first | exact oz_1687f4cc65 k12_1 e305 | omega) (show (mf294 2).toInt = (mf 2).toInt from by first | exact oz_1687f4cc65 k12_2 e306 | omega) (show (mf294 3).toInt = (mf 3).toInt from by first | exact oz_1687f4cc65 k12_3 e307 | omega) (show (mf294 7).toInt = (mf 7).toInt from by first | exact oz_1687f4cc65 k12_4 e308 | omega) (show (mf294 8).toInt = (mf 8).toInt from by first | exact oz_1687f4cc65 k12_5 e309 | omega) (show (mf294 10).toInt = (mf 10).toInt from by first | exact oz_1687f4cc65 k12_6 e310 | omega) (show x12_3.toInt = x12_3.toInt from rfl) (show 0 ≤ (1 : Int) from by first | decide | omega) (show (1 : Int) ≤ 1 from by first | decide | omega) (show (R_12 - 1) + (1 : Int) ≤ R_12 from by first | exact oz_9af69b5cb8 | omega) (show (R_12 - 1) ≤ R_12 from by first | exact oz_f81ab12e42 | omega) (show 1 ≤ x12_4.toInt from by first | exact oz_70c2bdf1b6 k12_9 nc3 | omega) hw (lv_sub hl [4, 5, 6, 7, 0] rfl)
                            · exact absurd c327 (by decide)
          · have nc43 : ((PG j9).xf 66).toInt = (2 : Int) := (i_eq (x := ((PG j9).xf 66)) (y := 2)).mp c43
            refine lv_aload_n S.x S.b d_Mo_goOn_35 rfl (lv_at hl 2 rfl) ?_
            have hrk := hkind.elim id (fun q8 => absurd q8.1 (by omega)); have h66 := hrk.1; have hrw := hrk.2; have hrw0 := hrw; unfold PsW at hrw0
            have hw : pw D A s.heap _ _ [wd_Mo cs mo mr (fun _ => none) mf_12 md_12 (gMo PG hq), fo 13 (fPr cs hq qr QO_12 QF_12 QA_12) p0.toNatClampNeg, fo 8 (fPg cs PG) j9, wd_Mpr cs (hq p0.toNatClampNeg) (qr p0.toNatClampNeg) (fun k => if k = 0 then (some (PG j9).h) else none) (QF_12 p0.toNatClampNeg) (QA_12 p0.toNatClampNeg) (fun _ _ => none), wdP cs (PG j9).h (PG j9).r (PG j9).g (PG j9).tf (PG j9).ta (PG j9).pf (PG j9).na (PG j9).ma (PG j9).wa (PG j9).cf (PG j9).ca (PG j9).ef (PG j9).ea (PG j9).xf (PG j9).xa] := hw.sub [0, 1, 3, 2, 4] rfl rfl
            refine px_calli (pr := [wd_Mo cs mo mr (fun _ => none) mf_12 md_12 (gMo PG hq), fo 13 (fPr cs hq qr QO_12 QF_12 QA_12) p0.toNatClampNeg, fo 8 (fPg cs PG) j9]) (px_runV (As := []) (rest := []) S (c_mrr_rawStep l D cs (0 : Int) (hq p0.toNatClampNeg) (qr p0.toNatClampNeg) (fun _ _ => none) (QF_12 p0.toNatClampNeg) (QA_12 p0.toNatClampNeg) (PG j9).h (PG j9).r (PG j9).g (PG j9).tf (PG j9).ta (PG j9).pf (PG j9).na (PG j9).ma (PG j9).wa (PG j9).cf (PG j9).ca (PG j9).ef (PG j9).ea (PG j9).xf (PG j9).xa   (show 0 ≤ ((PG j9).xf 68).toInt from by first | with_reducible rfl | with_reducible assumption | omega) (show ((PG j9).xf 68).toInt ≤ 512 from by first | with_reducible rfl | with_reducible assumption | omega) (show ((QF_12 p0.toNatClampNeg) 2).toInt = -2 from by first | exact oz_d5c43516a3 hg1.2 | omega) (show 0 ≤ ((QF_12 p0.toNatClampNeg) 4).toInt from by first | with_reducible rfl | with_reducible assumption | omega) _) hT (pr := [wd_Mo cs mo mr (fun _ => none) mf_12 md_12 (gMo PG hq), fo 13 (fPr cs hq qr QO_12 QF_12 QA_12) p0.toNatClampNeg, fo 8 (fPg cs PG) j9]) (pcs := [wd_Mpr cs (hq p0.toNatClampNeg) (qr p0.toNatClampNeg) (fun k => if k = 0 then (some (PG j9).h) else none) (QF_12 p0.toNatClampNeg) (QA_12 p0.toNatClampNeg) (fun _ _ => none), wdP cs (PG j9).h (PG j9).r (PG j9).g (PG j9).tf (PG j9).ta (PG j9).pf (PG j9).na (PG j9).ma (PG j9).wa (PG j9).cf (PG j9).ca (PG j9).ef (PG j9).ea (PG j9).xf (PG j9).xa]) hw (oX_call (P := (fun A U H => (oP A (PG j9).g U H))) (pr := [wd_Mo cs mo mr (fun _ => none) mf_12 md_12 (gMo PG hq), fo 13 (fPr cs hq qr QO_12 QF_12 QA_12) p0.toNatClampNeg, fo 8 (fPg cs PG) j9]) oG_P hw hA hP) (px_recv hT hw 3 0 rfl rfl rfl) m13_173 m13_170 m13_171 m13_172 m1_22 q_Mpr_rawStep ⟨Nat.le_of_ble_eq_true rfl, Nat.le_of_ble_eq_true rfl⟩ hl.1 rfl (Nat.le_of_ble_eq_true rfl) d_Mo_goOn_36 ⟨Nat.le_of_ble_eq_true rfl, Nat.le_of_ble_eq_true rfl⟩) hw hA (fun v336 p335 H locs hp335 hw => ?_)
            obtain ⟨qf333, qa334, rfl, e337, e338, e339, e340, e341, e342, e343, e344, e345, e346, e347, e348, e349, e350⟩ := hp335
            replace e337 : 0 ≤ v336.toInt := e337
            replace e338 : v336.toInt ≤ 1 := e338
            replace e339 : RsV v336.toInt (qf333 2).toInt (qf333 4).toInt ((QF_12 p0.toNatClampNeg) 4).toInt := e339
            have hrsv := e339
            replace e340 : (qf333 1).toInt = ((QF_12 p0.toNatClampNeg) 1).toInt := e340
            replace e341 : (qf333 5).toInt = ((QF_12 p0.toNatClampNeg) 5).toInt := e341
            replace e342 : (qf333 6).toInt = ((QF_12 p0.toNatClampNeg) 6).toInt := e342
            replace e343 : (qf333 7).toInt = ((QF_12 p0.toNatClampNeg) 7).toInt := e343
            replace e344 : (qf333 10).toInt = ((QF_12 p0.toNatClampNeg) 10).toInt := e344
            replace e345 : (qf333 12).toInt = ((QF_12 p0.toNatClampNeg) 12).toInt := e345
            replace e346 : (qf333 13).toInt = ((QF_12 p0.toNatClampNeg) 13).toInt := e346
            replace e347 : (qf333 14).toInt = ((QF_12 p0.toNatClampNeg) 14).toInt := e347
            replace e348 : (qf333 21).toInt = ((QF_12 p0.toNatClampNeg) 21).toInt := e348
            replace e349 : (qf333 23).toInt = ((QF_12 p0.toNatClampNeg) 23).toInt := e349
            replace e350 : (qf333 24).toInt = ((QF_12 p0.toNatClampNeg) 24).toInt := e350
            replace hw : pw D A s.heap H locs [wd_Mo cs mo mr (fun _ => none) mf_12 md_12 (gMo PG hq), fo 13 (fPr cs hq qr QO_12 QF_12 QA_12) p0.toNatClampNeg, fo 8 (fPg cs PG) j9, wd_Mpr cs (hq p0.toNatClampNeg) (qr p0.toNatClampNeg) (fun k => if k = 0 then (some (PG j9).h) else none) qf333 qa334 (fun _ _ => none), wdP cs (PG j9).h (PG j9).r (PG j9).g (PG j9).tf (PG j9).ta (PG j9).pf (PG j9).na (PG j9).ma (PG j9).wa (PG j9).cf (PG j9).ca (PG j9).ef (PG j9).ea (PG j9).xf (PG j9).xa] := hw
            have lv336 := Int32.le_toInt v336
            have uv336 := Int32.toInt_lt v336
            refine lv_istore (lv' := [(5, .int v336), (0, .ref mo), (1, .int p0), (2, .ref (hq p0.toNatClampNeg)), (3, .int x12_3), (4, .int x12_4)]) S.x S.b d_Mo_goOn_39 hl (by decide) rfl (fun ls hl => ?_)
            refine lv_iload S.x S.b d_Mo_goOn_41 (lv_at hl 0 rfl) ?_
            refine lv_if_eq (tgt := 54) S.x S.b d_Mo_goOn_43 (by decide) (fun c351 => ?_) (fun c351 => ?_)
            · have nc351 : v336.toInt = (0 : Int) := (i_eq (x := v336) (y := 0)).mp c351
              refine lv_iconst (v := 1) S.x S.b d_Mo_goOn_54 (by decide) ?_
              have hrs0 := hrsv.elim (fun q8 => absurd q8.1 (by omega)) (fun q8 => q8.2)
              refine lv_goto (tgt := 59) S.x S.b d_Mo_goOn_55 (by decide) ?_
              refine lv_istore (lv' := [(4, .int 1), (5, .int v336), (0, .ref mo), (1, .int p0), (2, .ref (hq p0.toNatClampNeg)), (3, .int x12_3)]) S.x S.b d_Mo_goOn_59 hl (by decide) rfl (fun ls hl => ?_)
              refine lv_goto (tgt := 241) S.x S.b d_Mo_goOn_61 (by decide) ?_
              have hw : pw D A s.heap _ _ [wd_Mo cs mo mr (fun _ => none) mf_12 md_12 (gMo PG hq), fo 8 (fPg cs PG) j9, wdP cs (PG j9).h (PG j9).r (PG j9).g (PG j9).tf (PG j9).ta (PG j9).pf (PG j9).na (PG j9).ma (PG j9).wa (PG j9).cf (PG j9).ca (PG j9).ef (PG j9).ea (PG j9).xf (PG j9).xa, fo 13 (fPr cs hq qr QO_12 QF_12 QA_12) p0.toNatClampNeg, wd_Mpr cs (hq p0.toNatClampNeg) (qr p0.toNatClampNeg) (fun k => if k = 0 then (some (PG j9).h) else none) qf333 qa334 (fun _ _ => none)] := hw.sub [0, 2, 4, 1, 3] rfl rfl
              have hw := fpr_in (pr := [wd_Mo cs mo mr (fun _ => none) mf_12 md_12 (gMo PG hq), fo 8 (fPg cs PG) j9, wdP cs (PG j9).h (PG j9).r (PG j9).g (PG j9).tf (PG j9).ta (PG j9).pf (PG j9).na (PG j9).ma (PG j9).wa (PG j9).cf (PG j9).ca (PG j9).ef (PG j9).ea (PG j9).xf (PG j9).xa]) hw hi20
              obtain ⟨QO352, hu_QO352⟩ : ∃ y : Nat → Option Nat, y = va_up QO_12 p0.toNatClampNeg ((fun k => if k = 0 then (some (PG j9).h) else none) 0) := ⟨_, rfl⟩
              obtain ⟨QF353, hu_QF353⟩ : ∃ y : Nat → Nat → Int32, y = va_up QF_12 p0.toNatClampNeg qf333 := ⟨_, rfl⟩
              obtain ⟨QA354, hu_QA354⟩ : ∃ y : Nat → Nat → Nat → Int32, y = va_up QA_12 p0.toNatClampNeg qa334 := ⟨_, rfl⟩
              have hw : pw D A s.heap _ _ [wd_Mo cs mo mr (fun _ => none) mf_12 md_12 (gMo PG hq), fo 8 (fPg cs PG) j9, wdP cs (PG j9).h (PG j9).r (PG j9).g (PG j9).tf (PG j9).ta (PG j9).pf (PG j9).na (PG j9).ma (PG j9).wa (PG j9).cf (PG j9).ca (PG j9).ef (PG j9).ea (PG j9).xf (PG j9).xa, fm 13 (fPr cs hq qr QO352 QF353 QA354)] := (by rw [hu_QO352, hu_QF353, hu_QA354]; exact hw)
              have hpr : PrA PG (va_up RR p0.toNatClampNeg (R_12 - 1)) QO352 QF353 QA354 := (by rw [hu_QO352, hu_QF353, hu_QA354]; exact PrA.upR2 hpr hi20 (psr_rw2 (j := j9) hj9 (show _ = some _ from rfl) h66 (show (0 ≤ (qf333 1).toInt ∧ (qf333 1).toInt ≤ 1) ∧ (0 ≤ (qf333 21).toInt ∧ (qf333 21).toInt ≤ 4) ∧ (0 ≤ (qf333 23).toInt ∧ (qf333 23).toInt ≤ 4) ∧ (0 ≤ (qf333 24).toInt ∧ (qf333 24).toInt ≤ 1000000) ∧ (0 ≤ (qf333 6).toInt ∧ (qf333 6).toInt ≤ 3) ∧ (0 ≤ (qf333 7).toInt ∧ (qf333 7).toInt ≤ 1) from by first | with_reducible rfl | with_reducible assumption | omega) (show (qf333 1).toInt = 1 from by first | exact oz_e863b17997 e340 hg1.1 | omega) (by omega) (fun q8 => (show 0 ≤ (qf333 4).toInt ∧ (qf333 4).toInt + 1 ≤ R_12 - 1 ∧ (qf333 24).toInt + (qf333 4).toInt ≤ 1600 from by have q7 : (qf333 2).toInt = -2 := q8; omega))) (show (qf333 1).toInt = (QF_12 p0.toNatClampNeg 1).toInt from by first | exact oz_1811ac7fe4 e340 | omega) (show (QF_12 p0.toNatClampNeg 6).toInt ≤ (qf333 6).toInt from by first | exact oz_f9b42d1b56 e342 | omega))
              have hqk1_QF353 : (QF353 p0.toNatClampNeg 1).toInt = (qf333 1).toInt := (by rw [hu_QF353, va_up_s]; try rfl)
              have hqk2_QF353 : (QF353 p0.toNatClampNeg 2).toInt = (qf333 2).toInt := (by rw [hu_QF353, va_up_s]; try rfl)
              have hqk4_QF353 : (QF353 p0.toNatClampNeg 4).toInt = (qf333 4).toInt := (by rw [hu_QF353, va_up_s]; try rfl)
              have hqk7_QF353 : (QF353 p0.toNatClampNeg 7).toInt = (qf333 7).toInt := (by rw [hu_QF353, va_up_s]; try rfl)
              have hqk10_QF353 : (QF353 p0.toNatClampNeg 10).toInt = (qf333 10).toInt := (by rw [hu_QF353, va_up_s]; try rfl)
              have hqk11_QF353 : (QF353 p0.toNatClampNeg 11).toInt = (qf333 11).toInt := (by rw [hu_QF353, va_up_s]; try rfl)
              have hqk24_QF353 : (QF353 p0.toNatClampNeg 24).toInt = (qf333 24).toInt := (by rw [hu_QF353, va_up_s]; try rfl)
              have hw : pw D A s.heap _ _ [wd_Mo cs mo mr (fun _ => none) mf_12 md_12 (gMo PG hq), fm 13 (fPr cs hq qr QO352 QF353 QA354), fo 8 (fPg cs PG) j9, wdP cs (PG j9).h (PG j9).r (PG j9).g (PG j9).tf (PG j9).ta (PG j9).pf (PG j9).na (PG j9).ma (PG j9).wa (PG j9).cf (PG j9).ca (PG j9).ef (PG j9).ea (PG j9).xf (PG j9).xa] := hw.sub [0, 3, 1, 2] rfl rfl
              have hw : pw D A s.heap _ _ [wd_Mo cs mo mr (fun _ => none) mf_12 md_12 (gMo PG hq), fm 13 (fPr cs hq qr QO352 QF353 QA354), fm 8 (fPg cs PG)] := fm_back (pr := [wd_Mo cs mo mr (fun _ => none) mf_12 md_12 (gMo PG hq), fm 13 (fPr cs hq qr QO352 QF353 QA354)]) (T := fPg cs PG) hw hj9
              exact J241 mf_12 md_12 QO352 QF353 QA354 (R_12 - 1) x12_3 (1 : Int32) _ _ ls (show PrA PG (va_up RR p0.toNatClampNeg (R_12 - 1)) QO352 QF353 QA354 from (hpr.ml (by omega))) (show (mf_12 0).toInt = (mf 0).toInt from by first | exact k12_1 | omega) (show (mf_12 2).toInt = (mf 2).toInt from by first | exact k12_2 | omega) (show (mf_12 3).toInt = (mf 3).toInt from by first | exact k12_3 | omega) (show (mf_12 7).toInt = (mf 7).toInt from by first | exact k12_4 | omega) (show (mf_12 8).toInt = (mf 8).toInt from by first | exact k12_5 | omega) (show (mf_12 10).toInt = (mf 10).toInt from by first | exact k12_6 | omega) (show x12_3.toInt = x12_3.toInt from rfl) (show 0 ≤ (1 : Int) from by first | decide | omega) (show (1 : Int) ≤ 1 from by first | decide | omega) (show (R_12 - 1) + (1 : Int) ≤ R_12 from by first | exact oz_9af69b5cb8 | omega) (show (R_12 - 1) ≤ R_12 from by first | exact oz_f81ab12e42 | omega) (show 1 ≤ x12_4.toInt from by first | exact oz_70c2bdf1b6 k12_9 nc3 | omega) hw (lv_sub hl [2, 3, 4, 5, 0] rfl)
            · have nc351 : ¬ v336.toInt = (0 : Int) := mt (i_eq (x := v336) (y := 0)).mpr c351
              refine lv_aload_n S.x S.b d_Mo_goOn_46 rfl (lv_at hl 1 rfl) ?_
              have hrs1 := hrsv.elim id (fun q8 => absurd q8.1 (by omega))
              refine lv_iload_n S.x S.b d_Mo_goOn_47 rfl (lv_at hl 2 rfl) ?_
              have hw : pw D A s.heap _ _ [wd_Mo cs mo mr (fun _ => none) mf_12 md_12 (gMo PG hq), fo 8 (fPg cs PG) j9, wdP cs (PG j9).h (PG j9).r (PG j9).g (PG j9).tf (PG j9).ta (PG j9).pf (PG j9).na (PG j9).ma (PG j9).wa (PG j9).cf (PG j9).ca (PG j9).ef (PG j9).ea (PG j9).xf (PG j9).xa, fo 13 (fPr cs hq qr QO_12 QF_12 QA_12) p0.toNatClampNeg, wd_Mpr cs (hq p0.toNatClampNeg) (qr p0.toNatClampNeg) (fun k => if k = 0 then (some (PG j9).h) else none) qf333 qa334 (fun _ _ => none)] := hw.sub [0, 2, 4, 1, 3] rfl rfl
              have hw := fpr_in (pr := [wd_Mo cs mo mr (fun _ => none) mf_12 md_12 (gMo PG hq), fo 8 (fPg cs PG) j9, wdP cs (PG j9).h (PG j9).r (PG j9).g (PG j9).tf (PG j9).ta (PG j9).pf (PG j9).na (PG j9).ma (PG j9).wa (PG j9).cf (PG j9).ca (PG j9).ef (PG j9).ea (PG j9).xf (PG j9).xa]) hw hi20
              obtain ⟨QO355, hu_QO355⟩ : ∃ y : Nat → Option Nat, y = va_up QO_12 p0.toNatClampNeg ((fun k => if k = 0 then (some (PG j9).h) else none) 0) := ⟨_, rfl⟩
              obtain ⟨QF356, hu_QF356⟩ : ∃ y : Nat → Nat → Int32, y = va_up QF_12 p0.toNatClampNeg qf333 := ⟨_, rfl⟩
              obtain ⟨QA357, hu_QA357⟩ : ∃ y : Nat → Nat → Nat → Int32, y = va_up QA_12 p0.toNatClampNeg qa334 := ⟨_, rfl⟩
              have hw : pw D A s.heap _ _ [wd_Mo cs mo mr (fun _ => none) mf_12 md_12 (gMo PG hq), fo 8 (fPg cs PG) j9, wdP cs (PG j9).h (PG j9).r (PG j9).g (PG j9).tf (PG j9).ta (PG j9).pf (PG j9).na (PG j9).ma (PG j9).wa (PG j9).cf (PG j9).ca (PG j9).ef (PG j9).ea (PG j9).xf (PG j9).xa, fm 13 (fPr cs hq qr QO355 QF356 QA357)] := (by rw [hu_QO355, hu_QF356, hu_QA357]; exact hw)
              have hpr : PrA PG (va_up RR p0.toNatClampNeg R_12) QO355 QF356 QA357 := (by rw [hu_QO355, hu_QF356, hu_QA357]; exact PrA.upR2 hpr hi20 (psr_raw (j := j9) hj9 (show _ = some _ from rfl) h66 (show (0 ≤ (qf333 1).toInt ∧ (qf333 1).toInt ≤ 1) ∧ (0 ≤ (qf333 21).toInt ∧ (qf333 21).toInt ≤ 4) ∧ (0 ≤ (qf333 23).toInt ∧ (qf333 23).toInt ≤ 4) ∧ (0 ≤ (qf333 24).toInt ∧ (qf333 24).toInt ≤ 1000000) ∧ (0 ≤ (qf333 6).toInt ∧ (qf333 6).toInt ≤ 3) ∧ (0 ≤ (qf333 7).toInt ∧ (qf333 7).toInt ≤ 1) from by first | with_reducible rfl | with_reducible assumption | omega) (show (qf333 1).toInt = 1 from by first | exact oz_e863b17997 e340 hg1.1 | omega) (show 0 ≤ (qf333 4).toInt ∧ (qf333 4).toInt + 1 ≤ R_12 ∧ (qf333 24).toInt + (qf333 4).toInt ≤ 1600 from by first | with_reducible rfl | with_reducible assumption | omega)) (show (qf333 1).toInt = (QF_12 p0.toNatClampNeg 1).toInt from by first | exact oz_1811ac7fe4 e340 | omega) (show (QF_12 p0.toNatClampNeg 6).toInt ≤ (qf333 6).toInt from by first | exact oz_f9b42d1b56 e342 | omega))
              have hqk1_QF356 : (QF356 p0.toNatClampNeg 1).toInt = (qf333 1).toInt := (by rw [hu_QF356, va_up_s]; try rfl)
              have hqk2_QF356 : (QF356 p0.toNatClampNeg 2).toInt = (qf333 2).toInt := (by rw [hu_QF356, va_up_s]; try rfl)
              have hqk4_QF356 : (QF356 p0.toNatClampNeg 4).toInt = (qf333 4).toInt := (by rw [hu_QF356, va_up_s]; try rfl)
              have hqk7_QF356 : (QF356 p0.toNatClampNeg 7).toInt = (qf333 7).toInt := (by rw [hu_QF356, va_up_s]; try rfl)
              have hqk10_QF356 : (QF356 p0.toNatClampNeg 10).toInt = (qf333 10).toInt := (by rw [hu_QF356, va_up_s]; try rfl)
              have hqk11_QF356 : (QF356 p0.toNatClampNeg 11).toInt = (qf333 11).toInt := (by rw [hu_QF356, va_up_s]; try rfl)
              have hqk24_QF356 : (QF356 p0.toNatClampNeg 24).toInt = (qf333 24).toInt := (by rw [hu_QF356, va_up_s]; try rfl)
              have hqo : OqE (QO355 p0.toNatClampNeg) (PG j9).h := (by rw [hu_QO355, va_up_s]; exact rfl)
              have hrw8 : PsW ((va_up RR p0.toNatClampNeg R_12) p0.toNatClampNeg) (QF356 p0.toNatClampNeg) := (by rw [va_up_s]; unfold PsW; omega)
              have hw : pw D A s.heap _ _ [wd_Mo cs mo mr (fun _ => none) mf_12 md_12 (gMo PG hq), fm 13 (fPr cs hq qr QO355 QF356 QA357), fo 8 (fPg cs PG) j9, wdP cs (PG j9).h (PG j9).r (PG j9).g (PG j9).tf (PG j9).ta (PG j9).pf (PG j9).na (PG j9).ma (PG j9).wa (PG j9).cf (PG j9).ca (PG j9).ef (PG j9).ea (PG j9).xf (PG j9).xa] := hw.sub [0, 3, 1, 2] rfl rfl
              have hw : pw D A s.heap _ _ [wd_Mo cs mo mr (fun _ => none) mf_12 md_12 (gMo PG hq), fm 13 (fPr cs hq qr QO355 QF356 QA357), fm 8 (fPg cs PG)] := fm_back (pr := [wd_Mo cs mo mr (fun _ => none) mf_12 md_12 (gMo PG hq), fm 13 (fPr cs hq qr QO355 QF356 QA357)]) (T := fPg cs PG) hw hj9
              refine px_calli (pr := []) (px_runV (As := [.int p0]) (rest := []) S (c_mo_rawCall l D cs (va_up RR p0.toNatClampNeg R_12) j9 mo mr mf_12 md_12 hq qr QO355 QF356 QA357 PG p0  (show 0 ≤ p0.toInt from by first | exact g0 | omega) (show p0.toInt < 13 from by first | exact g1 | omega) (show 0 ≤ (mf_12 7).toInt from by first | exact oz_f3ebed1ad0 k12_4 g2 | omega) (show (mf_12 7).toInt ≤ 100 from by first | exact oz_b2552476a0 k12_4 g3 | omega) (show 0 ≤ (mf_12 8).toInt from by first | exact oz_f3ebed1ad0 k12_5 g4 | omega) (show (mf_12 8).toInt ≤ 512 from by first | exact oz_5926d5b85b k12_5 g5 | omega) (show (QF356 p0.toNatClampNeg 1).toInt = 1 from by first | exact oz_d145a98bf1 hqk1_QF356 e340 hg1.1 | omega) (show (QF356 p0.toNatClampNeg 2).toInt = -2 from by first | with_reducible rfl | with_reducible assumption | omega) (show 1 ≤ (QF356 p0.toNatClampNeg 4).toInt from by first | with_reducible rfl | with_reducible assumption | omega) hpr hpg hj9 h66 hqo hrw8 _) hT (pr := []) (pcs := [wd_Mo cs mo mr (fun _ => none) mf_12 md_12 (gMo PG hq), fm 13 (fPr cs hq qr QO355 QF356 QA357), fm 8 (fPg cs PG)]) hw (oX_call (P := (fun A U H => (∀ j : Nat, j < 8 → oP A (PG j).g U H))) (pr := []) oG_G hw hA hGG) (px_recv hT hw 0 0 rfl rfl rfl) m14_34 m14_31 m14_33 ms_15_12 m1_20 q_Mo_rawCall ⟨Nat.le_of_ble_eq_true rfl, Nat.le_of_ble_eq_true rfl⟩ hl.1 rfl (Nat.le_of_ble_eq_true rfl) d_Mo_goOn_48 ⟨Nat.le_of_ble_eq_true rfl, Nat.le_of_ble_eq_true rfl⟩) hw hA (fun v369 p368 H locs hp368 hw => ?_)
              obtain ⟨mf363, md364, QO365, QF366, QA367, rfl, e370, e371, e372, e373, e374, e375, e376, e377, e378⟩ := hp368
              replace e370 : 0 ≤ v369.toInt := e370
              replace e371 : v369.toInt ≤ 1 := e371
              replace e372 : PrA PG (va_up (va_up RR p0.toNatClampNeg R_12) p0.toNatClampNeg ((va_up RR p0.toNatClampNeg R_12) p0.toNatClampNeg - v369.toInt)) QO365 QF366 QA367 := e372
              have hpr := e372
              rw [va_uu, va_up_s] at hpr
              replace e373 : (mf363 0).toInt = (mf_12 0).toInt := e373
              replace e374 : (mf363 2).toInt = (mf_12 2).toInt := e374
              replace e375 : (mf363 3).toInt = (mf_12 3).toInt := e375
              replace e376 : (mf363 7).toInt = (mf_12 7).toInt := e376
              replace e377 : (mf363 8).toInt = (mf_12 8).toInt := e377
              replace e378 : (mf363 10).toInt = (mf_12 10).toInt := e378
              replace hw : pw D A s.heap H locs [wd_Mo cs mo mr (fun _ => none) mf363 md364 (gMo PG hq), fm 13 (fPr cs hq qr QO365 QF366 QA367), fm 8 (fPg cs PG)] := hw
              have lv369 := Int32.le_toInt v369
              have uv369 := Int32.toInt_lt v369
              refine lv_if_eq (tgt := 58) S.x S.b d_Mo_goOn_51 (by decide) (fun c379 => ?_) (fun c379 => ?_)
              · have nc379 : v369.toInt = (0 : Int) := (i_eq (x := v369) (y := 0)).mp c379
                refine lv_iconst (v := 0) S.x S.b d_Mo_goOn_58 (by decide) ?_
                refine lv_istore (lv' := [(4, .int 0), (5, .int v336), (0, .ref mo), (1, .int p0), (2, .ref (hq p0.toNatClampNeg)), (3, .int x12_3)]) S.x S.b d_Mo_goOn_59 hl (by decide) rfl (fun ls hl => ?_)
                refine lv_goto (tgt := 241) S.x S.b d_Mo_goOn_61 (by decide) ?_
                exact J241 mf363 md364 QO365 QF366 QA367 R_12 x12_3 (0 : Int32) _ _ ls (show PrA PG (va_up RR p0.toNatClampNeg R_12) QO365 QF366 QA367 from (hpr.ml (by omega))) (show (mf363 0).toInt = (mf 0).toInt from by first | exact oz_1687f4cc65 k12_1 e373 | omega) (show (mf363 2).toInt = (mf 2).toInt from by first | exact oz_1687f4cc65 k12_2 e374 | omega) (show (mf363 3).toInt = (mf 3).toInt from by first | exact oz_1687f4cc65 k12_3 e375 | omega) (show (mf363 7).toInt = (mf 7).toInt from by first | exact oz_1687f4cc65 k12_4 e376 | omega) (show (mf363 8).toInt = (mf 8).toInt from by first | exact oz_1687f4cc65 k12_5 e377 | omega) (show (mf363 10).toInt = (mf 10).toInt from by first | exact oz_1687f4cc65 k12_6 e378 | omega) (show x12_3.toInt = x12_3.toInt from rfl) (show 0 ≤ (0 : Int) from by first | decide | omega) (show (0 : Int) ≤ 1 from by first | decide | omega) (show R_12 + (0 : Int) ≤ R_12 from by first | exact oz_9a4b2c0a69 | omega) (show R_12 ≤ R_12 from by first | exact oz_1cb5f934a5 | omega) (show 1 ≤ x12_4.toInt from by first | exact oz_70c2bdf1b6 k12_9 nc3 | omega) hw (lv_sub hl [2, 3, 4, 5, 0] rfl)
              · have nc379 : ¬ v369.toInt = (0 : Int) := mt (i_eq (x := v369) (y := 0)).mpr c379
                refine lv_iconst (v := 1) S.x S.b d_Mo_goOn_54 (by decide) ?_
                refine lv_goto (tgt := 59) S.x S.b d_Mo_goOn_55 (by decide) ?_
                refine lv_istore (lv' := [(4, .int 1), (5, .int v336), (0, .ref mo), (1, .int p0), (2, .ref (hq p0.toNatClampNeg)), (3, .int x12_3)]) S.x S.b d_Mo_goOn_59 hl (by decide) rfl (fun ls hl => ?_)
                refine lv_goto (tgt := 241) S.x S.b d_Mo_goOn_61 (by decide) ?_
                exact J241 mf363 md364 QO365 QF366 QA367 (R_12 - 1) x12_3 (1 : Int32) _ _ ls (show PrA PG (va_up RR p0.toNatClampNeg (R_12 - 1)) QO365 QF366 QA367 from (hpr.ml (by omega))) (show (mf363 0).toInt = (mf 0).toInt from by first | exact oz_1687f4cc65 k12_1 e373 | omega) (show (mf363 2).toInt = (mf 2).toInt from by first | exact oz_1687f4cc65 k12_2 e374 | omega) (show (mf363 3).toInt = (mf 3).toInt from by first | exact oz_1687f4cc65 k12_3 e375 | omega) (show (mf363 7).toInt = (mf 7).toInt from by first | exact oz_1687f4cc65 k12_4 e376 | omega) (show (mf363 8).toInt = (mf 8).toInt from by first | exact oz_1687f4cc65 k12_5 e377 | omega) (show (mf363 10).toInt = (mf 10).toInt from by first | exact oz_1687f4cc65 k12_6 e378 | omega) (show x12_3.toInt = x12_3.toInt from rfl) (show 0 ≤ (1 : Int) from by first | decide | omega) (show (1 : Int) ≤ 1 from by first | decide | omega) (show (R_12 - 1) + (1 : Int) ≤ R_12 from by first | exact oz_9af69b5cb8 | omega) (show (R_12 - 1) ≤ R_12 from by first | exact oz_f81ab12e42 | omega) (show 1 ≤ x12_4.toInt from by first | exact oz_70c2bdf1b6 k12_9 nc3 | omega) hw (lv_sub hl [2, 3, 4, 5, 0] rfl)
  refine lv_aload_n S.x S.b d_Mo_goOn_0 rfl (lv_at hl 0 rfl) ?_
  refine px_get S k_Mo hT hw 0 0 5 (v := .ref (mr 5)) rfl rfl rfl (by decide) m11_83 d_Mo_goOn_1 ?_
  refine lv_iload_n S.x S.b d_Mo_goOn_4 rfl (lv_at hl 1 rfl) ?_
  refine px_aaldS S hT hw 0 3 10 (n := 13) (f := ((gMo PG hq) 5)) rfl rfl rfl (x := p0) (vp_in_iff.mpr (by first | exact oz_59feca6c45 g0 g1 | (constructor <;> omega))) (sk := (hq p0.toNatClampNeg)) rfl d_Mo_goOn_5 ?_
  refine lv_astore_n (lv' := [(2, .ref (hq p0.toNatClampNeg)), (0, .ref mo), (1, .int p0)]) S.x S.b d_Mo_goOn_6 rfl hl (by decide) rfl (fun ls hl => ?_)
  refine lv_iconst (v := 0) S.x S.b d_Mo_goOn_7 (by decide) ?_
  refine lv_istore_n (lv' := [(3, .int 0), (2, .ref (hq p0.toNatClampNeg)), (0, .ref mo), (1, .int p0)]) S.x S.b d_Mo_goOn_8 rfl hl (by decide) rfl (fun ls hl => ?_)
  refine lv_iconst (v := 1) S.x S.b d_Mo_goOn_9 (by decide) ?_
  refine lv_istore (lv' := [(4, .int 1), (3, .int 0), (2, .ref (hq p0.toNatClampNeg)), (0, .ref mo), (1, .int p0)]) S.x S.b d_Mo_goOn_10 hl (by decide) rfl (fun ls hl => ?_)
  exact J12 ((2 * (RR p0.toNatClampNeg) + (1 : Int)).toNat + 1) mf md QO QF QA (RR p0.toNatClampNeg) (0 : Int32) (1 : Int32) _ _ ls (show PrA PG (va_up RR p0.toNatClampNeg (RR p0.toNatClampNeg)) QO QF QA from (hpr.rs rfl)) (show (mf 0).toInt = (mf 0).toInt from rfl) (show (mf 2).toInt = (mf 2).toInt from rfl) (show (mf 3).toInt = (mf 3).toInt from rfl) (show (mf 7).toInt = (mf 7).toInt from rfl) (show (mf 8).toInt = (mf 8).toInt from rfl) (show (mf 10).toInt = (mf 10).toInt from rfl) (show 0 ≤ (0 : Int) from by first | decide | omega) (show (0 : Int) ≤ 1 from by first | decide | omega) (show 0 ≤ (1 : Int) from by first | decide | omega) (show (1 : Int) ≤ 1 from by first | decide | omega) (show (RR p0.toNatClampNeg) + (0 : Int) ≤ RR p0.toNatClampNeg from by first | with_reducible rfl | with_reducible assumption | omega) (show 2 * (RR p0.toNatClampNeg) + (1 : Int) < ((((2 * (RR p0.toNatClampNeg) + (1 : Int)).toNat + 1 : Nat) : Int) : Int) from by first | exact oz_natlt | omega) hw (lv_sub hl [3, 4, 2, 1, 0] rfl)
