theorem oz_72b651eb08 {a0 a1 a2 : Int} (h0 : a0 = 3 * a1 + a2) (h1 : 0 ≤ a1) (h2 : ¬ a2 ≤ (0 : Int)) (h3 : ¬ (13 : Int) ≤ a0) : 0 ≤ a0 ∧ a0 < ((13 : Nat) : Int) := by omega
theorem oz_81bc16641b {a1 : Int} {n0 : Nat} (h0 : (n0 : Int) = a1) (h1 : ¬ (13 : Int) ≤ a1) : n0 < 13 := by omega
theorem oz_4fae9e4d48 {a0 a1 a2 : Int} (h0 : a0 = 3 * a1 + a2) (h1 : 0 ≤ a1) (h2 : ¬ a2 ≤ (0 : Int)) : -1 ≤ a0 := by omega
theorem oz_c0b67ff80b {a0 : Int} (h0 : ¬ (13 : Int) ≤ a0) : a0 < 13 := by omega
theorem oz_3babc9a175 {a0 a1 : Int} (h0 : a0 < a1) (h1 : a1 < 13) : a0 < 13 := by omega
theorem oz_10a7a22e11 {a0 : Int} (h0 : 0 ≤ a0) (h1 : ¬ (13 : Int) ≤ a0) : 0 ≤ a0 ∧ a0 < ((13 : Nat) : Int) := by omega
theorem oz_507c05ca68 {a0 : Int}  : a0 = a0 := by omega
theorem oz_f4994dbd0d {a0 a1 : Int} (h0 : a0 = a1 + 1) (h1 : ¬ (13 : Int) ≤ a1) : a0 ≤ 40 := by omega
theorem oz_a25deb39d2 {a0 a2 : Int} {n1 : Nat} (h0 : 41 - a2 < ((n1 + 1 : Nat) : Int)) (h1 : a0 = a2 + 1) : 41 - a0 < (n1 : Int) := by omega
theorem oz_59feca6c45 {a0 : Int} (h0 : 0 ≤ a0) (h1 : a0 < 13) : 0 ≤ a0 ∧ a0 < ((13 : Nat) : Int) := by omega
theorem oz_9995642664 {a1 : Int} {n0 : Nat} (h0 : (n0 : Int) = a1) (h1 : a1 < 13) : n0 < 13 := by omega
theorem oz_27c6f326f3 {a0 a1 a2 : Int} (h0 : a0 = a1 + (1 : Int)) (h1 : a1 = 3 * a2) (h2 : 0 ≤ a2) : 0 ≤ a0 := by omega
theorem oz_41b3f457a7 {a0 a1 a2 : Int} (h0 : a0 = a1 + (1 : Int)) (h1 : a1 = 3 * a2) (h2 : a2 < 13) : a0 ≤ 40 := by omega
theorem oz_003e6f2b09 {a0 a1 : Int} (h0 : ¬ a0 ≤ a1) (h1 : 0 ≤ a1) (h2 : a0 < 13) : 0 ≤ a0 ∧ a0 < ((13 : Nat) : Int) := by omega
theorem oz_f602ee7a0c {a0 : Int} (h0 : a0 = (0 : Int) + (1 : Int)) : 0 ≤ a0 ∧ a0 < ((4 : Nat) : Int) := by omega
theorem oz_4b89da32f7 {a0 a1 : Int} (h0 : a0 = a1 + (1 : Int)) (h1 : a1 = (0 : Int) + 1) : 0 ≤ a0 ∧ a0 < ((4 : Nat) : Int) := by omega
theorem oz_cdce736968 {a0 a1 a2 : Int} (h0 : a0 = a1 + (1 : Int)) (h1 : a1 = a2 + 1) (h2 : a2 = (0 : Int) + 1) (h3 : ¬ (3 : Int) ≤ a1) : 0 ≤ a0 ∧ a0 < ((4 : Nat) : Int) := by omega
theorem oz_1811ac7fe4 {a0 a1 : Int} (h0 : a0 = a1) : a0 = a1 := by omega
theorem oz_34d6331023 {a0 a1 : Int} (h0 : a0 = a1) (h1 : a1 = (2 : Int)) : a0 ≠ -2 := by omega
theorem m11_83 : Cond.fieldLink "HomeSystemModel" 21 "HomeSystemModel" "processes" "[LHomeSystemModel$Process;" ∈ AL := AL_11 (List.mem_of_getElem? (i := 83) rfl) rfl
theorem m10_224 : Cond.fieldLink "HomeSystemModel" 69 "HomeSystemModel$Process" "begun" "Z" ∈ AL := AL_10 (List.mem_of_getElem? (i := 224) rfl) rfl
theorem m14_48 : Cond.methodLink "HomeSystemModel" 65 ⟨"HomeSystemModel", "parentOf", "(I)I"⟩ ∈ AL := AL_14 (List.mem_of_getElem? (i := 48) rfl) rfl
theorem m14_50 : Cond.code ⟨"HomeSystemModel", "parentOf", "(I)I"⟩ prog_14_method_10_code 1 (Option.some FieldType.int) ∈ AL := AL_14 (List.mem_of_getElem? (i := 50) rfl) rfl
theorem m1_20 : Cond.initialized "HomeSystemModel" ∈ AL := AL_1 (List.mem_of_getElem? (i := 20) rfl) rfl
theorem m14_49 : Cond.static ⟨"HomeSystemModel", "parentOf", "(I)I"⟩ ∈ AL := AL_14 (List.mem_of_getElem? (i := 49) rfl) rfl
theorem m11_16 : Cond.fieldLink "HomeSystemModel" 76 "HomeSystemModel$Process" "ups" "I" ∈ AL := AL_11 (List.mem_of_getElem? (i := 16) rfl) rfl
theorem m11_20 : Cond.fieldLink "HomeSystemModel" 73 "HomeSystemModel$Process" "downs" "I" ∈ AL := AL_11 (List.mem_of_getElem? (i := 20) rfl) rfl
theorem m11_18 : Cond.fieldLink "HomeSystemModel" 82 "HomeSystemModel$Process" "down" "[I" ∈ AL := AL_11 (List.mem_of_getElem? (i := 18) rfl) rfl
theorem m11_14 : Cond.fieldLink "HomeSystemModel" 79 "HomeSystemModel$Process" "up" "[I" ∈ AL := AL_11 (List.mem_of_getElem? (i := 14) rfl) rfl
theorem m14_35 : Cond.methodLink "HomeSystemModel" 85 ⟨"HomeSystemModel$Process", "end", "(II)V"⟩ ∈ AL := AL_14 (List.mem_of_getElem? (i := 35) rfl) rfl
/-! what stays of a process while another is served -/
def KpF (f f' : Nat → Int32) : Prop := ((f' 1).toInt = (f 1).toInt ∧ (f' 4).toInt = (f 4).toInt ∧ (f' 5).toInt = (f 5).toInt ∧ (f' 7).toInt = (f 7).toInt ∧ (f' 10).toInt = (f 10).toInt ∧ (f' 11).toInt = (f 11).toInt) ∧ (f' 12).toInt = (f 12).toInt ∧ (f' 13).toInt = (f 13).toInt ∧ (f' 14).toInt = (f 14).toInt ∧ (f' 24).toInt = (f 24).toInt
def KpP (QO : Nat → Option Nat) (QF : Nat → Nat → Int32) (QA : Nat → Nat → Nat → Int32) (QO' : Nat → Option Nat) (QF' : Nat → Nat → Int32) (QA' : Nat → Nat → Nat → Int32) (p : Nat) : Prop := QO' p = QO p ∧ KpF (QF p) (QF' p) ∧ ∀ k : Nat, k ≠ 20 → k ≠ 22 → QA' p k = QA p k
section KP
variable {QO QO' QO2 : Nat → Option Nat} {QF QF' QF2 : Nat → Nat → Int32} {QA QA' QA2 : Nat → Nat → Nat → Int32} {p i : Nat} {f f' f2 : Nat → Int32} {a : Nat → Nat → Int32} {o : Option Nat}
theorem KpF.rf : KpF f f := ⟨⟨rfl, rfl, rfl, rfl, rfl, rfl⟩, rfl, rfl, rfl, rfl⟩
theorem KpF.tr (h : KpF f f') (k : KpF f' f2) : KpF f f2 := by unfold KpF at h k ⊢; omega
theorem KpP.rf : KpP QO QF QA QO QF QA p := ⟨rfl, KpF.rf, fun _ _ _ => rfl⟩
theorem KpP.tr (h : KpP QO QF QA QO' QF' QA' p) (k : KpP QO' QF' QA' QO2 QF2 QA2 p) : KpP QO QF QA QO2 QF2 QA2 p := ⟨k.1.trans h.1, h.2.1.tr k.2.1, fun j a b => (k.2.2 j a b).trans (h.2.2 j a b)⟩
theorem KpP.up (h : KpP QO QF QA QO' QF' QA' p) (ho : o = QO' i) (hf : KpF (QF' i) f) (ha : ∀ k : Nat, k ≠ 20 → k ≠ 22 → a k = QA' i k) : KpP QO QF QA (va_up QO' i o) (va_up QF' i f) (va_up QA' i a) p := by
  by_cases e : p = i
  · subst e
    exact ⟨by rw [va_up_s, ho]; exact h.1, by rw [va_up_s]; exact h.2.1.tr hf, fun k q r => by rw [va_up_s, ha k q r]; exact h.2.2 k q r⟩
  · exact ⟨by rw [va_up_n e]; exact h.1, by rw [va_up_n e]; exact h.2.1, fun k q r => by rw [va_up_n e]; exact h.2.2 k q r⟩
theorem KpP.oth (h : KpP QO QF QA QO' QF' QA' p) (e : p ≠ i) : KpP QO QF QA (va_up QO' i o) (va_up QF' i f) (va_up QA' i a) p := ⟨by rw [va_up_n e]; exact h.1, by rw [va_up_n e]; exact h.2.1, fun k q r => by rw [va_up_n e]; exact h.2.2 k q r⟩
end KP
theorem i_div3 {x : Int32} (h : 0 ≤ x.toInt) : (x / 3).toInt = x.toInt / 3 := by
  have a := Int32.toInt_lt x
  have c4 : (3 : Int32).toInt = 3 := rfl
  rw [Int32.toInt_div, c4, Int.tdiv_eq_ediv_of_nonneg h, Int.bmod_eq_of_le] <;> omega
abbrev b_Mo_parentOf : ByteArray := prog_14_method_10_code
def y_Mo_parentOf : MethodName := ⟨"HomeSystemModel", "parentOf", "(I)I"⟩
theorem d_Mo_parentOf_0 : decode b_Mo_parentOf 0 = .ok (.iload_n 0, 1) := by decide +kernel
theorem d_Mo_parentOf_1 : decode b_Mo_parentOf 1 = .ok (.iconst 1, 1) := by decide +kernel
theorem d_Mo_parentOf_2 : decode b_Mo_parentOf 2 = .ok (.isub, 1) := by decide +kernel
theorem d_Mo_parentOf_3 : decode b_Mo_parentOf 3 = .ok (.iconst 3, 1) := by decide +kernel
theorem d_Mo_parentOf_4 : decode b_Mo_parentOf 4 = .ok (.idiv, 1) := by decide +kernel
theorem d_Mo_parentOf_5 : decode b_Mo_parentOf 5 = .ok (.ireturn, 1) := by decide +kernel
theorem q_Mo_parentOf : px_y y_Mo_parentOf 1 := by unfold px_y; decide +kernel
set_option maxHeartbeats 4000000 in
set_option maxRecDepth 100000 in
theorem c_mo_parentOf (l : Launch) (D : va_G) (cs : Nat → ClassId)  (p0 : Int32)  (g0 : 1 ≤ p0.toInt) (g1 : p0.toInt < 13) : MetI l y_Mo_parentOf b_Mo_parentOf 1 (.int) D cs 0 0 (0) (0) [.int p0] [] (fun _ => True) (fun v ps => (ps = []) ∧ (0 ≤ v.toInt) ∧ (v.toInt < p0.toInt)) := by
  refine px_enter (by decide) (Nat.le_of_ble_eq_true rfl) ?_
  intro p e s m below meth c A ls hAe S hr hlk hnm hA hT hX hw hl
  replace hl : lv_has ls 1 [(0, .int p0)] := hl
  have lp0 := Int32.le_toInt p0
  have up0 := Int32.toInt_lt p0
  have cst1 : (1 : Int32).toInt = 1 := rfl
  have cst3 : (3 : Int32).toInt = 3 := rfl
  refine lv_iload_n S.x S.b d_Mo_parentOf_0 rfl (lv_at hl 0 rfl) ?_
  refine lv_iconst (v := 1) S.x S.b d_Mo_parentOf_1 (by decide) ?_
  refine lv_isub S.x S.b d_Mo_parentOf_2 ?_
  refine lv_topi (fun z1 ez1 => ?_)
  have tz1 : z1.toInt = (p0.toInt - (1 : Int) + 2147483648) % 4294967296 - 2147483648 := by rw [ez1]; exact i_sub p0 1
  have lz1 := Int32.le_toInt z1
  have uz1 := Int32.toInt_lt z1
  try replace tz1 : z1.toInt = p0.toInt - (1 : Int) := by omega
  refine lv_iconst (v := 3) S.x S.b d_Mo_parentOf_3 (by decide) ?_
  refine lv_idiv S.x S.b d_Mo_parentOf_4 (by decide) ?_
  refine lv_topi (fun z2 ez2 => ?_)
  have lz2 := Int32.le_toInt z2
  have uz2 := Int32.toInt_lt z2
  have td : z2.toInt = z1.toInt / 3 := (by rw [ez2]; exact i_div3 (by omega))
  exact px_iret (v := z2) S hr rfl hlk hAe hw (Nat.le_of_ble_eq_true rfl) (Nat.le_of_ble_eq_true rfl) (⟨rfl, (show 0 ≤ z2.toInt from by first | with_reducible rfl | with_reducible assumption | omega), (show z2.toInt < p0.toInt from by first | with_reducible rfl | with_reducible assumption | omega)⟩) d_Mo_parentOf_5
abbrev b_Mo_isProgram : ByteArray := prog_14_method_5_code
def y_Mo_isProgram : MethodName := ⟨"HomeSystemModel", "isProgram", "(I)Z"⟩
theorem d_Mo_isProgram_0 : decode b_Mo_isProgram 0 = .ok (.iload_n 0, 1) := by decide +kernel
theorem d_Mo_isProgram_1 : decode b_Mo_isProgram 1 = .ok (.ifCond .lt 13, 3) := by decide +kernel
theorem d_Mo_isProgram_4 : decode b_Mo_isProgram 4 = .ok (.iload_n 0, 1) := by decide +kernel
theorem d_Mo_isProgram_5 : decode b_Mo_isProgram 5 = .ok (.bipush 8, 2) := by decide +kernel
theorem d_Mo_isProgram_7 : decode b_Mo_isProgram 7 = .ok (.if_icmp .ge 7, 3) := by decide +kernel
theorem d_Mo_isProgram_10 : decode b_Mo_isProgram 10 = .ok (.iconst 1, 1) := by decide +kernel
theorem d_Mo_isProgram_11 : decode b_Mo_isProgram 11 = .ok (.goto 4, 3) := by decide +kernel
theorem d_Mo_isProgram_14 : decode b_Mo_isProgram 14 = .ok (.iconst 0, 1) := by decide +kernel
theorem d_Mo_isProgram_15 : decode b_Mo_isProgram 15 = .ok (.ireturn, 1) := by decide +kernel
theorem q_Mo_isProgram : px_y y_Mo_isProgram 1 := by unfold px_y; decide +kernel
set_option maxHeartbeats 4000000 in
set_option maxRecDepth 100000 in
theorem c_mo_isProgram (l : Launch) (D : va_G) (cs : Nat → ClassId)  (p0 : Int32)   : MetI l y_Mo_isProgram b_Mo_isProgram 1 (.boolean) D cs 0 0 (0) (0) [.int p0] [] (fun _ => True) (fun v ps => (ps = []) ∧ (0 ≤ v.toInt) ∧ (v.toInt ≤ 1) ∧ (v.toInt = 1 → 0 ≤ p0.toInt ∧ p0.toInt < 8)) := by
  refine px_enter (by decide) (Nat.le_of_ble_eq_true rfl) ?_
  intro p e s m below meth c A ls hAe S hr hlk hnm hA hT hX hw hl
  replace hl : lv_has ls 1 [(0, .int p0)] := hl
  have lp0 := Int32.le_toInt p0
  have up0 := Int32.toInt_lt p0
  have cst0 : (0 : Int32).toInt = 0 := rfl
  have cst1 : (1 : Int32).toInt = 1 := rfl
  have cst8 : (8 : Int32).toInt = 8 := rfl
  refine lv_iload_n S.x S.b d_Mo_isProgram_0 rfl (lv_at hl 0 rfl) ?_
  refine lv_if_lt (tgt := 14) S.x S.b d_Mo_isProgram_1 (by decide) (fun c1 => ?_) (fun c1 => ?_)
  · have nc1 : p0.toInt < (0 : Int) := (i_lt (x := p0) (y := 0)).mp c1
    refine lv_iconst (v := 0) S.x S.b d_Mo_isProgram_14 (by decide) ?_
    exact px_iret (v := 0) S hr rfl hlk hAe hw (Nat.le_of_ble_eq_true rfl) (Nat.le_of_ble_eq_true rfl) (⟨rfl, (show 0 ≤ (0 : Int) from by first | decide | omega), (show (0 : Int) ≤ 1 from by first | decide | omega), (show (0 : Int) = 1 → 0 ≤ p0.toInt ∧ p0.toInt < 8 from by first | with_reducible rfl | with_reducible assumption | omega)⟩) d_Mo_isProgram_15
  · have nc1 : ¬ p0.toInt < (0 : Int) := mt (i_lt (x := p0) (y := 0)).mpr c1
    refine lv_iload_n S.x S.b d_Mo_isProgram_4 rfl (lv_at hl 0 rfl) ?_
    refine lv_bipush (v := 8) S.x S.b d_Mo_isProgram_5 (by decide) ?_
    refine lv_icmp_ge (tgt := 14) S.x S.b d_Mo_isProgram_7 (by decide) (fun c2 => ?_) (fun c2 => ?_)
    · have nc2 : (8 : Int) ≤ p0.toInt := (i_le (x := 8) (y := p0)).mp c2
      refine lv_iconst (v := 0) S.x S.b d_Mo_isProgram_14 (by decide) ?_
      exact px_iret (v := 0) S hr rfl hlk hAe hw (Nat.le_of_ble_eq_true rfl) (Nat.le_of_ble_eq_true rfl) (⟨rfl, (show 0 ≤ (0 : Int) from by first | decide | omega), (show (0 : Int) ≤ 1 from by first | decide | omega), (show (0 : Int) = 1 → 0 ≤ p0.toInt ∧ p0.toInt < 8 from by first | with_reducible rfl | with_reducible assumption | omega)⟩) d_Mo_isProgram_15
    · have nc2 : ¬ (8 : Int) ≤ p0.toInt := mt (i_le (x := 8) (y := p0)).mpr c2
      refine lv_iconst (v := 1) S.x S.b d_Mo_isProgram_10 (by decide) ?_
      refine lv_goto (tgt := 15) S.x S.b d_Mo_isProgram_11 (by decide) ?_
      exact px_iret (v := 1) S hr rfl hlk hAe hw (Nat.le_of_ble_eq_true rfl) (Nat.le_of_ble_eq_true rfl) (⟨rfl, (show 0 ≤ (1 : Int) from by first | decide | omega), (show (1 : Int) ≤ 1 from by first | decide | omega), (show (1 : Int) = 1 → 0 ≤ p0.toInt ∧ p0.toInt < 8 from by first | with_reducible rfl | with_reducible assumption | omega)⟩) d_Mo_isProgram_15
abbrev b_Mo_isNone : ByteArray := prog_14_method_30_code
def y_Mo_isNone : MethodName := ⟨"HomeSystemModel", "isNone", "(I)Z"⟩
theorem d_Mo_isNone_0 : decode b_Mo_isNone 0 = .ok (.iload_n 0, 1) := by decide +kernel
theorem d_Mo_isNone_1 : decode b_Mo_isNone 1 = .ok (.ifCond .lt 9, 3) := by decide +kernel
theorem d_Mo_isNone_4 : decode b_Mo_isNone 4 = .ok (.iload_n 0, 1) := by decide +kernel
theorem d_Mo_isNone_5 : decode b_Mo_isNone 5 = .ok (.bipush 13, 2) := by decide +kernel
theorem d_Mo_isNone_7 : decode b_Mo_isNone 7 = .ok (.if_icmp .lt 7, 3) := by decide +kernel
theorem d_Mo_isNone_10 : decode b_Mo_isNone 10 = .ok (.iconst 1, 1) := by decide +kernel
theorem d_Mo_isNone_11 : decode b_Mo_isNone 11 = .ok (.goto 4, 3) := by decide +kernel
theorem d_Mo_isNone_14 : decode b_Mo_isNone 14 = .ok (.iconst 0, 1) := by decide +kernel
theorem d_Mo_isNone_15 : decode b_Mo_isNone 15 = .ok (.ireturn, 1) := by decide +kernel
theorem q_Mo_isNone : px_y y_Mo_isNone 1 := by unfold px_y; decide +kernel
set_option maxHeartbeats 4000000 in
set_option maxRecDepth 100000 in
theorem c_mo_isNone (l : Launch) (D : va_G) (cs : Nat → ClassId)  (p0 : Int32)   : MetI l y_Mo_isNone b_Mo_isNone 1 (.boolean) D cs 0 0 (0) (0) [.int p0] [] (fun _ => True) (fun v ps => (ps = []) ∧ (0 ≤ v.toInt) ∧ (v.toInt ≤ 1) ∧ (v.toInt = 0 → 0 ≤ p0.toInt ∧ p0.toInt < 13)) := by
  refine px_enter (by decide) (Nat.le_of_ble_eq_true rfl) ?_
  intro p e s m below meth c A ls hAe S hr hlk hnm hA hT hX hw hl
  replace hl : lv_has ls 1 [(0, .int p0)] := hl
  have lp0 := Int32.le_toInt p0
  have up0 := Int32.toInt_lt p0
  have cst0 : (0 : Int32).toInt = 0 := rfl
  have cst1 : (1 : Int32).toInt = 1 := rfl
  have cst13 : (13 : Int32).toInt = 13 := rfl
  refine lv_iload_n S.x S.b d_Mo_isNone_0 rfl (lv_at hl 0 rfl) ?_
  refine lv_if_lt (tgt := 10) S.x S.b d_Mo_isNone_1 (by decide) (fun c1 => ?_) (fun c1 => ?_)
  · have nc1 : p0.toInt < (0 : Int) := (i_lt (x := p0) (y := 0)).mp c1
    refine lv_iconst (v := 1) S.x S.b d_Mo_isNone_10 (by decide) ?_
    refine lv_goto (tgt := 15) S.x S.b d_Mo_isNone_11 (by decide) ?_
    exact px_iret (v := 1) S hr rfl hlk hAe hw (Nat.le_of_ble_eq_true rfl) (Nat.le_of_ble_eq_true rfl) (⟨rfl, (show 0 ≤ (1 : Int) from by first | decide | omega), (show (1 : Int) ≤ 1 from by first | decide | omega), (show (1 : Int) = 0 → 0 ≤ p0.toInt ∧ p0.toInt < 13 from by first | with_reducible rfl | with_reducible assumption | omega)⟩) d_Mo_isNone_15
  · have nc1 : ¬ p0.toInt < (0 : Int) := mt (i_lt (x := p0) (y := 0)).mpr c1
    refine lv_iload_n S.x S.b d_Mo_isNone_4 rfl (lv_at hl 0 rfl) ?_
    refine lv_bipush (v := 13) S.x S.b d_Mo_isNone_5 (by decide) ?_
    refine lv_icmp_lt (tgt := 14) S.x S.b d_Mo_isNone_7 (by decide) (fun c2 => ?_) (fun c2 => ?_)
    · have nc2 : p0.toInt < (13 : Int) := (i_lt (x := p0) (y := 13)).mp c2
      refine lv_iconst (v := 0) S.x S.b d_Mo_isNone_14 (by decide) ?_
      exact px_iret (v := 0) S hr rfl hlk hAe hw (Nat.le_of_ble_eq_true rfl) (Nat.le_of_ble_eq_true rfl) (⟨rfl, (show 0 ≤ (0 : Int) from by first | decide | omega), (show (0 : Int) ≤ 1 from by first | decide | omega), (show (0 : Int) = 0 → 0 ≤ p0.toInt ∧ p0.toInt < 13 from by first | with_reducible rfl | with_reducible assumption | omega)⟩) d_Mo_isNone_15
    · have nc2 : ¬ p0.toInt < (13 : Int) := mt (i_lt (x := p0) (y := 13)).mpr c2
      refine lv_iconst (v := 1) S.x S.b d_Mo_isNone_10 (by decide) ?_
      refine lv_goto (tgt := 15) S.x S.b d_Mo_isNone_11 (by decide) ?_
      exact px_iret (v := 1) S hr rfl hlk hAe hw (Nat.le_of_ble_eq_true rfl) (Nat.le_of_ble_eq_true rfl) (⟨rfl, (show 0 ≤ (1 : Int) from by first | decide | omega), (show (1 : Int) ≤ 1 from by first | decide | omega), (show (1 : Int) = 0 → 0 ≤ p0.toInt ∧ p0.toInt < 13 from by first | with_reducible rfl | with_reducible assumption | omega)⟩) d_Mo_isNone_15
abbrev b_Mo_partner : ByteArray := prog_14_method_11_code
def y_Mo_partner : MethodName := ⟨"HomeSystemModel", "partner", "(II)I"⟩
theorem d_Mo_partner_0 : decode b_Mo_partner 0 = .ok (.iload_n 2, 1) := by decide +kernel
theorem d_Mo_partner_1 : decode b_Mo_partner 1 = .ok (.ifCond .ne 16, 3) := by decide +kernel
theorem d_Mo_partner_4 : decode b_Mo_partner 4 = .ok (.iload_n 1, 1) := by decide +kernel
theorem d_Mo_partner_5 : decode b_Mo_partner 5 = .ok (.ifCond .ne 7, 3) := by decide +kernel
theorem d_Mo_partner_8 : decode b_Mo_partner 8 = .ok (.iconst (-1), 1) := by decide +kernel
theorem d_Mo_partner_9 : decode b_Mo_partner 9 = .ok (.goto 7, 3) := by decide +kernel
theorem d_Mo_partner_12 : decode b_Mo_partner 12 = .ok (.iload_n 1, 1) := by decide +kernel
theorem d_Mo_partner_13 : decode b_Mo_partner 13 = .ok (.invokestatic 65, 3) := by decide +kernel
theorem d_Mo_partner_16 : decode b_Mo_partner 16 = .ok (.ireturn, 1) := by decide +kernel
theorem d_Mo_partner_17 : decode b_Mo_partner 17 = .ok (.iconst 3, 1) := by decide +kernel
theorem d_Mo_partner_18 : decode b_Mo_partner 18 = .ok (.iload_n 1, 1) := by decide +kernel
theorem d_Mo_partner_19 : decode b_Mo_partner 19 = .ok (.imul, 1) := by decide +kernel
theorem d_Mo_partner_20 : decode b_Mo_partner 20 = .ok (.iload_n 2, 1) := by decide +kernel
theorem d_Mo_partner_21 : decode b_Mo_partner 21 = .ok (.iadd, 1) := by decide +kernel
theorem d_Mo_partner_22 : decode b_Mo_partner 22 = .ok (.istore_n 3, 1) := by decide +kernel
theorem d_Mo_partner_23 : decode b_Mo_partner 23 = .ok (.iload_n 2, 1) := by decide +kernel
theorem d_Mo_partner_24 : decode b_Mo_partner 24 = .ok (.ifCond .le 30, 3) := by decide +kernel
theorem d_Mo_partner_27 : decode b_Mo_partner 27 = .ok (.iload_n 2, 1) := by decide +kernel
theorem d_Mo_partner_28 : decode b_Mo_partner 28 = .ok (.iconst 4, 1) := by decide +kernel
theorem d_Mo_partner_29 : decode b_Mo_partner 29 = .ok (.if_icmp .ge 25, 3) := by decide +kernel
theorem d_Mo_partner_32 : decode b_Mo_partner 32 = .ok (.iload_n 3, 1) := by decide +kernel
theorem d_Mo_partner_33 : decode b_Mo_partner 33 = .ok (.bipush 13, 2) := by decide +kernel
theorem d_Mo_partner_35 : decode b_Mo_partner 35 = .ok (.if_icmp .ge 19, 3) := by decide +kernel
theorem d_Mo_partner_38 : decode b_Mo_partner 38 = .ok (.aload_n 0, 1) := by decide +kernel
theorem d_Mo_partner_39 : decode b_Mo_partner 39 = .ok (.getfield 21, 3) := by decide +kernel
theorem d_Mo_partner_42 : decode b_Mo_partner 42 = .ok (.iload_n 3, 1) := by decide +kernel
theorem d_Mo_partner_43 : decode b_Mo_partner 43 = .ok (.aaload, 1) := by decide +kernel
theorem d_Mo_partner_44 : decode b_Mo_partner 44 = .ok (.getfield 69, 3) := by decide +kernel
theorem d_Mo_partner_47 : decode b_Mo_partner 47 = .ok (.ifCond .eq 7, 3) := by decide +kernel
theorem d_Mo_partner_50 : decode b_Mo_partner 50 = .ok (.iload_n 3, 1) := by decide +kernel
theorem d_Mo_partner_51 : decode b_Mo_partner 51 = .ok (.goto 4, 3) := by decide +kernel
theorem d_Mo_partner_54 : decode b_Mo_partner 54 = .ok (.iconst (-1), 1) := by decide +kernel
theorem d_Mo_partner_55 : decode b_Mo_partner 55 = .ok (.ireturn, 1) := by decide +kernel
theorem q_Mo_partner : px_y y_Mo_partner 2 := by unfold px_y; decide +kernel
set_option maxHeartbeats 4000000 in
set_option maxRecDepth 100000 in
theorem c_mo_partner (l : Launch) (D : va_G) (cs : Nat → ClassId) (RR : Nat → Int) (mo : Nat) (mr : Nat → Nat) (mf : Nat → Int32) (md : Nat → Nat → Int32) (hq : Nat → Nat) (qr : Nat → Nat → Nat) (QO : Nat → Option Nat) (QF : Nat → Nat → Int32) (QA : Nat → Nat → Nat → Int32) (PG : Nat → Pgs) (p0 p1 : Int32)  (g0 : 0 ≤ p0.toInt) (g1 : p0.toInt < 13) (hpr : PrA PG RR QO QF QA) (hpg : PgA PG) : MetI l y_Mo_partner b_Mo_partner 4 (.int) D cs 1 30 (0) (0) [.ref mo, .int p0, .int p1] [wd_Mo cs mo mr (fun _ => none) mf md (gMo PG hq), fm 13 (fPr cs hq qr QO QF QA), fm 8 (fPg cs PG)] (fun _ => True) (fun v ps => (ps = [wd_Mo cs mo mr (fun _ => none) mf md (gMo PG hq), fm 13 (fPr cs hq qr QO QF QA), fm 8 (fPg cs PG)]) ∧ (-1 ≤ v.toInt) ∧ (v.toInt < 13)) := by
  refine px_enter (by decide) (Nat.le_of_ble_eq_true rfl) ?_
  intro p e s m below meth c A ls hAe S hr hlk hnm hA hT hX hw hl
  replace hl : lv_has ls 4 [(0, .ref mo), (1, .int p0), (2, .int p1)] := hl
  have lp0 := Int32.le_toInt p0
  have up0 := Int32.toInt_lt p0
  have lp1 := Int32.le_toInt p1
  have up1 := Int32.toInt_lt p1
  have cstm1 : ((-1) : Int32).toInt = (-1) := rfl
  have cst3 : (3 : Int32).toInt = 3 := rfl
  have cst4 : (4 : Int32).toInt = 4 := rfl
  have cst13 : (13 : Int32).toInt = 13 := rfl
  refine lv_iload_n S.x S.b d_Mo_partner_0 rfl (lv_at hl 2 rfl) ?_
  refine lv_if_ne (tgt := 17) S.x S.b d_Mo_partner_1 (by decide) (fun c1 => ?_) (fun c1 => ?_)
  · have nc1 : ¬ p1.toInt = (0 : Int) := mt (i_eq (x := p1) (y := 0)).mpr c1
    refine lv_iconst (v := 3) S.x S.b d_Mo_partner_17 (by decide) ?_
    refine lv_iload_n S.x S.b d_Mo_partner_18 rfl (lv_at hl 1 rfl) ?_
    refine lv_imul S.x S.b d_Mo_partner_19 ?_
    refine lv_topi (fun z2 ez2 => ?_)
    have lz2 := Int32.le_toInt z2
    have uz2 := Int32.toInt_lt z2
    have tz2 : -2147483648 ≤ 3 * p0.toInt → 3 * p0.toInt < 2147483648 → z2.toInt = 3 * p0.toInt := by rw [ez2]; exact i_mulc 3 p0 (by decide)
    try replace tz2 : z2.toInt = 3 * p0.toInt := by omega
    refine lv_iload_n S.x S.b d_Mo_partner_20 rfl (lv_at hl 2 rfl) ?_
    refine lv_iadd S.x S.b d_Mo_partner_21 ?_
    refine lv_topi (fun z3 ez3 => ?_)
    have tz3 : z3.toInt = (z2.toInt + p1.toInt + 2147483648) % 4294967296 - 2147483648 := by rw [ez3]; exact i_add z2 p1
    have lz3 := Int32.le_toInt z3
    have uz3 := Int32.toInt_lt z3
    try replace tz3 : z3.toInt = z2.toInt + p1.toInt := by omega
    refine lv_istore_n (lv' := [(3, .int z3), (0, .ref mo), (1, .int p0), (2, .int p1)]) S.x S.b d_Mo_partner_22 rfl hl (by decide) rfl (fun ls hl => ?_)
    refine lv_iload_n S.x S.b d_Mo_partner_23 rfl (lv_at hl 3 rfl) ?_
    refine lv_if_le (tgt := 54) S.x S.b d_Mo_partner_24 (by decide) (fun c4 => ?_) (fun c4 => ?_)
    · have nc4 : p1.toInt ≤ (0 : Int) := (i_le (x := p1) (y := 0)).mp c4
      refine lv_iconst (v := (-1)) S.x S.b d_Mo_partner_54 (by decide) ?_
      exact px_iret (v := (-1)) S hr rfl hlk hAe hw (Nat.le_of_ble_eq_true rfl) (Nat.le_of_ble_eq_true rfl) (⟨rfl, (show -1 ≤ (-1 : Int) from by first | decide | omega), (show (-1 : Int) < 13 from by first | decide | omega)⟩) d_Mo_partner_55
    · have nc4 : ¬ p1.toInt ≤ (0 : Int) := mt (i_le (x := p1) (y := 0)).mpr c4
      refine lv_iload_n S.x S.b d_Mo_partner_27 rfl (lv_at hl 3 rfl) ?_
      refine lv_iconst (v := 4) S.x S.b d_Mo_partner_28 (by decide) ?_
      refine lv_icmp_ge (tgt := 54) S.x S.b d_Mo_partner_29 (by decide) (fun c5 => ?_) (fun c5 => ?_)
      · have nc5 : (4 : Int) ≤ p1.toInt := (i_le (x := 4) (y := p1)).mp c5
        refine lv_iconst (v := (-1)) S.x S.b d_Mo_partner_54 (by decide) ?_
        exact px_iret (v := (-1)) S hr rfl hlk hAe hw (Nat.le_of_ble_eq_true rfl) (Nat.le_of_ble_eq_true rfl) (⟨rfl, (show -1 ≤ (-1 : Int) from by first | decide | omega), (show (-1 : Int) < 13 from by first | decide | omega)⟩) d_Mo_partner_55
      · have nc5 : ¬ (4 : Int) ≤ p1.toInt := mt (i_le (x := 4) (y := p1)).mpr c5
        refine lv_iload_n S.x S.b d_Mo_partner_32 rfl (lv_at hl 0 rfl) ?_
        refine lv_bipush (v := 13) S.x S.b d_Mo_partner_33 (by decide) ?_
        refine lv_icmp_ge (tgt := 54) S.x S.b d_Mo_partner_35 (by decide) (fun c6 => ?_) (fun c6 => ?_)
        · have nc6 : (13 : Int) ≤ z3.toInt := (i_le (x := 13) (y := z3)).mp c6
          refine lv_iconst (v := (-1)) S.x S.b d_Mo_partner_54 (by decide) ?_
          exact px_iret (v := (-1)) S hr rfl hlk hAe hw (Nat.le_of_ble_eq_true rfl) (Nat.le_of_ble_eq_true rfl) (⟨rfl, (show -1 ≤ (-1 : Int) from by first | decide | omega), (show (-1 : Int) < 13 from by first | decide | omega)⟩) d_Mo_partner_55
        · have nc6 : ¬ (13 : Int) ≤ z3.toInt := mt (i_le (x := 13) (y := z3)).mpr c6
          refine lv_aload_n S.x S.b d_Mo_partner_38 rfl (lv_at hl 1 rfl) ?_
          have hz3 : z3.toInt = 3 * p0.toInt + p1.toInt := (by omega)
          refine px_get S k_Mo hT hw 0 0 5 (v := .ref (mr 5)) rfl rfl rfl (by decide) m11_83 d_Mo_partner_39 ?_
          refine lv_iload_n S.x S.b d_Mo_partner_42 rfl (lv_at hl 0 rfl) ?_
          refine px_aaldS S hT hw 0 3 10 (n := 13) (f := ((gMo PG hq) 5)) rfl rfl rfl (x := z3) (vp_in_iff.mpr (by first | exact oz_72b651eb08 hz3 g0 nc4 nc6 | (constructor <;> omega))) (sk := (hq z3.toNatClampNeg)) rfl d_Mo_partner_43 ?_
          have hw : pw D A s.heap _ _ [wd_Mo cs mo mr (fun _ => none) mf md (gMo PG hq), fm 8 (fPg cs PG), fm 13 (fPr cs hq qr QO QF QA)] := hw.sub [0, 2, 1] rfl rfl
          have hc7 := cl_nat (x := z3) (by first | exact oz_016f458179 hc7 | omega)
          have hi7 : z3.toNatClampNeg < 13 := by first | exact oz_81bc16641b hc7 nc6 | omega
          have hw : pw D A s.heap _ _ [wd_Mo cs mo mr (fun _ => none) mf md (gMo PG hq), fm 8 (fPg cs PG), fo 13 (fPr cs hq qr QO QF QA) z3.toNatClampNeg, wd_Mpr cs (hq z3.toNatClampNeg) (qr z3.toNatClampNeg) (fun _ => QO z3.toNatClampNeg) (QF z3.toNatClampNeg) (QA z3.toNatClampNeg) (fun _ _ => none)] := fm_out (pr := [wd_Mo cs mo mr (fun _ => none) mf md (gMo PG hq), fm 8 (fPg cs PG)]) (T := fPr cs hq qr QO QF QA) hw hi7
          have hps7 := hpr.1 z3.toNatClampNeg hi7
          have hpb7 := hps7.1
          unfold PsB at hpb7
          refine px_get S k_Mpr hT hw 3 0 1 (v := .int ((QF z3.toNatClampNeg) 1)) rfl rfl rfl (by decide) m10_224 d_Mo_partner_44 ?_
          refine lv_if_eq (tgt := 54) S.x S.b d_Mo_partner_47 (by decide) (fun c8 => ?_) (fun c8 => ?_)
          · have nc8 : ((QF z3.toNatClampNeg) 1).toInt = (0 : Int) := (i_eq (x := ((QF z3.toNatClampNeg) 1)) (y := 0)).mp c8
            refine lv_iconst (v := (-1)) S.x S.b d_Mo_partner_54 (by decide) ?_
            have hw : pw D A s.heap _ _ [wd_Mo cs mo mr (fun _ => none) mf md (gMo PG hq), fm 8 (fPg cs PG), fm 13 (fPr cs hq qr QO QF QA)] := fm_back (pr := [wd_Mo cs mo mr (fun _ => none) mf md (gMo PG hq), fm 8 (fPg cs PG)]) (T := fPr cs hq qr QO QF QA) hw hi7
            have hw : pw D A s.heap _ _ [wd_Mo cs mo mr (fun _ => none) mf md (gMo PG hq), fm 13 (fPr cs hq qr QO QF QA), fm 8 (fPg cs PG)] := hw.sub [0, 2, 1] rfl rfl
            exact px_iret (v := (-1)) S hr rfl hlk hAe hw (Nat.le_of_ble_eq_true rfl) (Nat.le_of_ble_eq_true rfl) (⟨rfl, (show -1 ≤ (-1 : Int) from by first | decide | omega), (show (-1 : Int) < 13 from by first | decide | omega)⟩) d_Mo_partner_55
          · have nc8 : ¬ ((QF z3.toNatClampNeg) 1).toInt = (0 : Int) := mt (i_eq (x := ((QF z3.toNatClampNeg) 1)) (y := 0)).mpr c8
            refine lv_iload_n S.x S.b d_Mo_partner_50 rfl (lv_at hl 0 rfl) ?_
            refine lv_goto (tgt := 55) S.x S.b d_Mo_partner_51 (by decide) ?_
            have hw : pw D A s.heap _ _ [wd_Mo cs mo mr (fun _ => none) mf md (gMo PG hq), fm 8 (fPg cs PG), fm 13 (fPr cs hq qr QO QF QA)] := fm_back (pr := [wd_Mo cs mo mr (fun _ => none) mf md (gMo PG hq), fm 8 (fPg cs PG)]) (T := fPr cs hq qr QO QF QA) hw hi7
            have hw : pw D A s.heap _ _ [wd_Mo cs mo mr (fun _ => none) mf md (gMo PG hq), fm 13 (fPr cs hq qr QO QF QA), fm 8 (fPg cs PG)] := hw.sub [0, 2, 1] rfl rfl
            exact px_iret (v := z3) S hr rfl hlk hAe hw (Nat.le_of_ble_eq_true rfl) (Nat.le_of_ble_eq_true rfl) (⟨rfl, (show -1 ≤ z3.toInt from by first | exact oz_4fae9e4d48 hz3 g0 nc4 | omega), (show z3.toInt < 13 from by first | exact oz_c0b67ff80b nc6 | omega)⟩) d_Mo_partner_55
  · have nc1 : p1.toInt = (0 : Int) := (i_eq (x := p1) (y := 0)).mp c1
    refine lv_iload_n S.x S.b d_Mo_partner_4 rfl (lv_at hl 1 rfl) ?_
    refine lv_if_ne (tgt := 12) S.x S.b d_Mo_partner_5 (by decide) (fun c9 => ?_) (fun c9 => ?_)
    · have nc9 : ¬ p0.toInt = (0 : Int) := mt (i_eq (x := p0) (y := 0)).mpr c9
      refine lv_iload_n S.x S.b d_Mo_partner_12 rfl (lv_at hl 1 rfl) ?_
      refine px_calli (pr := [wd_Mo cs mo mr (fun _ => none) mf md (gMo PG hq), fm 13 (fPr cs hq qr QO QF QA), fm 8 (fPg cs PG)]) (px_runS (As := [.int p0]) (rest := []) S (c_mo_parentOf l D cs  p0  (show 1 ≤ p0.toInt from by first | exact oz_70c2bdf1b6 g0 nc9 | omega) (show p0.toInt < 13 from by first | exact g1 | omega) _) hT (pr := [wd_Mo cs mo mr (fun _ => none) mf md (gMo PG hq), fm 13 (fPr cs hq qr QO QF QA), fm 8 (fPg cs PG)]) (pcs := []) hw px_X.tt m14_50 m14_48 m14_49 m1_20 q_Mo_parentOf ⟨Nat.le_of_ble_eq_true rfl, Nat.le_of_ble_eq_true rfl⟩ hl.1 rfl (Nat.le_of_ble_eq_true rfl) d_Mo_partner_13 ⟨Nat.le_of_ble_eq_true rfl, Nat.le_of_ble_eq_true rfl⟩) hw hA (fun v11 p10 H locs hp10 hw => ?_)
      obtain ⟨rfl, e12, e13⟩ := hp10
      replace e12 : 0 ≤ v11.toInt := e12
      replace e13 : v11.toInt < p0.toInt := e13
      replace hw : pw D A s.heap H locs [wd_Mo cs mo mr (fun _ => none) mf md (gMo PG hq), fm 13 (fPr cs hq qr QO QF QA), fm 8 (fPg cs PG)] := hw
      have lv11 := Int32.le_toInt v11
      have uv11 := Int32.toInt_lt v11
      exact px_iret (v := v11) S hr rfl hlk hAe hw (Nat.le_of_ble_eq_true rfl) (Nat.le_of_ble_eq_true rfl) (⟨rfl, (show -1 ≤ v11.toInt from by first | exact oz_bd82420902 e12 | omega), (show v11.toInt < 13 from by first | exact oz_3babc9a175 e13 g1 | omega)⟩) d_Mo_partner_16
    · have nc9 : p0.toInt = (0 : Int) := (i_eq (x := p0) (y := 0)).mp c9
      refine lv_iconst (v := (-1)) S.x S.b d_Mo_partner_8 (by decide) ?_
      refine lv_goto (tgt := 16) S.x S.b d_Mo_partner_9 (by decide) ?_
      exact px_iret (v := (-1)) S hr rfl hlk hAe hw (Nat.le_of_ble_eq_true rfl) (Nat.le_of_ble_eq_true rfl) (⟨rfl, (show -1 ≤ (-1 : Int) from by first | decide | omega), (show (-1 : Int) < 13 from by first | decide | omega)⟩) d_Mo_partner_16
abbrev b_Mo_close : ByteArray := prog_14_method_12_code
def y_Mo_close : MethodName := ⟨"HomeSystemModel", "close", "(I)V"⟩
theorem d_Mo_close_0 : decode b_Mo_close 0 = .ok (.aload_n 0, 1) := by decide +kernel
theorem d_Mo_close_1 : decode b_Mo_close 1 = .ok (.getfield 21, 3) := by decide +kernel
theorem d_Mo_close_4 : decode b_Mo_close 4 = .ok (.iload_n 1, 1) := by decide +kernel
theorem d_Mo_close_5 : decode b_Mo_close 5 = .ok (.aaload, 1) := by decide +kernel
theorem d_Mo_close_6 : decode b_Mo_close 6 = .ok (.iconst 0, 1) := by decide +kernel
theorem d_Mo_close_7 : decode b_Mo_close 7 = .ok (.putfield 73, 3) := by decide +kernel
theorem d_Mo_close_10 : decode b_Mo_close 10 = .ok (.iconst 3, 1) := by decide +kernel
theorem d_Mo_close_11 : decode b_Mo_close 11 = .ok (.iload_n 1, 1) := by decide +kernel
theorem d_Mo_close_12 : decode b_Mo_close 12 = .ok (.imul, 1) := by decide +kernel
theorem d_Mo_close_13 : decode b_Mo_close 13 = .ok (.iconst 1, 1) := by decide +kernel
theorem d_Mo_close_14 : decode b_Mo_close 14 = .ok (.iadd, 1) := by decide +kernel
theorem d_Mo_close_15 : decode b_Mo_close 15 = .ok (.istore_n 2, 1) := by decide +kernel
theorem d_Mo_close_16 : decode b_Mo_close 16 = .ok (.iload_n 2, 1) := by decide +kernel
theorem d_Mo_close_17 : decode b_Mo_close 17 = .ok (.iconst 3, 1) := by decide +kernel
theorem d_Mo_close_18 : decode b_Mo_close 18 = .ok (.iload_n 1, 1) := by decide +kernel
theorem d_Mo_close_19 : decode b_Mo_close 19 = .ok (.imul, 1) := by decide +kernel
theorem d_Mo_close_20 : decode b_Mo_close 20 = .ok (.iconst 4, 1) := by decide +kernel
theorem d_Mo_close_21 : decode b_Mo_close 21 = .ok (.iadd, 1) := by decide +kernel
theorem d_Mo_close_22 : decode b_Mo_close 22 = .ok (.if_icmp .ge 25, 3) := by decide +kernel
theorem d_Mo_close_25 : decode b_Mo_close 25 = .ok (.iload_n 2, 1) := by decide +kernel
theorem d_Mo_close_26 : decode b_Mo_close 26 = .ok (.bipush 13, 2) := by decide +kernel
theorem d_Mo_close_28 : decode b_Mo_close 28 = .ok (.if_icmp .ge 19, 3) := by decide +kernel
theorem d_Mo_close_31 : decode b_Mo_close 31 = .ok (.aload_n 0, 1) := by decide +kernel
theorem d_Mo_close_32 : decode b_Mo_close 32 = .ok (.getfield 21, 3) := by decide +kernel
theorem d_Mo_close_35 : decode b_Mo_close 35 = .ok (.iload_n 2, 1) := by decide +kernel
theorem d_Mo_close_36 : decode b_Mo_close 36 = .ok (.aaload, 1) := by decide +kernel
theorem d_Mo_close_37 : decode b_Mo_close 37 = .ok (.iconst 0, 1) := by decide +kernel
theorem d_Mo_close_38 : decode b_Mo_close 38 = .ok (.putfield 76, 3) := by decide +kernel
theorem d_Mo_close_41 : decode b_Mo_close 41 = .ok (.iinc 2 1, 3) := by decide +kernel
theorem d_Mo_close_44 : decode b_Mo_close 44 = .ok (.goto (-28), 3) := by decide +kernel
theorem d_Mo_close_47 : decode b_Mo_close 47 = .ok (.return_, 1) := by decide +kernel
theorem q_Mo_close : px_y y_Mo_close 1 := by unfold px_y; decide +kernel
set_option maxHeartbeats 4000000 in
set_option maxRecDepth 100000 in
theorem c_mo_close (l : Launch) (D : va_G) (cs : Nat → ClassId) (RR : Nat → Int) (mo : Nat) (mr : Nat → Nat) (mf : Nat → Int32) (md : Nat → Nat → Int32) (hq : Nat → Nat) (qr : Nat → Nat → Nat) (QO : Nat → Option Nat) (QF : Nat → Nat → Int32) (QA : Nat → Nat → Nat → Int32) (PG : Nat → Pgs) (p0 : Int32)  (g0 : 0 ≤ p0.toInt) (g1 : p0.toInt < 13) (hpr : PrA PG RR QO QF QA) (hpg : PgA PG) : MetV l y_Mo_close b_Mo_close 3 D cs 0 0 (0) (0) [.ref mo, .int p0] [wd_Mo cs mo mr (fun _ => none) mf md (gMo PG hq), fm 13 (fPr cs hq qr QO QF QA), fm 8 (fPg cs PG)] (fun _ => True) (fun ps => ∃ (QO' : Nat → Option Nat) (QF' : Nat → Nat → Int32) (QA' : Nat → Nat → Nat → Int32), (ps = [wd_Mo cs mo mr (fun _ => none) mf md (gMo PG hq), fm 13 (fPr cs hq qr QO' QF' QA'), fm 8 (fPg cs PG)]) ∧ (PrA PG RR QO' QF' QA') ∧ (KpP QO QF QA QO' QF' QA' p0.toNatClampNeg)) := by
  refine px_enter (by decide) (Nat.le_of_ble_eq_true rfl) ?_
  intro p e s m below meth c A ls hAe S hr hlk hnm hA hT hX hw hl
  replace hl : lv_has ls 3 [(0, .ref mo), (1, .int p0)] := hl
  have lp0 := Int32.le_toInt p0
  have up0 := Int32.toInt_lt p0
  have cst0 : (0 : Int32).toInt = 0 := rfl
  have cst1 : (1 : Int32).toInt = 1 := rfl
  have cst3 : (3 : Int32).toInt = 3 := rfl
  have cst4 : (4 : Int32).toInt = 4 := rfl
  have cst13 : (13 : Int32).toInt = 13 := rfl
  have hkp : KpP QO QF QA QO QF QA p0.toNatClampNeg := KpP.rf
  have J16 : ∀ (n_16 : Nat) (QO_16 : Nat → Option Nat) (QF_16 : Nat → Nat → Int32) (QA_16 : Nat → Nat → Nat → Int32) (x16_2 : Int32) (H : Heap) (locs : List Loc) (ls : Array Slot), (PrA PG RR QO_16 QF_16 QA_16) → (KpP QO QF QA QO_16 QF_16 QA_16 p0.toNatClampNeg) → (0 ≤ x16_2.toInt) → (x16_2.toInt ≤ 40) → 41 - x16_2.toInt < (n_16 : Int) → pw D A s.heap H locs [wd_Mo cs mo mr (fun _ => none) mf md (gMo PG hq), fm 13 (fPr cs hq qr QO_16 QF_16 QA_16), fm 8 (fPg cs PG)] → lv_has ls 3 [(0, .ref mo), (1, .int p0), (2, .int x16_2)] → W p l e { frames := 0, cells := 0, slots := 0, locals := 0 } s m [.ref mo, .int p0].toArray below meth c H locs 0 0 (MQ below (va_Qv (fun ps => ∃ (QO' : Nat → Option Nat) (QF' : Nat → Nat → Int32) (QA' : Nat → Nat → Nat → Int32), (ps = [wd_Mo cs mo mr (fun _ => none) mf md (gMo PG hq), fm 13 (fPr cs hq qr QO' QF' QA'), fm 8 (fPg cs PG)]) ∧ (PrA PG RR QO' QF' QA') ∧ (KpP QO QF QA QO' QF' QA' p0.toNatClampNeg)) (pc_B D (va_A ([wd_Mo cs mo mr (fun _ => none) mf md (gMo PG hq), fm 13 (fPr cs hq qr QO QF QA), fm 8 (fPg cs PG)] : List va_W).flatten s.heap.size)) (va_A ([wd_Mo cs mo mr (fun _ => none) mf md (gMo PG hq), fm 13 (fPr cs hq qr QO QF QA), fm 8 (fPg cs PG)] : List va_W).flatten s.heap.size)) [.ref mo, .int p0].toArray s 0 0 A) (F0 m 16 ls []) := by
    intro  n_16
    induction n_16 with
    | zero =>
      intro QO_16 QF_16 QA_16 x16_2 H locs ls k16_0 k16_1 k16_2 k16_3 hm hw hl
      have lx16_2 := Int32.le_toInt x16_2
      have ux16_2 := Int32.toInt_lt x16_2
      have hpr := k16_0
      have hkp := k16_1
      exact absurd hm (by omega)
    | succ n_16 ih16 =>
      intro QO_16 QF_16 QA_16 x16_2 H locs ls k16_0 k16_1 k16_2 k16_3 hm hw hl
      have lx16_2 := Int32.le_toInt x16_2
      have ux16_2 := Int32.toInt_lt x16_2
      have hpr := k16_0
      have hkp := k16_1
      refine lv_iload_n S.x S.b d_Mo_close_16 rfl (lv_at hl 2 rfl) ?_
      refine lv_iconst (v := 3) S.x S.b d_Mo_close_17 (by decide) ?_
      refine lv_iload_n S.x S.b d_Mo_close_18 rfl (lv_at hl 1 rfl) ?_
      refine lv_imul S.x S.b d_Mo_close_19 ?_
      refine lv_topi (fun z1 ez1 => ?_)
      have lz1 := Int32.le_toInt z1
      have uz1 := Int32.toInt_lt z1
      have tz1 : -2147483648 ≤ 3 * p0.toInt → 3 * p0.toInt < 2147483648 → z1.toInt = 3 * p0.toInt := by rw [ez1]; exact i_mulc 3 p0 (by decide)
      try replace tz1 : z1.toInt = 3 * p0.toInt := by omega
      refine lv_iconst (v := 4) S.x S.b d_Mo_close_20 (by decide) ?_
      refine lv_iadd S.x S.b d_Mo_close_21 ?_
      refine lv_topi (fun z2 ez2 => ?_)
      have tz2 : z2.toInt = (z1.toInt + (4 : Int) + 2147483648) % 4294967296 - 2147483648 := by rw [ez2]; exact i_add z1 4
      have lz2 := Int32.le_toInt z2
      have uz2 := Int32.toInt_lt z2
      try replace tz2 : z2.toInt = z1.toInt + (4 : Int) := by omega
      refine lv_icmp_ge (tgt := 47) S.x S.b d_Mo_close_22 (by decide) (fun c3 => ?_) (fun c3 => ?_)
      · have nc3 : z2.toInt ≤ x16_2.toInt := (i_le (x := z2) (y := x16_2)).mp c3
        exact px_vret S hr hlk hAe hw (Nat.le_of_ble_eq_true rfl) (Nat.le_of_ble_eq_true rfl) (⟨QO_16, QF_16, QA_16, rfl, (show PrA PG RR QO_16 QF_16 QA_16 from hpr), (show KpP QO QF QA QO_16 QF_16 QA_16 p0.toNatClampNeg from hkp)⟩) d_Mo_close_47
      · have nc3 : ¬ z2.toInt ≤ x16_2.toInt := mt (i_le (x := z2) (y := x16_2)).mpr c3
        refine lv_iload_n S.x S.b d_Mo_close_25 rfl (lv_at hl 2 rfl) ?_
        refine lv_bipush (v := 13) S.x S.b d_Mo_close_26 (by decide) ?_
        refine lv_icmp_ge (tgt := 47) S.x S.b d_Mo_close_28 (by decide) (fun c4 => ?_) (fun c4 => ?_)
        · have nc4 : (13 : Int) ≤ x16_2.toInt := (i_le (x := 13) (y := x16_2)).mp c4
          exact px_vret S hr hlk hAe hw (Nat.le_of_ble_eq_true rfl) (Nat.le_of_ble_eq_true rfl) (⟨QO_16, QF_16, QA_16, rfl, (show PrA PG RR QO_16 QF_16 QA_16 from hpr), (show KpP QO QF QA QO_16 QF_16 QA_16 p0.toNatClampNeg from hkp)⟩) d_Mo_close_47
        · have nc4 : ¬ (13 : Int) ≤ x16_2.toInt := mt (i_le (x := 13) (y := x16_2)).mpr c4
          refine lv_aload_n S.x S.b d_Mo_close_31 rfl (lv_at hl 0 rfl) ?_
          refine px_get S k_Mo hT hw 0 0 5 (v := .ref (mr 5)) rfl rfl rfl (by decide) m11_83 d_Mo_close_32 ?_
          refine lv_iload_n S.x S.b d_Mo_close_35 rfl (lv_at hl 2 rfl) ?_
          refine px_aaldS S hT hw 0 3 10 (n := 13) (f := ((gMo PG hq) 5)) rfl rfl rfl (x := x16_2) (vp_in_iff.mpr (by first | exact oz_10a7a22e11 k16_2 nc4 | (constructor <;> omega))) (sk := (hq x16_2.toNatClampNeg)) rfl d_Mo_close_36 ?_
          refine lv_iconst (v := 0) S.x S.b d_Mo_close_37 (by decide) ?_
          have hw : pw D A s.heap _ _ [wd_Mo cs mo mr (fun _ => none) mf md (gMo PG hq), fm 8 (fPg cs PG), fm 13 (fPr cs hq qr QO_16 QF_16 QA_16)] := hw.sub [0, 2, 1] rfl rfl
          have hc5 := cl_nat (x := x16_2) (by first | exact k16_2 | omega)
          have hi5 : x16_2.toNatClampNeg < 13 := by first | exact oz_81bc16641b hc5 nc4 | omega
          have hw : pw D A s.heap _ _ [wd_Mo cs mo mr (fun _ => none) mf md (gMo PG hq), fm 8 (fPg cs PG), fo 13 (fPr cs hq qr QO_16 QF_16 QA_16) x16_2.toNatClampNeg, wd_Mpr cs (hq x16_2.toNatClampNeg) (qr x16_2.toNatClampNeg) (fun _ => QO_16 x16_2.toNatClampNeg) (QF_16 x16_2.toNatClampNeg) (QA_16 x16_2.toNatClampNeg) (fun _ _ => none)] := fm_out (pr := [wd_Mo cs mo mr (fun _ => none) mf md (gMo PG hq), fm 8 (fPg cs PG)]) (T := fPr cs hq qr QO_16 QF_16 QA_16) hw hi5
          have hps5 := hpr.1 x16_2.toNatClampNeg hi5
          have hpb5 := hps5.1
          unfold PsB at hpb5
          refine px_put S k_Mpr hT hw 3 0 21 rfl rfl (by decide) m11_16 rfl rfl rfl (Nat.le_of_ble_eq_true rfl) d_Mo_close_38 (w' := wd_Mpr cs (hq x16_2.toNatClampNeg) (qr x16_2.toNatClampNeg) (fun _ => QO_16 x16_2.toNatClampNeg) (upd (QF_16 x16_2.toNatClampNeg) 21 0) (QA_16 x16_2.toNatClampNeg) (fun _ _ => none)) (ps' := [wd_Mo cs mo mr (fun _ => none) mf md (gMo PG hq), fm 8 (fPg cs PG), fo 13 (fPr cs hq qr QO_16 QF_16 QA_16) x16_2.toNatClampNeg, wd_Mpr cs (hq x16_2.toNatClampNeg) (qr x16_2.toNatClampNeg) (fun _ => QO_16 x16_2.toNatClampNeg) (upd (QF_16 x16_2.toNatClampNeg) 21 0) (QA_16 x16_2.toNatClampNeg) (fun _ _ => none)]) rfl rfl (fun H locs hw => ?_)
          obtain ⟨z6, ez6⟩ : ∃ y : Int32, y = x16_2 + 1 := ⟨_, rfl⟩
          have tz6 : z6.toInt = (x16_2.toInt + 1 + 2147483648) % 4294967296 - 2147483648 := by rw [ez6]; exact i_add x16_2 1
          have lz6 := Int32.le_toInt z6
          have uz6 := Int32.toInt_lt z6
          try replace tz6 : z6.toInt = x16_2.toInt + 1 := by omega
          refine lv_iinc (v := z6) (lv' := [(2, .int z6), (0, .ref mo), (1, .int p0)]) S.x S.b d_Mo_close_41 hl (k := 2) rfl (by rw [ez6]; rfl) (by decide) rfl (fun ls hl => ?_)
          refine lv_goto (tgt := 16) S.x S.b d_Mo_close_44 (by decide) ?_
          have hw := fpr_in (pr := [wd_Mo cs mo mr (fun _ => none) mf md (gMo PG hq), fm 8 (fPg cs PG)]) hw hi5
          obtain ⟨QO7, hu_QO7⟩ : ∃ y : Nat → Option Nat, y = va_up QO_16 x16_2.toNatClampNeg ((fun _ => QO_16 x16_2.toNatClampNeg) 0) := ⟨_, rfl⟩
          obtain ⟨QF8, hu_QF8⟩ : ∃ y : Nat → Nat → Int32, y = va_up QF_16 x16_2.toNatClampNeg (upd (QF_16 x16_2.toNatClampNeg) 21 0) := ⟨_, rfl⟩
          obtain ⟨QA9, hu_QA9⟩ : ∃ y : Nat → Nat → Nat → Int32, y = va_up QA_16 x16_2.toNatClampNeg (QA_16 x16_2.toNatClampNeg) := ⟨_, rfl⟩
          have hw : pw D A s.heap _ _ [wd_Mo cs mo mr (fun _ => none) mf md (gMo PG hq), fm 8 (fPg cs PG), fm 13 (fPr cs hq qr QO7 QF8 QA9)] := (by rw [hu_QO7, hu_QF8, hu_QA9]; exact hw)
          have hpr : PrA PG RR QO7 QF8 QA9 := (by rw [hu_QO7, hu_QF8, hu_QA9]; exact PrA.up hpr (PsR.ud hps5 (f' := (upd (QF_16 x16_2.toNatClampNeg) 21 0)) (a' := (QA_16 x16_2.toNatClampNeg)) (show (0 ≤ ((QF_16 x16_2.toNatClampNeg) 1).toInt ∧ ((QF_16 x16_2.toNatClampNeg) 1).toInt ≤ 1) ∧ (0 ≤ (0 : Int) ∧ (0 : Int) ≤ 4) ∧ (0 ≤ ((QF_16 x16_2.toNatClampNeg) 23).toInt ∧ ((QF_16 x16_2.toNatClampNeg) 23).toInt ≤ 4) ∧ (0 ≤ ((QF_16 x16_2.toNatClampNeg) 24).toInt ∧ ((QF_16 x16_2.toNatClampNeg) 24).toInt ≤ 1000000) ∧ (0 ≤ ((QF_16 x16_2.toNatClampNeg) 6).toInt ∧ ((QF_16 x16_2.toNatClampNeg) 6).toInt ≤ 3) ∧ (0 ≤ ((QF_16 x16_2.toNatClampNeg) 7).toInt ∧ ((QF_16 x16_2.toNatClampNeg) 7).toInt ≤ 1) from by first | with_reducible rfl | with_reducible assumption | omega) (fun k9 a9 b9 => by first | rfl | exact pk_un a9 | exact pk_un b9 | exact (pk_un b9).trans (pk_un a9)) (fun k9 a9 b9 => by first | rfl | simp only [va_up_n a9, va_up_n b9])) (show ((QF_16 x16_2.toNatClampNeg) 1).toInt = (QF_16 x16_2.toNatClampNeg 1).toInt from by first | exact oz_507c05ca68 | omega) (show (QF_16 x16_2.toNatClampNeg 6).toInt ≤ ((QF_16 x16_2.toNatClampNeg) 6).toInt from by first | exact oz_1cb5f934a5 | omega))
          have hkp : KpP QO QF QA QO7 QF8 QA9 p0.toNatClampNeg := (by rw [hu_QO7, hu_QF8, hu_QA9]; exact KpP.up hkp rfl (show (((QF_16 x16_2.toNatClampNeg) 1).toInt = (QF_16 x16_2.toNatClampNeg 1).toInt ∧ ((QF_16 x16_2.toNatClampNeg) 4).toInt = (QF_16 x16_2.toNatClampNeg 4).toInt ∧ ((QF_16 x16_2.toNatClampNeg) 5).toInt = (QF_16 x16_2.toNatClampNeg 5).toInt ∧ ((QF_16 x16_2.toNatClampNeg) 7).toInt = (QF_16 x16_2.toNatClampNeg 7).toInt ∧ ((QF_16 x16_2.toNatClampNeg) 10).toInt = (QF_16 x16_2.toNatClampNeg 10).toInt ∧ ((QF_16 x16_2.toNatClampNeg) 11).toInt = (QF_16 x16_2.toNatClampNeg 11).toInt) ∧ ((QF_16 x16_2.toNatClampNeg) 12).toInt = (QF_16 x16_2.toNatClampNeg 12).toInt ∧ ((QF_16 x16_2.toNatClampNeg) 13).toInt = (QF_16 x16_2.toNatClampNeg 13).toInt ∧ ((QF_16 x16_2.toNatClampNeg) 14).toInt = (QF_16 x16_2.toNatClampNeg 14).toInt ∧ ((QF_16 x16_2.toNatClampNeg) 24).toInt = (QF_16 x16_2.toNatClampNeg 24).toInt from by first | with_reducible rfl | with_reducible assumption | omega) (fun k9 a9 b9 => by first | rfl | simp only [va_up_n a9, va_up_n b9]))
          have hw : pw D A s.heap _ _ [wd_Mo cs mo mr (fun _ => none) mf md (gMo PG hq), fm 13 (fPr cs hq qr QO7 QF8 QA9), fm 8 (fPg cs PG)] := hw.sub [0, 2, 1] rfl rfl
          exact ih16 QO7 QF8 QA9 z6 _ _ ls (show PrA PG RR QO7 QF8 QA9 from hpr) (show KpP QO QF QA QO7 QF8 QA9 p0.toNatClampNeg from hkp) (show 0 ≤ z6.toInt from by first | exact oz_9fa9825dcd tz6 hc5 | omega) (show z6.toInt ≤ 40 from by first | exact oz_f4994dbd0d tz6 nc4 | omega) (show 41 - z6.toInt < (n_16 : Int) from by first | exact oz_a25deb39d2 hm tz6 | omega) hw (lv_sub hl [1, 2, 0] rfl)
  refine lv_aload_n S.x S.b d_Mo_close_0 rfl (lv_at hl 0 rfl) ?_
  refine px_get S k_Mo hT hw 0 0 5 (v := .ref (mr 5)) rfl rfl rfl (by decide) m11_83 d_Mo_close_1 ?_
  refine lv_iload_n S.x S.b d_Mo_close_4 rfl (lv_at hl 1 rfl) ?_
  refine px_aaldS S hT hw 0 3 10 (n := 13) (f := ((gMo PG hq) 5)) rfl rfl rfl (x := p0) (vp_in_iff.mpr (by first | exact oz_59feca6c45 g0 g1 | (constructor <;> omega))) (sk := (hq p0.toNatClampNeg)) rfl d_Mo_close_5 ?_
  refine lv_iconst (v := 0) S.x S.b d_Mo_close_6 (by decide) ?_
  have hw : pw D A s.heap _ _ [wd_Mo cs mo mr (fun _ => none) mf md (gMo PG hq), fm 8 (fPg cs PG), fm 13 (fPr cs hq qr QO QF QA)] := hw.sub [0, 2, 1] rfl rfl
  have hc10 := cl_nat (x := p0) (by first | exact g0 | omega)
  have hi10 : p0.toNatClampNeg < 13 := by first | exact oz_9995642664 hc10 g1 | omega
  have hw : pw D A s.heap _ _ [wd_Mo cs mo mr (fun _ => none) mf md (gMo PG hq), fm 8 (fPg cs PG), fo 13 (fPr cs hq qr QO QF QA) p0.toNatClampNeg, wd_Mpr cs (hq p0.toNatClampNeg) (qr p0.toNatClampNeg) (fun _ => QO p0.toNatClampNeg) (QF p0.toNatClampNeg) (QA p0.toNatClampNeg) (fun _ _ => none)] := fm_out (pr := [wd_Mo cs mo mr (fun _ => none) mf md (gMo PG hq), fm 8 (fPg cs PG)]) (T := fPr cs hq qr QO QF QA) hw hi10
  have hps10 := hpr.1 p0.toNatClampNeg hi10
  have hpb10 := hps10.1
  unfold PsB at hpb10
  refine px_put S k_Mpr hT hw 3 0 23 rfl rfl (by decide) m11_20 rfl rfl rfl (Nat.le_of_ble_eq_true rfl) d_Mo_close_7 (w' := wd_Mpr cs (hq p0.toNatClampNeg) (qr p0.toNatClampNeg) (fun _ => QO p0.toNatClampNeg) (upd (QF p0.toNatClampNeg) 23 0) (QA p0.toNatClampNeg) (fun _ _ => none)) (ps' := [wd_Mo cs mo mr (fun _ => none) mf md (gMo PG hq), fm 8 (fPg cs PG), fo 13 (fPr cs hq qr QO QF QA) p0.toNatClampNeg, wd_Mpr cs (hq p0.toNatClampNeg) (qr p0.toNatClampNeg) (fun _ => QO p0.toNatClampNeg) (upd (QF p0.toNatClampNeg) 23 0) (QA p0.toNatClampNeg) (fun _ _ => none)]) rfl rfl (fun H locs hw => ?_)
  refine lv_iconst (v := 3) S.x S.b d_Mo_close_10 (by decide) ?_
  refine lv_iload_n S.x S.b d_Mo_close_11 rfl (lv_at hl 1 rfl) ?_
  refine lv_imul S.x S.b d_Mo_close_12 ?_
  refine lv_topi (fun z11 ez11 => ?_)
  have lz11 := Int32.le_toInt z11
  have uz11 := Int32.toInt_lt z11
  have tz11 : -2147483648 ≤ 3 * p0.toInt → 3 * p0.toInt < 2147483648 → z11.toInt = 3 * p0.toInt := by rw [ez11]; exact i_mulc 3 p0 (by decide)
  try replace tz11 : z11.toInt = 3 * p0.toInt := by omega
  refine lv_iconst (v := 1) S.x S.b d_Mo_close_13 (by decide) ?_
  refine lv_iadd S.x S.b d_Mo_close_14 ?_
  refine lv_topi (fun z12 ez12 => ?_)
  have tz12 : z12.toInt = (z11.toInt + (1 : Int) + 2147483648) % 4294967296 - 2147483648 := by rw [ez12]; exact i_add z11 1
  have lz12 := Int32.le_toInt z12
  have uz12 := Int32.toInt_lt z12
  try replace tz12 : z12.toInt = z11.toInt + (1 : Int) := by omega
  refine lv_istore_n (lv' := [(2, .int z12), (0, .ref mo), (1, .int p0)]) S.x S.b d_Mo_close_15 rfl hl (by decide) rfl (fun ls hl => ?_)
  have hw := fpr_in (pr := [wd_Mo cs mo mr (fun _ => none) mf md (gMo PG hq), fm 8 (fPg cs PG)]) hw hi10
  obtain ⟨QO13, hu_QO13⟩ : ∃ y : Nat → Option Nat, y = va_up QO p0.toNatClampNeg ((fun _ => QO p0.toNatClampNeg) 0) := ⟨_, rfl⟩
  obtain ⟨QF14, hu_QF14⟩ : ∃ y : Nat → Nat → Int32, y = va_up QF p0.toNatClampNeg (upd (QF p0.toNatClampNeg) 23 0) := ⟨_, rfl⟩
  obtain ⟨QA15, hu_QA15⟩ : ∃ y : Nat → Nat → Nat → Int32, y = va_up QA p0.toNatClampNeg (QA p0.toNatClampNeg) := ⟨_, rfl⟩
  have hw : pw D A s.heap _ _ [wd_Mo cs mo mr (fun _ => none) mf md (gMo PG hq), fm 8 (fPg cs PG), fm 13 (fPr cs hq qr QO13 QF14 QA15)] := (by rw [hu_QO13, hu_QF14, hu_QA15]; exact hw)
  have hpr : PrA PG RR QO13 QF14 QA15 := (by rw [hu_QO13, hu_QF14, hu_QA15]; exact PrA.up hpr (PsR.ud hps10 (f' := (upd (QF p0.toNatClampNeg) 23 0)) (a' := (QA p0.toNatClampNeg)) (show (0 ≤ ((QF p0.toNatClampNeg) 1).toInt ∧ ((QF p0.toNatClampNeg) 1).toInt ≤ 1) ∧ (0 ≤ ((QF p0.toNatClampNeg) 21).toInt ∧ ((QF p0.toNatClampNeg) 21).toInt ≤ 4) ∧ (0 ≤ (0 : Int) ∧ (0 : Int) ≤ 4) ∧ (0 ≤ ((QF p0.toNatClampNeg) 24).toInt ∧ ((QF p0.toNatClampNeg) 24).toInt ≤ 1000000) ∧ (0 ≤ ((QF p0.toNatClampNeg) 6).toInt ∧ ((QF p0.toNatClampNeg) 6).toInt ≤ 3) ∧ (0 ≤ ((QF p0.toNatClampNeg) 7).toInt ∧ ((QF p0.toNatClampNeg) 7).toInt ≤ 1) from by first | with_reducible rfl | with_reducible assumption | omega) (fun k9 a9 b9 => by first | rfl | exact pk_un a9 | exact pk_un b9 | exact (pk_un b9).trans (pk_un a9)) (fun k9 a9 b9 => by first | rfl | simp only [va_up_n a9, va_up_n b9])) (show ((QF p0.toNatClampNeg) 1).toInt = (QF p0.toNatClampNeg 1).toInt from by first | exact oz_507c05ca68 | omega) (show (QF p0.toNatClampNeg 6).toInt ≤ ((QF p0.toNatClampNeg) 6).toInt from by first | exact oz_1cb5f934a5 | omega))
  have hkp : KpP QO QF QA QO13 QF14 QA15 p0.toNatClampNeg := (by rw [hu_QO13, hu_QF14, hu_QA15]; exact KpP.up hkp rfl (show (((QF p0.toNatClampNeg) 1).toInt = (QF p0.toNatClampNeg 1).toInt ∧ ((QF p0.toNatClampNeg) 4).toInt = (QF p0.toNatClampNeg 4).toInt ∧ ((QF p0.toNatClampNeg) 5).toInt = (QF p0.toNatClampNeg 5).toInt ∧ ((QF p0.toNatClampNeg) 7).toInt = (QF p0.toNatClampNeg 7).toInt ∧ ((QF p0.toNatClampNeg) 10).toInt = (QF p0.toNatClampNeg 10).toInt ∧ ((QF p0.toNatClampNeg) 11).toInt = (QF p0.toNatClampNeg 11).toInt) ∧ ((QF p0.toNatClampNeg) 12).toInt = (QF p0.toNatClampNeg 12).toInt ∧ ((QF p0.toNatClampNeg) 13).toInt = (QF p0.toNatClampNeg 13).toInt ∧ ((QF p0.toNatClampNeg) 14).toInt = (QF p0.toNatClampNeg 14).toInt ∧ ((QF p0.toNatClampNeg) 24).toInt = (QF p0.toNatClampNeg 24).toInt from by first | with_reducible rfl | with_reducible assumption | omega) (fun k9 a9 b9 => by first | rfl | simp only [va_up_n a9, va_up_n b9]))
  have hw : pw D A s.heap _ _ [wd_Mo cs mo mr (fun _ => none) mf md (gMo PG hq), fm 13 (fPr cs hq qr QO13 QF14 QA15), fm 8 (fPg cs PG)] := hw.sub [0, 2, 1] rfl rfl
  exact J16 ((41 - z12.toInt).toNat + 1) QO13 QF14 QA15 z12 _ _ ls (show PrA PG RR QO13 QF14 QA15 from hpr) (show KpP QO QF QA QO13 QF14 QA15 p0.toNatClampNeg from hkp) (show 0 ≤ z12.toInt from by first | exact oz_27c6f326f3 tz12 tz11 g0 | omega) (show z12.toInt ≤ 40 from by first | exact oz_41b3f457a7 tz12 tz11 g1 | omega) (show 41 - z12.toInt < ((((41 - z12.toInt).toNat + 1 : Nat) : Int) : Int) from by first | exact oz_natlt | omega) hw (lv_sub hl [1, 2, 0] rfl)
abbrev b_Mo_lying : ByteArray := prog_14_method_13_code
def y_Mo_lying : MethodName := ⟨"HomeSystemModel", "lying", "(II)I"⟩
theorem d_Mo_lying_0 : decode b_Mo_lying 0 = .ok (.iload_n 2, 1) := by decide +kernel
theorem d_Mo_lying_1 : decode b_Mo_lying 1 = .ok (.iload_n 1, 1) := by decide +kernel
theorem d_Mo_lying_2 : decode b_Mo_lying 2 = .ok (.if_icmp .le 15, 3) := by decide +kernel
theorem d_Mo_lying_5 : decode b_Mo_lying 5 = .ok (.aload_n 0, 1) := by decide +kernel
theorem d_Mo_lying_6 : decode b_Mo_lying 6 = .ok (.getfield 21, 3) := by decide +kernel
theorem d_Mo_lying_9 : decode b_Mo_lying 9 = .ok (.iload_n 2, 1) := by decide +kernel
theorem d_Mo_lying_10 : decode b_Mo_lying 10 = .ok (.aaload, 1) := by decide +kernel
theorem d_Mo_lying_11 : decode b_Mo_lying 11 = .ok (.getfield 76, 3) := by decide +kernel
theorem d_Mo_lying_14 : decode b_Mo_lying 14 = .ok (.goto 12, 3) := by decide +kernel
theorem d_Mo_lying_17 : decode b_Mo_lying 17 = .ok (.aload_n 0, 1) := by decide +kernel
theorem d_Mo_lying_18 : decode b_Mo_lying 18 = .ok (.getfield 21, 3) := by decide +kernel
theorem d_Mo_lying_21 : decode b_Mo_lying 21 = .ok (.iload_n 1, 1) := by decide +kernel
theorem d_Mo_lying_22 : decode b_Mo_lying 22 = .ok (.aaload, 1) := by decide +kernel
theorem d_Mo_lying_23 : decode b_Mo_lying 23 = .ok (.getfield 73, 3) := by decide +kernel
theorem d_Mo_lying_26 : decode b_Mo_lying 26 = .ok (.ireturn, 1) := by decide +kernel
theorem q_Mo_lying : px_y y_Mo_lying 2 := by unfold px_y; decide +kernel
set_option maxHeartbeats 4000000 in
set_option maxRecDepth 100000 in
theorem c_mo_lying (l : Launch) (D : va_G) (cs : Nat → ClassId) (RR : Nat → Int) (mo : Nat) (mr : Nat → Nat) (mf : Nat → Int32) (md : Nat → Nat → Int32) (hq : Nat → Nat) (qr : Nat → Nat → Nat) (QO : Nat → Option Nat) (QF : Nat → Nat → Int32) (QA : Nat → Nat → Nat → Int32) (PG : Nat → Pgs) (p0 p1 : Int32)  (g0 : 0 ≤ p0.toInt) (g1 : p0.toInt < 13) (g2 : 0 ≤ p1.toInt) (g3 : p1.toInt < 13) (hpr : PrA PG RR QO QF QA) (hpg : PgA PG) : MetI l y_Mo_lying b_Mo_lying 3 (.int) D cs 0 0 (0) (0) [.ref mo, .int p0, .int p1] [wd_Mo cs mo mr (fun _ => none) mf md (gMo PG hq), fm 13 (fPr cs hq qr QO QF QA), fm 8 (fPg cs PG)] (fun _ => True) (fun v ps => (ps = [wd_Mo cs mo mr (fun _ => none) mf md (gMo PG hq), fm 13 (fPr cs hq qr QO QF QA), fm 8 (fPg cs PG)]) ∧ (0 ≤ v.toInt) ∧ (v.toInt ≤ 4) ∧ (p0.toInt < p1.toInt → v.toInt = (QF p1.toNatClampNeg 21).toInt) ∧ (p1.toInt ≤ p0.toInt → v.toInt = (QF p0.toNatClampNeg 23).toInt)) := by
  refine px_enter (by decide) (Nat.le_of_ble_eq_true rfl) ?_
  intro p e s m below meth c A ls hAe S hr hlk hnm hA hT hX hw hl
  replace hl : lv_has ls 3 [(0, .ref mo), (1, .int p0), (2, .int p1)] := hl
  have lp0 := Int32.le_toInt p0
  have up0 := Int32.toInt_lt p0
  have lp1 := Int32.le_toInt p1
  have up1 := Int32.toInt_lt p1
  refine lv_iload_n S.x S.b d_Mo_lying_0 rfl (lv_at hl 2 rfl) ?_
  refine lv_iload_n S.x S.b d_Mo_lying_1 rfl (lv_at hl 1 rfl) ?_
  refine lv_icmp_le (tgt := 17) S.x S.b d_Mo_lying_2 (by decide) (fun c1 => ?_) (fun c1 => ?_)
  · have nc1 : p1.toInt ≤ p0.toInt := (i_le (x := p1) (y := p0)).mp c1
    refine lv_aload_n S.x S.b d_Mo_lying_17 rfl (lv_at hl 0 rfl) ?_
    refine px_get S k_Mo hT hw 0 0 5 (v := .ref (mr 5)) rfl rfl rfl (by decide) m11_83 d_Mo_lying_18 ?_
    refine lv_iload_n S.x S.b d_Mo_lying_21 rfl (lv_at hl 1 rfl) ?_
    refine px_aaldS S hT hw 0 3 10 (n := 13) (f := ((gMo PG hq) 5)) rfl rfl rfl (x := p0) (vp_in_iff.mpr (by first | exact oz_59feca6c45 g0 g1 | (constructor <;> omega))) (sk := (hq p0.toNatClampNeg)) rfl d_Mo_lying_22 ?_
    have hw : pw D A s.heap _ _ [wd_Mo cs mo mr (fun _ => none) mf md (gMo PG hq), fm 8 (fPg cs PG), fm 13 (fPr cs hq qr QO QF QA)] := hw.sub [0, 2, 1] rfl rfl
    have hc2 := cl_nat (x := p0) (by first | exact g0 | omega)
    have hi2 : p0.toNatClampNeg < 13 := by first | exact oz_9995642664 hc2 g1 | omega
    have hw : pw D A s.heap _ _ [wd_Mo cs mo mr (fun _ => none) mf md (gMo PG hq), fm 8 (fPg cs PG), fo 13 (fPr cs hq qr QO QF QA) p0.toNatClampNeg, wd_Mpr cs (hq p0.toNatClampNeg) (qr p0.toNatClampNeg) (fun _ => QO p0.toNatClampNeg) (QF p0.toNatClampNeg) (QA p0.toNatClampNeg) (fun _ _ => none)] := fm_out (pr := [wd_Mo cs mo mr (fun _ => none) mf md (gMo PG hq), fm 8 (fPg cs PG)]) (T := fPr cs hq qr QO QF QA) hw hi2
    have hps2 := hpr.1 p0.toNatClampNeg hi2
    have hpb2 := hps2.1
    unfold PsB at hpb2
    refine px_get S k_Mpr hT hw 3 0 23 (v := .int ((QF p0.toNatClampNeg) 23)) rfl rfl rfl (by decide) m11_20 d_Mo_lying_23 ?_
    have hw : pw D A s.heap _ _ [wd_Mo cs mo mr (fun _ => none) mf md (gMo PG hq), fm 8 (fPg cs PG), fm 13 (fPr cs hq qr QO QF QA)] := fm_back (pr := [wd_Mo cs mo mr (fun _ => none) mf md (gMo PG hq), fm 8 (fPg cs PG)]) (T := fPr cs hq qr QO QF QA) hw hi2
    have hw : pw D A s.heap _ _ [wd_Mo cs mo mr (fun _ => none) mf md (gMo PG hq), fm 13 (fPr cs hq qr QO QF QA), fm 8 (fPg cs PG)] := hw.sub [0, 2, 1] rfl rfl
    exact px_iret (v := ((QF p0.toNatClampNeg) 23)) S hr rfl hlk hAe hw (Nat.le_of_ble_eq_true rfl) (Nat.le_of_ble_eq_true rfl) (⟨rfl, (show 0 ≤ ((QF p0.toNatClampNeg) 23).toInt from by first | with_reducible rfl | with_reducible assumption | omega), (show ((QF p0.toNatClampNeg) 23).toInt ≤ 4 from by first | with_reducible rfl | with_reducible assumption | omega), (show p0.toInt < p1.toInt → ((QF p0.toNatClampNeg) 23).toInt = (QF p1.toNatClampNeg 21).toInt from by first | with_reducible rfl | with_reducible assumption | omega), (show p1.toInt ≤ p0.toInt → ((QF p0.toNatClampNeg) 23).toInt = (QF p0.toNatClampNeg 23).toInt from by first | exact fun q9 => oz_507c05ca68 | omega)⟩) d_Mo_lying_26
  · have nc1 : ¬ p1.toInt ≤ p0.toInt := mt (i_le (x := p1) (y := p0)).mpr c1
    refine lv_aload_n S.x S.b d_Mo_lying_5 rfl (lv_at hl 0 rfl) ?_
    refine px_get S k_Mo hT hw 0 0 5 (v := .ref (mr 5)) rfl rfl rfl (by decide) m11_83 d_Mo_lying_6 ?_
    refine lv_iload_n S.x S.b d_Mo_lying_9 rfl (lv_at hl 2 rfl) ?_
    refine px_aaldS S hT hw 0 3 10 (n := 13) (f := ((gMo PG hq) 5)) rfl rfl rfl (x := p1) (vp_in_iff.mpr (by first | exact oz_003e6f2b09 nc1 g0 g3 | (constructor <;> omega))) (sk := (hq p1.toNatClampNeg)) rfl d_Mo_lying_10 ?_
    have hw : pw D A s.heap _ _ [wd_Mo cs mo mr (fun _ => none) mf md (gMo PG hq), fm 8 (fPg cs PG), fm 13 (fPr cs hq qr QO QF QA)] := hw.sub [0, 2, 1] rfl rfl
    have hc3 := cl_nat (x := p1) (by first | exact g2 | omega)
    have hi3 : p1.toNatClampNeg < 13 := by first | exact oz_9995642664 hc3 g3 | omega
    have hw : pw D A s.heap _ _ [wd_Mo cs mo mr (fun _ => none) mf md (gMo PG hq), fm 8 (fPg cs PG), fo 13 (fPr cs hq qr QO QF QA) p1.toNatClampNeg, wd_Mpr cs (hq p1.toNatClampNeg) (qr p1.toNatClampNeg) (fun _ => QO p1.toNatClampNeg) (QF p1.toNatClampNeg) (QA p1.toNatClampNeg) (fun _ _ => none)] := fm_out (pr := [wd_Mo cs mo mr (fun _ => none) mf md (gMo PG hq), fm 8 (fPg cs PG)]) (T := fPr cs hq qr QO QF QA) hw hi3
    have hps3 := hpr.1 p1.toNatClampNeg hi3
    have hpb3 := hps3.1
    unfold PsB at hpb3
    refine px_get S k_Mpr hT hw 3 0 21 (v := .int ((QF p1.toNatClampNeg) 21)) rfl rfl rfl (by decide) m11_16 d_Mo_lying_11 ?_
    refine lv_goto (tgt := 26) S.x S.b d_Mo_lying_14 (by decide) ?_
    have hw : pw D A s.heap _ _ [wd_Mo cs mo mr (fun _ => none) mf md (gMo PG hq), fm 8 (fPg cs PG), fm 13 (fPr cs hq qr QO QF QA)] := fm_back (pr := [wd_Mo cs mo mr (fun _ => none) mf md (gMo PG hq), fm 8 (fPg cs PG)]) (T := fPr cs hq qr QO QF QA) hw hi3
    have hw : pw D A s.heap _ _ [wd_Mo cs mo mr (fun _ => none) mf md (gMo PG hq), fm 13 (fPr cs hq qr QO QF QA), fm 8 (fPg cs PG)] := hw.sub [0, 2, 1] rfl rfl
    exact px_iret (v := ((QF p1.toNatClampNeg) 21)) S hr rfl hlk hAe hw (Nat.le_of_ble_eq_true rfl) (Nat.le_of_ble_eq_true rfl) (⟨rfl, (show 0 ≤ ((QF p1.toNatClampNeg) 21).toInt from by first | with_reducible rfl | with_reducible assumption | omega), (show ((QF p1.toNatClampNeg) 21).toInt ≤ 4 from by first | with_reducible rfl | with_reducible assumption | omega), (show p0.toInt < p1.toInt → ((QF p1.toNatClampNeg) 21).toInt = (QF p1.toNatClampNeg 21).toInt from by first | exact fun q9 => oz_507c05ca68 | omega), (show p1.toInt ≤ p0.toInt → ((QF p1.toNatClampNeg) 21).toInt = (QF p0.toNatClampNeg 23).toInt from by first | with_reducible rfl | with_reducible assumption | omega)⟩) d_Mo_lying_26
abbrev b_Mo_first : ByteArray := prog_14_method_14_code
def y_Mo_first : MethodName := ⟨"HomeSystemModel", "first", "(II)I"⟩
theorem d_Mo_first_0 : decode b_Mo_first 0 = .ok (.iload_n 2, 1) := by decide +kernel
theorem d_Mo_first_1 : decode b_Mo_first 1 = .ok (.iload_n 1, 1) := by decide +kernel
theorem d_Mo_first_2 : decode b_Mo_first 2 = .ok (.if_icmp .le 12, 3) := by decide +kernel
theorem d_Mo_first_5 : decode b_Mo_first 5 = .ok (.aload_n 0, 1) := by decide +kernel
theorem d_Mo_first_6 : decode b_Mo_first 6 = .ok (.getfield 21, 3) := by decide +kernel
theorem d_Mo_first_9 : decode b_Mo_first 9 = .ok (.iload_n 2, 1) := by decide +kernel
theorem d_Mo_first_10 : decode b_Mo_first 10 = .ok (.aaload, 1) := by decide +kernel
theorem d_Mo_first_11 : decode b_Mo_first 11 = .ok (.goto 9, 3) := by decide +kernel
theorem d_Mo_first_14 : decode b_Mo_first 14 = .ok (.aload_n 0, 1) := by decide +kernel
theorem d_Mo_first_15 : decode b_Mo_first 15 = .ok (.getfield 21, 3) := by decide +kernel
theorem d_Mo_first_18 : decode b_Mo_first 18 = .ok (.iload_n 1, 1) := by decide +kernel
theorem d_Mo_first_19 : decode b_Mo_first 19 = .ok (.aaload, 1) := by decide +kernel
theorem d_Mo_first_20 : decode b_Mo_first 20 = .ok (.astore_n 3, 1) := by decide +kernel
theorem d_Mo_first_21 : decode b_Mo_first 21 = .ok (.iload_n 2, 1) := by decide +kernel
theorem d_Mo_first_22 : decode b_Mo_first 22 = .ok (.iload_n 1, 1) := by decide +kernel
theorem d_Mo_first_23 : decode b_Mo_first 23 = .ok (.if_icmp .le 10, 3) := by decide +kernel
theorem d_Mo_first_26 : decode b_Mo_first 26 = .ok (.aload_n 3, 1) := by decide +kernel
theorem d_Mo_first_27 : decode b_Mo_first 27 = .ok (.getfield 79, 3) := by decide +kernel
theorem d_Mo_first_30 : decode b_Mo_first 30 = .ok (.goto 7, 3) := by decide +kernel
theorem d_Mo_first_33 : decode b_Mo_first 33 = .ok (.aload_n 3, 1) := by decide +kernel
theorem d_Mo_first_34 : decode b_Mo_first 34 = .ok (.getfield 82, 3) := by decide +kernel
theorem d_Mo_first_37 : decode b_Mo_first 37 = .ok (.astore 4, 2) := by decide +kernel
theorem d_Mo_first_39 : decode b_Mo_first 39 = .ok (.aload 4, 2) := by decide +kernel
theorem d_Mo_first_41 : decode b_Mo_first 41 = .ok (.iconst 0, 1) := by decide +kernel
theorem d_Mo_first_42 : decode b_Mo_first 42 = .ok (.iaload, 1) := by decide +kernel
theorem d_Mo_first_43 : decode b_Mo_first 43 = .ok (.istore 5, 2) := by decide +kernel
theorem d_Mo_first_45 : decode b_Mo_first 45 = .ok (.iconst 0, 1) := by decide +kernel
theorem d_Mo_first_46 : decode b_Mo_first 46 = .ok (.istore 6, 2) := by decide +kernel
theorem d_Mo_first_48 : decode b_Mo_first 48 = .ok (.iload 6, 2) := by decide +kernel
theorem d_Mo_first_50 : decode b_Mo_first 50 = .ok (.iconst 3, 1) := by decide +kernel
theorem d_Mo_first_51 : decode b_Mo_first 51 = .ok (.if_icmp .ge 21, 3) := by decide +kernel
theorem d_Mo_first_54 : decode b_Mo_first 54 = .ok (.aload 4, 2) := by decide +kernel
theorem d_Mo_first_56 : decode b_Mo_first 56 = .ok (.iload 6, 2) := by decide +kernel
theorem d_Mo_first_58 : decode b_Mo_first 58 = .ok (.aload 4, 2) := by decide +kernel
theorem d_Mo_first_60 : decode b_Mo_first 60 = .ok (.iload 6, 2) := by decide +kernel
theorem d_Mo_first_62 : decode b_Mo_first 62 = .ok (.iconst 1, 1) := by decide +kernel
theorem d_Mo_first_63 : decode b_Mo_first 63 = .ok (.iadd, 1) := by decide +kernel
theorem d_Mo_first_64 : decode b_Mo_first 64 = .ok (.iaload, 1) := by decide +kernel
theorem d_Mo_first_65 : decode b_Mo_first 65 = .ok (.iastore, 1) := by decide +kernel
theorem d_Mo_first_66 : decode b_Mo_first 66 = .ok (.iinc 6 1, 3) := by decide +kernel
theorem d_Mo_first_69 : decode b_Mo_first 69 = .ok (.goto (-21), 3) := by decide +kernel
theorem d_Mo_first_72 : decode b_Mo_first 72 = .ok (.aload_n 3, 1) := by decide +kernel
theorem d_Mo_first_73 : decode b_Mo_first 73 = .ok (.iload_n 2, 1) := by decide +kernel
theorem d_Mo_first_74 : decode b_Mo_first 74 = .ok (.iload_n 1, 1) := by decide +kernel
theorem d_Mo_first_75 : decode b_Mo_first 75 = .ok (.if_icmp .le 12, 3) := by decide +kernel
theorem d_Mo_first_78 : decode b_Mo_first 78 = .ok (.aload_n 3, 1) := by decide +kernel
theorem d_Mo_first_79 : decode b_Mo_first 79 = .ok (.getfield 76, 3) := by decide +kernel
theorem d_Mo_first_82 : decode b_Mo_first 82 = .ok (.iconst 1, 1) := by decide +kernel
theorem d_Mo_first_83 : decode b_Mo_first 83 = .ok (.isub, 1) := by decide +kernel
theorem d_Mo_first_84 : decode b_Mo_first 84 = .ok (.goto 7, 3) := by decide +kernel
theorem d_Mo_first_87 : decode b_Mo_first 87 = .ok (.aload_n 3, 1) := by decide +kernel
theorem d_Mo_first_88 : decode b_Mo_first 88 = .ok (.getfield 76, 3) := by decide +kernel
theorem d_Mo_first_91 : decode b_Mo_first 91 = .ok (.putfield 76, 3) := by decide +kernel
theorem d_Mo_first_94 : decode b_Mo_first 94 = .ok (.aload_n 3, 1) := by decide +kernel
theorem d_Mo_first_95 : decode b_Mo_first 95 = .ok (.iload_n 2, 1) := by decide +kernel
theorem d_Mo_first_96 : decode b_Mo_first 96 = .ok (.iload_n 1, 1) := by decide +kernel
theorem d_Mo_first_97 : decode b_Mo_first 97 = .ok (.if_icmp .le 10, 3) := by decide +kernel
theorem d_Mo_first_100 : decode b_Mo_first 100 = .ok (.aload_n 3, 1) := by decide +kernel
theorem d_Mo_first_101 : decode b_Mo_first 101 = .ok (.getfield 73, 3) := by decide +kernel
theorem d_Mo_first_104 : decode b_Mo_first 104 = .ok (.goto 9, 3) := by decide +kernel
theorem d_Mo_first_107 : decode b_Mo_first 107 = .ok (.aload_n 3, 1) := by decide +kernel
theorem d_Mo_first_108 : decode b_Mo_first 108 = .ok (.getfield 73, 3) := by decide +kernel
theorem d_Mo_first_111 : decode b_Mo_first 111 = .ok (.iconst 1, 1) := by decide +kernel
theorem d_Mo_first_112 : decode b_Mo_first 112 = .ok (.isub, 1) := by decide +kernel
theorem d_Mo_first_113 : decode b_Mo_first 113 = .ok (.putfield 73, 3) := by decide +kernel
theorem d_Mo_first_116 : decode b_Mo_first 116 = .ok (.iload 5, 2) := by decide +kernel
theorem d_Mo_first_118 : decode b_Mo_first 118 = .ok (.ireturn, 1) := by decide +kernel
theorem q_Mo_first : px_y y_Mo_first 2 := by unfold px_y; decide +kernel
set_option maxHeartbeats 4000000 in
set_option maxRecDepth 100000 in
theorem c_mo_first (l : Launch) (D : va_G) (cs : Nat → ClassId) (RR : Nat → Int) (mo : Nat) (mr : Nat → Nat) (mf : Nat → Int32) (md : Nat → Nat → Int32) (hq : Nat → Nat) (qr : Nat → Nat → Nat) (QO : Nat → Option Nat) (QF : Nat → Nat → Int32) (QA : Nat → Nat → Nat → Int32) (PG : Nat → Pgs) (p0 p1 : Int32)  (g0 : 0 ≤ p0.toInt) (g1 : p0.toInt < 13) (g2 : 0 ≤ p1.toInt) (g3 : p1.toInt < 13) (g4 : p0.toInt < p1.toInt → 1 ≤ (QF p1.toNatClampNeg 21).toInt) (g5 : p1.toInt ≤ p0.toInt → 1 ≤ (QF p0.toNatClampNeg 23).toInt) (hpr : PrA PG RR QO QF QA) (hpg : PgA PG) : MetI l y_Mo_first b_Mo_first 7 (.int) D cs 0 0 (0) (0) [.ref mo, .int p0, .int p1] [wd_Mo cs mo mr (fun _ => none) mf md (gMo PG hq), fm 13 (fPr cs hq qr QO QF QA), fm 8 (fPg cs PG)] (fun _ => True) (fun v ps => ∃ (QO' : Nat → Option Nat) (QF' : Nat → Nat → Int32) (QA' : Nat → Nat → Nat → Int32), (ps = [wd_Mo cs mo mr (fun _ => none) mf md (gMo PG hq), fm 13 (fPr cs hq qr QO' QF' QA'), fm 8 (fPg cs PG)]) ∧ (PrA PG RR QO' QF' QA') ∧ (KpP QO QF QA QO' QF' QA' p0.toNatClampNeg)) := by
  refine px_enter (by decide) (Nat.le_of_ble_eq_true rfl) ?_
  intro p e s m below meth c A ls hAe S hr hlk hnm hA hT hX hw hl
  replace hl : lv_has ls 7 [(0, .ref mo), (1, .int p0), (2, .int p1)] := hl
  have lp0 := Int32.le_toInt p0
  have up0 := Int32.toInt_lt p0
  have lp1 := Int32.le_toInt p1
  have up1 := Int32.toInt_lt p1
  have cst0 : (0 : Int32).toInt = 0 := rfl
  have cst1 : (1 : Int32).toInt = 1 := rfl
  have cst3 : (3 : Int32).toInt = 3 := rfl
  have hkp : KpP QO QF QA QO QF QA p0.toNatClampNeg := KpP.rf
  refine lv_iload_n S.x S.b d_Mo_first_0 rfl (lv_at hl 2 rfl) ?_
  refine lv_iload_n S.x S.b d_Mo_first_1 rfl (lv_at hl 1 rfl) ?_
  refine lv_icmp_le (tgt := 14) S.x S.b d_Mo_first_2 (by decide) (fun c1 => ?_) (fun c1 => ?_)
  · have nc1 : p1.toInt ≤ p0.toInt := (i_le (x := p1) (y := p0)).mp c1
    refine lv_aload_n S.x S.b d_Mo_first_14 rfl (lv_at hl 0 rfl) ?_
    refine px_get S k_Mo hT hw 0 0 5 (v := .ref (mr 5)) rfl rfl rfl (by decide) m11_83 d_Mo_first_15 ?_
    refine lv_iload_n S.x S.b d_Mo_first_18 rfl (lv_at hl 1 rfl) ?_
    refine px_aaldS S hT hw 0 3 10 (n := 13) (f := ((gMo PG hq) 5)) rfl rfl rfl (x := p0) (vp_in_iff.mpr (by first | exact oz_59feca6c45 g0 g1 | (constructor <;> omega))) (sk := (hq p0.toNatClampNeg)) rfl d_Mo_first_19 ?_
    refine lv_astore_n (lv' := [(3, .ref (hq p0.toNatClampNeg)), (0, .ref mo), (1, .int p0), (2, .int p1)]) S.x S.b d_Mo_first_20 rfl hl (by decide) rfl (fun ls hl => ?_)
    refine lv_iload_n S.x S.b d_Mo_first_21 rfl (lv_at hl 3 rfl) ?_
    refine lv_iload_n S.x S.b d_Mo_first_22 rfl (lv_at hl 2 rfl) ?_
    refine lv_icmp_le (tgt := 33) S.x S.b d_Mo_first_23 (by decide) (fun c2 => ?_) (fun c2 => ?_)
    · have nc2 : p1.toInt ≤ p0.toInt := (i_le (x := p1) (y := p0)).mp c2
      refine lv_aload_n S.x S.b d_Mo_first_33 rfl (lv_at hl 0 rfl) ?_
      have hw : pw D A s.heap _ _ [wd_Mo cs mo mr (fun _ => none) mf md (gMo PG hq), fm 8 (fPg cs PG), fm 13 (fPr cs hq qr QO QF QA)] := hw.sub [0, 2, 1] rfl rfl
      have hc3 := cl_nat (x := p0) (by first | exact g0 | omega)
      have hi3 : p0.toNatClampNeg < 13 := by first | exact oz_9995642664 hc3 g1 | omega
      have hw : pw D A s.heap _ _ [wd_Mo cs mo mr (fun _ => none) mf md (gMo PG hq), fm 8 (fPg cs PG), fo 13 (fPr cs hq qr QO QF QA) p0.toNatClampNeg, wd_Mpr cs (hq p0.toNatClampNeg) (qr p0.toNatClampNeg) (fun _ => QO p0.toNatClampNeg) (QF p0.toNatClampNeg) (QA p0.toNatClampNeg) (fun _ _ => none)] := fm_out (pr := [wd_Mo cs mo mr (fun _ => none) mf md (gMo PG hq), fm 8 (fPg cs PG)]) (T := fPr cs hq qr QO QF QA) hw hi3
      have hps3 := hpr.1 p0.toNatClampNeg hi3
      have hpb3 := hps3.1
      unfold PsB at hpb3
      refine px_get S k_Mpr hT hw 3 0 22 (v := .ref ((qr p0.toNatClampNeg) 22)) rfl rfl rfl (by decide) m11_18 d_Mo_first_34 ?_
      refine lv_astore (lv' := [(4, .ref ((qr p0.toNatClampNeg) 22)), (3, .ref (hq p0.toNatClampNeg)), (0, .ref mo), (1, .int p0), (2, .int p1)]) S.x S.b d_Mo_first_37 hl (by decide) rfl (fun ls hl => ?_)
      refine lv_aload S.x S.b d_Mo_first_39 (lv_at hl 0 rfl) ?_
      refine lv_iconst (v := 0) S.x S.b d_Mo_first_41 (by decide) ?_
      refine px_iald S hT hw 3 9 (n := 4) (f := ((QA p0.toNatClampNeg) 22)) rfl (ga_Mpr_22 _ _ _ _ _ _ _) (x := 0) (vp_in_iff.mpr (by constructor <;> omega)) d_Mo_first_42 ?_
      refine lv_topi (fun z4 ez4 => ?_)
      have lz4 := Int32.le_toInt z4
      have uz4 := Int32.toInt_lt z4
      refine lv_istore (lv' := [(5, .int z4), (4, .ref ((qr p0.toNatClampNeg) 22)), (3, .ref (hq p0.toNatClampNeg)), (0, .ref mo), (1, .int p0), (2, .int p1)]) S.x S.b d_Mo_first_43 hl (by decide) rfl (fun ls hl => ?_)
      refine lv_iconst (v := 0) S.x S.b d_Mo_first_45 (by decide) ?_
      refine lv_istore (lv' := [(6, .int 0), (5, .int z4), (4, .ref ((qr p0.toNatClampNeg) 22)), (3, .ref (hq p0.toNatClampNeg)), (0, .ref mo), (1, .int p0), (2, .int p1)]) S.x S.b d_Mo_first_46 hl (by decide) rfl (fun ls hl => ?_)
      refine lv_iload S.x S.b d_Mo_first_48 (lv_at hl 0 rfl) ?_
      refine lv_iconst (v := 3) S.x S.b d_Mo_first_50 (by decide) ?_
      refine lv_icmp_ge (tgt := 72) S.x S.b d_Mo_first_51 (by decide) (fun c5 => ?_) (fun c5 => ?_)
      · exact absurd c5 (by decide)
      ·
        refine lv_aload S.x S.b d_Mo_first_54 (lv_at hl 2 rfl) ?_
        refine lv_iload S.x S.b d_Mo_first_56 (lv_at hl 0 rfl) ?_
        refine lv_aload S.x S.b d_Mo_first_58 (lv_at hl 2 rfl) ?_
        refine lv_iload S.x S.b d_Mo_first_60 (lv_at hl 0 rfl) ?_
        refine lv_iconst (v := 1) S.x S.b d_Mo_first_62 (by decide) ?_
        refine lv_iadd S.x S.b d_Mo_first_63 ?_
        refine lv_topi (fun z6 ez6 => ?_)
        have tz6 : z6.toInt = ((0 : Int) + (1 : Int) + 2147483648) % 4294967296 - 2147483648 := by rw [ez6]; exact i_add 0 1
        have lz6 := Int32.le_toInt z6
        have uz6 := Int32.toInt_lt z6
        try replace tz6 : z6.toInt = (0 : Int) + (1 : Int) := by omega
        refine px_iald S hT hw 3 9 (n := 4) (f := ((QA p0.toNatClampNeg) 22)) rfl (ga_Mpr_22 _ _ _ _ _ _ _) (x := z6) (vp_in_iff.mpr (by first | exact oz_f602ee7a0c tz6 | (constructor <;> omega))) d_Mo_first_64 ?_
        refine lv_topi (fun z7 ez7 => ?_)
        have lz7 := Int32.le_toInt z7
        have uz7 := Int32.toInt_lt z7
        refine px_iast S hT hw 3 9 (n := 4) (f := ((QA p0.toNatClampNeg) 22)) (x := 0) (y := z7) rfl (ga_Mpr_22 _ _ _ _ _ _ _) (vp_in_iff.mpr (by constructor <;> omega)) d_Mo_first_65 (w' := wd_Mpr cs (hq p0.toNatClampNeg) (qr p0.toNatClampNeg) (fun _ => QO p0.toNatClampNeg) (QF p0.toNatClampNeg) (va_up (QA p0.toNatClampNeg) 22 (upd ((QA p0.toNatClampNeg) 22) (0 : Int32).toNatClampNeg z7)) (fun _ _ => none)) (ps' := [wd_Mo cs mo mr (fun _ => none) mf md (gMo PG hq), fm 8 (fPg cs PG), fo 13 (fPr cs hq qr QO QF QA) p0.toNatClampNeg, wd_Mpr cs (hq p0.toNatClampNeg) (qr p0.toNatClampNeg) (fun _ => QO p0.toNatClampNeg) (QF p0.toNatClampNeg) (va_up (QA p0.toNatClampNeg) 22 (upd ((QA p0.toNatClampNeg) 22) (0 : Int32).toNatClampNeg z7)) (fun _ _ => none)]) (sa_Mpr_22 _ _ _ _ _ _ _ _) rfl (fun H locs hw => ?_)
        obtain ⟨z8, ez8⟩ : ∃ y : Int32, y = 0 + 1 := ⟨_, rfl⟩
        have tz8 : z8.toInt = ((0 : Int) + 1 + 2147483648) % 4294967296 - 2147483648 := by rw [ez8]; exact i_add 0 1
        have lz8 := Int32.le_toInt z8
        have uz8 := Int32.toInt_lt z8
        try replace tz8 : z8.toInt = (0 : Int) + 1 := by omega
        refine lv_iinc (v := z8) (lv' := [(6, .int z8), (5, .int z4), (4, .ref ((qr p0.toNatClampNeg) 22)), (3, .ref (hq p0.toNatClampNeg)), (0, .ref mo), (1, .int p0), (2, .int p1)]) S.x S.b d_Mo_first_66 hl (k := 0) rfl (by rw [ez8]; rfl) (by decide) rfl (fun ls hl => ?_)
        refine lv_goto (tgt := 48) S.x S.b d_Mo_first_69 (by decide) ?_
        refine lv_iload S.x S.b d_Mo_first_48 (lv_at hl 0 rfl) ?_
        refine lv_iconst (v := 3) S.x S.b d_Mo_first_50 (by decide) ?_
        refine lv_icmp_ge (tgt := 72) S.x S.b d_Mo_first_51 (by decide) (fun c9 => ?_) (fun c9 => ?_)
        · have nc9 : (3 : Int) ≤ z8.toInt := (i_le (x := 3) (y := z8)).mp c9
          exfalso
          omega
        · have nc9 : ¬ (3 : Int) ≤ z8.toInt := mt (i_le (x := 3) (y := z8)).mpr c9
          refine lv_aload S.x S.b d_Mo_first_54 (lv_at hl 2 rfl) ?_
          refine lv_iload S.x S.b d_Mo_first_56 (lv_at hl 0 rfl) ?_
          refine lv_aload S.x S.b d_Mo_first_58 (lv_at hl 2 rfl) ?_
          refine lv_iload S.x S.b d_Mo_first_60 (lv_at hl 0 rfl) ?_
          refine lv_iconst (v := 1) S.x S.b d_Mo_first_62 (by decide) ?_
          refine lv_iadd S.x S.b d_Mo_first_63 ?_
          refine lv_topi (fun z10 ez10 => ?_)
          have tz10 : z10.toInt = (z8.toInt + (1 : Int) + 2147483648) % 4294967296 - 2147483648 := by rw [ez10]; exact i_add z8 1
          have lz10 := Int32.le_toInt z10
          have uz10 := Int32.toInt_lt z10
          try replace tz10 : z10.toInt = z8.toInt + (1 : Int) := by omega
          refine px_iald S hT hw 3 9 (n := 4) (f := ((va_up (QA p0.toNatClampNeg) 22 (upd ((QA p0.toNatClampNeg) 22) (0 : Int32).toNatClampNeg z7)) 22)) rfl (ga_Mpr_22 _ _ _ _ _ _ _) (x := z10) (vp_in_iff.mpr (by first | exact oz_4b89da32f7 tz10 tz8 | (constructor <;> omega))) d_Mo_first_64 ?_
          refine lv_topi (fun z11 ez11 => ?_)
          have lz11 := Int32.le_toInt z11
          have uz11 := Int32.toInt_lt z11
          refine px_iast S hT hw 3 9 (n := 4) (f := ((va_up (QA p0.toNatClampNeg) 22 (upd ((QA p0.toNatClampNeg) 22) (0 : Int32).toNatClampNeg z7)) 22)) (x := z8) (y := z11) rfl (ga_Mpr_22 _ _ _ _ _ _ _) (vp_in_iff.mpr (by constructor <;> omega)) d_Mo_first_65 (w' := wd_Mpr cs (hq p0.toNatClampNeg) (qr p0.toNatClampNeg) (fun _ => QO p0.toNatClampNeg) (QF p0.toNatClampNeg) (va_up (va_up (QA p0.toNatClampNeg) 22 (upd ((QA p0.toNatClampNeg) 22) (0 : Int32).toNatClampNeg z7)) 22 (upd ((va_up (QA p0.toNatClampNeg) 22 (upd ((QA p0.toNatClampNeg) 22) (0 : Int32).toNatClampNeg z7)) 22) z8.toNatClampNeg z11)) (fun _ _ => none)) (ps' := [wd_Mo cs mo mr (fun _ => none) mf md (gMo PG hq), fm 8 (fPg cs PG), fo 13 (fPr cs hq qr QO QF QA) p0.toNatClampNeg, wd_Mpr cs (hq p0.toNatClampNeg) (qr p0.toNatClampNeg) (fun _ => QO p0.toNatClampNeg) (QF p0.toNatClampNeg) (va_up (va_up (QA p0.toNatClampNeg) 22 (upd ((QA p0.toNatClampNeg) 22) (0 : Int32).toNatClampNeg z7)) 22 (upd ((va_up (QA p0.toNatClampNeg) 22 (upd ((QA p0.toNatClampNeg) 22) (0 : Int32).toNatClampNeg z7)) 22) z8.toNatClampNeg z11)) (fun _ _ => none)]) (sa_Mpr_22 _ _ _ _ _ _ _ _) rfl (fun H locs hw => ?_)
          obtain ⟨z12, ez12⟩ : ∃ y : Int32, y = z8 + 1 := ⟨_, rfl⟩
          have tz12 : z12.toInt = (z8.toInt + 1 + 2147483648) % 4294967296 - 2147483648 := by rw [ez12]; exact i_add z8 1
          have lz12 := Int32.le_toInt z12
          have uz12 := Int32.toInt_lt z12
          try replace tz12 : z12.toInt = z8.toInt + 1 := by omega
          refine lv_iinc (v := z12) (lv' := [(6, .int z12), (5, .int z4), (4, .ref ((qr p0.toNatClampNeg) 22)), (3, .ref (hq p0.toNatClampNeg)), (0, .ref mo), (1, .int p0), (2, .int p1)]) S.x S.b d_Mo_first_66 hl (k := 0) rfl (by rw [ez12]; rfl) (by decide) rfl (fun ls hl => ?_)
          refine lv_goto (tgt := 48) S.x S.b d_Mo_first_69 (by decide) ?_
          refine lv_iload S.x S.b d_Mo_first_48 (lv_at hl 0 rfl) ?_
          refine lv_iconst (v := 3) S.x S.b d_Mo_first_50 (by decide) ?_
          refine lv_icmp_ge (tgt := 72) S.x S.b d_Mo_first_51 (by decide) (fun c13 => ?_) (fun c13 => ?_)
          · have nc13 : (3 : Int) ≤ z12.toInt := (i_le (x := 3) (y := z12)).mp c13
            exfalso
            omega
          · have nc13 : ¬ (3 : Int) ≤ z12.toInt := mt (i_le (x := 3) (y := z12)).mpr c13
            refine lv_aload S.x S.b d_Mo_first_54 (lv_at hl 2 rfl) ?_
            refine lv_iload S.x S.b d_Mo_first_56 (lv_at hl 0 rfl) ?_
            refine lv_aload S.x S.b d_Mo_first_58 (lv_at hl 2 rfl) ?_
            refine lv_iload S.x S.b d_Mo_first_60 (lv_at hl 0 rfl) ?_
            refine lv_iconst (v := 1) S.x S.b d_Mo_first_62 (by decide) ?_
            refine lv_iadd S.x S.b d_Mo_first_63 ?_
            refine lv_topi (fun z14 ez14 => ?_)
            have tz14 : z14.toInt = (z12.toInt + (1 : Int) + 2147483648) % 4294967296 - 2147483648 := by rw [ez14]; exact i_add z12 1
            have lz14 := Int32.le_toInt z14
            have uz14 := Int32.toInt_lt z14
            try replace tz14 : z14.toInt = z12.toInt + (1 : Int) := by omega
            refine px_iald S hT hw 3 9 (n := 4) (f := ((va_up (va_up (QA p0.toNatClampNeg) 22 (upd ((QA p0.toNatClampNeg) 22) (0 : Int32).toNatClampNeg z7)) 22 (upd ((va_up (QA p0.toNatClampNeg) 22 (upd ((QA p0.toNatClampNeg) 22) (0 : Int32).toNatClampNeg z7)) 22) z8.toNatClampNeg z11)) 22)) rfl (ga_Mpr_22 _ _ _ _ _ _ _) (x := z14) (vp_in_iff.mpr (by first | exact oz_cdce736968 tz14 tz12 tz8 nc13 | (constructor <;> omega))) d_Mo_first_64 ?_
            refine lv_topi (fun z15 ez15 => ?_)
            have lz15 := Int32.le_toInt z15
            have uz15 := Int32.toInt_lt z15
            refine px_iast S hT hw 3 9 (n := 4) (f := ((va_up (va_up (QA p0.toNatClampNeg) 22 (upd ((QA p0.toNatClampNeg) 22) (0 : Int32).toNatClampNeg z7)) 22 (upd ((va_up (QA p0.toNatClampNeg) 22 (upd ((QA p0.toNatClampNeg) 22) (0 : Int32).toNatClampNeg z7)) 22) z8.toNatClampNeg z11)) 22)) (x := z12) (y := z15) rfl (ga_Mpr_22 _ _ _ _ _ _ _) (vp_in_iff.mpr (by constructor <;> omega)) d_Mo_first_65 (w' := wd_Mpr cs (hq p0.toNatClampNeg) (qr p0.toNatClampNeg) (fun _ => QO p0.toNatClampNeg) (QF p0.toNatClampNeg) (va_up (va_up (va_up (QA p0.toNatClampNeg) 22 (upd ((QA p0.toNatClampNeg) 22) (0 : Int32).toNatClampNeg z7)) 22 (upd ((va_up (QA p0.toNatClampNeg) 22 (upd ((QA p0.toNatClampNeg) 22) (0 : Int32).toNatClampNeg z7)) 22) z8.toNatClampNeg z11)) 22 (upd ((va_up (va_up (QA p0.toNatClampNeg) 22 (upd ((QA p0.toNatClampNeg) 22) (0 : Int32).toNatClampNeg z7)) 22 (upd ((va_up (QA p0.toNatClampNeg) 22 (upd ((QA p0.toNatClampNeg) 22) (0 : Int32).toNatClampNeg z7)) 22) z8.toNatClampNeg z11)) 22) z12.toNatClampNeg z15)) (fun _ _ => none)) (ps' := [wd_Mo cs mo mr (fun _ => none) mf md (gMo PG hq), fm 8 (fPg cs PG), fo 13 (fPr cs hq qr QO QF QA) p0.toNatClampNeg, wd_Mpr cs (hq p0.toNatClampNeg) (qr p0.toNatClampNeg) (fun _ => QO p0.toNatClampNeg) (QF p0.toNatClampNeg) (va_up (va_up (va_up (QA p0.toNatClampNeg) 22 (upd ((QA p0.toNatClampNeg) 22) (0 : Int32).toNatClampNeg z7)) 22 (upd ((va_up (QA p0.toNatClampNeg) 22 (upd ((QA p0.toNatClampNeg) 22) (0 : Int32).toNatClampNeg z7)) 22) z8.toNatClampNeg z11)) 22 (upd ((va_up (va_up (QA p0.toNatClampNeg) 22 (upd ((QA p0.toNatClampNeg) 22) (0 : Int32).toNatClampNeg z7)) 22 (upd ((va_up (QA p0.toNatClampNeg) 22 (upd ((QA p0.toNatClampNeg) 22) (0 : Int32).toNatClampNeg z7)) 22) z8.toNatClampNeg z11)) 22) z12.toNatClampNeg z15)) (fun _ _ => none)]) (sa_Mpr_22 _ _ _ _ _ _ _ _) rfl (fun H locs hw => ?_)
            obtain ⟨z16, ez16⟩ : ∃ y : Int32, y = z12 + 1 := ⟨_, rfl⟩
            have tz16 : z16.toInt = (z12.toInt + 1 + 2147483648) % 4294967296 - 2147483648 := by rw [ez16]; exact i_add z12 1
            have lz16 := Int32.le_toInt z16
            have uz16 := Int32.toInt_lt z16
            try replace tz16 : z16.toInt = z12.toInt + 1 := by omega
            refine lv_iinc (v := z16) (lv' := [(6, .int z16), (5, .int z4), (4, .ref ((qr p0.toNatClampNeg) 22)), (3, .ref (hq p0.toNatClampNeg)), (0, .ref mo), (1, .int p0), (2, .int p1)]) S.x S.b d_Mo_first_66 hl (k := 0) rfl (by rw [ez16]; rfl) (by decide) rfl (fun ls hl => ?_)
            refine lv_goto (tgt := 48) S.x S.b d_Mo_first_69 (by decide) ?_
            refine lv_iload S.x S.b d_Mo_first_48 (lv_at hl 0 rfl) ?_
            refine lv_iconst (v := 3) S.x S.b d_Mo_first_50 (by decide) ?_
            refine lv_icmp_ge (tgt := 72) S.x S.b d_Mo_first_51 (by decide) (fun c17 => ?_) (fun c17 => ?_)
            · have nc17 : (3 : Int) ≤ z16.toInt := (i_le (x := 3) (y := z16)).mp c17
              refine lv_aload_n S.x S.b d_Mo_first_72 rfl (lv_at hl 3 rfl) ?_
              refine lv_iload_n S.x S.b d_Mo_first_73 rfl (lv_at hl 6 rfl) ?_
              refine lv_iload_n S.x S.b d_Mo_first_74 rfl (lv_at hl 5 rfl) ?_
              refine lv_icmp_le (tgt := 87) S.x S.b d_Mo_first_75 (by decide) (fun c18 => ?_) (fun c18 => ?_)
              · have nc18 : p1.toInt ≤ p0.toInt := (i_le (x := p1) (y := p0)).mp c18
                refine lv_aload_n S.x S.b d_Mo_first_87 rfl (lv_at hl 3 rfl) ?_
                refine px_get S k_Mpr hT hw 3 0 21 (v := .int ((QF p0.toNatClampNeg) 21)) rfl rfl rfl (by decide) m11_16 d_Mo_first_88 ?_
                refine px_put S k_Mpr hT hw 3 0 21 rfl rfl (by decide) m11_16 rfl rfl rfl (Nat.le_of_ble_eq_true rfl) d_Mo_first_91 (w' := wd_Mpr cs (hq p0.toNatClampNeg) (qr p0.toNatClampNeg) (fun _ => QO p0.toNatClampNeg) (upd (QF p0.toNatClampNeg) 21 ((QF p0.toNatClampNeg) 21)) (va_up (va_up (va_up (QA p0.toNatClampNeg) 22 (upd ((QA p0.toNatClampNeg) 22) (0 : Int32).toNatClampNeg z7)) 22 (upd ((va_up (QA p0.toNatClampNeg) 22 (upd ((QA p0.toNatClampNeg) 22) (0 : Int32).toNatClampNeg z7)) 22) z8.toNatClampNeg z11)) 22 (upd ((va_up (va_up (QA p0.toNatClampNeg) 22 (upd ((QA p0.toNatClampNeg) 22) (0 : Int32).toNatClampNeg z7)) 22 (upd ((va_up (QA p0.toNatClampNeg) 22 (upd ((QA p0.toNatClampNeg) 22) (0 : Int32).toNatClampNeg z7)) 22) z8.toNatClampNeg z11)) 22) z12.toNatClampNeg z15)) (fun _ _ => none)) (ps' := [wd_Mo cs mo mr (fun _ => none) mf md (gMo PG hq), fm 8 (fPg cs PG), fo 13 (fPr cs hq qr QO QF QA) p0.toNatClampNeg, wd_Mpr cs (hq p0.toNatClampNeg) (qr p0.toNatClampNeg) (fun _ => QO p0.toNatClampNeg) (upd (QF p0.toNatClampNeg) 21 ((QF p0.toNatClampNeg) 21)) (va_up (va_up (va_up (QA p0.toNatClampNeg) 22 (upd ((QA p0.toNatClampNeg) 22) (0 : Int32).toNatClampNeg z7)) 22 (upd ((va_up (QA p0.toNatClampNeg) 22 (upd ((QA p0.toNatClampNeg) 22) (0 : Int32).toNatClampNeg z7)) 22) z8.toNatClampNeg z11)) 22 (upd ((va_up (va_up (QA p0.toNatClampNeg) 22 (upd ((QA p0.toNatClampNeg) 22) (0 : Int32).toNatClampNeg z7)) 22 (upd ((va_up (QA p0.toNatClampNeg) 22 (upd ((QA p0.toNatClampNeg) 22) (0 : Int32).toNatClampNeg z7)) 22) z8.toNatClampNeg z11)) 22) z12.toNatClampNeg z15)) (fun _ _ => none)]) rfl rfl (fun H locs hw => ?_)
                refine lv_aload_n S.x S.b d_Mo_first_94 rfl (lv_at hl 3 rfl) ?_
                refine lv_iload_n S.x S.b d_Mo_first_95 rfl (lv_at hl 6 rfl) ?_
                refine lv_iload_n S.x S.b d_Mo_first_96 rfl (lv_at hl 5 rfl) ?_
                refine lv_icmp_le (tgt := 107) S.x S.b d_Mo_first_97 (by decide) (fun c19 => ?_) (fun c19 => ?_)
                · have nc19 : p1.toInt ≤ p0.toInt := (i_le (x := p1) (y := p0)).mp c19
                  refine lv_aload_n S.x S.b d_Mo_first_107 rfl (lv_at hl 3 rfl) ?_
                  refine px_get S k_Mpr hT hw 3 0 23 (v := .int ((QF p0.toNatClampNeg) 23)) rfl rfl rfl (by decide) m11_20 d_Mo_first_108 ?_
                  refine lv_iconst (v := 1) S.x S.b d_Mo_first_111 (by decide) ?_
                  refine lv_isub S.x S.b d_Mo_first_112 ?_
                  have lr20 := Int32.le_toInt ((QF p0.toNatClampNeg) 23)
                  have ur20 := Int32.toInt_lt ((QF p0.toNatClampNeg) 23)
                  refine lv_topi (fun z21 ez21 => ?_)
                  have tz21 : z21.toInt = (((QF p0.toNatClampNeg) 23).toInt - (1 : Int) + 2147483648) % 4294967296 - 2147483648 := by rw [ez21]; exact i_sub ((QF p0.toNatClampNeg) 23) 1
                  have lz21 := Int32.le_toInt z21
                  have uz21 := Int32.toInt_lt z21
                  try replace tz21 : z21.toInt = ((QF p0.toNatClampNeg) 23).toInt - (1 : Int) := by omega
                  refine px_put S k_Mpr hT hw 3 0 23 rfl rfl (by decide) m11_20 rfl rfl rfl (Nat.le_of_ble_eq_true rfl) d_Mo_first_113 (w' := wd_Mpr cs (hq p0.toNatClampNeg) (qr p0.toNatClampNeg) (fun _ => QO p0.toNatClampNeg) (upd (upd (QF p0.toNatClampNeg) 21 ((QF p0.toNatClampNeg) 21)) 23 z21) (va_up (va_up (va_up (QA p0.toNatClampNeg) 22 (upd ((QA p0.toNatClampNeg) 22) (0 : Int32).toNatClampNeg z7)) 22 (upd ((va_up (QA p0.toNatClampNeg) 22 (upd ((QA p0.toNatClampNeg) 22) (0 : Int32).toNatClampNeg z7)) 22) z8.toNatClampNeg z11)) 22 (upd ((va_up (va_up (QA p0.toNatClampNeg) 22 (upd ((QA p0.toNatClampNeg) 22) (0 : Int32).toNatClampNeg z7)) 22 (upd ((va_up (QA p0.toNatClampNeg) 22 (upd ((QA p0.toNatClampNeg) 22) (0 : Int32).toNatClampNeg z7)) 22) z8.toNatClampNeg z11)) 22) z12.toNatClampNeg z15)) (fun _ _ => none)) (ps' := [wd_Mo cs mo mr (fun _ => none) mf md (gMo PG hq), fm 8 (fPg cs PG), fo 13 (fPr cs hq qr QO QF QA) p0.toNatClampNeg, wd_Mpr cs (hq p0.toNatClampNeg) (qr p0.toNatClampNeg) (fun _ => QO p0.toNatClampNeg) (upd (upd (QF p0.toNatClampNeg) 21 ((QF p0.toNatClampNeg) 21)) 23 z21) (va_up (va_up (va_up (QA p0.toNatClampNeg) 22 (upd ((QA p0.toNatClampNeg) 22) (0 : Int32).toNatClampNeg z7)) 22 (upd ((va_up (QA p0.toNatClampNeg) 22 (upd ((QA p0.toNatClampNeg) 22) (0 : Int32).toNatClampNeg z7)) 22) z8.toNatClampNeg z11)) 22 (upd ((va_up (va_up (QA p0.toNatClampNeg) 22 (upd ((QA p0.toNatClampNeg) 22) (0 : Int32).toNatClampNeg z7)) 22 (upd ((va_up (QA p0.toNatClampNeg) 22 (upd ((QA p0.toNatClampNeg) 22) (0 : Int32).toNatClampNeg z7)) 22) z8.toNatClampNeg z11)) 22) z12.toNatClampNeg z15)) (fun _ _ => none)]) rfl rfl (fun H locs hw => ?_)
                  refine lv_iload S.x S.b d_Mo_first_116 (lv_at hl 1 rfl) ?_
                  have hw := fpr_in (pr := [wd_Mo cs mo mr (fun _ => none) mf md (gMo PG hq), fm 8 (fPg cs PG)]) hw hi3
                  obtain ⟨QO22, hu_QO22⟩ : ∃ y : Nat → Option Nat, y = va_up QO p0.toNatClampNeg ((fun _ => QO p0.toNatClampNeg) 0) := ⟨_, rfl⟩
                  obtain ⟨QF23, hu_QF23⟩ : ∃ y : Nat → Nat → Int32, y = va_up QF p0.toNatClampNeg (upd (upd (QF p0.toNatClampNeg) 21 ((QF p0.toNatClampNeg) 21)) 23 z21) := ⟨_, rfl⟩
                  obtain ⟨QA24, hu_QA24⟩ : ∃ y : Nat → Nat → Nat → Int32, y = va_up QA p0.toNatClampNeg (va_up (va_up (va_up (QA p0.toNatClampNeg) 22 (upd ((QA p0.toNatClampNeg) 22) (0 : Int32).toNatClampNeg z7)) 22 (upd ((va_up (QA p0.toNatClampNeg) 22 (upd ((QA p0.toNatClampNeg) 22) (0 : Int32).toNatClampNeg z7)) 22) z8.toNatClampNeg z11)) 22 (upd ((va_up (va_up (QA p0.toNatClampNeg) 22 (upd ((QA p0.toNatClampNeg) 22) (0 : Int32).toNatClampNeg z7)) 22 (upd ((va_up (QA p0.toNatClampNeg) 22 (upd ((QA p0.toNatClampNeg) 22) (0 : Int32).toNatClampNeg z7)) 22) z8.toNatClampNeg z11)) 22) z12.toNatClampNeg z15)) := ⟨_, rfl⟩
                  have hw : pw D A s.heap _ _ [wd_Mo cs mo mr (fun _ => none) mf md (gMo PG hq), fm 8 (fPg cs PG), fm 13 (fPr cs hq qr QO22 QF23 QA24)] := (by rw [hu_QO22, hu_QF23, hu_QA24]; exact hw)
                  have hpr : PrA PG RR QO22 QF23 QA24 := (by rw [hu_QO22, hu_QF23, hu_QA24]; exact PrA.up hpr (PsR.ud hps3 (f' := (upd (upd (QF p0.toNatClampNeg) 21 ((QF p0.toNatClampNeg) 21)) 23 z21)) (a' := (va_up (va_up (va_up (QA p0.toNatClampNeg) 22 (upd ((QA p0.toNatClampNeg) 22) (0 : Int32).toNatClampNeg z7)) 22 (upd ((va_up (QA p0.toNatClampNeg) 22 (upd ((QA p0.toNatClampNeg) 22) (0 : Int32).toNatClampNeg z7)) 22) z8.toNatClampNeg z11)) 22 (upd ((va_up (va_up (QA p0.toNatClampNeg) 22 (upd ((QA p0.toNatClampNeg) 22) (0 : Int32).toNatClampNeg z7)) 22 (upd ((va_up (QA p0.toNatClampNeg) 22 (upd ((QA p0.toNatClampNeg) 22) (0 : Int32).toNatClampNeg z7)) 22) z8.toNatClampNeg z11)) 22) z12.toNatClampNeg z15))) (show (0 ≤ ((QF p0.toNatClampNeg) 1).toInt ∧ ((QF p0.toNatClampNeg) 1).toInt ≤ 1) ∧ (0 ≤ ((QF p0.toNatClampNeg) 21).toInt ∧ ((QF p0.toNatClampNeg) 21).toInt ≤ 4) ∧ (0 ≤ z21.toInt ∧ z21.toInt ≤ 4) ∧ (0 ≤ ((QF p0.toNatClampNeg) 24).toInt ∧ ((QF p0.toNatClampNeg) 24).toInt ≤ 1000000) ∧ (0 ≤ ((QF p0.toNatClampNeg) 6).toInt ∧ ((QF p0.toNatClampNeg) 6).toInt ≤ 3) ∧ (0 ≤ ((QF p0.toNatClampNeg) 7).toInt ∧ ((QF p0.toNatClampNeg) 7).toInt ≤ 1) from by first | with_reducible rfl | with_reducible assumption | omega) (fun k9 a9 b9 => by first | rfl | exact pk_un a9 | exact pk_un b9 | exact (pk_un b9).trans (pk_un a9)) (fun k9 a9 b9 => by first | rfl | simp only [va_up_n a9, va_up_n b9])) (show ((QF p0.toNatClampNeg) 1).toInt = (QF p0.toNatClampNeg 1).toInt from by first | exact oz_507c05ca68 | omega) (show (QF p0.toNatClampNeg 6).toInt ≤ ((QF p0.toNatClampNeg) 6).toInt from by first | exact oz_1cb5f934a5 | omega))
                  have hkp : KpP QO QF QA QO22 QF23 QA24 p0.toNatClampNeg := (by rw [hu_QO22, hu_QF23, hu_QA24]; exact KpP.up hkp rfl (show (((QF p0.toNatClampNeg) 1).toInt = (QF p0.toNatClampNeg 1).toInt ∧ ((QF p0.toNatClampNeg) 4).toInt = (QF p0.toNatClampNeg 4).toInt ∧ ((QF p0.toNatClampNeg) 5).toInt = (QF p0.toNatClampNeg 5).toInt ∧ ((QF p0.toNatClampNeg) 7).toInt = (QF p0.toNatClampNeg 7).toInt ∧ ((QF p0.toNatClampNeg) 10).toInt = (QF p0.toNatClampNeg 10).toInt ∧ ((QF p0.toNatClampNeg) 11).toInt = (QF p0.toNatClampNeg 11).toInt) ∧ ((QF p0.toNatClampNeg) 12).toInt = (QF p0.toNatClampNeg 12).toInt ∧ ((QF p0.toNatClampNeg) 13).toInt = (QF p0.toNatClampNeg 13).toInt ∧ ((QF p0.toNatClampNeg) 14).toInt = (QF p0.toNatClampNeg 14).toInt ∧ ((QF p0.toNatClampNeg) 24).toInt = (QF p0.toNatClampNeg 24).toInt from by first | with_reducible rfl | with_reducible assumption | omega) (fun k9 a9 b9 => by first | rfl | simp only [va_up_n a9, va_up_n b9]))
                  have hw : pw D A s.heap _ _ [wd_Mo cs mo mr (fun _ => none) mf md (gMo PG hq), fm 13 (fPr cs hq qr QO22 QF23 QA24), fm 8 (fPg cs PG)] := hw.sub [0, 2, 1] rfl rfl
                  exact px_iret (v := z4) S hr rfl hlk hAe hw (Nat.le_of_ble_eq_true rfl) (Nat.le_of_ble_eq_true rfl) (⟨QO22, QF23, QA24, rfl, (show PrA PG RR QO22 QF23 QA24 from hpr), (show KpP QO QF QA QO22 QF23 QA24 p0.toNatClampNeg from hkp)⟩) d_Mo_first_118
                · have nc19 : ¬ p1.toInt ≤ p0.toInt := mt (i_le (x := p1) (y := p0)).mpr c19
                  exfalso
                  omega
              · have nc18 : ¬ p1.toInt ≤ p0.toInt := mt (i_le (x := p1) (y := p0)).mpr c18
                exfalso
                omega
            · have nc17 : ¬ (3 : Int) ≤ z16.toInt := mt (i_le (x := 3) (y := z16)).mpr c17
              exfalso
              omega
    · have nc2 : ¬ p1.toInt ≤ p0.toInt := mt (i_le (x := p1) (y := p0)).mpr c2
      exfalso
      omega
  · have nc1 : ¬ p1.toInt ≤ p0.toInt := mt (i_le (x := p1) (y := p0)).mpr c1
    refine lv_aload_n S.x S.b d_Mo_first_5 rfl (lv_at hl 0 rfl) ?_
    refine px_get S k_Mo hT hw 0 0 5 (v := .ref (mr 5)) rfl rfl rfl (by decide) m11_83 d_Mo_first_6 ?_
    refine lv_iload_n S.x S.b d_Mo_first_9 rfl (lv_at hl 2 rfl) ?_
    refine px_aaldS S hT hw 0 3 10 (n := 13) (f := ((gMo PG hq) 5)) rfl rfl rfl (x := p1) (vp_in_iff.mpr (by first | exact oz_003e6f2b09 nc1 g0 g3 | (constructor <;> omega))) (sk := (hq p1.toNatClampNeg)) rfl d_Mo_first_10 ?_
    refine lv_goto (tgt := 20) S.x S.b d_Mo_first_11 (by decide) ?_
    refine lv_astore_n (lv' := [(3, .ref (hq p1.toNatClampNeg)), (0, .ref mo), (1, .int p0), (2, .int p1)]) S.x S.b d_Mo_first_20 rfl hl (by decide) rfl (fun ls hl => ?_)
    refine lv_iload_n S.x S.b d_Mo_first_21 rfl (lv_at hl 3 rfl) ?_
    refine lv_iload_n S.x S.b d_Mo_first_22 rfl (lv_at hl 2 rfl) ?_
    refine lv_icmp_le (tgt := 33) S.x S.b d_Mo_first_23 (by decide) (fun c25 => ?_) (fun c25 => ?_)
    · have nc25 : p1.toInt ≤ p0.toInt := (i_le (x := p1) (y := p0)).mp c25
      exfalso
      omega
    · have nc25 : ¬ p1.toInt ≤ p0.toInt := mt (i_le (x := p1) (y := p0)).mpr c25
      refine lv_aload_n S.x S.b d_Mo_first_26 rfl (lv_at hl 0 rfl) ?_
      have hw : pw D A s.heap _ _ [wd_Mo cs mo mr (fun _ => none) mf md (gMo PG hq), fm 8 (fPg cs PG), fm 13 (fPr cs hq qr QO QF QA)] := hw.sub [0, 2, 1] rfl rfl
      have hc26 := cl_nat (x := p1) (by first | exact g2 | omega)
      have hi26 : p1.toNatClampNeg < 13 := by first | exact oz_9995642664 hc26 g3 | omega
      have hw : pw D A s.heap _ _ [wd_Mo cs mo mr (fun _ => none) mf md (gMo PG hq), fm 8 (fPg cs PG), fo 13 (fPr cs hq qr QO QF QA) p1.toNatClampNeg, wd_Mpr cs (hq p1.toNatClampNeg) (qr p1.toNatClampNeg) (fun _ => QO p1.toNatClampNeg) (QF p1.toNatClampNeg) (QA p1.toNatClampNeg) (fun _ _ => none)] := fm_out (pr := [wd_Mo cs mo mr (fun _ => none) mf md (gMo PG hq), fm 8 (fPg cs PG)]) (T := fPr cs hq qr QO QF QA) hw hi26
      have hps26 := hpr.1 p1.toNatClampNeg hi26
      have hpb26 := hps26.1
      unfold PsB at hpb26
      refine px_get S k_Mpr hT hw 3 0 20 (v := .ref ((qr p1.toNatClampNeg) 20)) rfl rfl rfl (by decide) m11_14 d_Mo_first_27 ?_
      refine lv_goto (tgt := 37) S.x S.b d_Mo_first_30 (by decide) ?_
      refine lv_astore (lv' := [(4, .ref ((qr p1.toNatClampNeg) 20)), (3, .ref (hq p1.toNatClampNeg)), (0, .ref mo), (1, .int p0), (2, .int p1)]) S.x S.b d_Mo_first_37 hl (by decide) rfl (fun ls hl => ?_)
      refine lv_aload S.x S.b d_Mo_first_39 (lv_at hl 0 rfl) ?_
      refine lv_iconst (v := 0) S.x S.b d_Mo_first_41 (by decide) ?_
      refine px_iald S hT hw 3 8 (n := 4) (f := ((QA p1.toNatClampNeg) 20)) rfl (ga_Mpr_20 _ _ _ _ _ _ _) (x := 0) (vp_in_iff.mpr (by constructor <;> omega)) d_Mo_first_42 ?_
      refine lv_topi (fun z27 ez27 => ?_)
      have lz27 := Int32.le_toInt z27
      have uz27 := Int32.toInt_lt z27
      refine lv_istore (lv' := [(5, .int z27), (4, .ref ((qr p1.toNatClampNeg) 20)), (3, .ref (hq p1.toNatClampNeg)), (0, .ref mo), (1, .int p0), (2, .int p1)]) S.x S.b d_Mo_first_43 hl (by decide) rfl (fun ls hl => ?_)
      refine lv_iconst (v := 0) S.x S.b d_Mo_first_45 (by decide) ?_
      refine lv_istore (lv' := [(6, .int 0), (5, .int z27), (4, .ref ((qr p1.toNatClampNeg) 20)), (3, .ref (hq p1.toNatClampNeg)), (0, .ref mo), (1, .int p0), (2, .int p1)]) S.x S.b d_Mo_first_46 hl (by decide) rfl (fun ls hl => ?_)
      refine lv_iload S.x S.b d_Mo_first_48 (lv_at hl 0 rfl) ?_
      refine lv_iconst (v := 3) S.x S.b d_Mo_first_50 (by decide) ?_
      refine lv_icmp_ge (tgt := 72) S.x S.b d_Mo_first_51 (by decide) (fun c28 => ?_) (fun c28 => ?_)
      · exact absurd c28 (by decide)
      ·
        refine lv_aload S.x S.b d_Mo_first_54 (lv_at hl 2 rfl) ?_
        refine lv_iload S.x S.b d_Mo_first_56 (lv_at hl 0 rfl) ?_
        refine lv_aload S.x S.b d_Mo_first_58 (lv_at hl 2 rfl) ?_
        refine lv_iload S.x S.b d_Mo_first_60 (lv_at hl 0 rfl) ?_
        refine lv_iconst (v := 1) S.x S.b d_Mo_first_62 (by decide) ?_
        refine lv_iadd S.x S.b d_Mo_first_63 ?_
        refine lv_topi (fun z29 ez29 => ?_)
        have tz29 : z29.toInt = ((0 : Int) + (1 : Int) + 2147483648) % 4294967296 - 2147483648 := by rw [ez29]; exact i_add 0 1
        have lz29 := Int32.le_toInt z29
        have uz29 := Int32.toInt_lt z29
        try replace tz29 : z29.toInt = (0 : Int) + (1 : Int) := by omega
        refine px_iald S hT hw 3 8 (n := 4) (f := ((QA p1.toNatClampNeg) 20)) rfl (ga_Mpr_20 _ _ _ _ _ _ _) (x := z29) (vp_in_iff.mpr (by first | exact oz_f602ee7a0c tz29 | (constructor <;> omega))) d_Mo_first_64 ?_
        refine lv_topi (fun z30 ez30 => ?_)
        have lz30 := Int32.le_toInt z30
        have uz30 := Int32.toInt_lt z30
        refine px_iast S hT hw 3 8 (n := 4) (f := ((QA p1.toNatClampNeg) 20)) (x := 0) (y := z30) rfl (ga_Mpr_20 _ _ _ _ _ _ _) (vp_in_iff.mpr (by constructor <;> omega)) d_Mo_first_65 (w' := wd_Mpr cs (hq p1.toNatClampNeg) (qr p1.toNatClampNeg) (fun _ => QO p1.toNatClampNeg) (QF p1.toNatClampNeg) (va_up (QA p1.toNatClampNeg) 20 (upd ((QA p1.toNatClampNeg) 20) (0 : Int32).toNatClampNeg z30)) (fun _ _ => none)) (ps' := [wd_Mo cs mo mr (fun _ => none) mf md (gMo PG hq), fm 8 (fPg cs PG), fo 13 (fPr cs hq qr QO QF QA) p1.toNatClampNeg, wd_Mpr cs (hq p1.toNatClampNeg) (qr p1.toNatClampNeg) (fun _ => QO p1.toNatClampNeg) (QF p1.toNatClampNeg) (va_up (QA p1.toNatClampNeg) 20 (upd ((QA p1.toNatClampNeg) 20) (0 : Int32).toNatClampNeg z30)) (fun _ _ => none)]) (sa_Mpr_20 _ _ _ _ _ _ _ _) rfl (fun H locs hw => ?_)
        obtain ⟨z31, ez31⟩ : ∃ y : Int32, y = 0 + 1 := ⟨_, rfl⟩
        have tz31 : z31.toInt = ((0 : Int) + 1 + 2147483648) % 4294967296 - 2147483648 := by rw [ez31]; exact i_add 0 1
        have lz31 := Int32.le_toInt z31
        have uz31 := Int32.toInt_lt z31
        try replace tz31 : z31.toInt = (0 : Int) + 1 := by omega
        refine lv_iinc (v := z31) (lv' := [(6, .int z31), (5, .int z27), (4, .ref ((qr p1.toNatClampNeg) 20)), (3, .ref (hq p1.toNatClampNeg)), (0, .ref mo), (1, .int p0), (2, .int p1)]) S.x S.b d_Mo_first_66 hl (k := 0) rfl (by rw [ez31]; rfl) (by decide) rfl (fun ls hl => ?_)
        refine lv_goto (tgt := 48) S.x S.b d_Mo_first_69 (by decide) ?_
        refine lv_iload S.x S.b d_Mo_first_48 (lv_at hl 0 rfl) ?_
        refine lv_iconst (v := 3) S.x S.b d_Mo_first_50 (by decide) ?_
        refine lv_icmp_ge (tgt := 72) S.x S.b d_Mo_first_51 (by decide) (fun c32 => ?_) (fun c32 => ?_)
        · have nc32 : (3 : Int) ≤ z31.toInt := (i_le (x := 3) (y := z31)).mp c32
          exfalso
          omega
        · have nc32 : ¬ (3 : Int) ≤ z31.toInt := mt (i_le (x := 3) (y := z31)).mpr c32
          refine lv_aload S.x S.b d_Mo_first_54 (lv_at hl 2 rfl) ?_
          refine lv_iload S.x S.b d_Mo_first_56 (lv_at hl 0 rfl) ?_
          refine lv_aload S.x S.b d_Mo_first_58 (lv_at hl 2 rfl) ?_
          refine lv_iload S.x S.b d_Mo_first_60 (lv_at hl 0 rfl) ?_
          refine lv_iconst (v := 1) S.x S.b d_Mo_first_62 (by decide) ?_
          refine lv_iadd S.x S.b d_Mo_first_63 ?_
          refine lv_topi (fun z33 ez33 => ?_)
          have tz33 : z33.toInt = (z31.toInt + (1 : Int) + 2147483648) % 4294967296 - 2147483648 := by rw [ez33]; exact i_add z31 1
          have lz33 := Int32.le_toInt z33
          have uz33 := Int32.toInt_lt z33
          try replace tz33 : z33.toInt = z31.toInt + (1 : Int) := by omega
          refine px_iald S hT hw 3 8 (n := 4) (f := ((va_up (QA p1.toNatClampNeg) 20 (upd ((QA p1.toNatClampNeg) 20) (0 : Int32).toNatClampNeg z30)) 20)) rfl (ga_Mpr_20 _ _ _ _ _ _ _) (x := z33) (vp_in_iff.mpr (by first | exact oz_4b89da32f7 tz33 tz31 | (constructor <;> omega))) d_Mo_first_64 ?_
          refine lv_topi (fun z34 ez34 => ?_)
          have lz34 := Int32.le_toInt z34
          have uz34 := Int32.toInt_lt z34
          refine px_iast S hT hw 3 8 (n := 4) (f := ((va_up (QA p1.toNatClampNeg) 20 (upd ((QA p1.toNatClampNeg) 20) (0 : Int32).toNatClampNeg z30)) 20)) (x := z31) (y := z34) rfl (ga_Mpr_20 _ _ _ _ _ _ _) (vp_in_iff.mpr (by constructor <;> omega)) d_Mo_first_65 (w' := wd_Mpr cs (hq p1.toNatClampNeg) (qr p1.toNatClampNeg) (fun _ => QO p1.toNatClampNeg) (QF p1.toNatClampNeg) (va_up (va_up (QA p1.toNatClampNeg) 20 (upd ((QA p1.toNatClampNeg) 20) (0 : Int32).toNatClampNeg z30)) 20 (upd ((va_up (QA p1.toNatClampNeg) 20 (upd ((QA p1.toNatClampNeg) 20) (0 : Int32).toNatClampNeg z30)) 20) z31.toNatClampNeg z34)) (fun _ _ => none)) (ps' := [wd_Mo cs mo mr (fun _ => none) mf md (gMo PG hq), fm 8 (fPg cs PG), fo 13 (fPr cs hq qr QO QF QA) p1.toNatClampNeg, wd_Mpr cs (hq p1.toNatClampNeg) (qr p1.toNatClampNeg) (fun _ => QO p1.toNatClampNeg) (QF p1.toNatClampNeg) (va_up (va_up (QA p1.toNatClampNeg) 20 (upd ((QA p1.toNatClampNeg) 20) (0 : Int32).toNatClampNeg z30)) 20 (upd ((va_up (QA p1.toNatClampNeg) 20 (upd ((QA p1.toNatClampNeg) 20) (0 : Int32).toNatClampNeg z30)) 20) z31.toNatClampNeg z34)) (fun _ _ => none)]) (sa_Mpr_20 _ _ _ _ _ _ _ _) rfl (fun H locs hw => ?_)
          obtain ⟨z35, ez35⟩ : ∃ y : Int32, y = z31 + 1 := ⟨_, rfl⟩
          have tz35 : z35.toInt = (z31.toInt + 1 + 2147483648) % 4294967296 - 2147483648 := by rw [ez35]; exact i_add z31 1
          have lz35 := Int32.le_toInt z35
          have uz35 := Int32.toInt_lt z35
          try replace tz35 : z35.toInt = z31.toInt + 1 := by omega
          refine lv_iinc (v := z35) (lv' := [(6, .int z35), (5, .int z27), (4, .ref ((qr p1.toNatClampNeg) 20)), (3, .ref (hq p1.toNatClampNeg)), (0, .ref mo), (1, .int p0), (2, .int p1)]) S.x S.b d_Mo_first_66 hl (k := 0) rfl (by rw [ez35]; rfl) (by decide) rfl (fun ls hl => ?_)
          refine lv_goto (tgt := 48) S.x S.b d_Mo_first_69 (by decide) ?_
          refine lv_iload S.x S.b d_Mo_first_48 (lv_at hl 0 rfl) ?_
          refine lv_iconst (v := 3) S.x S.b d_Mo_first_50 (by decide) ?_
          refine lv_icmp_ge (tgt := 72) S.x S.b d_Mo_first_51 (by decide) (fun c36 => ?_) (fun c36 => ?_)
          · have nc36 : (3 : Int) ≤ z35.toInt := (i_le (x := 3) (y := z35)).mp c36
            exfalso
            omega
          · have nc36 : ¬ (3 : Int) ≤ z35.toInt := mt (i_le (x := 3) (y := z35)).mpr c36
            refine lv_aload S.x S.b d_Mo_first_54 (lv_at hl 2 rfl) ?_
            refine lv_iload S.x S.b d_Mo_first_56 (lv_at hl 0 rfl) ?_
            refine lv_aload S.x S.b d_Mo_first_58 (lv_at hl 2 rfl) ?_
            refine lv_iload S.x S.b d_Mo_first_60 (lv_at hl 0 rfl) ?_
            refine lv_iconst (v := 1) S.x S.b d_Mo_first_62 (by decide) ?_
            refine lv_iadd S.x S.b d_Mo_first_63 ?_
            refine lv_topi (fun z37 ez37 => ?_)
            have tz37 : z37.toInt = (z35.toInt + (1 : Int) + 2147483648) % 4294967296 - 2147483648 := by rw [ez37]; exact i_add z35 1
            have lz37 := Int32.le_toInt z37
            have uz37 := Int32.toInt_lt z37
            try replace tz37 : z37.toInt = z35.toInt + (1 : Int) := by omega
            refine px_iald S hT hw 3 8 (n := 4) (f := ((va_up (va_up (QA p1.toNatClampNeg) 20 (upd ((QA p1.toNatClampNeg) 20) (0 : Int32).toNatClampNeg z30)) 20 (upd ((va_up (QA p1.toNatClampNeg) 20 (upd ((QA p1.toNatClampNeg) 20) (0 : Int32).toNatClampNeg z30)) 20) z31.toNatClampNeg z34)) 20)) rfl (ga_Mpr_20 _ _ _ _ _ _ _) (x := z37) (vp_in_iff.mpr (by first | exact oz_cdce736968 tz37 tz35 tz31 nc36 | (constructor <;> omega))) d_Mo_first_64 ?_
            refine lv_topi (fun z38 ez38 => ?_)
            have lz38 := Int32.le_toInt z38
            have uz38 := Int32.toInt_lt z38
            refine px_iast S hT hw 3 8 (n := 4) (f := ((va_up (va_up (QA p1.toNatClampNeg) 20 (upd ((QA p1.toNatClampNeg) 20) (0 : Int32).toNatClampNeg z30)) 20 (upd ((va_up (QA p1.toNatClampNeg) 20 (upd ((QA p1.toNatClampNeg) 20) (0 : Int32).toNatClampNeg z30)) 20) z31.toNatClampNeg z34)) 20)) (x := z35) (y := z38) rfl (ga_Mpr_20 _ _ _ _ _ _ _) (vp_in_iff.mpr (by constructor <;> omega)) d_Mo_first_65 (w' := wd_Mpr cs (hq p1.toNatClampNeg) (qr p1.toNatClampNeg) (fun _ => QO p1.toNatClampNeg) (QF p1.toNatClampNeg) (va_up (va_up (va_up (QA p1.toNatClampNeg) 20 (upd ((QA p1.toNatClampNeg) 20) (0 : Int32).toNatClampNeg z30)) 20 (upd ((va_up (QA p1.toNatClampNeg) 20 (upd ((QA p1.toNatClampNeg) 20) (0 : Int32).toNatClampNeg z30)) 20) z31.toNatClampNeg z34)) 20 (upd ((va_up (va_up (QA p1.toNatClampNeg) 20 (upd ((QA p1.toNatClampNeg) 20) (0 : Int32).toNatClampNeg z30)) 20 (upd ((va_up (QA p1.toNatClampNeg) 20 (upd ((QA p1.toNatClampNeg) 20) (0 : Int32).toNatClampNeg z30)) 20) z31.toNatClampNeg z34)) 20) z35.toNatClampNeg z38)) (fun _ _ => none)) (ps' := [wd_Mo cs mo mr (fun _ => none) mf md (gMo PG hq), fm 8 (fPg cs PG), fo 13 (fPr cs hq qr QO QF QA) p1.toNatClampNeg, wd_Mpr cs (hq p1.toNatClampNeg) (qr p1.toNatClampNeg) (fun _ => QO p1.toNatClampNeg) (QF p1.toNatClampNeg) (va_up (va_up (va_up (QA p1.toNatClampNeg) 20 (upd ((QA p1.toNatClampNeg) 20) (0 : Int32).toNatClampNeg z30)) 20 (upd ((va_up (QA p1.toNatClampNeg) 20 (upd ((QA p1.toNatClampNeg) 20) (0 : Int32).toNatClampNeg z30)) 20) z31.toNatClampNeg z34)) 20 (upd ((va_up (va_up (QA p1.toNatClampNeg) 20 (upd ((QA p1.toNatClampNeg) 20) (0 : Int32).toNatClampNeg z30)) 20 (upd ((va_up (QA p1.toNatClampNeg) 20 (upd ((QA p1.toNatClampNeg) 20) (0 : Int32).toNatClampNeg z30)) 20) z31.toNatClampNeg z34)) 20) z35.toNatClampNeg z38)) (fun _ _ => none)]) (sa_Mpr_20 _ _ _ _ _ _ _ _) rfl (fun H locs hw => ?_)
            obtain ⟨z39, ez39⟩ : ∃ y : Int32, y = z35 + 1 := ⟨_, rfl⟩
            have tz39 : z39.toInt = (z35.toInt + 1 + 2147483648) % 4294967296 - 2147483648 := by rw [ez39]; exact i_add z35 1
            have lz39 := Int32.le_toInt z39
            have uz39 := Int32.toInt_lt z39
            try replace tz39 : z39.toInt = z35.toInt + 1 := by omega
            refine lv_iinc (v := z39) (lv' := [(6, .int z39), (5, .int z27), (4, .ref ((qr p1.toNatClampNeg) 20)), (3, .ref (hq p1.toNatClampNeg)), (0, .ref mo), (1, .int p0), (2, .int p1)]) S.x S.b d_Mo_first_66 hl (k := 0) rfl (by rw [ez39]; rfl) (by decide) rfl (fun ls hl => ?_)
            refine lv_goto (tgt := 48) S.x S.b d_Mo_first_69 (by decide) ?_
            refine lv_iload S.x S.b d_Mo_first_48 (lv_at hl 0 rfl) ?_
            refine lv_iconst (v := 3) S.x S.b d_Mo_first_50 (by decide) ?_
            refine lv_icmp_ge (tgt := 72) S.x S.b d_Mo_first_51 (by decide) (fun c40 => ?_) (fun c40 => ?_)
            · have nc40 : (3 : Int) ≤ z39.toInt := (i_le (x := 3) (y := z39)).mp c40
              refine lv_aload_n S.x S.b d_Mo_first_72 rfl (lv_at hl 3 rfl) ?_
              refine lv_iload_n S.x S.b d_Mo_first_73 rfl (lv_at hl 6 rfl) ?_
              refine lv_iload_n S.x S.b d_Mo_first_74 rfl (lv_at hl 5 rfl) ?_
              refine lv_icmp_le (tgt := 87) S.x S.b d_Mo_first_75 (by decide) (fun c41 => ?_) (fun c41 => ?_)
              · have nc41 : p1.toInt ≤ p0.toInt := (i_le (x := p1) (y := p0)).mp c41
                exfalso
                omega
              · have nc41 : ¬ p1.toInt ≤ p0.toInt := mt (i_le (x := p1) (y := p0)).mpr c41
                refine lv_aload_n S.x S.b d_Mo_first_78 rfl (lv_at hl 3 rfl) ?_
                refine px_get S k_Mpr hT hw 3 0 21 (v := .int ((QF p1.toNatClampNeg) 21)) rfl rfl rfl (by decide) m11_16 d_Mo_first_79 ?_
                refine lv_iconst (v := 1) S.x S.b d_Mo_first_82 (by decide) ?_
                refine lv_isub S.x S.b d_Mo_first_83 ?_
                have lr42 := Int32.le_toInt ((QF p1.toNatClampNeg) 21)
                have ur42 := Int32.toInt_lt ((QF p1.toNatClampNeg) 21)
                refine lv_topi (fun z43 ez43 => ?_)
                have tz43 : z43.toInt = (((QF p1.toNatClampNeg) 21).toInt - (1 : Int) + 2147483648) % 4294967296 - 2147483648 := by rw [ez43]; exact i_sub ((QF p1.toNatClampNeg) 21) 1
                have lz43 := Int32.le_toInt z43
                have uz43 := Int32.toInt_lt z43
                try replace tz43 : z43.toInt = ((QF p1.toNatClampNeg) 21).toInt - (1 : Int) := by omega
                refine lv_goto (tgt := 91) S.x S.b d_Mo_first_84 (by decide) ?_
                refine px_put S k_Mpr hT hw 3 0 21 rfl rfl (by decide) m11_16 rfl rfl rfl (Nat.le_of_ble_eq_true rfl) d_Mo_first_91 (w' := wd_Mpr cs (hq p1.toNatClampNeg) (qr p1.toNatClampNeg) (fun _ => QO p1.toNatClampNeg) (upd (QF p1.toNatClampNeg) 21 z43) (va_up (va_up (va_up (QA p1.toNatClampNeg) 20 (upd ((QA p1.toNatClampNeg) 20) (0 : Int32).toNatClampNeg z30)) 20 (upd ((va_up (QA p1.toNatClampNeg) 20 (upd ((QA p1.toNatClampNeg) 20) (0 : Int32).toNatClampNeg z30)) 20) z31.toNatClampNeg z34)) 20 (upd ((va_up (va_up (QA p1.toNatClampNeg) 20 (upd ((QA p1.toNatClampNeg) 20) (0 : Int32).toNatClampNeg z30)) 20 (upd ((va_up (QA p1.toNatClampNeg) 20 (upd ((QA p1.toNatClampNeg) 20) (0 : Int32).toNatClampNeg z30)) 20) z31.toNatClampNeg z34)) 20) z35.toNatClampNeg z38)) (fun _ _ => none)) (ps' := [wd_Mo cs mo mr (fun _ => none) mf md (gMo PG hq), fm 8 (fPg cs PG), fo 13 (fPr cs hq qr QO QF QA) p1.toNatClampNeg, wd_Mpr cs (hq p1.toNatClampNeg) (qr p1.toNatClampNeg) (fun _ => QO p1.toNatClampNeg) (upd (QF p1.toNatClampNeg) 21 z43) (va_up (va_up (va_up (QA p1.toNatClampNeg) 20 (upd ((QA p1.toNatClampNeg) 20) (0 : Int32).toNatClampNeg z30)) 20 (upd ((va_up (QA p1.toNatClampNeg) 20 (upd ((QA p1.toNatClampNeg) 20) (0 : Int32).toNatClampNeg z30)) 20) z31.toNatClampNeg z34)) 20 (upd ((va_up (va_up (QA p1.toNatClampNeg) 20 (upd ((QA p1.toNatClampNeg) 20) (0 : Int32).toNatClampNeg z30)) 20 (upd ((va_up (QA p1.toNatClampNeg) 20 (upd ((QA p1.toNatClampNeg) 20) (0 : Int32).toNatClampNeg z30)) 20) z31.toNatClampNeg z34)) 20) z35.toNatClampNeg z38)) (fun _ _ => none)]) rfl rfl (fun H locs hw => ?_)
                refine lv_aload_n S.x S.b d_Mo_first_94 rfl (lv_at hl 3 rfl) ?_
                refine lv_iload_n S.x S.b d_Mo_first_95 rfl (lv_at hl 6 rfl) ?_
                refine lv_iload_n S.x S.b d_Mo_first_96 rfl (lv_at hl 5 rfl) ?_
                refine lv_icmp_le (tgt := 107) S.x S.b d_Mo_first_97 (by decide) (fun c44 => ?_) (fun c44 => ?_)
                · have nc44 : p1.toInt ≤ p0.toInt := (i_le (x := p1) (y := p0)).mp c44
                  exfalso
                  omega
                · have nc44 : ¬ p1.toInt ≤ p0.toInt := mt (i_le (x := p1) (y := p0)).mpr c44
                  refine lv_aload_n S.x S.b d_Mo_first_100 rfl (lv_at hl 3 rfl) ?_
                  refine px_get S k_Mpr hT hw 3 0 23 (v := .int ((QF p1.toNatClampNeg) 23)) rfl rfl rfl (by decide) m11_20 d_Mo_first_101 ?_
                  refine lv_goto (tgt := 113) S.x S.b d_Mo_first_104 (by decide) ?_
                  refine px_put S k_Mpr hT hw 3 0 23 rfl rfl (by decide) m11_20 rfl rfl rfl (Nat.le_of_ble_eq_true rfl) d_Mo_first_113 (w' := wd_Mpr cs (hq p1.toNatClampNeg) (qr p1.toNatClampNeg) (fun _ => QO p1.toNatClampNeg) (upd (upd (QF p1.toNatClampNeg) 21 z43) 23 ((QF p1.toNatClampNeg) 23)) (va_up (va_up (va_up (QA p1.toNatClampNeg) 20 (upd ((QA p1.toNatClampNeg) 20) (0 : Int32).toNatClampNeg z30)) 20 (upd ((va_up (QA p1.toNatClampNeg) 20 (upd ((QA p1.toNatClampNeg) 20) (0 : Int32).toNatClampNeg z30)) 20) z31.toNatClampNeg z34)) 20 (upd ((va_up (va_up (QA p1.toNatClampNeg) 20 (upd ((QA p1.toNatClampNeg) 20) (0 : Int32).toNatClampNeg z30)) 20 (upd ((va_up (QA p1.toNatClampNeg) 20 (upd ((QA p1.toNatClampNeg) 20) (0 : Int32).toNatClampNeg z30)) 20) z31.toNatClampNeg z34)) 20) z35.toNatClampNeg z38)) (fun _ _ => none)) (ps' := [wd_Mo cs mo mr (fun _ => none) mf md (gMo PG hq), fm 8 (fPg cs PG), fo 13 (fPr cs hq qr QO QF QA) p1.toNatClampNeg, wd_Mpr cs (hq p1.toNatClampNeg) (qr p1.toNatClampNeg) (fun _ => QO p1.toNatClampNeg) (upd (upd (QF p1.toNatClampNeg) 21 z43) 23 ((QF p1.toNatClampNeg) 23)) (va_up (va_up (va_up (QA p1.toNatClampNeg) 20 (upd ((QA p1.toNatClampNeg) 20) (0 : Int32).toNatClampNeg z30)) 20 (upd ((va_up (QA p1.toNatClampNeg) 20 (upd ((QA p1.toNatClampNeg) 20) (0 : Int32).toNatClampNeg z30)) 20) z31.toNatClampNeg z34)) 20 (upd ((va_up (va_up (QA p1.toNatClampNeg) 20 (upd ((QA p1.toNatClampNeg) 20) (0 : Int32).toNatClampNeg z30)) 20 (upd ((va_up (QA p1.toNatClampNeg) 20 (upd ((QA p1.toNatClampNeg) 20) (0 : Int32).toNatClampNeg z30)) 20) z31.toNatClampNeg z34)) 20) z35.toNatClampNeg z38)) (fun _ _ => none)]) rfl rfl (fun H locs hw => ?_)
                  refine lv_iload S.x S.b d_Mo_first_116 (lv_at hl 1 rfl) ?_
                  have hw := fpr_in (pr := [wd_Mo cs mo mr (fun _ => none) mf md (gMo PG hq), fm 8 (fPg cs PG)]) hw hi26
                  obtain ⟨QO45, hu_QO45⟩ : ∃ y : Nat → Option Nat, y = va_up QO p1.toNatClampNeg ((fun _ => QO p1.toNatClampNeg) 0) := ⟨_, rfl⟩
                  obtain ⟨QF46, hu_QF46⟩ : ∃ y : Nat → Nat → Int32, y = va_up QF p1.toNatClampNeg (upd (upd (QF p1.toNatClampNeg) 21 z43) 23 ((QF p1.toNatClampNeg) 23)) := ⟨_, rfl⟩
                  obtain ⟨QA47, hu_QA47⟩ : ∃ y : Nat → Nat → Nat → Int32, y = va_up QA p1.toNatClampNeg (va_up (va_up (va_up (QA p1.toNatClampNeg) 20 (upd ((QA p1.toNatClampNeg) 20) (0 : Int32).toNatClampNeg z30)) 20 (upd ((va_up (QA p1.toNatClampNeg) 20 (upd ((QA p1.toNatClampNeg) 20) (0 : Int32).toNatClampNeg z30)) 20) z31.toNatClampNeg z34)) 20 (upd ((va_up (va_up (QA p1.toNatClampNeg) 20 (upd ((QA p1.toNatClampNeg) 20) (0 : Int32).toNatClampNeg z30)) 20 (upd ((va_up (QA p1.toNatClampNeg) 20 (upd ((QA p1.toNatClampNeg) 20) (0 : Int32).toNatClampNeg z30)) 20) z31.toNatClampNeg z34)) 20) z35.toNatClampNeg z38)) := ⟨_, rfl⟩
                  have hw : pw D A s.heap _ _ [wd_Mo cs mo mr (fun _ => none) mf md (gMo PG hq), fm 8 (fPg cs PG), fm 13 (fPr cs hq qr QO45 QF46 QA47)] := (by rw [hu_QO45, hu_QF46, hu_QA47]; exact hw)
                  have hpr : PrA PG RR QO45 QF46 QA47 := (by rw [hu_QO45, hu_QF46, hu_QA47]; exact PrA.up hpr (PsR.ud hps26 (f' := (upd (upd (QF p1.toNatClampNeg) 21 z43) 23 ((QF p1.toNatClampNeg) 23))) (a' := (va_up (va_up (va_up (QA p1.toNatClampNeg) 20 (upd ((QA p1.toNatClampNeg) 20) (0 : Int32).toNatClampNeg z30)) 20 (upd ((va_up (QA p1.toNatClampNeg) 20 (upd ((QA p1.toNatClampNeg) 20) (0 : Int32).toNatClampNeg z30)) 20) z31.toNatClampNeg z34)) 20 (upd ((va_up (va_up (QA p1.toNatClampNeg) 20 (upd ((QA p1.toNatClampNeg) 20) (0 : Int32).toNatClampNeg z30)) 20 (upd ((va_up (QA p1.toNatClampNeg) 20 (upd ((QA p1.toNatClampNeg) 20) (0 : Int32).toNatClampNeg z30)) 20) z31.toNatClampNeg z34)) 20) z35.toNatClampNeg z38))) (show (0 ≤ ((QF p1.toNatClampNeg) 1).toInt ∧ ((QF p1.toNatClampNeg) 1).toInt ≤ 1) ∧ (0 ≤ z43.toInt ∧ z43.toInt ≤ 4) ∧ (0 ≤ ((QF p1.toNatClampNeg) 23).toInt ∧ ((QF p1.toNatClampNeg) 23).toInt ≤ 4) ∧ (0 ≤ ((QF p1.toNatClampNeg) 24).toInt ∧ ((QF p1.toNatClampNeg) 24).toInt ≤ 1000000) ∧ (0 ≤ ((QF p1.toNatClampNeg) 6).toInt ∧ ((QF p1.toNatClampNeg) 6).toInt ≤ 3) ∧ (0 ≤ ((QF p1.toNatClampNeg) 7).toInt ∧ ((QF p1.toNatClampNeg) 7).toInt ≤ 1) from by first | with_reducible rfl | with_reducible assumption | omega) (fun k9 a9 b9 => by first | rfl | exact pk_un a9 | exact pk_un b9 | exact (pk_un b9).trans (pk_un a9)) (fun k9 a9 b9 => by first | rfl | simp only [va_up_n a9, va_up_n b9])) (show ((QF p1.toNatClampNeg) 1).toInt = (QF p1.toNatClampNeg 1).toInt from by first | exact oz_507c05ca68 | omega) (show (QF p1.toNatClampNeg 6).toInt ≤ ((QF p1.toNatClampNeg) 6).toInt from by first | exact oz_1cb5f934a5 | omega))
                  have hkp : KpP QO QF QA QO45 QF46 QA47 p0.toNatClampNeg := (by rw [hu_QO45, hu_QF46, hu_QA47]; exact KpP.up hkp rfl (show (((QF p1.toNatClampNeg) 1).toInt = (QF p1.toNatClampNeg 1).toInt ∧ ((QF p1.toNatClampNeg) 4).toInt = (QF p1.toNatClampNeg 4).toInt ∧ ((QF p1.toNatClampNeg) 5).toInt = (QF p1.toNatClampNeg 5).toInt ∧ ((QF p1.toNatClampNeg) 7).toInt = (QF p1.toNatClampNeg 7).toInt ∧ ((QF p1.toNatClampNeg) 10).toInt = (QF p1.toNatClampNeg 10).toInt ∧ ((QF p1.toNatClampNeg) 11).toInt = (QF p1.toNatClampNeg 11).toInt) ∧ ((QF p1.toNatClampNeg) 12).toInt = (QF p1.toNatClampNeg 12).toInt ∧ ((QF p1.toNatClampNeg) 13).toInt = (QF p1.toNatClampNeg 13).toInt ∧ ((QF p1.toNatClampNeg) 14).toInt = (QF p1.toNatClampNeg 14).toInt ∧ ((QF p1.toNatClampNeg) 24).toInt = (QF p1.toNatClampNeg 24).toInt from by first | with_reducible rfl | with_reducible assumption | omega) (fun k9 a9 b9 => by first | rfl | simp only [va_up_n a9, va_up_n b9]))
                  have hw : pw D A s.heap _ _ [wd_Mo cs mo mr (fun _ => none) mf md (gMo PG hq), fm 13 (fPr cs hq qr QO45 QF46 QA47), fm 8 (fPg cs PG)] := hw.sub [0, 2, 1] rfl rfl
                  exact px_iret (v := z27) S hr rfl hlk hAe hw (Nat.le_of_ble_eq_true rfl) (Nat.le_of_ble_eq_true rfl) (⟨QO45, QF46, QA47, rfl, (show PrA PG RR QO45 QF46 QA47 from hpr), (show KpP QO QF QA QO45 QF46 QA47 p0.toNatClampNeg from hkp)⟩) d_Mo_first_118
            · have nc40 : ¬ (3 : Int) ≤ z39.toInt := mt (i_le (x := 3) (y := z39)).mpr c40
              exfalso
              omega
abbrev b_Mo_append : ByteArray := prog_14_method_15_code
def y_Mo_append : MethodName := ⟨"HomeSystemModel", "append", "(III)V"⟩
theorem d_Mo_append_0 : decode b_Mo_append 0 = .ok (.iload_n 2, 1) := by decide +kernel
theorem d_Mo_append_1 : decode b_Mo_append 1 = .ok (.iload_n 1, 1) := by decide +kernel
theorem d_Mo_append_2 : decode b_Mo_append 2 = .ok (.if_icmp .le 41, 3) := by decide +kernel
theorem d_Mo_append_5 : decode b_Mo_append 5 = .ok (.aload_n 0, 1) := by decide +kernel
theorem d_Mo_append_6 : decode b_Mo_append 6 = .ok (.getfield 21, 3) := by decide +kernel
theorem d_Mo_append_9 : decode b_Mo_append 9 = .ok (.iload_n 2, 1) := by decide +kernel
theorem d_Mo_append_10 : decode b_Mo_append 10 = .ok (.aaload, 1) := by decide +kernel
theorem d_Mo_append_11 : decode b_Mo_append 11 = .ok (.getfield 82, 3) := by decide +kernel
theorem d_Mo_append_14 : decode b_Mo_append 14 = .ok (.aload_n 0, 1) := by decide +kernel
theorem d_Mo_append_15 : decode b_Mo_append 15 = .ok (.getfield 21, 3) := by decide +kernel
theorem d_Mo_append_18 : decode b_Mo_append 18 = .ok (.iload_n 2, 1) := by decide +kernel
theorem d_Mo_append_19 : decode b_Mo_append 19 = .ok (.aaload, 1) := by decide +kernel
theorem d_Mo_append_20 : decode b_Mo_append 20 = .ok (.getfield 73, 3) := by decide +kernel
theorem d_Mo_append_23 : decode b_Mo_append 23 = .ok (.iload_n 3, 1) := by decide +kernel
theorem d_Mo_append_24 : decode b_Mo_append 24 = .ok (.iastore, 1) := by decide +kernel
theorem d_Mo_append_25 : decode b_Mo_append 25 = .ok (.aload_n 0, 1) := by decide +kernel
theorem d_Mo_append_26 : decode b_Mo_append 26 = .ok (.getfield 21, 3) := by decide +kernel
theorem d_Mo_append_29 : decode b_Mo_append 29 = .ok (.iload_n 2, 1) := by decide +kernel
theorem d_Mo_append_30 : decode b_Mo_append 30 = .ok (.aaload, 1) := by decide +kernel
theorem d_Mo_append_31 : decode b_Mo_append 31 = .ok (.dup, 1) := by decide +kernel
theorem d_Mo_append_32 : decode b_Mo_append 32 = .ok (.getfield 73, 3) := by decide +kernel
theorem d_Mo_append_35 : decode b_Mo_append 35 = .ok (.iconst 1, 1) := by decide +kernel
theorem d_Mo_append_36 : decode b_Mo_append 36 = .ok (.iadd, 1) := by decide +kernel
theorem d_Mo_append_37 : decode b_Mo_append 37 = .ok (.putfield 73, 3) := by decide +kernel
theorem d_Mo_append_40 : decode b_Mo_append 40 = .ok (.goto 38, 3) := by decide +kernel
theorem d_Mo_append_43 : decode b_Mo_append 43 = .ok (.aload_n 0, 1) := by decide +kernel
theorem d_Mo_append_44 : decode b_Mo_append 44 = .ok (.getfield 21, 3) := by decide +kernel
theorem d_Mo_append_47 : decode b_Mo_append 47 = .ok (.iload_n 1, 1) := by decide +kernel
theorem d_Mo_append_48 : decode b_Mo_append 48 = .ok (.aaload, 1) := by decide +kernel
theorem d_Mo_append_49 : decode b_Mo_append 49 = .ok (.getfield 79, 3) := by decide +kernel
theorem d_Mo_append_52 : decode b_Mo_append 52 = .ok (.aload_n 0, 1) := by decide +kernel
theorem d_Mo_append_53 : decode b_Mo_append 53 = .ok (.getfield 21, 3) := by decide +kernel
theorem d_Mo_append_56 : decode b_Mo_append 56 = .ok (.iload_n 1, 1) := by decide +kernel
theorem d_Mo_append_57 : decode b_Mo_append 57 = .ok (.aaload, 1) := by decide +kernel
theorem d_Mo_append_58 : decode b_Mo_append 58 = .ok (.getfield 76, 3) := by decide +kernel
theorem d_Mo_append_61 : decode b_Mo_append 61 = .ok (.iload_n 3, 1) := by decide +kernel
theorem d_Mo_append_62 : decode b_Mo_append 62 = .ok (.iastore, 1) := by decide +kernel
theorem d_Mo_append_63 : decode b_Mo_append 63 = .ok (.aload_n 0, 1) := by decide +kernel
theorem d_Mo_append_64 : decode b_Mo_append 64 = .ok (.getfield 21, 3) := by decide +kernel
theorem d_Mo_append_67 : decode b_Mo_append 67 = .ok (.iload_n 1, 1) := by decide +kernel
theorem d_Mo_append_68 : decode b_Mo_append 68 = .ok (.aaload, 1) := by decide +kernel
theorem d_Mo_append_69 : decode b_Mo_append 69 = .ok (.dup, 1) := by decide +kernel
theorem d_Mo_append_70 : decode b_Mo_append 70 = .ok (.getfield 76, 3) := by decide +kernel
theorem d_Mo_append_73 : decode b_Mo_append 73 = .ok (.iconst 1, 1) := by decide +kernel
theorem d_Mo_append_74 : decode b_Mo_append 74 = .ok (.iadd, 1) := by decide +kernel
theorem d_Mo_append_75 : decode b_Mo_append 75 = .ok (.putfield 76, 3) := by decide +kernel
theorem d_Mo_append_78 : decode b_Mo_append 78 = .ok (.return_, 1) := by decide +kernel
theorem q_Mo_append : px_y y_Mo_append 3 := by unfold px_y; decide +kernel
set_option maxHeartbeats 4000000 in
set_option maxRecDepth 100000 in
theorem c_mo_append (l : Launch) (D : va_G) (cs : Nat → ClassId) (RR : Nat → Int) (mo : Nat) (mr : Nat → Nat) (mf : Nat → Int32) (md : Nat → Nat → Int32) (hq : Nat → Nat) (qr : Nat → Nat → Nat) (QO : Nat → Option Nat) (QF : Nat → Nat → Int32) (QA : Nat → Nat → Nat → Int32) (PG : Nat → Pgs) (p0 p1 p2 : Int32)  (g0 : 0 ≤ p0.toInt) (g1 : p0.toInt < 13) (g2 : 0 ≤ p1.toInt) (g3 : p1.toInt < 13) (g4 : p0.toInt < p1.toInt → (QF p1.toNatClampNeg 23).toInt < 4) (g5 : p1.toInt ≤ p0.toInt → (QF p0.toNatClampNeg 21).toInt < 4) (hpr : PrA PG RR QO QF QA) (hpg : PgA PG) : MetV l y_Mo_append b_Mo_append 4 D cs 0 0 (0) (0) [.ref mo, .int p0, .int p1, .int p2] [wd_Mo cs mo mr (fun _ => none) mf md (gMo PG hq), fm 13 (fPr cs hq qr QO QF QA), fm 8 (fPg cs PG)] (fun _ => True) (fun ps => ∃ (QO' : Nat → Option Nat) (QF' : Nat → Nat → Int32) (QA' : Nat → Nat → Nat → Int32), (ps = [wd_Mo cs mo mr (fun _ => none) mf md (gMo PG hq), fm 13 (fPr cs hq qr QO' QF' QA'), fm 8 (fPg cs PG)]) ∧ (PrA PG RR QO' QF' QA') ∧ (KpP QO QF QA QO' QF' QA' p0.toNatClampNeg)) := by
  refine px_enter (by decide) (Nat.le_of_ble_eq_true rfl) ?_
  intro p e s m below meth c A ls hAe S hr hlk hnm hA hT hX hw hl
  replace hl : lv_has ls 4 [(0, .ref mo), (1, .int p0), (2, .int p1), (3, .int p2)] := hl
  have lp0 := Int32.le_toInt p0
  have up0 := Int32.toInt_lt p0
  have lp1 := Int32.le_toInt p1
  have up1 := Int32.toInt_lt p1
  have lp2 := Int32.le_toInt p2
  have up2 := Int32.toInt_lt p2
  have cst1 : (1 : Int32).toInt = 1 := rfl
  have hkp : KpP QO QF QA QO QF QA p0.toNatClampNeg := KpP.rf
  refine lv_iload_n S.x S.b d_Mo_append_0 rfl (lv_at hl 2 rfl) ?_
  refine lv_iload_n S.x S.b d_Mo_append_1 rfl (lv_at hl 1 rfl) ?_
  refine lv_icmp_le (tgt := 43) S.x S.b d_Mo_append_2 (by decide) (fun c1 => ?_) (fun c1 => ?_)
  · have nc1 : p1.toInt ≤ p0.toInt := (i_le (x := p1) (y := p0)).mp c1
    refine lv_aload_n S.x S.b d_Mo_append_43 rfl (lv_at hl 0 rfl) ?_
    refine px_get S k_Mo hT hw 0 0 5 (v := .ref (mr 5)) rfl rfl rfl (by decide) m11_83 d_Mo_append_44 ?_
    refine lv_iload_n S.x S.b d_Mo_append_47 rfl (lv_at hl 1 rfl) ?_
    refine px_aaldS S hT hw 0 3 10 (n := 13) (f := ((gMo PG hq) 5)) rfl rfl rfl (x := p0) (vp_in_iff.mpr (by first | exact oz_59feca6c45 g0 g1 | (constructor <;> omega))) (sk := (hq p0.toNatClampNeg)) rfl d_Mo_append_48 ?_
    have hw : pw D A s.heap _ _ [wd_Mo cs mo mr (fun _ => none) mf md (gMo PG hq), fm 8 (fPg cs PG), fm 13 (fPr cs hq qr QO QF QA)] := hw.sub [0, 2, 1] rfl rfl
    have hc2 := cl_nat (x := p0) (by first | exact g0 | omega)
    have hi2 : p0.toNatClampNeg < 13 := by first | exact oz_9995642664 hc2 g1 | omega
    have hw : pw D A s.heap _ _ [wd_Mo cs mo mr (fun _ => none) mf md (gMo PG hq), fm 8 (fPg cs PG), fo 13 (fPr cs hq qr QO QF QA) p0.toNatClampNeg, wd_Mpr cs (hq p0.toNatClampNeg) (qr p0.toNatClampNeg) (fun _ => QO p0.toNatClampNeg) (QF p0.toNatClampNeg) (QA p0.toNatClampNeg) (fun _ _ => none)] := fm_out (pr := [wd_Mo cs mo mr (fun _ => none) mf md (gMo PG hq), fm 8 (fPg cs PG)]) (T := fPr cs hq qr QO QF QA) hw hi2
    have hps2 := hpr.1 p0.toNatClampNeg hi2
    have hpb2 := hps2.1
    unfold PsB at hpb2
    refine px_get S k_Mpr hT hw 3 0 20 (v := .ref ((qr p0.toNatClampNeg) 20)) rfl rfl rfl (by decide) m11_14 d_Mo_append_49 ?_
    refine lv_aload_n S.x S.b d_Mo_append_52 rfl (lv_at hl 0 rfl) ?_
    refine px_get S k_Mo hT hw 0 0 5 (v := .ref (mr 5)) rfl rfl rfl (by decide) m11_83 d_Mo_append_53 ?_
    refine lv_iload_n S.x S.b d_Mo_append_56 rfl (lv_at hl 1 rfl) ?_
    refine px_aaldS S hT hw 0 3 10 (n := 13) (f := ((gMo PG hq) 5)) rfl rfl rfl (x := p0) (vp_in_iff.mpr (by first | exact oz_59feca6c45 g0 g1 | (constructor <;> omega))) (sk := (hq p0.toNatClampNeg)) rfl d_Mo_append_57 ?_
    refine px_get S k_Mpr hT hw 3 0 21 (v := .int ((QF p0.toNatClampNeg) 21)) rfl rfl rfl (by decide) m11_16 d_Mo_append_58 ?_
    refine lv_iload_n S.x S.b d_Mo_append_61 rfl (lv_at hl 3 rfl) ?_
    refine px_iast S hT hw 3 8 (n := 4) (f := ((QA p0.toNatClampNeg) 20)) (x := ((QF p0.toNatClampNeg) 21)) (y := p2) rfl (ga_Mpr_20 _ _ _ _ _ _ _) (vp_in_iff.mpr (by constructor <;> omega)) d_Mo_append_62 (w' := wd_Mpr cs (hq p0.toNatClampNeg) (qr p0.toNatClampNeg) (fun _ => QO p0.toNatClampNeg) (QF p0.toNatClampNeg) (va_up (QA p0.toNatClampNeg) 20 (upd ((QA p0.toNatClampNeg) 20) ((QF p0.toNatClampNeg) 21).toNatClampNeg p2)) (fun _ _ => none)) (ps' := [wd_Mo cs mo mr (fun _ => none) mf md (gMo PG hq), fm 8 (fPg cs PG), fo 13 (fPr cs hq qr QO QF QA) p0.toNatClampNeg, wd_Mpr cs (hq p0.toNatClampNeg) (qr p0.toNatClampNeg) (fun _ => QO p0.toNatClampNeg) (QF p0.toNatClampNeg) (va_up (QA p0.toNatClampNeg) 20 (upd ((QA p0.toNatClampNeg) 20) ((QF p0.toNatClampNeg) 21).toNatClampNeg p2)) (fun _ _ => none)]) (sa_Mpr_20 _ _ _ _ _ _ _ _) rfl (fun H locs hw => ?_)
    refine lv_aload_n S.x S.b d_Mo_append_63 rfl (lv_at hl 0 rfl) ?_
    refine px_get S k_Mo hT hw 0 0 5 (v := .ref (mr 5)) rfl rfl rfl (by decide) m11_83 d_Mo_append_64 ?_
    refine lv_iload_n S.x S.b d_Mo_append_67 rfl (lv_at hl 1 rfl) ?_
    refine px_aaldS S hT hw 0 3 10 (n := 13) (f := ((gMo PG hq) 5)) rfl rfl rfl (x := p0) (vp_in_iff.mpr (by first | exact oz_59feca6c45 g0 g1 | (constructor <;> omega))) (sk := (hq p0.toNatClampNeg)) rfl d_Mo_append_68 ?_
    refine lv_dup S.x S.b d_Mo_append_69 rfl ?_
    refine px_get S k_Mpr hT hw 3 0 21 (v := .int ((QF p0.toNatClampNeg) 21)) rfl rfl rfl (by decide) m11_16 d_Mo_append_70 ?_
    refine lv_iconst (v := 1) S.x S.b d_Mo_append_73 (by decide) ?_
    refine lv_iadd S.x S.b d_Mo_append_74 ?_
    have lr3 := Int32.le_toInt ((QF p0.toNatClampNeg) 21)
    have ur3 := Int32.toInt_lt ((QF p0.toNatClampNeg) 21)
    refine lv_topi (fun z4 ez4 => ?_)
    have tz4 : z4.toInt = (((QF p0.toNatClampNeg) 21).toInt + (1 : Int) + 2147483648) % 4294967296 - 2147483648 := by rw [ez4]; exact i_add ((QF p0.toNatClampNeg) 21) 1
    have lz4 := Int32.le_toInt z4
    have uz4 := Int32.toInt_lt z4
    try replace tz4 : z4.toInt = ((QF p0.toNatClampNeg) 21).toInt + (1 : Int) := by omega
    refine px_put S k_Mpr hT hw 3 0 21 rfl rfl (by decide) m11_16 rfl rfl rfl (Nat.le_of_ble_eq_true rfl) d_Mo_append_75 (w' := wd_Mpr cs (hq p0.toNatClampNeg) (qr p0.toNatClampNeg) (fun _ => QO p0.toNatClampNeg) (upd (QF p0.toNatClampNeg) 21 z4) (va_up (QA p0.toNatClampNeg) 20 (upd ((QA p0.toNatClampNeg) 20) ((QF p0.toNatClampNeg) 21).toNatClampNeg p2)) (fun _ _ => none)) (ps' := [wd_Mo cs mo mr (fun _ => none) mf md (gMo PG hq), fm 8 (fPg cs PG), fo 13 (fPr cs hq qr QO QF QA) p0.toNatClampNeg, wd_Mpr cs (hq p0.toNatClampNeg) (qr p0.toNatClampNeg) (fun _ => QO p0.toNatClampNeg) (upd (QF p0.toNatClampNeg) 21 z4) (va_up (QA p0.toNatClampNeg) 20 (upd ((QA p0.toNatClampNeg) 20) ((QF p0.toNatClampNeg) 21).toNatClampNeg p2)) (fun _ _ => none)]) rfl rfl (fun H locs hw => ?_)
    have hw := fpr_in (pr := [wd_Mo cs mo mr (fun _ => none) mf md (gMo PG hq), fm 8 (fPg cs PG)]) hw hi2
    obtain ⟨QO5, hu_QO5⟩ : ∃ y : Nat → Option Nat, y = va_up QO p0.toNatClampNeg ((fun _ => QO p0.toNatClampNeg) 0) := ⟨_, rfl⟩
    obtain ⟨QF6, hu_QF6⟩ : ∃ y : Nat → Nat → Int32, y = va_up QF p0.toNatClampNeg (upd (QF p0.toNatClampNeg) 21 z4) := ⟨_, rfl⟩
    obtain ⟨QA7, hu_QA7⟩ : ∃ y : Nat → Nat → Nat → Int32, y = va_up QA p0.toNatClampNeg (va_up (QA p0.toNatClampNeg) 20 (upd ((QA p0.toNatClampNeg) 20) ((QF p0.toNatClampNeg) 21).toNatClampNeg p2)) := ⟨_, rfl⟩
    have hw : pw D A s.heap _ _ [wd_Mo cs mo mr (fun _ => none) mf md (gMo PG hq), fm 8 (fPg cs PG), fm 13 (fPr cs hq qr QO5 QF6 QA7)] := (by rw [hu_QO5, hu_QF6, hu_QA7]; exact hw)
    have hpr : PrA PG RR QO5 QF6 QA7 := (by rw [hu_QO5, hu_QF6, hu_QA7]; exact PrA.up hpr (PsR.ud hps2 (f' := (upd (QF p0.toNatClampNeg) 21 z4)) (a' := (va_up (QA p0.toNatClampNeg) 20 (upd ((QA p0.toNatClampNeg) 20) ((QF p0.toNatClampNeg) 21).toNatClampNeg p2))) (show (0 ≤ ((QF p0.toNatClampNeg) 1).toInt ∧ ((QF p0.toNatClampNeg) 1).toInt ≤ 1) ∧ (0 ≤ z4.toInt ∧ z4.toInt ≤ 4) ∧ (0 ≤ ((QF p0.toNatClampNeg) 23).toInt ∧ ((QF p0.toNatClampNeg) 23).toInt ≤ 4) ∧ (0 ≤ ((QF p0.toNatClampNeg) 24).toInt ∧ ((QF p0.toNatClampNeg) 24).toInt ≤ 1000000) ∧ (0 ≤ ((QF p0.toNatClampNeg) 6).toInt ∧ ((QF p0.toNatClampNeg) 6).toInt ≤ 3) ∧ (0 ≤ ((QF p0.toNatClampNeg) 7).toInt ∧ ((QF p0.toNatClampNeg) 7).toInt ≤ 1) from by first | with_reducible rfl | with_reducible assumption | omega) (fun k9 a9 b9 => by first | rfl | exact pk_un a9 | exact pk_un b9 | exact (pk_un b9).trans (pk_un a9)) (fun k9 a9 b9 => by first | rfl | simp only [va_up_n a9, va_up_n b9])) (show ((QF p0.toNatClampNeg) 1).toInt = (QF p0.toNatClampNeg 1).toInt from by first | exact oz_507c05ca68 | omega) (show (QF p0.toNatClampNeg 6).toInt ≤ ((QF p0.toNatClampNeg) 6).toInt from by first | exact oz_1cb5f934a5 | omega))
    have hkp : KpP QO QF QA QO5 QF6 QA7 p0.toNatClampNeg := (by rw [hu_QO5, hu_QF6, hu_QA7]; exact KpP.up hkp rfl (show (((QF p0.toNatClampNeg) 1).toInt = (QF p0.toNatClampNeg 1).toInt ∧ ((QF p0.toNatClampNeg) 4).toInt = (QF p0.toNatClampNeg 4).toInt ∧ ((QF p0.toNatClampNeg) 5).toInt = (QF p0.toNatClampNeg 5).toInt ∧ ((QF p0.toNatClampNeg) 7).toInt = (QF p0.toNatClampNeg 7).toInt ∧ ((QF p0.toNatClampNeg) 10).toInt = (QF p0.toNatClampNeg 10).toInt ∧ ((QF p0.toNatClampNeg) 11).toInt = (QF p0.toNatClampNeg 11).toInt) ∧ ((QF p0.toNatClampNeg) 12).toInt = (QF p0.toNatClampNeg 12).toInt ∧ ((QF p0.toNatClampNeg) 13).toInt = (QF p0.toNatClampNeg 13).toInt ∧ ((QF p0.toNatClampNeg) 14).toInt = (QF p0.toNatClampNeg 14).toInt ∧ ((QF p0.toNatClampNeg) 24).toInt = (QF p0.toNatClampNeg 24).toInt from by first | with_reducible rfl | with_reducible assumption | omega) (fun k9 a9 b9 => by first | rfl | simp only [va_up_n a9, va_up_n b9]))
    have hw : pw D A s.heap _ _ [wd_Mo cs mo mr (fun _ => none) mf md (gMo PG hq), fm 13 (fPr cs hq qr QO5 QF6 QA7), fm 8 (fPg cs PG)] := hw.sub [0, 2, 1] rfl rfl
    exact px_vret S hr hlk hAe hw (Nat.le_of_ble_eq_true rfl) (Nat.le_of_ble_eq_true rfl) (⟨QO5, QF6, QA7, rfl, (show PrA PG RR QO5 QF6 QA7 from hpr), (show KpP QO QF QA QO5 QF6 QA7 p0.toNatClampNeg from hkp)⟩) d_Mo_append_78
  · have nc1 : ¬ p1.toInt ≤ p0.toInt := mt (i_le (x := p1) (y := p0)).mpr c1
    refine lv_aload_n S.x S.b d_Mo_append_5 rfl (lv_at hl 0 rfl) ?_
    refine px_get S k_Mo hT hw 0 0 5 (v := .ref (mr 5)) rfl rfl rfl (by decide) m11_83 d_Mo_append_6 ?_
    refine lv_iload_n S.x S.b d_Mo_append_9 rfl (lv_at hl 2 rfl) ?_
    refine px_aaldS S hT hw 0 3 10 (n := 13) (f := ((gMo PG hq) 5)) rfl rfl rfl (x := p1) (vp_in_iff.mpr (by first | exact oz_003e6f2b09 nc1 g0 g3 | (constructor <;> omega))) (sk := (hq p1.toNatClampNeg)) rfl d_Mo_append_10 ?_
    have hw : pw D A s.heap _ _ [wd_Mo cs mo mr (fun _ => none) mf md (gMo PG hq), fm 8 (fPg cs PG), fm 13 (fPr cs hq qr QO QF QA)] := hw.sub [0, 2, 1] rfl rfl
    have hc8 := cl_nat (x := p1) (by first | exact g2 | omega)
    have hi8 : p1.toNatClampNeg < 13 := by first | exact oz_9995642664 hc8 g3 | omega
    have hw : pw D A s.heap _ _ [wd_Mo cs mo mr (fun _ => none) mf md (gMo PG hq), fm 8 (fPg cs PG), fo 13 (fPr cs hq qr QO QF QA) p1.toNatClampNeg, wd_Mpr cs (hq p1.toNatClampNeg) (qr p1.toNatClampNeg) (fun _ => QO p1.toNatClampNeg) (QF p1.toNatClampNeg) (QA p1.toNatClampNeg) (fun _ _ => none)] := fm_out (pr := [wd_Mo cs mo mr (fun _ => none) mf md (gMo PG hq), fm 8 (fPg cs PG)]) (T := fPr cs hq qr QO QF QA) hw hi8
    have hps8 := hpr.1 p1.toNatClampNeg hi8
    have hpb8 := hps8.1
    unfold PsB at hpb8
    refine px_get S k_Mpr hT hw 3 0 22 (v := .ref ((qr p1.toNatClampNeg) 22)) rfl rfl rfl (by decide) m11_18 d_Mo_append_11 ?_
    refine lv_aload_n S.x S.b d_Mo_append_14 rfl (lv_at hl 0 rfl) ?_
    refine px_get S k_Mo hT hw 0 0 5 (v := .ref (mr 5)) rfl rfl rfl (by decide) m11_83 d_Mo_append_15 ?_
    refine lv_iload_n S.x S.b d_Mo_append_18 rfl (lv_at hl 2 rfl) ?_
    refine px_aaldS S hT hw 0 3 10 (n := 13) (f := ((gMo PG hq) 5)) rfl rfl rfl (x := p1) (vp_in_iff.mpr (by first | exact oz_003e6f2b09 nc1 g0 g3 | (constructor <;> omega))) (sk := (hq p1.toNatClampNeg)) rfl d_Mo_append_19 ?_
    refine px_get S k_Mpr hT hw 3 0 23 (v := .int ((QF p1.toNatClampNeg) 23)) rfl rfl rfl (by decide) m11_20 d_Mo_append_20 ?_
    refine lv_iload_n S.x S.b d_Mo_append_23 rfl (lv_at hl 3 rfl) ?_
    refine px_iast S hT hw 3 9 (n := 4) (f := ((QA p1.toNatClampNeg) 22)) (x := ((QF p1.toNatClampNeg) 23)) (y := p2) rfl (ga_Mpr_22 _ _ _ _ _ _ _) (vp_in_iff.mpr (by constructor <;> omega)) d_Mo_append_24 (w' := wd_Mpr cs (hq p1.toNatClampNeg) (qr p1.toNatClampNeg) (fun _ => QO p1.toNatClampNeg) (QF p1.toNatClampNeg) (va_up (QA p1.toNatClampNeg) 22 (upd ((QA p1.toNatClampNeg) 22) ((QF p1.toNatClampNeg) 23).toNatClampNeg p2)) (fun _ _ => none)) (ps' := [wd_Mo cs mo mr (fun _ => none) mf md (gMo PG hq), fm 8 (fPg cs PG), fo 13 (fPr cs hq qr QO QF QA) p1.toNatClampNeg, wd_Mpr cs (hq p1.toNatClampNeg) (qr p1.toNatClampNeg) (fun _ => QO p1.toNatClampNeg) (QF p1.toNatClampNeg) (va_up (QA p1.toNatClampNeg) 22 (upd ((QA p1.toNatClampNeg) 22) ((QF p1.toNatClampNeg) 23).toNatClampNeg p2)) (fun _ _ => none)]) (sa_Mpr_22 _ _ _ _ _ _ _ _) rfl (fun H locs hw => ?_)
    refine lv_aload_n S.x S.b d_Mo_append_25 rfl (lv_at hl 0 rfl) ?_
    refine px_get S k_Mo hT hw 0 0 5 (v := .ref (mr 5)) rfl rfl rfl (by decide) m11_83 d_Mo_append_26 ?_
    refine lv_iload_n S.x S.b d_Mo_append_29 rfl (lv_at hl 2 rfl) ?_
    refine px_aaldS S hT hw 0 3 10 (n := 13) (f := ((gMo PG hq) 5)) rfl rfl rfl (x := p1) (vp_in_iff.mpr (by first | exact oz_003e6f2b09 nc1 g0 g3 | (constructor <;> omega))) (sk := (hq p1.toNatClampNeg)) rfl d_Mo_append_30 ?_
    refine lv_dup S.x S.b d_Mo_append_31 rfl ?_
    refine px_get S k_Mpr hT hw 3 0 23 (v := .int ((QF p1.toNatClampNeg) 23)) rfl rfl rfl (by decide) m11_20 d_Mo_append_32 ?_
    refine lv_iconst (v := 1) S.x S.b d_Mo_append_35 (by decide) ?_
    refine lv_iadd S.x S.b d_Mo_append_36 ?_
    have lr9 := Int32.le_toInt ((QF p1.toNatClampNeg) 23)
    have ur9 := Int32.toInt_lt ((QF p1.toNatClampNeg) 23)
    refine lv_topi (fun z10 ez10 => ?_)
    have tz10 : z10.toInt = (((QF p1.toNatClampNeg) 23).toInt + (1 : Int) + 2147483648) % 4294967296 - 2147483648 := by rw [ez10]; exact i_add ((QF p1.toNatClampNeg) 23) 1
    have lz10 := Int32.le_toInt z10
    have uz10 := Int32.toInt_lt z10
    try replace tz10 : z10.toInt = ((QF p1.toNatClampNeg) 23).toInt + (1 : Int) := by omega
    refine px_put S k_Mpr hT hw 3 0 23 rfl rfl (by decide) m11_20 rfl rfl rfl (Nat.le_of_ble_eq_true rfl) d_Mo_append_37 (w' := wd_Mpr cs (hq p1.toNatClampNeg) (qr p1.toNatClampNeg) (fun _ => QO p1.toNatClampNeg) (upd (QF p1.toNatClampNeg) 23 z10) (va_up (QA p1.toNatClampNeg) 22 (upd ((QA p1.toNatClampNeg) 22) ((QF p1.toNatClampNeg) 23).toNatClampNeg p2)) (fun _ _ => none)) (ps' := [wd_Mo cs mo mr (fun _ => none) mf md (gMo PG hq), fm 8 (fPg cs PG), fo 13 (fPr cs hq qr QO QF QA) p1.toNatClampNeg, wd_Mpr cs (hq p1.toNatClampNeg) (qr p1.toNatClampNeg) (fun _ => QO p1.toNatClampNeg) (upd (QF p1.toNatClampNeg) 23 z10) (va_up (QA p1.toNatClampNeg) 22 (upd ((QA p1.toNatClampNeg) 22) ((QF p1.toNatClampNeg) 23).toNatClampNeg p2)) (fun _ _ => none)]) rfl rfl (fun H locs hw => ?_)
    refine lv_goto (tgt := 78) S.x S.b d_Mo_append_40 (by decide) ?_
    have hw := fpr_in (pr := [wd_Mo cs mo mr (fun _ => none) mf md (gMo PG hq), fm 8 (fPg cs PG)]) hw hi8
    obtain ⟨QO11, hu_QO11⟩ : ∃ y : Nat → Option Nat, y = va_up QO p1.toNatClampNeg ((fun _ => QO p1.toNatClampNeg) 0) := ⟨_, rfl⟩
    obtain ⟨QF12, hu_QF12⟩ : ∃ y : Nat → Nat → Int32, y = va_up QF p1.toNatClampNeg (upd (QF p1.toNatClampNeg) 23 z10) := ⟨_, rfl⟩
    obtain ⟨QA13, hu_QA13⟩ : ∃ y : Nat → Nat → Nat → Int32, y = va_up QA p1.toNatClampNeg (va_up (QA p1.toNatClampNeg) 22 (upd ((QA p1.toNatClampNeg) 22) ((QF p1.toNatClampNeg) 23).toNatClampNeg p2)) := ⟨_, rfl⟩
    have hw : pw D A s.heap _ _ [wd_Mo cs mo mr (fun _ => none) mf md (gMo PG hq), fm 8 (fPg cs PG), fm 13 (fPr cs hq qr QO11 QF12 QA13)] := (by rw [hu_QO11, hu_QF12, hu_QA13]; exact hw)
    have hpr : PrA PG RR QO11 QF12 QA13 := (by rw [hu_QO11, hu_QF12, hu_QA13]; exact PrA.up hpr (PsR.ud hps8 (f' := (upd (QF p1.toNatClampNeg) 23 z10)) (a' := (va_up (QA p1.toNatClampNeg) 22 (upd ((QA p1.toNatClampNeg) 22) ((QF p1.toNatClampNeg) 23).toNatClampNeg p2))) (show (0 ≤ ((QF p1.toNatClampNeg) 1).toInt ∧ ((QF p1.toNatClampNeg) 1).toInt ≤ 1) ∧ (0 ≤ ((QF p1.toNatClampNeg) 21).toInt ∧ ((QF p1.toNatClampNeg) 21).toInt ≤ 4) ∧ (0 ≤ z10.toInt ∧ z10.toInt ≤ 4) ∧ (0 ≤ ((QF p1.toNatClampNeg) 24).toInt ∧ ((QF p1.toNatClampNeg) 24).toInt ≤ 1000000) ∧ (0 ≤ ((QF p1.toNatClampNeg) 6).toInt ∧ ((QF p1.toNatClampNeg) 6).toInt ≤ 3) ∧ (0 ≤ ((QF p1.toNatClampNeg) 7).toInt ∧ ((QF p1.toNatClampNeg) 7).toInt ≤ 1) from by first | with_reducible rfl | with_reducible assumption | omega) (fun k9 a9 b9 => by first | rfl | exact pk_un a9 | exact pk_un b9 | exact (pk_un b9).trans (pk_un a9)) (fun k9 a9 b9 => by first | rfl | simp only [va_up_n a9, va_up_n b9])) (show ((QF p1.toNatClampNeg) 1).toInt = (QF p1.toNatClampNeg 1).toInt from by first | exact oz_507c05ca68 | omega) (show (QF p1.toNatClampNeg 6).toInt ≤ ((QF p1.toNatClampNeg) 6).toInt from by first | exact oz_1cb5f934a5 | omega))
    have hkp : KpP QO QF QA QO11 QF12 QA13 p0.toNatClampNeg := (by rw [hu_QO11, hu_QF12, hu_QA13]; exact KpP.up hkp rfl (show (((QF p1.toNatClampNeg) 1).toInt = (QF p1.toNatClampNeg 1).toInt ∧ ((QF p1.toNatClampNeg) 4).toInt = (QF p1.toNatClampNeg 4).toInt ∧ ((QF p1.toNatClampNeg) 5).toInt = (QF p1.toNatClampNeg 5).toInt ∧ ((QF p1.toNatClampNeg) 7).toInt = (QF p1.toNatClampNeg 7).toInt ∧ ((QF p1.toNatClampNeg) 10).toInt = (QF p1.toNatClampNeg 10).toInt ∧ ((QF p1.toNatClampNeg) 11).toInt = (QF p1.toNatClampNeg 11).toInt) ∧ ((QF p1.toNatClampNeg) 12).toInt = (QF p1.toNatClampNeg 12).toInt ∧ ((QF p1.toNatClampNeg) 13).toInt = (QF p1.toNatClampNeg 13).toInt ∧ ((QF p1.toNatClampNeg) 14).toInt = (QF p1.toNatClampNeg 14).toInt ∧ ((QF p1.toNatClampNeg) 24).toInt = (QF p1.toNatClampNeg 24).toInt from by first | with_reducible rfl | with_reducible assumption | omega) (fun k9 a9 b9 => by first | rfl | simp only [va_up_n a9, va_up_n b9]))
    have hw : pw D A s.heap _ _ [wd_Mo cs mo mr (fun _ => none) mf md (gMo PG hq), fm 13 (fPr cs hq qr QO11 QF12 QA13), fm 8 (fPg cs PG)] := hw.sub [0, 2, 1] rfl rfl
    exact px_vret S hr hlk hAe hw (Nat.le_of_ble_eq_true rfl) (Nat.le_of_ble_eq_true rfl) (⟨QO11, QF12, QA13, rfl, (show PrA PG RR QO11 QF12 QA13 from hpr), (show KpP QO QF QA QO11 QF12 QA13 p0.toNatClampNeg from hkp)⟩) d_Mo_append_78
abbrev b_Mo_out : ByteArray := prog_14_method_16_code
def y_Mo_out : MethodName := ⟨"HomeSystemModel", "out", "(I)V"⟩
theorem d_Mo_out_0 : decode b_Mo_out 0 = .ok (.aload_n 0, 1) := by decide +kernel
theorem d_Mo_out_1 : decode b_Mo_out 1 = .ok (.getfield 21, 3) := by decide +kernel
theorem d_Mo_out_4 : decode b_Mo_out 4 = .ok (.iload_n 1, 1) := by decide +kernel
theorem d_Mo_out_5 : decode b_Mo_out 5 = .ok (.aaload, 1) := by decide +kernel
theorem d_Mo_out_6 : decode b_Mo_out 6 = .ok (.iconst 2, 1) := by decide +kernel
theorem d_Mo_out_7 : decode b_Mo_out 7 = .ok (.iconst 0, 1) := by decide +kernel
theorem d_Mo_out_8 : decode b_Mo_out 8 = .ok (.invokevirtual 85, 3) := by decide +kernel
theorem d_Mo_out_11 : decode b_Mo_out 11 = .ok (.return_, 1) := by decide +kernel
theorem q_Mo_out : px_y y_Mo_out 1 := by unfold px_y; decide +kernel
set_option maxHeartbeats 4000000 in
set_option maxRecDepth 100000 in
theorem c_mo_out (l : Launch) (D : va_G) (cs : Nat → ClassId) (RR : Nat → Int) (mo : Nat) (mr : Nat → Nat) (mf : Nat → Int32) (md : Nat → Nat → Int32) (hq : Nat → Nat) (qr : Nat → Nat → Nat) (QO : Nat → Option Nat) (QF : Nat → Nat → Int32) (QA : Nat → Nat → Nat → Int32) (PG : Nat → Pgs) (p0 : Int32)  (g0 : 0 ≤ p0.toInt) (g1 : p0.toInt < 13) (hpr : PrA PG RR QO QF QA) (hpg : PgA PG) : MetV l y_Mo_out b_Mo_out 2 D cs 1 40 (0) (0) [.ref mo, .int p0] [wd_Mo cs mo mr (fun _ => none) mf md (gMo PG hq), fm 13 (fPr cs hq qr QO QF QA), fm 8 (fPg cs PG)] (fun _ => True) (fun ps => ∃ (QO' : Nat → Option Nat) (QF' : Nat → Nat → Int32) (QA' : Nat → Nat → Nat → Int32), (ps = [wd_Mo cs mo mr (fun _ => none) mf md (gMo PG hq), fm 13 (fPr cs hq qr QO' QF' QA'), fm 8 (fPg cs PG)]) ∧ (PrA PG RR QO' QF' QA') ∧ (KpP QO QF QA QO' QF' QA' p0.toNatClampNeg) ∧ ((QF' p0.toNatClampNeg 2).toInt ≠ -2)) := by
  refine px_enter (by decide) (Nat.le_of_ble_eq_true rfl) ?_
  intro p e s m below meth c A ls hAe S hr hlk hnm hA hT hX hw hl
  replace hl : lv_has ls 2 [(0, .ref mo), (1, .int p0)] := hl
  have lp0 := Int32.le_toInt p0
  have up0 := Int32.toInt_lt p0
  have cst0 : (0 : Int32).toInt = 0 := rfl
  have cst2 : (2 : Int32).toInt = 2 := rfl
  have hkp : KpP QO QF QA QO QF QA p0.toNatClampNeg := KpP.rf
  refine lv_aload_n S.x S.b d_Mo_out_0 rfl (lv_at hl 0 rfl) ?_
  refine px_get S k_Mo hT hw 0 0 5 (v := .ref (mr 5)) rfl rfl rfl (by decide) m11_83 d_Mo_out_1 ?_
  refine lv_iload_n S.x S.b d_Mo_out_4 rfl (lv_at hl 1 rfl) ?_
  refine px_aaldS S hT hw 0 3 10 (n := 13) (f := ((gMo PG hq) 5)) rfl rfl rfl (x := p0) (vp_in_iff.mpr (by first | exact oz_59feca6c45 g0 g1 | (constructor <;> omega))) (sk := (hq p0.toNatClampNeg)) rfl d_Mo_out_5 ?_
  refine lv_iconst (v := 2) S.x S.b d_Mo_out_6 (by decide) ?_
  refine lv_iconst (v := 0) S.x S.b d_Mo_out_7 (by decide) ?_
  have hw : pw D A s.heap _ _ [wd_Mo cs mo mr (fun _ => none) mf md (gMo PG hq), fm 8 (fPg cs PG), fm 13 (fPr cs hq qr QO QF QA)] := hw.sub [0, 2, 1] rfl rfl
  have hc1 := cl_nat (x := p0) (by first | exact g0 | omega)
  have hi1 : p0.toNatClampNeg < 13 := by first | exact oz_9995642664 hc1 g1 | omega
  have hw : pw D A s.heap _ _ [wd_Mo cs mo mr (fun _ => none) mf md (gMo PG hq), fm 8 (fPg cs PG), fo 13 (fPr cs hq qr QO QF QA) p0.toNatClampNeg, wd_Mpr cs (hq p0.toNatClampNeg) (qr p0.toNatClampNeg) (fun _ => QO p0.toNatClampNeg) (QF p0.toNatClampNeg) (QA p0.toNatClampNeg) (fun _ _ => none)] := fm_out (pr := [wd_Mo cs mo mr (fun _ => none) mf md (gMo PG hq), fm 8 (fPg cs PG)]) (T := fPr cs hq qr QO QF QA) hw hi1
  have hps1 := hpr.1 p0.toNatClampNeg hi1
  have hpb1 := hps1.1
  unfold PsB at hpb1
  refine px_callv (pr := [wd_Mo cs mo mr (fun _ => none) mf md (gMo PG hq), fm 8 (fPg cs PG), fo 13 (fPr cs hq qr QO QF QA) p0.toNatClampNeg]) (px_runV (As := [.int 2, .int 0]) (rest := []) S (c_mq_end l D cs (hq p0.toNatClampNeg) (qr p0.toNatClampNeg) (fun _ _ => none) (fun _ => QO p0.toNatClampNeg) (QA p0.toNatClampNeg) (QF p0.toNatClampNeg) 2 0   _) hT (pr := [wd_Mo cs mo mr (fun _ => none) mf md (gMo PG hq), fm 8 (fPg cs PG), fo 13 (fPr cs hq qr QO QF QA) p0.toNatClampNeg]) (pcs := [wd_Mpr cs (hq p0.toNatClampNeg) (qr p0.toNatClampNeg) (fun _ => QO p0.toNatClampNeg) (QF p0.toNatClampNeg) (QA p0.toNatClampNeg) (fun _ _ => none)]) hw px_X.tt (px_recv hT hw 3 0 rfl rfl rfl) m13_177 m14_35 m13_175 m13_176 m1_22 q_Mpr_end ⟨Nat.le_of_ble_eq_true rfl, Nat.le_of_ble_eq_true rfl⟩ hl.1 rfl (Nat.le_of_ble_eq_true rfl) d_Mo_out_8 ⟨Nat.le_of_ble_eq_true rfl, Nat.le_of_ble_eq_true rfl⟩) hw hA (fun p4 H locs hp4 hw => ?_)
  obtain ⟨qf3, rfl, e6, e7, e8, e9, e10, e11, e12, e13, e14, e15, e16, e17, e18, e19⟩ := hp4
  replace e6 : (qf3 2).toInt = (2 : Int) := e6
  replace e7 : (qf3 1).toInt = ((QF p0.toNatClampNeg) 1).toInt := e7
  replace e8 : (qf3 4).toInt = ((QF p0.toNatClampNeg) 4).toInt := e8
  replace e9 : (qf3 5).toInt = ((QF p0.toNatClampNeg) 5).toInt := e9
  replace e10 : (qf3 6).toInt = ((QF p0.toNatClampNeg) 6).toInt := e10
  replace e11 : (qf3 7).toInt = ((QF p0.toNatClampNeg) 7).toInt := e11
  replace e12 : (qf3 10).toInt = ((QF p0.toNatClampNeg) 10).toInt := e12
  replace e13 : (qf3 11).toInt = ((QF p0.toNatClampNeg) 11).toInt := e13
  replace e14 : (qf3 12).toInt = ((QF p0.toNatClampNeg) 12).toInt := e14
  replace e15 : (qf3 13).toInt = ((QF p0.toNatClampNeg) 13).toInt := e15
  replace e16 : (qf3 14).toInt = ((QF p0.toNatClampNeg) 14).toInt := e16
  replace e17 : (qf3 21).toInt = ((QF p0.toNatClampNeg) 21).toInt := e17
  replace e18 : (qf3 23).toInt = ((QF p0.toNatClampNeg) 23).toInt := e18
  replace e19 : (qf3 24).toInt = ((QF p0.toNatClampNeg) 24).toInt := e19
  replace hw : pw D A s.heap H locs [wd_Mo cs mo mr (fun _ => none) mf md (gMo PG hq), fm 8 (fPg cs PG), fo 13 (fPr cs hq qr QO QF QA) p0.toNatClampNeg, wd_Mpr cs (hq p0.toNatClampNeg) (qr p0.toNatClampNeg) (fun _ => QO p0.toNatClampNeg) qf3 (QA p0.toNatClampNeg) (fun _ _ => none)] := hw
  have hw := fpr_in (pr := [wd_Mo cs mo mr (fun _ => none) mf md (gMo PG hq), fm 8 (fPg cs PG)]) hw hi1
  obtain ⟨QO20, hu_QO20⟩ : ∃ y : Nat → Option Nat, y = va_up QO p0.toNatClampNeg ((fun _ => QO p0.toNatClampNeg) 0) := ⟨_, rfl⟩
  obtain ⟨QF21, hu_QF21⟩ : ∃ y : Nat → Nat → Int32, y = va_up QF p0.toNatClampNeg qf3 := ⟨_, rfl⟩
  obtain ⟨QA22, hu_QA22⟩ : ∃ y : Nat → Nat → Nat → Int32, y = va_up QA p0.toNatClampNeg (QA p0.toNatClampNeg) := ⟨_, rfl⟩
  have hw : pw D A s.heap _ _ [wd_Mo cs mo mr (fun _ => none) mf md (gMo PG hq), fm 8 (fPg cs PG), fm 13 (fPr cs hq qr QO20 QF21 QA22)] := (by rw [hu_QO20, hu_QF21, hu_QA22]; exact hw)
  have hpr : PrA PG RR QO20 QF21 QA22 := (by rw [hu_QO20, hu_QF21, hu_QA22]; exact PrA.up hpr (PsR.en hps1 (f' := qf3) (show (0 ≤ (qf3 1).toInt ∧ (qf3 1).toInt ≤ 1) ∧ (0 ≤ (qf3 21).toInt ∧ (qf3 21).toInt ≤ 4) ∧ (0 ≤ (qf3 23).toInt ∧ (qf3 23).toInt ≤ 4) ∧ (0 ≤ (qf3 24).toInt ∧ (qf3 24).toInt ≤ 1000000) ∧ (0 ≤ (qf3 6).toInt ∧ (qf3 6).toInt ≤ 3) ∧ (0 ≤ (qf3 7).toInt ∧ (qf3 7).toInt ≤ 1) from by first | with_reducible rfl | with_reducible assumption | omega) (by omega) (by omega)) (show (qf3 1).toInt = (QF p0.toNatClampNeg 1).toInt from by first | exact oz_1811ac7fe4 e7 | omega) (show (QF p0.toNatClampNeg 6).toInt ≤ (qf3 6).toInt from by first | exact oz_f9b42d1b56 e10 | omega))
  have hqk2_QF21 : (QF21 p0.toNatClampNeg 2).toInt = (qf3 2).toInt := (by rw [hu_QF21, va_up_s]; try rfl)
  have hkp : KpP QO QF QA QO20 QF21 QA22 p0.toNatClampNeg := (by rw [hu_QO20, hu_QF21, hu_QA22]; exact KpP.up hkp rfl (show ((qf3 1).toInt = (QF p0.toNatClampNeg 1).toInt ∧ (qf3 4).toInt = (QF p0.toNatClampNeg 4).toInt ∧ (qf3 5).toInt = (QF p0.toNatClampNeg 5).toInt ∧ (qf3 7).toInt = (QF p0.toNatClampNeg 7).toInt ∧ (qf3 10).toInt = (QF p0.toNatClampNeg 10).toInt ∧ (qf3 11).toInt = (QF p0.toNatClampNeg 11).toInt) ∧ (qf3 12).toInt = (QF p0.toNatClampNeg 12).toInt ∧ (qf3 13).toInt = (QF p0.toNatClampNeg 13).toInt ∧ (qf3 14).toInt = (QF p0.toNatClampNeg 14).toInt ∧ (qf3 24).toInt = (QF p0.toNatClampNeg 24).toInt from by first | with_reducible rfl | with_reducible assumption | omega) (fun k9 a9 b9 => by first | rfl | simp only [va_up_n a9, va_up_n b9]))
  have hw : pw D A s.heap _ _ [wd_Mo cs mo mr (fun _ => none) mf md (gMo PG hq), fm 13 (fPr cs hq qr QO20 QF21 QA22), fm 8 (fPg cs PG)] := hw.sub [0, 2, 1] rfl rfl
  exact px_vret S hr hlk hAe hw (Nat.le_of_ble_eq_true rfl) (Nat.le_of_ble_eq_true rfl) (⟨QO20, QF21, QA22, rfl, (show PrA PG RR QO20 QF21 QA22 from hpr), (show KpP QO QF QA QO20 QF21 QA22 p0.toNatClampNeg from hkp), (show (QF21 p0.toNatClampNeg 2).toInt ≠ -2 from by first | exact oz_34d6331023 hqk2_QF21 e6 | omega)⟩) d_Mo_out_11
