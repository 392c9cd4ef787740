theorem oz_5c63bd1689 {a0 : Int} (h0 : (0 : Int) ≤ a0) (h1 : a0 < 13) : 0 ≤ a0 ∧ a0 < ((13 : Nat) : Int) := by omega
theorem m14_44 : Cond.methodLink "HomeSystemModel" 89 ⟨"HomeSystemModel", "partner", "(II)I"⟩ ∈ AL := AL_14 (List.mem_of_getElem? (i := 44) rfl) rfl
theorem m14_47 : Cond.code ⟨"HomeSystemModel", "partner", "(II)I"⟩ prog_14_method_11_code 4 (Option.some FieldType.int) ∈ AL := AL_14 (List.mem_of_getElem? (i := 47) rfl) rfl
theorem ms_15_14 : Cond.selects "HomeSystemModel" ⟨"HomeSystemModel", "partner", "(II)I"⟩ ⟨"HomeSystemModel", "partner", "(II)I"⟩ ∈ AL := AL_p (q := (⟨"HomeSystemModel", "partner", "(II)I"⟩, 11)) (by unfold lw_privs; exact List.mem_append_right _ (List.mem_append_right _ (List.mem_append_right _ (List.mem_append_right _ (List.mem_append_right _ (List.mem_append_right _ (List.mem_append_right _ (List.mem_append_right _ (List.mem_append_right _ (List.mem_append_right _ (List.mem_append_right _ (List.mem_append_right _ (List.mem_append_right _ (List.mem_append_right _ (List.mem_append_left _ (List.mem_of_getElem? (i := 14) rfl))))))))))))))))
theorem m14_46 : Cond.instanceMethod ⟨"HomeSystemModel", "partner", "(II)I"⟩ ∈ AL := AL_14 (List.mem_of_getElem? (i := 46) rfl) rfl
theorem m14_55 : Cond.methodLink "HomeSystemModel" 97 ⟨"HomeSystemModel$Process", "hasEnded", "()Z"⟩ ∈ AL := AL_14 (List.mem_of_getElem? (i := 55) rfl) rfl
theorem m14_58 : Cond.code ⟨"HomeSystemModel$Process", "hasEnded", "()Z"⟩ prog_15_method_3_code 1 (Option.some FieldType.boolean) ∈ AL := AL_14 (List.mem_of_getElem? (i := 58) rfl) rfl
theorem m14_57 : Cond.selects "HomeSystemModel$Process" ⟨"HomeSystemModel$Process", "hasEnded", "()Z"⟩ ⟨"HomeSystemModel$Process", "hasEnded", "()Z"⟩ ∈ AL := AL_14 (List.mem_of_getElem? (i := 57) rfl) rfl
theorem m14_56 : Cond.instanceMethod ⟨"HomeSystemModel$Process", "hasEnded", "()Z"⟩ ∈ AL := AL_14 (List.mem_of_getElem? (i := 56) rfl) rfl
theorem m14_59 : Cond.methodLink "HomeSystemModel" 101 ⟨"HomeSystemModel", "append", "(III)V"⟩ ∈ AL := AL_14 (List.mem_of_getElem? (i := 59) rfl) rfl
theorem m14_62 : Cond.code ⟨"HomeSystemModel", "append", "(III)V"⟩ prog_14_method_15_code 4 (Option.none : Option Jvm.ClassFile.FieldType) ∈ AL := AL_14 (List.mem_of_getElem? (i := 62) rfl) rfl
theorem ms_16_0 : Cond.selects "HomeSystemModel" ⟨"HomeSystemModel", "append", "(III)V"⟩ ⟨"HomeSystemModel", "append", "(III)V"⟩ ∈ AL := AL_p (q := (⟨"HomeSystemModel", "append", "(III)V"⟩, 11)) (by unfold lw_privs; exact List.mem_append_right _ (List.mem_append_right _ (List.mem_append_right _ (List.mem_append_right _ (List.mem_append_right _ (List.mem_append_right _ (List.mem_append_right _ (List.mem_append_right _ (List.mem_append_right _ (List.mem_append_right _ (List.mem_append_right _ (List.mem_append_right _ (List.mem_append_right _ (List.mem_append_right _ (List.mem_append_right _ (List.mem_append_left _ (List.mem_of_getElem? (i := 0) rfl)))))))))))))))))
theorem m14_61 : Cond.instanceMethod ⟨"HomeSystemModel", "append", "(III)V"⟩ ∈ AL := AL_14 (List.mem_of_getElem? (i := 61) rfl) rfl
theorem m14_51 : Cond.methodLink "HomeSystemModel" 93 ⟨"HomeSystemModel", "out", "(I)V"⟩ ∈ AL := AL_14 (List.mem_of_getElem? (i := 51) rfl) rfl
theorem m14_54 : Cond.code ⟨"HomeSystemModel", "out", "(I)V"⟩ prog_14_method_16_code 2 (Option.none : Option Jvm.ClassFile.FieldType) ∈ AL := AL_14 (List.mem_of_getElem? (i := 54) rfl) rfl
theorem ms_15_15 : Cond.selects "HomeSystemModel" ⟨"HomeSystemModel", "out", "(I)V"⟩ ⟨"HomeSystemModel", "out", "(I)V"⟩ ∈ AL := AL_p (q := (⟨"HomeSystemModel", "out", "(I)V"⟩, 11)) (by unfold lw_privs; exact List.mem_append_right _ (List.mem_append_right _ (List.mem_append_right _ (List.mem_append_right _ (List.mem_append_right _ (List.mem_append_right _ (List.mem_append_right _ (List.mem_append_right _ (List.mem_append_right _ (List.mem_append_right _ (List.mem_append_right _ (List.mem_append_right _ (List.mem_append_right _ (List.mem_append_right _ (List.mem_append_left _ (List.mem_of_getElem? (i := 15) rfl))))))))))))))))
theorem m14_53 : Cond.instanceMethod ⟨"HomeSystemModel", "out", "(I)V"⟩ ∈ AL := AL_14 (List.mem_of_getElem? (i := 53) rfl) rfl
theorem m14_67 : Cond.methodLink "HomeSystemModel" 105 ⟨"HomeSystemModel", "lying", "(II)I"⟩ ∈ AL := AL_14 (List.mem_of_getElem? (i := 67) rfl) rfl
theorem m14_70 : Cond.code ⟨"HomeSystemModel", "lying", "(II)I"⟩ prog_14_method_13_code 3 (Option.some FieldType.int) ∈ AL := AL_14 (List.mem_of_getElem? (i := 70) rfl) rfl
theorem ms_16_2 : Cond.selects "HomeSystemModel" ⟨"HomeSystemModel", "lying", "(II)I"⟩ ⟨"HomeSystemModel", "lying", "(II)I"⟩ ∈ AL := AL_p (q := (⟨"HomeSystemModel", "lying", "(II)I"⟩, 11)) (by unfold lw_privs; exact List.mem_append_right _ (List.mem_append_right _ (List.mem_append_right _ (List.mem_append_right _ (List.mem_append_right _ (List.mem_append_right _ (List.mem_append_right _ (List.mem_append_right _ (List.mem_append_right _ (List.mem_append_right _ (List.mem_append_right _ (List.mem_append_right _ (List.mem_append_right _ (List.mem_append_right _ (List.mem_append_right _ (List.mem_append_left _ (List.mem_of_getElem? (i := 2) rfl)))))))))))))))))
theorem m14_69 : Cond.instanceMethod ⟨"HomeSystemModel", "lying", "(II)I"⟩ ∈ AL := AL_14 (List.mem_of_getElem? (i := 69) rfl) rfl
theorem m14_71 : Cond.methodLink "HomeSystemModel" 108 ⟨"HomeSystemModel", "first", "(II)I"⟩ ∈ AL := AL_14 (List.mem_of_getElem? (i := 71) rfl) rfl
theorem m14_74 : Cond.code ⟨"HomeSystemModel", "first", "(II)I"⟩ prog_14_method_14_code 7 (Option.some FieldType.int) ∈ AL := AL_14 (List.mem_of_getElem? (i := 74) rfl) rfl
theorem ms_16_3 : Cond.selects "HomeSystemModel" ⟨"HomeSystemModel", "first", "(II)I"⟩ ⟨"HomeSystemModel", "first", "(II)I"⟩ ∈ AL := AL_p (q := (⟨"HomeSystemModel", "first", "(II)I"⟩, 11)) (by unfold lw_privs; exact List.mem_append_right _ (List.mem_append_right _ (List.mem_append_right _ (List.mem_append_right _ (List.mem_append_right _ (List.mem_append_right _ (List.mem_append_right _ (List.mem_append_right _ (List.mem_append_right _ (List.mem_append_right _ (List.mem_append_right _ (List.mem_append_right _ (List.mem_append_right _ (List.mem_append_right _ (List.mem_append_right _ (List.mem_append_left _ (List.mem_of_getElem? (i := 3) rfl)))))))))))))))))
theorem m14_73 : Cond.instanceMethod ⟨"HomeSystemModel", "first", "(II)I"⟩ ∈ AL := AL_14 (List.mem_of_getElem? (i := 73) rfl) rfl
theorem m11_87 : Cond.fieldLink "HomeSystemModel" 111 "HomeSystemModel" "given" "I" ∈ AL := AL_11 (List.mem_of_getElem? (i := 87) rfl) rfl
theorem m10_226 : Cond.fieldLink "HomeSystemModel" 127 "HomeSystemModel$Process" "outcome" "I" ∈ AL := AL_10 (List.mem_of_getElem? (i := 226) rfl) rfl
theorem m10_228 : Cond.fieldLink "HomeSystemModel" 130 "HomeSystemModel$Process" "value" "I" ∈ AL := AL_10 (List.mem_of_getElem? (i := 228) rfl) rfl
abbrev b_Mo_sends : ByteArray := prog_14_method_17_code
def y_Mo_sends : MethodName := ⟨"HomeSystemModel", "sends", "(III)Z"⟩
theorem d_Mo_sends_0 : decode b_Mo_sends 0 = .ok (.aload_n 0, 1) := by decide +kernel
theorem d_Mo_sends_1 : decode b_Mo_sends 1 = .ok (.iload_n 1, 1) := by decide +kernel
theorem d_Mo_sends_2 : decode b_Mo_sends 2 = .ok (.iload_n 2, 1) := by decide +kernel
theorem d_Mo_sends_3 : decode b_Mo_sends 3 = .ok (.invokevirtual 89, 3) := by decide +kernel
theorem d_Mo_sends_6 : decode b_Mo_sends 6 = .ok (.istore 4, 2) := by decide +kernel
theorem d_Mo_sends_8 : decode b_Mo_sends 8 = .ok (.iload 4, 2) := by decide +kernel
theorem d_Mo_sends_10 : decode b_Mo_sends 10 = .ok (.ifCond .ge 10, 3) := by decide +kernel
theorem d_Mo_sends_13 : decode b_Mo_sends 13 = .ok (.aload_n 0, 1) := by decide +kernel
theorem d_Mo_sends_14 : decode b_Mo_sends 14 = .ok (.iload_n 1, 1) := by decide +kernel
theorem d_Mo_sends_15 : decode b_Mo_sends 15 = .ok (.invokevirtual 93, 3) := by decide +kernel
theorem d_Mo_sends_18 : decode b_Mo_sends 18 = .ok (.iconst 1, 1) := by decide +kernel
theorem d_Mo_sends_19 : decode b_Mo_sends 19 = .ok (.ireturn, 1) := by decide +kernel
theorem d_Mo_sends_20 : decode b_Mo_sends 20 = .ok (.aload_n 0, 1) := by decide +kernel
theorem d_Mo_sends_21 : decode b_Mo_sends 21 = .ok (.getfield 21, 3) := by decide +kernel
theorem d_Mo_sends_24 : decode b_Mo_sends 24 = .ok (.iload 4, 2) := by decide +kernel
theorem d_Mo_sends_26 : decode b_Mo_sends 26 = .ok (.aaload, 1) := by decide +kernel
theorem d_Mo_sends_27 : decode b_Mo_sends 27 = .ok (.invokevirtual 97, 3) := by decide +kernel
theorem d_Mo_sends_30 : decode b_Mo_sends 30 = .ok (.ifCond .eq 5, 3) := by decide +kernel
theorem d_Mo_sends_33 : decode b_Mo_sends 33 = .ok (.iconst 1, 1) := by decide +kernel
theorem d_Mo_sends_34 : decode b_Mo_sends 34 = .ok (.ireturn, 1) := by decide +kernel
theorem d_Mo_sends_35 : decode b_Mo_sends 35 = .ok (.iload 4, 2) := by decide +kernel
theorem d_Mo_sends_37 : decode b_Mo_sends 37 = .ok (.iload_n 1, 1) := by decide +kernel
theorem d_Mo_sends_38 : decode b_Mo_sends 38 = .ok (.if_icmp .le 16, 3) := by decide +kernel
theorem d_Mo_sends_41 : decode b_Mo_sends 41 = .ok (.aload_n 0, 1) := by decide +kernel
theorem d_Mo_sends_42 : decode b_Mo_sends 42 = .ok (.getfield 21, 3) := by decide +kernel
theorem d_Mo_sends_45 : decode b_Mo_sends 45 = .ok (.iload 4, 2) := by decide +kernel
theorem d_Mo_sends_47 : decode b_Mo_sends 47 = .ok (.aaload, 1) := by decide +kernel
theorem d_Mo_sends_48 : decode b_Mo_sends 48 = .ok (.getfield 73, 3) := by decide +kernel
theorem d_Mo_sends_51 : decode b_Mo_sends 51 = .ok (.goto 12, 3) := by decide +kernel
theorem d_Mo_sends_54 : decode b_Mo_sends 54 = .ok (.aload_n 0, 1) := by decide +kernel
theorem d_Mo_sends_55 : decode b_Mo_sends 55 = .ok (.getfield 21, 3) := by decide +kernel
theorem d_Mo_sends_58 : decode b_Mo_sends 58 = .ok (.iload_n 1, 1) := by decide +kernel
theorem d_Mo_sends_59 : decode b_Mo_sends 59 = .ok (.aaload, 1) := by decide +kernel
theorem d_Mo_sends_60 : decode b_Mo_sends 60 = .ok (.getfield 76, 3) := by decide +kernel
theorem d_Mo_sends_63 : decode b_Mo_sends 63 = .ok (.istore 5, 2) := by decide +kernel
theorem d_Mo_sends_65 : decode b_Mo_sends 65 = .ok (.iload 5, 2) := by decide +kernel
theorem d_Mo_sends_67 : decode b_Mo_sends 67 = .ok (.iconst 4, 1) := by decide +kernel
theorem d_Mo_sends_68 : decode b_Mo_sends 68 = .ok (.if_icmp .ne 5, 3) := by decide +kernel
theorem d_Mo_sends_71 : decode b_Mo_sends 71 = .ok (.iconst 0, 1) := by decide +kernel
theorem d_Mo_sends_72 : decode b_Mo_sends 72 = .ok (.ireturn, 1) := by decide +kernel
theorem d_Mo_sends_73 : decode b_Mo_sends 73 = .ok (.aload_n 0, 1) := by decide +kernel
theorem d_Mo_sends_74 : decode b_Mo_sends 74 = .ok (.iload_n 1, 1) := by decide +kernel
theorem d_Mo_sends_75 : decode b_Mo_sends 75 = .ok (.iload 4, 2) := by decide +kernel
theorem d_Mo_sends_77 : decode b_Mo_sends 77 = .ok (.iload_n 3, 1) := by decide +kernel
theorem d_Mo_sends_78 : decode b_Mo_sends 78 = .ok (.invokevirtual 101, 3) := by decide +kernel
theorem d_Mo_sends_81 : decode b_Mo_sends 81 = .ok (.iconst 1, 1) := by decide +kernel
theorem d_Mo_sends_82 : decode b_Mo_sends 82 = .ok (.ireturn, 1) := by decide +kernel
theorem q_Mo_sends : px_y y_Mo_sends 3 := by unfold px_y; decide +kernel
set_option maxHeartbeats 4000000 in
set_option maxRecDepth 100000 in
theorem c_mo_sends (l : Launch) (D : va_G) (cs : Nat → ClassId) (RR : Nat → Int) (mo : Nat) (mr : Nat → Nat) (mf : Nat → Int32) (md : Nat → Nat → Int32) (hq : Nat → Nat) (qr : Nat → Nat → Nat) (QO : Nat → Option Nat) (QF : Nat → Nat → Int32) (QA : Nat → Nat → Nat → Int32) (PG : Nat → Pgs) (p0 p1 p2 : Int32)  (g0 : 0 ≤ p0.toInt) (g1 : p0.toInt < 13) (hpr : PrA PG RR QO QF QA) (hpg : PgA PG) : MetI l y_Mo_sends b_Mo_sends 6 (.boolean) D cs 3 120 (0) (0) [.ref mo, .int p0, .int p1, .int p2] [wd_Mo cs mo mr (fun _ => none) mf md (gMo PG hq), fm 13 (fPr cs hq qr QO QF QA), fm 8 (fPg cs PG)] (fun _ => True) (fun v ps => ∃ (QO' : Nat → Option Nat) (QF' : Nat → Nat → Int32) (QA' : Nat → Nat → Nat → Int32), (ps = [wd_Mo cs mo mr (fun _ => none) mf md (gMo PG hq), fm 13 (fPr cs hq qr QO' QF' QA'), fm 8 (fPg cs PG)]) ∧ (PrA PG RR QO' QF' QA') ∧ (KpP QO QF QA QO' QF' QA' p0.toNatClampNeg) ∧ (0 ≤ v.toInt) ∧ (v.toInt ≤ 1)) := by
  refine px_enter (by decide) (Nat.le_of_ble_eq_true rfl) ?_
  intro p e s m below meth c A ls hAe S hr hlk hnm hA hT hX hw hl
  replace hl : lv_has ls 6 [(0, .ref mo), (1, .int p0), (2, .int p1), (3, .int p2)] := hl
  have lp0 := Int32.le_toInt p0
  have up0 := Int32.toInt_lt p0
  have lp1 := Int32.le_toInt p1
  have up1 := Int32.toInt_lt p1
  have lp2 := Int32.le_toInt p2
  have up2 := Int32.toInt_lt p2
  have cst0 : (0 : Int32).toInt = 0 := rfl
  have cst1 : (1 : Int32).toInt = 1 := rfl
  have cst4 : (4 : Int32).toInt = 4 := rfl
  have hkp : KpP QO QF QA QO QF QA p0.toNatClampNeg := KpP.rf
  refine lv_aload_n S.x S.b d_Mo_sends_0 rfl (lv_at hl 0 rfl) ?_
  refine lv_iload_n S.x S.b d_Mo_sends_1 rfl (lv_at hl 1 rfl) ?_
  refine lv_iload_n S.x S.b d_Mo_sends_2 rfl (lv_at hl 2 rfl) ?_
  refine px_calli (pr := []) (px_runV (As := [.int p0, .int p1]) (rest := []) S (c_mo_partner l D cs RR mo mr mf md hq qr QO QF QA PG p0 p1  (show 0 ≤ p0.toInt from by first | exact g0 | omega) (show p0.toInt < 13 from by first | exact g1 | omega) hpr hpg _) hT (pr := []) (pcs := [wd_Mo cs mo mr (fun _ => none) mf md (gMo PG hq), fm 13 (fPr cs hq qr QO QF QA), fm 8 (fPg cs PG)]) hw px_X.tt (px_recv hT hw 0 0 rfl rfl rfl) m14_47 m14_44 m14_46 ms_15_14 m1_20 q_Mo_partner ⟨Nat.le_of_ble_eq_true rfl, Nat.le_of_ble_eq_true rfl⟩ hl.1 rfl (Nat.le_of_ble_eq_true rfl) d_Mo_sends_3 ⟨Nat.le_of_ble_eq_true rfl, Nat.le_of_ble_eq_true rfl⟩) hw hA (fun v2 p1 H locs hp1 hw => ?_)
  obtain ⟨rfl, e3, e4⟩ := hp1
  replace e3 : -1 ≤ v2.toInt := e3
  replace e4 : v2.toInt < 13 := e4
  replace hw : pw D A s.heap H locs [wd_Mo cs mo mr (fun _ => none) mf md (gMo PG hq), fm 13 (fPr cs hq qr QO QF QA), fm 8 (fPg cs PG)] := hw
  have lv2 := Int32.le_toInt v2
  have uv2 := Int32.toInt_lt v2
  refine lv_istore (lv' := [(4, .int v2), (0, .ref mo), (1, .int p0), (2, .int p1), (3, .int p2)]) S.x S.b d_Mo_sends_6 hl (by decide) rfl (fun ls hl => ?_)
  refine lv_iload S.x S.b d_Mo_sends_8 (lv_at hl 0 rfl) ?_
  refine lv_if_ge (tgt := 20) S.x S.b d_Mo_sends_10 (by decide) (fun c5 => ?_) (fun c5 => ?_)
  · have nc5 : (0 : Int) ≤ v2.toInt := (i_le (x := 0) (y := v2)).mp c5
    refine lv_aload_n S.x S.b d_Mo_sends_20 rfl (lv_at hl 1 rfl) ?_
    refine px_get S k_Mo hT hw 0 0 5 (v := .ref (mr 5)) rfl rfl rfl (by decide) m11_83 d_Mo_sends_21 ?_
    refine lv_iload S.x S.b d_Mo_sends_24 (lv_at hl 0 rfl) ?_
    refine px_aaldS S hT hw 0 3 10 (n := 13) (f := ((gMo PG hq) 5)) rfl rfl rfl (x := v2) (vp_in_iff.mpr (by first | exact oz_5c63bd1689 nc5 e4 | (constructor <;> omega))) (sk := (hq v2.toNatClampNeg)) rfl d_Mo_sends_26 ?_
    have hw : pw D A s.heap _ _ [wd_Mo cs mo mr (fun _ => none) mf md (gMo PG hq), fm 8 (fPg cs PG), fm 13 (fPr cs hq qr QO QF QA)] := hw.sub [0, 2, 1] rfl rfl
    have hc6 := cl_nat (x := v2) (by first | exact oz_0ffba53c78 nc5 | omega)
    have hi6 : v2.toNatClampNeg < 13 := by first | exact oz_9995642664 hc6 e4 | omega
    have hw : pw D A s.heap _ _ [wd_Mo cs mo mr (fun _ => none) mf md (gMo PG hq), fm 8 (fPg cs PG), fo 13 (fPr cs hq qr QO QF QA) v2.toNatClampNeg, wd_Mpr cs (hq v2.toNatClampNeg) (qr v2.toNatClampNeg) (fun _ => QO v2.toNatClampNeg) (QF v2.toNatClampNeg) (QA v2.toNatClampNeg) (fun _ _ => none)] := fm_out (pr := [wd_Mo cs mo mr (fun _ => none) mf md (gMo PG hq), fm 8 (fPg cs PG)]) (T := fPr cs hq qr QO QF QA) hw hi6
    have hps6 := hpr.1 v2.toNatClampNeg hi6
    have hpb6 := hps6.1
    unfold PsB at hpb6
    refine px_calli (pr := [wd_Mo cs mo mr (fun _ => none) mf md (gMo PG hq), fm 8 (fPg cs PG), fo 13 (fPr cs hq qr QO QF QA) v2.toNatClampNeg]) (px_runV (As := []) (rest := []) S (c_mq_hasEnded l D cs (hq v2.toNatClampNeg) (qr v2.toNatClampNeg) (fun _ _ => none) (fun _ => QO v2.toNatClampNeg) (QF v2.toNatClampNeg) (QA v2.toNatClampNeg)    _) hT (pr := [wd_Mo cs mo mr (fun _ => none) mf md (gMo PG hq), fm 8 (fPg cs PG), fo 13 (fPr cs hq qr QO QF QA) v2.toNatClampNeg]) (pcs := [wd_Mpr cs (hq v2.toNatClampNeg) (qr v2.toNatClampNeg) (fun _ => QO v2.toNatClampNeg) (QF v2.toNatClampNeg) (QA v2.toNatClampNeg) (fun _ _ => none)]) hw px_X.tt (px_recv hT hw 3 0 rfl rfl rfl) m14_58 m14_55 m14_56 m14_57 m1_22 q_Mpr_hasEnded ⟨Nat.le_of_ble_eq_true rfl, Nat.le_of_ble_eq_true rfl⟩ hl.1 rfl (Nat.le_of_ble_eq_true rfl) d_Mo_sends_27 ⟨Nat.le_of_ble_eq_true rfl, Nat.le_of_ble_eq_true rfl⟩) hw hA (fun v8 p7 H locs hp7 hw => ?_)
    obtain ⟨rfl, e9, e10, e11⟩ := hp7
    replace e9 : 0 ≤ v8.toInt := e9
    replace e10 : v8.toInt ≤ 1 := e10
    replace e11 : v8.toInt = 1 → ((QF v2.toNatClampNeg) 2).toInt ≠ -2 := e11
    replace hw : pw D A s.heap H locs [wd_Mo cs mo mr (fun _ => none) mf md (gMo PG hq), fm 8 (fPg cs PG), fo 13 (fPr cs hq qr QO QF QA) v2.toNatClampNeg, wd_Mpr cs (hq v2.toNatClampNeg) (qr v2.toNatClampNeg) (fun _ => QO v2.toNatClampNeg) (QF v2.toNatClampNeg) (QA v2.toNatClampNeg) (fun _ _ => none)] := hw
    have lv8 := Int32.le_toInt v8
    have uv8 := Int32.toInt_lt v8
    refine lv_if_eq (tgt := 35) S.x S.b d_Mo_sends_30 (by decide) (fun c12 => ?_) (fun c12 => ?_)
    · have nc12 : v8.toInt = (0 : Int) := (i_eq (x := v8) (y := 0)).mp c12
      refine lv_iload S.x S.b d_Mo_sends_35 (lv_at hl 0 rfl) ?_
      refine lv_iload_n S.x S.b d_Mo_sends_37 rfl (lv_at hl 2 rfl) ?_
      refine lv_icmp_le (tgt := 54) S.x S.b d_Mo_sends_38 (by decide) (fun c13 => ?_) (fun c13 => ?_)
      · have nc13 : v2.toInt ≤ p0.toInt := (i_le (x := v2) (y := p0)).mp c13
        refine lv_aload_n S.x S.b d_Mo_sends_54 rfl (lv_at hl 1 rfl) ?_
        refine px_get S k_Mo hT hw 0 0 5 (v := .ref (mr 5)) rfl rfl rfl (by decide) m11_83 d_Mo_sends_55 ?_
        refine lv_iload_n S.x S.b d_Mo_sends_58 rfl (lv_at hl 2 rfl) ?_
        refine px_aaldS S hT hw 0 3 10 (n := 13) (f := ((gMo PG hq) 5)) rfl rfl rfl (x := p0) (vp_in_iff.mpr (by first | exact oz_59feca6c45 g0 g1 | (constructor <;> omega))) (sk := (hq p0.toNatClampNeg)) rfl d_Mo_sends_59 ?_
        have hw : pw D A s.heap _ _ [wd_Mo cs mo mr (fun _ => none) mf md (gMo PG hq), fm 8 (fPg cs PG), fm 13 (fPr cs hq qr QO QF QA)] := fm_back (pr := [wd_Mo cs mo mr (fun _ => none) mf md (gMo PG hq), fm 8 (fPg cs PG)]) (T := fPr cs hq qr QO QF QA) hw hi6
        have hc14 := cl_nat (x := p0) (by first | exact g0 | omega)
        have hi14 : p0.toNatClampNeg < 13 := by first | exact oz_9995642664 hc14 g1 | omega
        have hw : pw D A s.heap _ _ [wd_Mo cs mo mr (fun _ => none) mf md (gMo PG hq), fm 8 (fPg cs PG), fo 13 (fPr cs hq qr QO QF QA) p0.toNatClampNeg, wd_Mpr cs (hq p0.toNatClampNeg) (qr p0.toNatClampNeg) (fun _ => QO p0.toNatClampNeg) (QF p0.toNatClampNeg) (QA p0.toNatClampNeg) (fun _ _ => none)] := fm_out (pr := [wd_Mo cs mo mr (fun _ => none) mf md (gMo PG hq), fm 8 (fPg cs PG)]) (T := fPr cs hq qr QO QF QA) hw hi14
        have hps14 := hpr.1 p0.toNatClampNeg hi14
        have hpb14 := hps14.1
        unfold PsB at hpb14
        refine px_get S k_Mpr hT hw 3 0 21 (v := .int ((QF p0.toNatClampNeg) 21)) rfl rfl rfl (by decide) m11_16 d_Mo_sends_60 ?_
        refine lv_istore (lv' := [(5, .int ((QF p0.toNatClampNeg) 21)), (4, .int v2), (0, .ref mo), (1, .int p0), (2, .int p1), (3, .int p2)]) S.x S.b d_Mo_sends_63 hl (by decide) rfl (fun ls hl => ?_)
        refine lv_iload S.x S.b d_Mo_sends_65 (lv_at hl 0 rfl) ?_
        refine lv_iconst (v := 4) S.x S.b d_Mo_sends_67 (by decide) ?_
        refine lv_icmp_ne (tgt := 73) S.x S.b d_Mo_sends_68 (by decide) (fun c15 => ?_) (fun c15 => ?_)
        · have nc15 : ¬ ((QF p0.toNatClampNeg) 21).toInt = (4 : Int) := mt (i_eq (x := ((QF p0.toNatClampNeg) 21)) (y := 4)).mpr c15
          refine lv_aload_n S.x S.b d_Mo_sends_73 rfl (lv_at hl 2 rfl) ?_
          refine lv_iload_n S.x S.b d_Mo_sends_74 rfl (lv_at hl 3 rfl) ?_
          refine lv_iload S.x S.b d_Mo_sends_75 (lv_at hl 1 rfl) ?_
          refine lv_iload_n S.x S.b d_Mo_sends_77 rfl (lv_at hl 5 rfl) ?_
          have hw : pw D A s.heap _ _ [wd_Mo cs mo mr (fun _ => none) mf md (gMo PG hq), fm 8 (fPg cs PG), fm 13 (fPr cs hq qr QO QF QA)] := fm_back (pr := [wd_Mo cs mo mr (fun _ => none) mf md (gMo PG hq), fm 8 (fPg cs PG)]) (T := fPr cs hq qr QO QF QA) hw hi14
          have hw : pw D A s.heap _ _ [wd_Mo cs mo mr (fun _ => none) mf md (gMo PG hq), fm 13 (fPr cs hq qr QO QF QA), fm 8 (fPg cs PG)] := hw.sub [0, 2, 1] rfl rfl
          refine px_callv (pr := []) (px_runV (As := [.int p0, .int v2, .int p2]) (rest := []) S (c_mo_append l D cs RR mo mr mf md hq qr QO QF QA PG p0 v2 p2  (show 0 ≤ p0.toInt from by first | exact g0 | omega) (show p0.toInt < 13 from by first | exact g1 | omega) (show 0 ≤ v2.toInt from by first | exact oz_0ffba53c78 nc5 | omega) (show v2.toInt < 13 from by first | exact e4 | omega) (show p0.toInt < v2.toInt → (QF v2.toNatClampNeg 23).toInt < 4 from by first | with_reducible rfl | with_reducible assumption | omega) (show v2.toInt ≤ p0.toInt → (QF p0.toNatClampNeg 21).toInt < 4 from by first | with_reducible rfl | with_reducible assumption | omega) hpr hpg _) hT (pr := []) (pcs := [wd_Mo cs mo mr (fun _ => none) mf md (gMo PG hq), fm 13 (fPr cs hq qr QO QF QA), fm 8 (fPg cs PG)]) hw px_X.tt (px_recv hT hw 0 0 rfl rfl rfl) m14_62 m14_59 m14_61 ms_16_0 m1_20 q_Mo_append ⟨Nat.le_of_ble_eq_true rfl, Nat.le_of_ble_eq_true rfl⟩ hl.1 rfl (Nat.le_of_ble_eq_true rfl) d_Mo_sends_78 ⟨Nat.le_of_ble_eq_true rfl, Nat.le_of_ble_eq_true rfl⟩) hw hA (fun p22 H locs hp22 hw => ?_)
          obtain ⟨QO19, QF20, QA21, rfl, e24, e25⟩ := hp22
          replace e24 : PrA PG RR QO19 QF20 QA21 := e24
          have hpr := e24
          replace e25 : KpP QO QF QA QO19 QF20 QA21 p0.toNatClampNeg := e25
          have hkp := hkp.tr e25
          replace hw : pw D A s.heap H locs [wd_Mo cs mo mr (fun _ => none) mf md (gMo PG hq), fm 13 (fPr cs hq qr QO19 QF20 QA21), fm 8 (fPg cs PG)] := hw
          refine lv_iconst (v := 1) S.x S.b d_Mo_sends_81 (by decide) ?_
          exact px_iret (v := 1) S hr rfl hlk hAe hw (Nat.le_of_ble_eq_true rfl) (Nat.le_of_ble_eq_true rfl) (⟨QO19, QF20, QA21, rfl, (show PrA PG RR QO19 QF20 QA21 from hpr), (show KpP QO QF QA QO19 QF20 QA21 p0.toNatClampNeg from hkp), (show 0 ≤ (1 : Int) from by first | decide | omega), (show (1 : Int) ≤ 1 from by first | decide | omega)⟩) d_Mo_sends_82
        · have nc15 : ((QF p0.toNatClampNeg) 21).toInt = (4 : Int) := (i_eq (x := ((QF p0.toNatClampNeg) 21)) (y := 4)).mp c15
          refine lv_iconst (v := 0) S.x S.b d_Mo_sends_71 (by decide) ?_
          have hw : pw D A s.heap _ _ [wd_Mo cs mo mr (fun _ => none) mf md (gMo PG hq), fm 8 (fPg cs PG), fm 13 (fPr cs hq qr QO QF QA)] := fm_back (pr := [wd_Mo cs mo mr (fun _ => none) mf md (gMo PG hq), fm 8 (fPg cs PG)]) (T := fPr cs hq qr QO QF QA) hw hi14
          have hw : pw D A s.heap _ _ [wd_Mo cs mo mr (fun _ => none) mf md (gMo PG hq), fm 13 (fPr cs hq qr QO QF QA), fm 8 (fPg cs PG)] := hw.sub [0, 2, 1] rfl rfl
          exact px_iret (v := 0) S hr rfl hlk hAe hw (Nat.le_of_ble_eq_true rfl) (Nat.le_of_ble_eq_true rfl) (⟨QO, QF, QA, rfl, (show PrA PG RR QO QF QA from hpr), (show KpP QO QF QA QO QF QA p0.toNatClampNeg from hkp), (show 0 ≤ (0 : Int) from by first | decide | omega), (show (0 : Int) ≤ 1 from by first | decide | omega)⟩) d_Mo_sends_72
      · have nc13 : ¬ v2.toInt ≤ p0.toInt := mt (i_le (x := v2) (y := p0)).mpr c13
        refine lv_aload_n S.x S.b d_Mo_sends_41 rfl (lv_at hl 1 rfl) ?_
        refine px_get S k_Mo hT hw 0 0 5 (v := .ref (mr 5)) rfl rfl rfl (by decide) m11_83 d_Mo_sends_42 ?_
        refine lv_iload S.x S.b d_Mo_sends_45 (lv_at hl 0 rfl) ?_
        refine px_aaldS S hT hw 0 3 10 (n := 13) (f := ((gMo PG hq) 5)) rfl rfl rfl (x := v2) (vp_in_iff.mpr (by first | exact oz_003e6f2b09 nc13 g0 e4 | (constructor <;> omega))) (sk := (hq v2.toNatClampNeg)) rfl d_Mo_sends_47 ?_
        refine px_get S k_Mpr hT hw 3 0 23 (v := .int ((QF v2.toNatClampNeg) 23)) rfl rfl rfl (by decide) m11_20 d_Mo_sends_48 ?_
        refine lv_goto (tgt := 63) S.x S.b d_Mo_sends_51 (by decide) ?_
        refine lv_istore (lv' := [(5, .int ((QF v2.toNatClampNeg) 23)), (4, .int v2), (0, .ref mo), (1, .int p0), (2, .int p1), (3, .int p2)]) S.x S.b d_Mo_sends_63 hl (by decide) rfl (fun ls hl => ?_)
        refine lv_iload S.x S.b d_Mo_sends_65 (lv_at hl 0 rfl) ?_
        refine lv_iconst (v := 4) S.x S.b d_Mo_sends_67 (by decide) ?_
        refine lv_icmp_ne (tgt := 73) S.x S.b d_Mo_sends_68 (by decide) (fun c26 => ?_) (fun c26 => ?_)
        · have nc26 : ¬ ((QF v2.toNatClampNeg) 23).toInt = (4 : Int) := mt (i_eq (x := ((QF v2.toNatClampNeg) 23)) (y := 4)).mpr c26
          refine lv_aload_n S.x S.b d_Mo_sends_73 rfl (lv_at hl 2 rfl) ?_
          refine lv_iload_n S.x S.b d_Mo_sends_74 rfl (lv_at hl 3 rfl) ?_
          refine lv_iload S.x S.b d_Mo_sends_75 (lv_at hl 1 rfl) ?_
          refine lv_iload_n S.x S.b d_Mo_sends_77 rfl (lv_at hl 5 rfl) ?_
          have hw : pw D A s.heap _ _ [wd_Mo cs mo mr (fun _ => none) mf md (gMo PG hq), fm 8 (fPg cs PG), fm 13 (fPr cs hq qr QO QF QA)] := fm_back (pr := [wd_Mo cs mo mr (fun _ => none) mf md (gMo PG hq), fm 8 (fPg cs PG)]) (T := fPr cs hq qr QO QF QA) hw hi6
          have hw : pw D A s.heap _ _ [wd_Mo cs mo mr (fun _ => none) mf md (gMo PG hq), fm 13 (fPr cs hq qr QO QF QA), fm 8 (fPg cs PG)] := hw.sub [0, 2, 1] rfl rfl
          refine px_callv (pr := []) (px_runV (As := [.int p0, .int v2, .int p2]) (rest := []) S (c_mo_append l D cs RR mo mr mf md hq qr QO QF QA PG p0 v2 p2  (show 0 ≤ p0.toInt from by first | exact g0 | omega) (show p0.toInt < 13 from by first | exact g1 | omega) (show 0 ≤ v2.toInt from by first | exact oz_8c8b3d3770 nc13 g0 | omega) (show v2.toInt < 13 from by first | exact e4 | omega) (show p0.toInt < v2.toInt → (QF v2.toNatClampNeg 23).toInt < 4 from by first | with_reducible rfl | with_reducible assumption | omega) (show v2.toInt ≤ p0.toInt → (QF p0.toNatClampNeg 21).toInt < 4 from by first | with_reducible rfl | with_reducible assumption | omega) hpr hpg _) hT (pr := []) (pcs := [wd_Mo cs mo mr (fun _ => none) mf md (gMo PG hq), fm 13 (fPr cs hq qr QO QF QA), fm 8 (fPg cs PG)]) hw px_X.tt (px_recv hT hw 0 0 rfl rfl rfl) m14_62 m14_59 m14_61 ms_16_0 m1_20 q_Mo_append ⟨Nat.le_of_ble_eq_true rfl, Nat.le_of_ble_eq_true rfl⟩ hl.1 rfl (Nat.le_of_ble_eq_true rfl) d_Mo_sends_78 ⟨Nat.le_of_ble_eq_true rfl, Nat.le_of_ble_eq_true rfl⟩) hw hA (fun p33 H locs hp33 hw => ?_)
          obtain ⟨QO30, QF31, QA32, rfl, e35, e36⟩ := hp33
          replace e35 : PrA PG RR QO30 QF31 QA32 := e35
          have hpr := e35
          replace e36 : KpP QO QF QA QO30 QF31 QA32 p0.toNatClampNeg := e36
          have hkp := hkp.tr e36
          replace hw : pw D A s.heap H locs [wd_Mo cs mo mr (fun _ => none) mf md (gMo PG hq), fm 13 (fPr cs hq qr QO30 QF31 QA32), fm 8 (fPg cs PG)] := hw
          refine lv_iconst (v := 1) S.x S.b d_Mo_sends_81 (by decide) ?_
          exact px_iret (v := 1) S hr rfl hlk hAe hw (Nat.le_of_ble_eq_true rfl) (Nat.le_of_ble_eq_true rfl) (⟨QO30, QF31, QA32, rfl, (show PrA PG RR QO30 QF31 QA32 from hpr), (show KpP QO QF QA QO30 QF31 QA32 p0.toNatClampNeg from hkp), (show 0 ≤ (1 : Int) from by first | decide | omega), (show (1 : Int) ≤ 1 from by first | decide | omega)⟩) d_Mo_sends_82
        · have nc26 : ((QF v2.toNatClampNeg) 23).toInt = (4 : Int) := (i_eq (x := ((QF v2.toNatClampNeg) 23)) (y := 4)).mp c26
          refine lv_iconst (v := 0) S.x S.b d_Mo_sends_71 (by decide) ?_
          have hw : pw D A s.heap _ _ [wd_Mo cs mo mr (fun _ => none) mf md (gMo PG hq), fm 8 (fPg cs PG), fm 13 (fPr cs hq qr QO QF QA)] := fm_back (pr := [wd_Mo cs mo mr (fun _ => none) mf md (gMo PG hq), fm 8 (fPg cs PG)]) (T := fPr cs hq qr QO QF QA) hw hi6
          have hw : pw D A s.heap _ _ [wd_Mo cs mo mr (fun _ => none) mf md (gMo PG hq), fm 13 (fPr cs hq qr QO QF QA), fm 8 (fPg cs PG)] := hw.sub [0, 2, 1] rfl rfl
          exact px_iret (v := 0) S hr rfl hlk hAe hw (Nat.le_of_ble_eq_true rfl) (Nat.le_of_ble_eq_true rfl) (⟨QO, QF, QA, rfl, (show PrA PG RR QO QF QA from hpr), (show KpP QO QF QA QO QF QA p0.toNatClampNeg from hkp), (show 0 ≤ (0 : Int) from by first | decide | omega), (show (0 : Int) ≤ 1 from by first | decide | omega)⟩) d_Mo_sends_72
    · have nc12 : ¬ v8.toInt = (0 : Int) := mt (i_eq (x := v8) (y := 0)).mpr c12
      refine lv_iconst (v := 1) S.x S.b d_Mo_sends_33 (by decide) ?_
      have hw : pw D A s.heap _ _ [wd_Mo cs mo mr (fun _ => none) mf md (gMo PG hq), fm 8 (fPg cs PG), fm 13 (fPr cs hq qr QO QF QA)] := fm_back (pr := [wd_Mo cs mo mr (fun _ => none) mf md (gMo PG hq), fm 8 (fPg cs PG)]) (T := fPr cs hq qr QO QF QA) hw hi6
      have hw : pw D A s.heap _ _ [wd_Mo cs mo mr (fun _ => none) mf md (gMo PG hq), fm 13 (fPr cs hq qr QO QF QA), fm 8 (fPg cs PG)] := hw.sub [0, 2, 1] rfl rfl
      exact px_iret (v := 1) S hr rfl hlk hAe hw (Nat.le_of_ble_eq_true rfl) (Nat.le_of_ble_eq_true rfl) (⟨QO, QF, QA, rfl, (show PrA PG RR QO QF QA from hpr), (show KpP QO QF QA QO QF QA p0.toNatClampNeg from hkp), (show 0 ≤ (1 : Int) from by first | decide | omega), (show (1 : Int) ≤ 1 from by first | decide | omega)⟩) d_Mo_sends_34
  · have nc5 : ¬ (0 : Int) ≤ v2.toInt := mt (i_le (x := 0) (y := v2)).mpr c5
    refine lv_aload_n S.x S.b d_Mo_sends_13 rfl (lv_at hl 1 rfl) ?_
    refine lv_iload_n S.x S.b d_Mo_sends_14 rfl (lv_at hl 2 rfl) ?_
    refine px_callv (pr := []) (px_runV (As := [.int p0]) (rest := []) S (c_mo_out l D cs RR mo mr mf md hq qr QO QF QA PG p0  (show 0 ≤ p0.toInt from by first | exact g0 | omega) (show p0.toInt < 13 from by first | exact g1 | omega) hpr hpg _) hT (pr := []) (pcs := [wd_Mo cs mo mr (fun _ => none) mf md (gMo PG hq), fm 13 (fPr cs hq qr QO QF QA), fm 8 (fPg cs PG)]) hw px_X.tt (px_recv hT hw 0 0 rfl rfl rfl) m14_54 m14_51 m14_53 ms_15_15 m1_20 q_Mo_out ⟨Nat.le_of_ble_eq_true rfl, Nat.le_of_ble_eq_true rfl⟩ hl.1 rfl (Nat.le_of_ble_eq_true rfl) d_Mo_sends_15 ⟨Nat.le_of_ble_eq_true rfl, Nat.le_of_ble_eq_true rfl⟩) hw hA (fun p43 H locs hp43 hw => ?_)
    obtain ⟨QO40, QF41, QA42, rfl, e45, e46, e47⟩ := hp43
    replace e45 : PrA PG RR QO40 QF41 QA42 := e45
    have hpr := e45
    replace e46 : KpP QO QF QA QO40 QF41 QA42 p0.toNatClampNeg := e46
    have hkp := hkp.tr e46
    replace e47 : (QF41 p0.toNatClampNeg 2).toInt ≠ -2 := e47
    replace hw : pw D A s.heap H locs [wd_Mo cs mo mr (fun _ => none) mf md (gMo PG hq), fm 13 (fPr cs hq qr QO40 QF41 QA42), fm 8 (fPg cs PG)] := hw
    refine lv_iconst (v := 1) S.x S.b d_Mo_sends_18 (by decide) ?_
    exact px_iret (v := 1) S hr rfl hlk hAe hw (Nat.le_of_ble_eq_true rfl) (Nat.le_of_ble_eq_true rfl) (⟨QO40, QF41, QA42, rfl, (show PrA PG RR QO40 QF41 QA42 from hpr), (show KpP QO QF QA QO40 QF41 QA42 p0.toNatClampNeg from hkp), (show 0 ≤ (1 : Int) from by first | decide | omega), (show (1 : Int) ≤ 1 from by first | decide | omega)⟩) d_Mo_sends_19
abbrev b_Mo_receives : ByteArray := prog_14_method_18_code
def y_Mo_receives : MethodName := ⟨"HomeSystemModel", "receives", "(II)Z"⟩
theorem d_Mo_receives_0 : decode b_Mo_receives 0 = .ok (.aload_n 0, 1) := by decide +kernel
theorem d_Mo_receives_1 : decode b_Mo_receives 1 = .ok (.iload_n 1, 1) := by decide +kernel
theorem d_Mo_receives_2 : decode b_Mo_receives 2 = .ok (.iload_n 2, 1) := by decide +kernel
theorem d_Mo_receives_3 : decode b_Mo_receives 3 = .ok (.invokevirtual 89, 3) := by decide +kernel
theorem d_Mo_receives_6 : decode b_Mo_receives 6 = .ok (.istore_n 3, 1) := by decide +kernel
theorem d_Mo_receives_7 : decode b_Mo_receives 7 = .ok (.iload_n 3, 1) := by decide +kernel
theorem d_Mo_receives_8 : decode b_Mo_receives 8 = .ok (.ifCond .ge 10, 3) := by decide +kernel
theorem d_Mo_receives_11 : decode b_Mo_receives 11 = .ok (.aload_n 0, 1) := by decide +kernel
theorem d_Mo_receives_12 : decode b_Mo_receives 12 = .ok (.iload_n 1, 1) := by decide +kernel
theorem d_Mo_receives_13 : decode b_Mo_receives 13 = .ok (.invokevirtual 93, 3) := by decide +kernel
theorem d_Mo_receives_16 : decode b_Mo_receives 16 = .ok (.iconst 1, 1) := by decide +kernel
theorem d_Mo_receives_17 : decode b_Mo_receives 17 = .ok (.ireturn, 1) := by decide +kernel
theorem d_Mo_receives_18 : decode b_Mo_receives 18 = .ok (.aload_n 0, 1) := by decide +kernel
theorem d_Mo_receives_19 : decode b_Mo_receives 19 = .ok (.iload_n 1, 1) := by decide +kernel
theorem d_Mo_receives_20 : decode b_Mo_receives 20 = .ok (.iload_n 3, 1) := by decide +kernel
theorem d_Mo_receives_21 : decode b_Mo_receives 21 = .ok (.invokevirtual 105, 3) := by decide +kernel
theorem d_Mo_receives_24 : decode b_Mo_receives 24 = .ok (.ifCond .ne 5, 3) := by decide +kernel
theorem d_Mo_receives_27 : decode b_Mo_receives 27 = .ok (.iconst 0, 1) := by decide +kernel
theorem d_Mo_receives_28 : decode b_Mo_receives 28 = .ok (.ireturn, 1) := by decide +kernel
theorem d_Mo_receives_29 : decode b_Mo_receives 29 = .ok (.aload_n 0, 1) := by decide +kernel
theorem d_Mo_receives_30 : decode b_Mo_receives 30 = .ok (.aload_n 0, 1) := by decide +kernel
theorem d_Mo_receives_31 : decode b_Mo_receives 31 = .ok (.iload_n 1, 1) := by decide +kernel
theorem d_Mo_receives_32 : decode b_Mo_receives 32 = .ok (.iload_n 3, 1) := by decide +kernel
theorem d_Mo_receives_33 : decode b_Mo_receives 33 = .ok (.invokevirtual 108, 3) := by decide +kernel
theorem d_Mo_receives_36 : decode b_Mo_receives 36 = .ok (.putfield 111, 3) := by decide +kernel
theorem d_Mo_receives_39 : decode b_Mo_receives 39 = .ok (.iconst 1, 1) := by decide +kernel
theorem d_Mo_receives_40 : decode b_Mo_receives 40 = .ok (.ireturn, 1) := by decide +kernel
theorem q_Mo_receives : px_y y_Mo_receives 2 := by unfold px_y; decide +kernel
set_option maxHeartbeats 4000000 in
set_option maxRecDepth 100000 in
theorem c_mo_receives (l : Launch) (D : va_G) (cs : Nat → ClassId) (RR : Nat → Int) (mo : Nat) (mr : Nat → Nat) (md : Nat → Nat → Int32) (mf : Nat → Int32) (hq : Nat → Nat) (qr : Nat → Nat → Nat) (QO : Nat → Option Nat) (QF : Nat → Nat → Int32) (QA : Nat → Nat → Nat → Int32) (PG : Nat → Pgs) (p0 p1 : Int32)  (g0 : 0 ≤ p0.toInt) (g1 : p0.toInt < 13) (hpr : PrA PG RR QO QF QA) (hpg : PgA PG) : MetI l y_Mo_receives b_Mo_receives 4 (.boolean) D cs 3 120 (0) (0) [.ref mo, .int p0, .int p1] [wd_Mo cs mo mr (fun _ => none) mf md (gMo PG hq), fm 13 (fPr cs hq qr QO QF QA), fm 8 (fPg cs PG)] (fun _ => True) (fun v ps => ∃ (mf' : Nat → Int32) (QO' : Nat → Option Nat) (QF' : Nat → Nat → Int32) (QA' : Nat → Nat → Nat → Int32), (ps = [wd_Mo cs mo mr (fun _ => none) mf' md (gMo PG hq), fm 13 (fPr cs hq qr QO' QF' QA'), fm 8 (fPg cs PG)]) ∧ (PrA PG RR QO' QF' QA') ∧ (KpP QO QF QA QO' QF' QA' p0.toNatClampNeg) ∧ ((mf' 0).toInt = (mf 0).toInt) ∧ ((mf' 2).toInt = (mf 2).toInt) ∧ ((mf' 3).toInt = (mf 3).toInt) ∧ ((mf' 7).toInt = (mf 7).toInt) ∧ ((mf' 8).toInt = (mf 8).toInt) ∧ ((mf' 10).toInt = (mf 10).toInt) ∧ (0 ≤ v.toInt) ∧ (v.toInt ≤ 1)) := by
  refine px_enter (by decide) (Nat.le_of_ble_eq_true rfl) ?_
  intro p e s m below meth c A ls hAe S hr hlk hnm hA hT hX hw hl
  replace hl : lv_has ls 4 [(0, .ref mo), (1, .int p0), (2, .int p1)] := hl
  have lp0 := Int32.le_toInt p0
  have up0 := Int32.toInt_lt p0
  have lp1 := Int32.le_toInt p1
  have up1 := Int32.toInt_lt p1
  have cst0 : (0 : Int32).toInt = 0 := rfl
  have cst1 : (1 : Int32).toInt = 1 := rfl
  have hkp : KpP QO QF QA QO QF QA p0.toNatClampNeg := KpP.rf
  refine lv_aload_n S.x S.b d_Mo_receives_0 rfl (lv_at hl 0 rfl) ?_
  refine lv_iload_n S.x S.b d_Mo_receives_1 rfl (lv_at hl 1 rfl) ?_
  refine lv_iload_n S.x S.b d_Mo_receives_2 rfl (lv_at hl 2 rfl) ?_
  refine px_calli (pr := []) (px_runV (As := [.int p0, .int p1]) (rest := []) S (c_mo_partner l D cs RR mo mr mf md hq qr QO QF QA PG p0 p1  (show 0 ≤ p0.toInt from by first | exact g0 | omega) (show p0.toInt < 13 from by first | exact g1 | omega) hpr hpg _) hT (pr := []) (pcs := [wd_Mo cs mo mr (fun _ => none) mf md (gMo PG hq), fm 13 (fPr cs hq qr QO QF QA), fm 8 (fPg cs PG)]) hw px_X.tt (px_recv hT hw 0 0 rfl rfl rfl) m14_47 m14_44 m14_46 ms_15_14 m1_20 q_Mo_partner ⟨Nat.le_of_ble_eq_true rfl, Nat.le_of_ble_eq_true rfl⟩ hl.1 rfl (Nat.le_of_ble_eq_true rfl) d_Mo_receives_3 ⟨Nat.le_of_ble_eq_true rfl, Nat.le_of_ble_eq_true rfl⟩) hw hA (fun v2 p1 H locs hp1 hw => ?_)
  obtain ⟨rfl, e3, e4⟩ := hp1
  replace e3 : -1 ≤ v2.toInt := e3
  replace e4 : v2.toInt < 13 := e4
  replace hw : pw D A s.heap H locs [wd_Mo cs mo mr (fun _ => none) mf md (gMo PG hq), fm 13 (fPr cs hq qr QO QF QA), fm 8 (fPg cs PG)] := hw
  have lv2 := Int32.le_toInt v2
  have uv2 := Int32.toInt_lt v2
  refine lv_istore_n (lv' := [(3, .int v2), (0, .ref mo), (1, .int p0), (2, .int p1)]) S.x S.b d_Mo_receives_6 rfl hl (by decide) rfl (fun ls hl => ?_)
  refine lv_iload_n S.x S.b d_Mo_receives_7 rfl (lv_at hl 0 rfl) ?_
  refine lv_if_ge (tgt := 18) S.x S.b d_Mo_receives_8 (by decide) (fun c5 => ?_) (fun c5 => ?_)
  · have nc5 : (0 : Int) ≤ v2.toInt := (i_le (x := 0) (y := v2)).mp c5
    refine lv_aload_n S.x S.b d_Mo_receives_18 rfl (lv_at hl 1 rfl) ?_
    refine lv_iload_n S.x S.b d_Mo_receives_19 rfl (lv_at hl 2 rfl) ?_
    refine lv_iload_n S.x S.b d_Mo_receives_20 rfl (lv_at hl 0 rfl) ?_
    refine px_calli (pr := []) (px_runV (As := [.int p0, .int v2]) (rest := []) S (c_mo_lying l D cs RR mo mr mf md hq qr QO QF QA PG p0 v2  (show 0 ≤ p0.toInt from by first | exact g0 | omega) (show p0.toInt < 13 from by first | exact g1 | omega) (show 0 ≤ v2.toInt from by first | exact oz_0ffba53c78 nc5 | omega) (show v2.toInt < 13 from by first | exact e4 | omega) hpr hpg _) hT (pr := []) (pcs := [wd_Mo cs mo mr (fun _ => none) mf md (gMo PG hq), fm 13 (fPr cs hq qr QO QF QA), fm 8 (fPg cs PG)]) hw px_X.tt (px_recv hT hw 0 0 rfl rfl rfl) m14_70 m14_67 m14_69 ms_16_2 m1_20 q_Mo_lying ⟨Nat.le_of_ble_eq_true rfl, Nat.le_of_ble_eq_true rfl⟩ hl.1 rfl (Nat.le_of_ble_eq_true rfl) d_Mo_receives_21 ⟨Nat.le_of_ble_eq_true rfl, Nat.le_of_ble_eq_true rfl⟩) hw hA (fun v7 p6 H locs hp6 hw => ?_)
    obtain ⟨rfl, e8, e9, e10, e11⟩ := hp6
    replace e8 : 0 ≤ v7.toInt := e8
    replace e9 : v7.toInt ≤ 4 := e9
    replace e10 : p0.toInt < v2.toInt → v7.toInt = (QF v2.toNatClampNeg 21).toInt := e10
    replace e11 : v2.toInt ≤ p0.toInt → v7.toInt = (QF p0.toNatClampNeg 23).toInt := e11
    replace hw : pw D A s.heap H locs [wd_Mo cs mo mr (fun _ => none) mf md (gMo PG hq), fm 13 (fPr cs hq qr QO QF QA), fm 8 (fPg cs PG)] := hw
    have lv7 := Int32.le_toInt v7
    have uv7 := Int32.toInt_lt v7
    refine lv_if_ne (tgt := 29) S.x S.b d_Mo_receives_24 (by decide) (fun c12 => ?_) (fun c12 => ?_)
    · have nc12 : ¬ v7.toInt = (0 : Int) := mt (i_eq (x := v7) (y := 0)).mpr c12
      refine lv_aload_n S.x S.b d_Mo_receives_29 rfl (lv_at hl 1 rfl) ?_
      refine lv_aload_n S.x S.b d_Mo_receives_30 rfl (lv_at hl 1 rfl) ?_
      refine lv_iload_n S.x S.b d_Mo_receives_31 rfl (lv_at hl 2 rfl) ?_
      refine lv_iload_n S.x S.b d_Mo_receives_32 rfl (lv_at hl 0 rfl) ?_
      refine px_calli (pr := []) (px_runV (As := [.int p0, .int v2]) (rest := [.ref mo]) S (c_mo_first l D cs RR mo mr mf md hq qr QO QF QA PG p0 v2  (show 0 ≤ p0.toInt from by first | exact g0 | omega) (show p0.toInt < 13 from by first | exact g1 | omega) (show 0 ≤ v2.toInt from by first | exact oz_0ffba53c78 nc5 | omega) (show v2.toInt < 13 from by first | exact e4 | omega) (show p0.toInt < v2.toInt → 1 ≤ (QF v2.toNatClampNeg 21).toInt from by first | with_reducible rfl | with_reducible assumption | omega) (show v2.toInt ≤ p0.toInt → 1 ≤ (QF p0.toNatClampNeg 23).toInt from by first | with_reducible rfl | with_reducible assumption | omega) hpr hpg _) hT (pr := []) (pcs := [wd_Mo cs mo mr (fun _ => none) mf md (gMo PG hq), fm 13 (fPr cs hq qr QO QF QA), fm 8 (fPg cs PG)]) hw px_X.tt (px_recv hT hw 0 0 rfl rfl rfl) m14_74 m14_71 m14_73 ms_16_3 m1_20 q_Mo_first ⟨Nat.le_of_ble_eq_true rfl, Nat.le_of_ble_eq_true rfl⟩ hl.1 rfl (Nat.le_of_ble_eq_true rfl) d_Mo_receives_33 ⟨Nat.le_of_ble_eq_true rfl, Nat.le_of_ble_eq_true rfl⟩) hw hA (fun v20 p19 H locs hp19 hw => ?_)
      obtain ⟨QO16, QF17, QA18, rfl, e21, e22⟩ := hp19
      replace e21 : PrA PG RR QO16 QF17 QA18 := e21
      have hpr := e21
      replace e22 : KpP QO QF QA QO16 QF17 QA18 p0.toNatClampNeg := e22
      have hkp := hkp.tr e22
      replace hw : pw D A s.heap H locs [wd_Mo cs mo mr (fun _ => none) mf md (gMo PG hq), fm 13 (fPr cs hq qr QO16 QF17 QA18), fm 8 (fPg cs PG)] := hw
      have lv20 := Int32.le_toInt v20
      have uv20 := Int32.toInt_lt v20
      refine px_put S k_Mo hT hw 0 0 9 rfl rfl (by decide) m11_87 rfl rfl rfl (Nat.le_of_ble_eq_true rfl) d_Mo_receives_36 (w' := wd_Mo cs mo mr (fun _ => none) (upd mf 9 v20) md (gMo PG hq)) (ps' := [wd_Mo cs mo mr (fun _ => none) (upd mf 9 v20) md (gMo PG hq), fm 13 (fPr cs hq qr QO16 QF17 QA18), fm 8 (fPg cs PG)]) rfl rfl (fun H locs hw => ?_)
      refine lv_iconst (v := 1) S.x S.b d_Mo_receives_39 (by decide) ?_
      exact px_iret (v := 1) S hr rfl hlk hAe hw (Nat.le_of_ble_eq_true rfl) (Nat.le_of_ble_eq_true rfl) (⟨(upd mf 9 v20), QO16, QF17, QA18, rfl, (show PrA PG RR QO16 QF17 QA18 from hpr), (show KpP QO QF QA QO16 QF17 QA18 p0.toNatClampNeg from hkp), (show (mf 0).toInt = (mf 0).toInt from rfl), (show (mf 2).toInt = (mf 2).toInt from rfl), (show (mf 3).toInt = (mf 3).toInt from rfl), (show (mf 7).toInt = (mf 7).toInt from rfl), (show (mf 8).toInt = (mf 8).toInt from rfl), (show (mf 10).toInt = (mf 10).toInt from rfl), (show 0 ≤ (1 : Int) from by first | decide | omega), (show (1 : Int) ≤ 1 from by first | decide | omega)⟩) d_Mo_receives_40
    · have nc12 : v7.toInt = (0 : Int) := (i_eq (x := v7) (y := 0)).mp c12
      refine lv_iconst (v := 0) S.x S.b d_Mo_receives_27 (by decide) ?_
      exact px_iret (v := 0) S hr rfl hlk hAe hw (Nat.le_of_ble_eq_true rfl) (Nat.le_of_ble_eq_true rfl) (⟨mf, QO, QF, QA, rfl, (show PrA PG RR QO QF QA from hpr), (show KpP QO QF QA QO QF QA p0.toNatClampNeg from hkp), (show (mf 0).toInt = (mf 0).toInt from rfl), (show (mf 2).toInt = (mf 2).toInt from rfl), (show (mf 3).toInt = (mf 3).toInt from rfl), (show (mf 7).toInt = (mf 7).toInt from rfl), (show (mf 8).toInt = (mf 8).toInt from rfl), (show (mf 10).toInt = (mf 10).toInt from rfl), (show 0 ≤ (0 : Int) from by first | decide | omega), (show (0 : Int) ≤ 1 from by first | decide | omega)⟩) d_Mo_receives_28
  · have nc5 : ¬ (0 : Int) ≤ v2.toInt := mt (i_le (x := 0) (y := v2)).mpr c5
    refine lv_aload_n S.x S.b d_Mo_receives_11 rfl (lv_at hl 1 rfl) ?_
    refine lv_iload_n S.x S.b d_Mo_receives_12 rfl (lv_at hl 2 rfl) ?_
    refine px_callv (pr := []) (px_runV (As := [.int p0]) (rest := []) S (c_mo_out l D cs RR mo mr mf md hq qr QO QF QA PG p0  (show 0 ≤ p0.toInt from by first | exact g0 | omega) (show p0.toInt < 13 from by first | exact g1 | omega) hpr hpg _) hT (pr := []) (pcs := [wd_Mo cs mo mr (fun _ => none) mf md (gMo PG hq), fm 13 (fPr cs hq qr QO QF QA), fm 8 (fPg cs PG)]) hw px_X.tt (px_recv hT hw 0 0 rfl rfl rfl) m14_54 m14_51 m14_53 ms_15_15 m1_20 q_Mo_out ⟨Nat.le_of_ble_eq_true rfl, Nat.le_of_ble_eq_true rfl⟩ hl.1 rfl (Nat.le_of_ble_eq_true rfl) d_Mo_receives_13 ⟨Nat.le_of_ble_eq_true rfl, Nat.le_of_ble_eq_true rfl⟩) hw hA (fun p29 H locs hp29 hw => ?_)
    obtain ⟨QO26, QF27, QA28, rfl, e31, e32, e33⟩ := hp29
    replace e31 : PrA PG RR QO26 QF27 QA28 := e31
    have hpr := e31
    replace e32 : KpP QO QF QA QO26 QF27 QA28 p0.toNatClampNeg := e32
    have hkp := hkp.tr e32
    replace e33 : (QF27 p0.toNatClampNeg 2).toInt ≠ -2 := e33
    replace hw : pw D A s.heap H locs [wd_Mo cs mo mr (fun _ => none) mf md (gMo PG hq), fm 13 (fPr cs hq qr QO26 QF27 QA28), fm 8 (fPg cs PG)] := hw
    refine lv_iconst (v := 1) S.x S.b d_Mo_receives_16 (by decide) ?_
    exact px_iret (v := 1) S hr rfl hlk hAe hw (Nat.le_of_ble_eq_true rfl) (Nat.le_of_ble_eq_true rfl) (⟨mf, QO26, QF27, QA28, rfl, (show PrA PG RR QO26 QF27 QA28 from hpr), (show KpP QO QF QA QO26 QF27 QA28 p0.toNatClampNeg from hkp), (show (mf 0).toInt = (mf 0).toInt from rfl), (show (mf 2).toInt = (mf 2).toInt from rfl), (show (mf 3).toInt = (mf 3).toInt from rfl), (show (mf 7).toInt = (mf 7).toInt from rfl), (show (mf 8).toInt = (mf 8).toInt from rfl), (show (mf 10).toInt = (mf 10).toInt from rfl), (show 0 ≤ (1 : Int) from by first | decide | omega), (show (1 : Int) ≤ 1 from by first | decide | omega)⟩) d_Mo_receives_17
abbrev b_Mo_asksMore : ByteArray := prog_14_method_19_code
def y_Mo_asksMore : MethodName := ⟨"HomeSystemModel", "asksMore", "(II)Z"⟩
theorem d_Mo_asksMore_0 : decode b_Mo_asksMore 0 = .ok (.aload_n 0, 1) := by decide +kernel
theorem d_Mo_asksMore_1 : decode b_Mo_asksMore 1 = .ok (.iload_n 1, 1) := by decide +kernel
theorem d_Mo_asksMore_2 : decode b_Mo_asksMore 2 = .ok (.iload_n 2, 1) := by decide +kernel
theorem d_Mo_asksMore_3 : decode b_Mo_asksMore 3 = .ok (.invokevirtual 89, 3) := by decide +kernel
theorem d_Mo_asksMore_6 : decode b_Mo_asksMore 6 = .ok (.istore_n 3, 1) := by decide +kernel
theorem d_Mo_asksMore_7 : decode b_Mo_asksMore 7 = .ok (.iload_n 3, 1) := by decide +kernel
theorem d_Mo_asksMore_8 : decode b_Mo_asksMore 8 = .ok (.ifCond .ge 10, 3) := by decide +kernel
theorem d_Mo_asksMore_11 : decode b_Mo_asksMore 11 = .ok (.aload_n 0, 1) := by decide +kernel
theorem d_Mo_asksMore_12 : decode b_Mo_asksMore 12 = .ok (.iload_n 1, 1) := by decide +kernel
theorem d_Mo_asksMore_13 : decode b_Mo_asksMore 13 = .ok (.invokevirtual 93, 3) := by decide +kernel
theorem d_Mo_asksMore_16 : decode b_Mo_asksMore 16 = .ok (.iconst 1, 1) := by decide +kernel
theorem d_Mo_asksMore_17 : decode b_Mo_asksMore 17 = .ok (.ireturn, 1) := by decide +kernel
theorem d_Mo_asksMore_18 : decode b_Mo_asksMore 18 = .ok (.aload_n 0, 1) := by decide +kernel
theorem d_Mo_asksMore_19 : decode b_Mo_asksMore 19 = .ok (.iload_n 1, 1) := by decide +kernel
theorem d_Mo_asksMore_20 : decode b_Mo_asksMore 20 = .ok (.iload_n 3, 1) := by decide +kernel
theorem d_Mo_asksMore_21 : decode b_Mo_asksMore 21 = .ok (.invokevirtual 105, 3) := by decide +kernel
theorem d_Mo_asksMore_24 : decode b_Mo_asksMore 24 = .ok (.ifCond .le 7, 3) := by decide +kernel
theorem d_Mo_asksMore_27 : decode b_Mo_asksMore 27 = .ok (.iconst 1, 1) := by decide +kernel
theorem d_Mo_asksMore_28 : decode b_Mo_asksMore 28 = .ok (.goto 4, 3) := by decide +kernel
theorem d_Mo_asksMore_31 : decode b_Mo_asksMore 31 = .ok (.iconst 0, 1) := by decide +kernel
theorem d_Mo_asksMore_32 : decode b_Mo_asksMore 32 = .ok (.istore 4, 2) := by decide +kernel
theorem d_Mo_asksMore_34 : decode b_Mo_asksMore 34 = .ok (.aload_n 0, 1) := by decide +kernel
theorem d_Mo_asksMore_35 : decode b_Mo_asksMore 35 = .ok (.iload 4, 2) := by decide +kernel
theorem d_Mo_asksMore_37 : decode b_Mo_asksMore 37 = .ok (.ifCond .eq 7, 3) := by decide +kernel
theorem d_Mo_asksMore_40 : decode b_Mo_asksMore 40 = .ok (.iconst 1, 1) := by decide +kernel
theorem d_Mo_asksMore_41 : decode b_Mo_asksMore 41 = .ok (.goto 4, 3) := by decide +kernel
theorem d_Mo_asksMore_44 : decode b_Mo_asksMore 44 = .ok (.iconst 0, 1) := by decide +kernel
theorem d_Mo_asksMore_45 : decode b_Mo_asksMore 45 = .ok (.putfield 111, 3) := by decide +kernel
theorem d_Mo_asksMore_48 : decode b_Mo_asksMore 48 = .ok (.iload 4, 2) := by decide +kernel
theorem d_Mo_asksMore_50 : decode b_Mo_asksMore 50 = .ok (.ifCond .ne 15, 3) := by decide +kernel
theorem d_Mo_asksMore_53 : decode b_Mo_asksMore 53 = .ok (.aload_n 0, 1) := by decide +kernel
theorem d_Mo_asksMore_54 : decode b_Mo_asksMore 54 = .ok (.getfield 21, 3) := by decide +kernel
theorem d_Mo_asksMore_57 : decode b_Mo_asksMore 57 = .ok (.iload_n 3, 1) := by decide +kernel
theorem d_Mo_asksMore_58 : decode b_Mo_asksMore 58 = .ok (.aaload, 1) := by decide +kernel
theorem d_Mo_asksMore_59 : decode b_Mo_asksMore 59 = .ok (.invokevirtual 97, 3) := by decide +kernel
theorem d_Mo_asksMore_62 : decode b_Mo_asksMore 62 = .ok (.ifCond .eq 7, 3) := by decide +kernel
theorem d_Mo_asksMore_65 : decode b_Mo_asksMore 65 = .ok (.iconst 1, 1) := by decide +kernel
theorem d_Mo_asksMore_66 : decode b_Mo_asksMore 66 = .ok (.goto 4, 3) := by decide +kernel
theorem d_Mo_asksMore_69 : decode b_Mo_asksMore 69 = .ok (.iconst 0, 1) := by decide +kernel
theorem d_Mo_asksMore_70 : decode b_Mo_asksMore 70 = .ok (.ireturn, 1) := by decide +kernel
theorem q_Mo_asksMore : px_y y_Mo_asksMore 2 := by unfold px_y; decide +kernel
set_option maxHeartbeats 4000000 in
set_option maxRecDepth 100000 in
theorem c_mo_asksMore (l : Launch) (D : va_G) (cs : Nat → ClassId) (RR : Nat → Int) (mo : Nat) (mr : Nat → Nat) (md : Nat → Nat → Int32) (mf : Nat → Int32) (hq : Nat → Nat) (qr : Nat → Nat → Nat) (QO : Nat → Option Nat) (QF : Nat → Nat → Int32) (QA : Nat → Nat → Nat → Int32) (PG : Nat → Pgs) (p0 p1 : Int32)  (g0 : 0 ≤ p0.toInt) (g1 : p0.toInt < 13) (hpr : PrA PG RR QO QF QA) (hpg : PgA PG) : MetI l y_Mo_asksMore b_Mo_asksMore 5 (.boolean) D cs 3 120 (0) (0) [.ref mo, .int p0, .int p1] [wd_Mo cs mo mr (fun _ => none) mf md (gMo PG hq), fm 13 (fPr cs hq qr QO QF QA), fm 8 (fPg cs PG)] (fun _ => True) (fun v ps => ∃ (mf' : Nat → Int32) (QO' : Nat → Option Nat) (QF' : Nat → Nat → Int32) (QA' : Nat → Nat → Nat → Int32), (ps = [wd_Mo cs mo mr (fun _ => none) mf' md (gMo PG hq), fm 13 (fPr cs hq qr QO' QF' QA'), fm 8 (fPg cs PG)]) ∧ (PrA PG RR QO' QF' QA') ∧ (KpP QO QF QA QO' QF' QA' p0.toNatClampNeg) ∧ ((mf' 0).toInt = (mf 0).toInt) ∧ ((mf' 2).toInt = (mf 2).toInt) ∧ ((mf' 3).toInt = (mf 3).toInt) ∧ ((mf' 7).toInt = (mf 7).toInt) ∧ ((mf' 8).toInt = (mf 8).toInt) ∧ ((mf' 10).toInt = (mf 10).toInt) ∧ (0 ≤ v.toInt) ∧ (v.toInt ≤ 1)) := by
  refine px_enter (by decide) (Nat.le_of_ble_eq_true rfl) ?_
  intro p e s m below meth c A ls hAe S hr hlk hnm hA hT hX hw hl
  replace hl : lv_has ls 5 [(0, .ref mo), (1, .int p0), (2, .int p1)] := hl
  have lp0 := Int32.le_toInt p0
  have up0 := Int32.toInt_lt p0
  have lp1 := Int32.le_toInt p1
  have up1 := Int32.toInt_lt p1
  have cst0 : (0 : Int32).toInt = 0 := rfl
  have cst1 : (1 : Int32).toInt = 1 := rfl
  have hkp : KpP QO QF QA QO QF QA p0.toNatClampNeg := KpP.rf
  refine lv_aload_n S.x S.b d_Mo_asksMore_0 rfl (lv_at hl 0 rfl) ?_
  refine lv_iload_n S.x S.b d_Mo_asksMore_1 rfl (lv_at hl 1 rfl) ?_
  refine lv_iload_n S.x S.b d_Mo_asksMore_2 rfl (lv_at hl 2 rfl) ?_
  refine px_calli (pr := []) (px_runV (As := [.int p0, .int p1]) (rest := []) S (c_mo_partner l D cs RR mo mr mf md hq qr QO QF QA PG p0 p1  (show 0 ≤ p0.toInt from by first | exact g0 | omega) (show p0.toInt < 13 from by first | exact g1 | omega) hpr hpg _) hT (pr := []) (pcs := [wd_Mo cs mo mr (fun _ => none) mf md (gMo PG hq), fm 13 (fPr cs hq qr QO QF QA), fm 8 (fPg cs PG)]) hw px_X.tt (px_recv hT hw 0 0 rfl rfl rfl) m14_47 m14_44 m14_46 ms_15_14 m1_20 q_Mo_partner ⟨Nat.le_of_ble_eq_true rfl, Nat.le_of_ble_eq_true rfl⟩ hl.1 rfl (Nat.le_of_ble_eq_true rfl) d_Mo_asksMore_3 ⟨Nat.le_of_ble_eq_true rfl, Nat.le_of_ble_eq_true rfl⟩) hw hA (fun v2 p1 H locs hp1 hw => ?_)
  obtain ⟨rfl, e3, e4⟩ := hp1
  replace e3 : -1 ≤ v2.toInt := e3
  replace e4 : v2.toInt < 13 := e4
  replace hw : pw D A s.heap H locs [wd_Mo cs mo mr (fun _ => none) mf md (gMo PG hq), fm 13 (fPr cs hq qr QO QF QA), fm 8 (fPg cs PG)] := hw
  have lv2 := Int32.le_toInt v2
  have uv2 := Int32.toInt_lt v2
  refine lv_istore_n (lv' := [(3, .int v2), (0, .ref mo), (1, .int p0), (2, .int p1)]) S.x S.b d_Mo_asksMore_6 rfl hl (by decide) rfl (fun ls hl => ?_)
  refine lv_iload_n S.x S.b d_Mo_asksMore_7 rfl (lv_at hl 0 rfl) ?_
  refine lv_if_ge (tgt := 18) S.x S.b d_Mo_asksMore_8 (by decide) (fun c5 => ?_) (fun c5 => ?_)
  · have nc5 : (0 : Int) ≤ v2.toInt := (i_le (x := 0) (y := v2)).mp c5
    refine lv_aload_n S.x S.b d_Mo_asksMore_18 rfl (lv_at hl 1 rfl) ?_
    refine lv_iload_n S.x S.b d_Mo_asksMore_19 rfl (lv_at hl 2 rfl) ?_
    refine lv_iload_n S.x S.b d_Mo_asksMore_20 rfl (lv_at hl 0 rfl) ?_
    refine px_calli (pr := []) (px_runV (As := [.int p0, .int v2]) (rest := []) S (c_mo_lying l D cs RR mo mr mf md hq qr QO QF QA PG p0 v2  (show 0 ≤ p0.toInt from by first | exact g0 | omega) (show p0.toInt < 13 from by first | exact g1 | omega) (show 0 ≤ v2.toInt from by first | exact oz_0ffba53c78 nc5 | omega) (show v2.toInt < 13 from by first | exact e4 | omega) hpr hpg _) hT (pr := []) (pcs := [wd_Mo cs mo mr (fun _ => none) mf md (gMo PG hq), fm 13 (fPr cs hq qr QO QF QA), fm 8 (fPg cs PG)]) hw px_X.tt (px_recv hT hw 0 0 rfl rfl rfl) m14_70 m14_67 m14_69 ms_16_2 m1_20 q_Mo_lying ⟨Nat.le_of_ble_eq_true rfl, Nat.le_of_ble_eq_true rfl⟩ hl.1 rfl (Nat.le_of_ble_eq_true rfl) d_Mo_asksMore_21 ⟨Nat.le_of_ble_eq_true rfl, Nat.le_of_ble_eq_true rfl⟩) hw hA (fun v7 p6 H locs hp6 hw => ?_)
    obtain ⟨rfl, e8, e9, e10, e11⟩ := hp6
    replace e8 : 0 ≤ v7.toInt := e8
    replace e9 : v7.toInt ≤ 4 := e9
    replace e10 : p0.toInt < v2.toInt → v7.toInt = (QF v2.toNatClampNeg 21).toInt := e10
    replace e11 : v2.toInt ≤ p0.toInt → v7.toInt = (QF p0.toNatClampNeg 23).toInt := e11
    replace hw : pw D A s.heap H locs [wd_Mo cs mo mr (fun _ => none) mf md (gMo PG hq), fm 13 (fPr cs hq qr QO QF QA), fm 8 (fPg cs PG)] := hw
    have lv7 := Int32.le_toInt v7
    have uv7 := Int32.toInt_lt v7
    refine lv_if_le (tgt := 31) S.x S.b d_Mo_asksMore_24 (by decide) (fun c12 => ?_) (fun c12 => ?_)
    · have nc12 : v7.toInt ≤ (0 : Int) := (i_le (x := v7) (y := 0)).mp c12
      refine lv_iconst (v := 0) S.x S.b d_Mo_asksMore_31 (by decide) ?_
      refine lv_istore (lv' := [(4, .int 0), (3, .int v2), (0, .ref mo), (1, .int p0), (2, .int p1)]) S.x S.b d_Mo_asksMore_32 hl (by decide) rfl (fun ls hl => ?_)
      refine lv_aload_n S.x S.b d_Mo_asksMore_34 rfl (lv_at hl 2 rfl) ?_
      refine lv_iload S.x S.b d_Mo_asksMore_35 (lv_at hl 0 rfl) ?_
      refine lv_if_eq (tgt := 44) S.x S.b d_Mo_asksMore_37 (by decide) (fun c13 => ?_) (fun c13 => ?_)
      ·
        refine lv_iconst (v := 0) S.x S.b d_Mo_asksMore_44 (by decide) ?_
        refine px_put S k_Mo hT hw 0 0 9 rfl rfl (by decide) m11_87 rfl rfl rfl (Nat.le_of_ble_eq_true rfl) d_Mo_asksMore_45 (w' := wd_Mo cs mo mr (fun _ => none) (upd mf 9 0) md (gMo PG hq)) (ps' := [wd_Mo cs mo mr (fun _ => none) (upd mf 9 0) md (gMo PG hq), fm 13 (fPr cs hq qr QO QF QA), fm 8 (fPg cs PG)]) rfl rfl (fun H locs hw => ?_)
        refine lv_iload S.x S.b d_Mo_asksMore_48 (lv_at hl 0 rfl) ?_
        refine lv_if_ne (tgt := 65) S.x S.b d_Mo_asksMore_50 (by decide) (fun c14 => ?_) (fun c14 => ?_)
        · exact absurd c14 (by decide)
        ·
          refine lv_aload_n S.x S.b d_Mo_asksMore_53 rfl (lv_at hl 2 rfl) ?_
          refine px_get S k_Mo hT hw 0 0 5 (v := .ref (mr 5)) rfl rfl rfl (by decide) m11_83 d_Mo_asksMore_54 ?_
          refine lv_iload_n S.x S.b d_Mo_asksMore_57 rfl (lv_at hl 1 rfl) ?_
          refine px_aaldS S hT hw 0 3 10 (n := 13) (f := ((gMo PG hq) 5)) rfl rfl rfl (x := v2) (vp_in_iff.mpr (by first | exact oz_5c63bd1689 nc5 e4 | (constructor <;> omega))) (sk := (hq v2.toNatClampNeg)) rfl d_Mo_asksMore_58 ?_
          have hw : pw D A s.heap _ _ [wd_Mo cs mo mr (fun _ => none) (upd mf 9 0) md (gMo PG hq), fm 8 (fPg cs PG), fm 13 (fPr cs hq qr QO QF QA)] := hw.sub [0, 2, 1] rfl rfl
          have hc15 := cl_nat (x := v2) (by first | exact oz_0ffba53c78 nc5 | omega)
          have hi15 : v2.toNatClampNeg < 13 := by first | exact oz_9995642664 hc15 e4 | omega
          have hw : pw D A s.heap _ _ [wd_Mo cs mo mr (fun _ => none) (upd mf 9 0) md (gMo PG hq), fm 8 (fPg cs PG), fo 13 (fPr cs hq qr QO QF QA) v2.toNatClampNeg, wd_Mpr cs (hq v2.toNatClampNeg) (qr v2.toNatClampNeg) (fun _ => QO v2.toNatClampNeg) (QF v2.toNatClampNeg) (QA v2.toNatClampNeg) (fun _ _ => none)] := fm_out (pr := [wd_Mo cs mo mr (fun _ => none) (upd mf 9 0) md (gMo PG hq), fm 8 (fPg cs PG)]) (T := fPr cs hq qr QO QF QA) hw hi15
          have hps15 := hpr.1 v2.toNatClampNeg hi15
          have hpb15 := hps15.1
          unfold PsB at hpb15
          refine px_calli (pr := [wd_Mo cs mo mr (fun _ => none) (upd mf 9 0) md (gMo PG hq), fm 8 (fPg cs PG), fo 13 (fPr cs hq qr QO QF QA) v2.toNatClampNeg]) (px_runV (As := []) (rest := []) S (c_mq_hasEnded l D cs (hq v2.toNatClampNeg) (qr v2.toNatClampNeg) (fun _ _ => none) (fun _ => QO v2.toNatClampNeg) (QF v2.toNatClampNeg) (QA v2.toNatClampNeg)    _) hT (pr := [wd_Mo cs mo mr (fun _ => none) (upd mf 9 0) md (gMo PG hq), fm 8 (fPg cs PG), fo 13 (fPr cs hq qr QO QF QA) v2.toNatClampNeg]) (pcs := [wd_Mpr cs (hq v2.toNatClampNeg) (qr v2.toNatClampNeg) (fun _ => QO v2.toNatClampNeg) (QF v2.toNatClampNeg) (QA v2.toNatClampNeg) (fun _ _ => none)]) hw px_X.tt (px_recv hT hw 3 0 rfl rfl rfl) m14_58 m14_55 m14_56 m14_57 m1_22 q_Mpr_hasEnded ⟨Nat.le_of_ble_eq_true rfl, Nat.le_of_ble_eq_true rfl⟩ hl.1 rfl (Nat.le_of_ble_eq_true rfl) d_Mo_asksMore_59 ⟨Nat.le_of_ble_eq_true rfl, Nat.le_of_ble_eq_true rfl⟩) hw hA (fun v17 p16 H locs hp16 hw => ?_)
          obtain ⟨rfl, e18, e19, e20⟩ := hp16
          replace e18 : 0 ≤ v17.toInt := e18
          replace e19 : v17.toInt ≤ 1 := e19
          replace e20 : v17.toInt = 1 → ((QF v2.toNatClampNeg) 2).toInt ≠ -2 := e20
          replace hw : pw D A s.heap H locs [wd_Mo cs mo mr (fun _ => none) (upd mf 9 0) md (gMo PG hq), fm 8 (fPg cs PG), fo 13 (fPr cs hq qr QO QF QA) v2.toNatClampNeg, wd_Mpr cs (hq v2.toNatClampNeg) (qr v2.toNatClampNeg) (fun _ => QO v2.toNatClampNeg) (QF v2.toNatClampNeg) (QA v2.toNatClampNeg) (fun _ _ => none)] := hw
          have lv17 := Int32.le_toInt v17
          have uv17 := Int32.toInt_lt v17
          refine lv_if_eq (tgt := 69) S.x S.b d_Mo_asksMore_62 (by decide) (fun c21 => ?_) (fun c21 => ?_)
          · have nc21 : v17.toInt = (0 : Int) := (i_eq (x := v17) (y := 0)).mp c21
            refine lv_iconst (v := 0) S.x S.b d_Mo_asksMore_69 (by decide) ?_
            have hw : pw D A s.heap _ _ [wd_Mo cs mo mr (fun _ => none) (upd mf 9 0) md (gMo PG hq), fm 8 (fPg cs PG), fm 13 (fPr cs hq qr QO QF QA)] := fm_back (pr := [wd_Mo cs mo mr (fun _ => none) (upd mf 9 0) md (gMo PG hq), fm 8 (fPg cs PG)]) (T := fPr cs hq qr QO QF QA) hw hi15
            have hw : pw D A s.heap _ _ [wd_Mo cs mo mr (fun _ => none) (upd mf 9 0) md (gMo PG hq), fm 13 (fPr cs hq qr QO QF QA), fm 8 (fPg cs PG)] := hw.sub [0, 2, 1] rfl rfl
            exact px_iret (v := 0) S hr rfl hlk hAe hw (Nat.le_of_ble_eq_true rfl) (Nat.le_of_ble_eq_true rfl) (⟨(upd mf 9 0), QO, QF, QA, rfl, (show PrA PG RR QO QF QA from hpr), (show KpP QO QF QA QO QF QA p0.toNatClampNeg from hkp), (show (mf 0).toInt = (mf 0).toInt from rfl), (show (mf 2).toInt = (mf 2).toInt from rfl), (show (mf 3).toInt = (mf 3).toInt from rfl), (show (mf 7).toInt = (mf 7).toInt from rfl), (show (mf 8).toInt = (mf 8).toInt from rfl), (show (mf 10).toInt = (mf 10).toInt from rfl), (show 0 ≤ (0 : Int) from by first | decide | omega), (show (0 : Int) ≤ 1 from by first | decide | omega)⟩) d_Mo_asksMore_70
          · have nc21 : ¬ v17.toInt = (0 : Int) := mt (i_eq (x := v17) (y := 0)).mpr c21
            refine lv_iconst (v := 1) S.x S.b d_Mo_asksMore_65 (by decide) ?_
            refine lv_goto (tgt := 70) S.x S.b d_Mo_asksMore_66 (by decide) ?_
            have hw : pw D A s.heap _ _ [wd_Mo cs mo mr (fun _ => none) (upd mf 9 0) md (gMo PG hq), fm 8 (fPg cs PG), fm 13 (fPr cs hq qr QO QF QA)] := fm_back (pr := [wd_Mo cs mo mr (fun _ => none) (upd mf 9 0) md (gMo PG hq), fm 8 (fPg cs PG)]) (T := fPr cs hq qr QO QF QA) hw hi15
            have hw : pw D A s.heap _ _ [wd_Mo cs mo mr (fun _ => none) (upd mf 9 0) md (gMo PG hq), fm 13 (fPr cs hq qr QO QF QA), fm 8 (fPg cs PG)] := hw.sub [0, 2, 1] rfl rfl
            exact px_iret (v := 1) S hr rfl hlk hAe hw (Nat.le_of_ble_eq_true rfl) (Nat.le_of_ble_eq_true rfl) (⟨(upd mf 9 0), QO, QF, QA, rfl, (show PrA PG RR QO QF QA from hpr), (show KpP QO QF QA QO QF QA p0.toNatClampNeg from hkp), (show (mf 0).toInt = (mf 0).toInt from rfl), (show (mf 2).toInt = (mf 2).toInt from rfl), (show (mf 3).toInt = (mf 3).toInt from rfl), (show (mf 7).toInt = (mf 7).toInt from rfl), (show (mf 8).toInt = (mf 8).toInt from rfl), (show (mf 10).toInt = (mf 10).toInt from rfl), (show 0 ≤ (1 : Int) from by first | decide | omega), (show (1 : Int) ≤ 1 from by first | decide | omega)⟩) d_Mo_asksMore_70
      · exact absurd c13 (by decide)
    · have nc12 : ¬ v7.toInt ≤ (0 : Int) := mt (i_le (x := v7) (y := 0)).mpr c12
      refine lv_iconst (v := 1) S.x S.b d_Mo_asksMore_27 (by decide) ?_
      refine lv_goto (tgt := 32) S.x S.b d_Mo_asksMore_28 (by decide) ?_
      refine lv_istore (lv' := [(4, .int 1), (3, .int v2), (0, .ref mo), (1, .int p0), (2, .int p1)]) S.x S.b d_Mo_asksMore_32 hl (by decide) rfl (fun ls hl => ?_)
      refine lv_aload_n S.x S.b d_Mo_asksMore_34 rfl (lv_at hl 2 rfl) ?_
      refine lv_iload S.x S.b d_Mo_asksMore_35 (lv_at hl 0 rfl) ?_
      refine lv_if_eq (tgt := 44) S.x S.b d_Mo_asksMore_37 (by decide) (fun c22 => ?_) (fun c22 => ?_)
      · exact absurd c22 (by decide)
      ·
        refine lv_iconst (v := 1) S.x S.b d_Mo_asksMore_40 (by decide) ?_
        refine lv_goto (tgt := 45) S.x S.b d_Mo_asksMore_41 (by decide) ?_
        refine px_put S k_Mo hT hw 0 0 9 rfl rfl (by decide) m11_87 rfl rfl rfl (Nat.le_of_ble_eq_true rfl) d_Mo_asksMore_45 (w' := wd_Mo cs mo mr (fun _ => none) (upd mf 9 1) md (gMo PG hq)) (ps' := [wd_Mo cs mo mr (fun _ => none) (upd mf 9 1) md (gMo PG hq), fm 13 (fPr cs hq qr QO QF QA), fm 8 (fPg cs PG)]) rfl rfl (fun H locs hw => ?_)
        refine lv_iload S.x S.b d_Mo_asksMore_48 (lv_at hl 0 rfl) ?_
        refine lv_if_ne (tgt := 65) S.x S.b d_Mo_asksMore_50 (by decide) (fun c23 => ?_) (fun c23 => ?_)
        ·
          refine lv_iconst (v := 1) S.x S.b d_Mo_asksMore_65 (by decide) ?_
          refine lv_goto (tgt := 70) S.x S.b d_Mo_asksMore_66 (by decide) ?_
          exact px_iret (v := 1) S hr rfl hlk hAe hw (Nat.le_of_ble_eq_true rfl) (Nat.le_of_ble_eq_true rfl) (⟨(upd mf 9 1), QO, QF, QA, rfl, (show PrA PG RR QO QF QA from hpr), (show KpP QO QF QA QO QF QA p0.toNatClampNeg from hkp), (show (mf 0).toInt = (mf 0).toInt from rfl), (show (mf 2).toInt = (mf 2).toInt from rfl), (show (mf 3).toInt = (mf 3).toInt from rfl), (show (mf 7).toInt = (mf 7).toInt from rfl), (show (mf 8).toInt = (mf 8).toInt from rfl), (show (mf 10).toInt = (mf 10).toInt from rfl), (show 0 ≤ (1 : Int) from by first | decide | omega), (show (1 : Int) ≤ 1 from by first | decide | omega)⟩) d_Mo_asksMore_70
        · exact absurd c23 (by decide)
  · have nc5 : ¬ (0 : Int) ≤ v2.toInt := mt (i_le (x := 0) (y := v2)).mpr c5
    refine lv_aload_n S.x S.b d_Mo_asksMore_11 rfl (lv_at hl 1 rfl) ?_
    refine lv_iload_n S.x S.b d_Mo_asksMore_12 rfl (lv_at hl 2 rfl) ?_
    refine px_callv (pr := []) (px_runV (As := [.int p0]) (rest := []) S (c_mo_out l D cs RR mo mr mf md hq qr QO QF QA PG p0  (show 0 ≤ p0.toInt from by first | exact g0 | omega) (show p0.toInt < 13 from by first | exact g1 | omega) hpr hpg _) hT (pr := []) (pcs := [wd_Mo cs mo mr (fun _ => none) mf md (gMo PG hq), fm 13 (fPr cs hq qr QO QF QA), fm 8 (fPg cs PG)]) hw px_X.tt (px_recv hT hw 0 0 rfl rfl rfl) m14_54 m14_51 m14_53 ms_15_15 m1_20 q_Mo_out ⟨Nat.le_of_ble_eq_true rfl, Nat.le_of_ble_eq_true rfl⟩ hl.1 rfl (Nat.le_of_ble_eq_true rfl) d_Mo_asksMore_13 ⟨Nat.le_of_ble_eq_true rfl, Nat.le_of_ble_eq_true rfl⟩) hw hA (fun p30 H locs hp30 hw => ?_)
    obtain ⟨QO27, QF28, QA29, rfl, e32, e33, e34⟩ := hp30
    replace e32 : PrA PG RR QO27 QF28 QA29 := e32
    have hpr := e32
    replace e33 : KpP QO QF QA QO27 QF28 QA29 p0.toNatClampNeg := e33
    have hkp := hkp.tr e33
    replace e34 : (QF28 p0.toNatClampNeg 2).toInt ≠ -2 := e34
    replace hw : pw D A s.heap H locs [wd_Mo cs mo mr (fun _ => none) mf md (gMo PG hq), fm 13 (fPr cs hq qr QO27 QF28 QA29), fm 8 (fPg cs PG)] := hw
    refine lv_iconst (v := 1) S.x S.b d_Mo_asksMore_16 (by decide) ?_
    exact px_iret (v := 1) S hr rfl hlk hAe hw (Nat.le_of_ble_eq_true rfl) (Nat.le_of_ble_eq_true rfl) (⟨mf, QO27, QF28, QA29, rfl, (show PrA PG RR QO27 QF28 QA29 from hpr), (show KpP QO QF QA QO27 QF28 QA29 p0.toNatClampNeg from hkp), (show (mf 0).toInt = (mf 0).toInt from rfl), (show (mf 2).toInt = (mf 2).toInt from rfl), (show (mf 3).toInt = (mf 3).toInt from rfl), (show (mf 7).toInt = (mf 7).toInt from rfl), (show (mf 8).toInt = (mf 8).toInt from rfl), (show (mf 10).toInt = (mf 10).toInt from rfl), (show 0 ≤ (1 : Int) from by first | decide | omega), (show (1 : Int) ≤ 1 from by first | decide | omega)⟩) d_Mo_asksMore_17
abbrev b_Mo_waits : ByteArray := prog_14_method_21_code
def y_Mo_waits : MethodName := ⟨"HomeSystemModel", "waits", "(II)Z"⟩
theorem d_Mo_waits_0 : decode b_Mo_waits 0 = .ok (.iload_n 2, 1) := by decide +kernel
theorem d_Mo_waits_1 : decode b_Mo_waits 1 = .ok (.ifCond .ne 7, 3) := by decide +kernel
theorem d_Mo_waits_4 : decode b_Mo_waits 4 = .ok (.iconst (-1), 1) := by decide +kernel
theorem d_Mo_waits_5 : decode b_Mo_waits 5 = .ok (.goto 9, 3) := by decide +kernel
theorem d_Mo_waits_8 : decode b_Mo_waits 8 = .ok (.aload_n 0, 1) := by decide +kernel
theorem d_Mo_waits_9 : decode b_Mo_waits 9 = .ok (.iload_n 1, 1) := by decide +kernel
theorem d_Mo_waits_10 : decode b_Mo_waits 10 = .ok (.iload_n 2, 1) := by decide +kernel
theorem d_Mo_waits_11 : decode b_Mo_waits 11 = .ok (.invokevirtual 89, 3) := by decide +kernel
theorem d_Mo_waits_14 : decode b_Mo_waits 14 = .ok (.istore_n 3, 1) := by decide +kernel
theorem d_Mo_waits_15 : decode b_Mo_waits 15 = .ok (.iload_n 3, 1) := by decide +kernel
theorem d_Mo_waits_16 : decode b_Mo_waits 16 = .ok (.ifCond .ge 10, 3) := by decide +kernel
theorem d_Mo_waits_19 : decode b_Mo_waits 19 = .ok (.aload_n 0, 1) := by decide +kernel
theorem d_Mo_waits_20 : decode b_Mo_waits 20 = .ok (.iload_n 1, 1) := by decide +kernel
theorem d_Mo_waits_21 : decode b_Mo_waits 21 = .ok (.invokevirtual 93, 3) := by decide +kernel
theorem d_Mo_waits_24 : decode b_Mo_waits 24 = .ok (.iconst 1, 1) := by decide +kernel
theorem d_Mo_waits_25 : decode b_Mo_waits 25 = .ok (.ireturn, 1) := by decide +kernel
theorem d_Mo_waits_26 : decode b_Mo_waits 26 = .ok (.aload_n 0, 1) := by decide +kernel
theorem d_Mo_waits_27 : decode b_Mo_waits 27 = .ok (.getfield 21, 3) := by decide +kernel
theorem d_Mo_waits_30 : decode b_Mo_waits 30 = .ok (.iload_n 3, 1) := by decide +kernel
theorem d_Mo_waits_31 : decode b_Mo_waits 31 = .ok (.aaload, 1) := by decide +kernel
theorem d_Mo_waits_32 : decode b_Mo_waits 32 = .ok (.astore 4, 2) := by decide +kernel
theorem d_Mo_waits_34 : decode b_Mo_waits 34 = .ok (.aload_n 0, 1) := by decide +kernel
theorem d_Mo_waits_35 : decode b_Mo_waits 35 = .ok (.aload 4, 2) := by decide +kernel
theorem d_Mo_waits_37 : decode b_Mo_waits 37 = .ok (.getfield 127, 3) := by decide +kernel
theorem d_Mo_waits_40 : decode b_Mo_waits 40 = .ok (.ifCond .eq 12, 3) := by decide +kernel
theorem d_Mo_waits_43 : decode b_Mo_waits 43 = .ok (.aload 4, 2) := by decide +kernel
theorem d_Mo_waits_45 : decode b_Mo_waits 45 = .ok (.getfield 127, 3) := by decide +kernel
theorem d_Mo_waits_48 : decode b_Mo_waits 48 = .ok (.iconst 1, 1) := by decide +kernel
theorem d_Mo_waits_49 : decode b_Mo_waits 49 = .ok (.if_icmp .ne 11, 3) := by decide +kernel
theorem d_Mo_waits_52 : decode b_Mo_waits 52 = .ok (.aload 4, 2) := by decide +kernel
theorem d_Mo_waits_54 : decode b_Mo_waits 54 = .ok (.getfield 130, 3) := by decide +kernel
theorem d_Mo_waits_57 : decode b_Mo_waits 57 = .ok (.goto 9, 3) := by decide +kernel
theorem d_Mo_waits_60 : decode b_Mo_waits 60 = .ok (.aload 4, 2) := by decide +kernel
theorem d_Mo_waits_62 : decode b_Mo_waits 62 = .ok (.getfield 127, 3) := by decide +kernel
theorem d_Mo_waits_65 : decode b_Mo_waits 65 = .ok (.ineg, 1) := by decide +kernel
theorem d_Mo_waits_66 : decode b_Mo_waits 66 = .ok (.putfield 111, 3) := by decide +kernel
theorem d_Mo_waits_69 : decode b_Mo_waits 69 = .ok (.aload 4, 2) := by decide +kernel
theorem d_Mo_waits_71 : decode b_Mo_waits 71 = .ok (.invokevirtual 97, 3) := by decide +kernel
theorem d_Mo_waits_74 : decode b_Mo_waits 74 = .ok (.ireturn, 1) := by decide +kernel
theorem q_Mo_waits : px_y y_Mo_waits 2 := by unfold px_y; decide +kernel
set_option maxHeartbeats 4000000 in
set_option maxRecDepth 100000 in
theorem c_mo_waits (l : Launch) (D : va_G) (cs : Nat → ClassId) (RR : Nat → Int) (mo : Nat) (mr : Nat → Nat) (md : Nat → Nat → Int32) (mf : Nat → Int32) (hq : Nat → Nat) (qr : Nat → Nat → Nat) (QO : Nat → Option Nat) (QF : Nat → Nat → Int32) (QA : Nat → Nat → Nat → Int32) (PG : Nat → Pgs) (p0 p1 : Int32)  (g0 : 0 ≤ p0.toInt) (g1 : p0.toInt < 13) (hpr : PrA PG RR QO QF QA) (hpg : PgA PG) : MetI l y_Mo_waits b_Mo_waits 5 (.boolean) D cs 3 120 (0) (0) [.ref mo, .int p0, .int p1] [wd_Mo cs mo mr (fun _ => none) mf md (gMo PG hq), fm 13 (fPr cs hq qr QO QF QA), fm 8 (fPg cs PG)] (fun _ => True) (fun v ps => ∃ (mf' : Nat → Int32) (QO' : Nat → Option Nat) (QF' : Nat → Nat → Int32) (QA' : Nat → Nat → Nat → Int32), (ps = [wd_Mo cs mo mr (fun _ => none) mf' md (gMo PG hq), fm 13 (fPr cs hq qr QO' QF' QA'), fm 8 (fPg cs PG)]) ∧ (PrA PG RR QO' QF' QA') ∧ (KpP QO QF QA QO' QF' QA' p0.toNatClampNeg) ∧ ((mf' 0).toInt = (mf 0).toInt) ∧ ((mf' 2).toInt = (mf 2).toInt) ∧ ((mf' 3).toInt = (mf 3).toInt) ∧ ((mf' 7).toInt = (mf 7).toInt) ∧ ((mf' 8).toInt = (mf 8).toInt) ∧ ((mf' 10).toInt = (mf 10).toInt) ∧ (0 ≤ v.toInt) ∧ (v.toInt ≤ 1)) := by
  refine px_enter (by decide) (Nat.le_of_ble_eq_true rfl) ?_
  intro p e s m below meth c A ls hAe S hr hlk hnm hA hT hX hw hl
  replace hl : lv_has ls 5 [(0, .ref mo), (1, .int p0), (2, .int p1)] := hl
  have lp0 := Int32.le_toInt p0
  have up0 := Int32.toInt_lt p0
  have lp1 := Int32.le_toInt p1
  have up1 := Int32.toInt_lt p1
  have cstm1 : ((-1) : Int32).toInt = (-1) := rfl
  have cst1 : (1 : Int32).toInt = 1 := rfl
  have hkp : KpP QO QF QA QO QF QA p0.toNatClampNeg := KpP.rf
  refine lv_iload_n S.x S.b d_Mo_waits_0 rfl (lv_at hl 2 rfl) ?_
  refine lv_if_ne (tgt := 8) S.x S.b d_Mo_waits_1 (by decide) (fun c1 => ?_) (fun c1 => ?_)
  · have nc1 : ¬ p1.toInt = (0 : Int) := mt (i_eq (x := p1) (y := 0)).mpr c1
    refine lv_aload_n S.x S.b d_Mo_waits_8 rfl (lv_at hl 0 rfl) ?_
    refine lv_iload_n S.x S.b d_Mo_waits_9 rfl (lv_at hl 1 rfl) ?_
    refine lv_iload_n S.x S.b d_Mo_waits_10 rfl (lv_at hl 2 rfl) ?_
    refine px_calli (pr := []) (px_runV (As := [.int p0, .int p1]) (rest := []) S (c_mo_partner l D cs RR mo mr mf md hq qr QO QF QA PG p0 p1  (show 0 ≤ p0.toInt from by first | exact g0 | omega) (show p0.toInt < 13 from by first | exact g1 | omega) hpr hpg _) hT (pr := []) (pcs := [wd_Mo cs mo mr (fun _ => none) mf md (gMo PG hq), fm 13 (fPr cs hq qr QO QF QA), fm 8 (fPg cs PG)]) hw px_X.tt (px_recv hT hw 0 0 rfl rfl rfl) m14_47 m14_44 m14_46 ms_15_14 m1_20 q_Mo_partner ⟨Nat.le_of_ble_eq_true rfl, Nat.le_of_ble_eq_true rfl⟩ hl.1 rfl (Nat.le_of_ble_eq_true rfl) d_Mo_waits_11 ⟨Nat.le_of_ble_eq_true rfl, Nat.le_of_ble_eq_true rfl⟩) hw hA (fun v3 p2 H locs hp2 hw => ?_)
    obtain ⟨rfl, e4, e5⟩ := hp2
    replace e4 : -1 ≤ v3.toInt := e4
    replace e5 : v3.toInt < 13 := e5
    replace hw : pw D A s.heap H locs [wd_Mo cs mo mr (fun _ => none) mf md (gMo PG hq), fm 13 (fPr cs hq qr QO QF QA), fm 8 (fPg cs PG)] := hw
    have lv3 := Int32.le_toInt v3
    have uv3 := Int32.toInt_lt v3
    refine lv_istore_n (lv' := [(3, .int v3), (0, .ref mo), (1, .int p0), (2, .int p1)]) S.x S.b d_Mo_waits_14 rfl hl (by decide) rfl (fun ls hl => ?_)
    refine lv_iload_n S.x S.b d_Mo_waits_15 rfl (lv_at hl 0 rfl) ?_
    refine lv_if_ge (tgt := 26) S.x S.b d_Mo_waits_16 (by decide) (fun c6 => ?_) (fun c6 => ?_)
    · have nc6 : (0 : Int) ≤ v3.toInt := (i_le (x := 0) (y := v3)).mp c6
      refine lv_aload_n S.x S.b d_Mo_waits_26 rfl (lv_at hl 1 rfl) ?_
      refine px_get S k_Mo hT hw 0 0 5 (v := .ref (mr 5)) rfl rfl rfl (by decide) m11_83 d_Mo_waits_27 ?_
      refine lv_iload_n S.x S.b d_Mo_waits_30 rfl (lv_at hl 0 rfl) ?_
      refine px_aaldS S hT hw 0 3 10 (n := 13) (f := ((gMo PG hq) 5)) rfl rfl rfl (x := v3) (vp_in_iff.mpr (by first | exact oz_5c63bd1689 nc6 e5 | (constructor <;> omega))) (sk := (hq v3.toNatClampNeg)) rfl d_Mo_waits_31 ?_
      refine lv_astore (lv' := [(4, .ref (hq v3.toNatClampNeg)), (3, .int v3), (0, .ref mo), (1, .int p0), (2, .int p1)]) S.x S.b d_Mo_waits_32 hl (by decide) rfl (fun ls hl => ?_)
      refine lv_aload_n S.x S.b d_Mo_waits_34 rfl (lv_at hl 2 rfl) ?_
      refine lv_aload S.x S.b d_Mo_waits_35 (lv_at hl 0 rfl) ?_
      have hw : pw D A s.heap _ _ [wd_Mo cs mo mr (fun _ => none) mf md (gMo PG hq), fm 8 (fPg cs PG), fm 13 (fPr cs hq qr QO QF QA)] := hw.sub [0, 2, 1] rfl rfl
      have hc7 := cl_nat (x := v3) (by first | exact oz_0ffba53c78 nc6 | omega)
      have hi7 : v3.toNatClampNeg < 13 := by first | exact oz_9995642664 hc7 e5 | omega
      have hw : pw D A s.heap _ _ [wd_Mo cs mo mr (fun _ => none) mf md (gMo PG hq), fm 8 (fPg cs PG), fo 13 (fPr cs hq qr QO QF QA) v3.toNatClampNeg, wd_Mpr cs (hq v3.toNatClampNeg) (qr v3.toNatClampNeg) (fun _ => QO v3.toNatClampNeg) (QF v3.toNatClampNeg) (QA v3.toNatClampNeg) (fun _ _ => none)] := fm_out (pr := [wd_Mo cs mo mr (fun _ => none) mf md (gMo PG hq), fm 8 (fPg cs PG)]) (T := fPr cs hq qr QO QF QA) hw hi7
      have hps7 := hpr.1 v3.toNatClampNeg hi7
      have hpb7 := hps7.1
      unfold PsB at hpb7
      refine px_get S k_Mpr hT hw 3 0 2 (v := .int ((QF v3.toNatClampNeg) 2)) rfl rfl rfl (by decide) m10_226 d_Mo_waits_37 ?_
      refine lv_if_eq (tgt := 52) S.x S.b d_Mo_waits_40 (by decide) (fun c8 => ?_) (fun c8 => ?_)
      · have nc8 : ((QF v3.toNatClampNeg) 2).toInt = (0 : Int) := (i_eq (x := ((QF v3.toNatClampNeg) 2)) (y := 0)).mp c8
        refine lv_aload S.x S.b d_Mo_waits_52 (lv_at hl 0 rfl) ?_
        refine px_get S k_Mpr hT hw 3 0 3 (v := .int ((QF v3.toNatClampNeg) 3)) rfl rfl rfl (by decide) m10_228 d_Mo_waits_54 ?_
        refine lv_goto (tgt := 66) S.x S.b d_Mo_waits_57 (by decide) ?_
        refine px_put S k_Mo hT hw 0 0 9 rfl rfl (by decide) m11_87 rfl rfl rfl (Nat.le_of_ble_eq_true rfl) d_Mo_waits_66 (w' := wd_Mo cs mo mr (fun _ => none) (upd mf 9 ((QF v3.toNatClampNeg) 3)) md (gMo PG hq)) (ps' := [wd_Mo cs mo mr (fun _ => none) (upd mf 9 ((QF v3.toNatClampNeg) 3)) md (gMo PG hq), fm 8 (fPg cs PG), fo 13 (fPr cs hq qr QO QF QA) v3.toNatClampNeg, wd_Mpr cs (hq v3.toNatClampNeg) (qr v3.toNatClampNeg) (fun _ => QO v3.toNatClampNeg) (QF v3.toNatClampNeg) (QA v3.toNatClampNeg) (fun _ _ => none)]) rfl rfl (fun H locs hw => ?_)
        refine lv_aload S.x S.b d_Mo_waits_69 (lv_at hl 0 rfl) ?_
        refine px_calli (pr := [wd_Mo cs mo mr (fun _ => none) (upd mf 9 ((QF v3.toNatClampNeg) 3)) md (gMo PG hq), fm 8 (fPg cs PG), fo 13 (fPr cs hq qr QO QF QA) v3.toNatClampNeg]) (px_runV (As := []) (rest := []) S (c_mq_hasEnded l D cs (hq v3.toNatClampNeg) (qr v3.toNatClampNeg) (fun _ _ => none) (fun _ => QO v3.toNatClampNeg) (QF v3.toNatClampNeg) (QA v3.toNatClampNeg)    _) hT (pr := [wd_Mo cs mo mr (fun _ => none) (upd mf 9 ((QF v3.toNatClampNeg) 3)) md (gMo PG hq), fm 8 (fPg cs PG), fo 13 (fPr cs hq qr QO QF QA) v3.toNatClampNeg]) (pcs := [wd_Mpr cs (hq v3.toNatClampNeg) (qr v3.toNatClampNeg) (fun _ => QO v3.toNatClampNeg) (QF v3.toNatClampNeg) (QA v3.toNatClampNeg) (fun _ _ => none)]) hw px_X.tt (px_recv hT hw 3 0 rfl rfl rfl) m14_58 m14_55 m14_56 m14_57 m1_22 q_Mpr_hasEnded ⟨Nat.le_of_ble_eq_true rfl, Nat.le_of_ble_eq_true rfl⟩ hl.1 rfl (Nat.le_of_ble_eq_true rfl) d_Mo_waits_71 ⟨Nat.le_of_ble_eq_true rfl, Nat.le_of_ble_eq_true rfl⟩) hw hA (fun v10 p9 H locs hp9 hw => ?_)
        obtain ⟨rfl, e11, e12, e13⟩ := hp9
        replace e11 : 0 ≤ v10.toInt := e11
        replace e12 : v10.toInt ≤ 1 := e12
        replace e13 : v10.toInt = 1 → ((QF v3.toNatClampNeg) 2).toInt ≠ -2 := e13
        replace hw : pw D A s.heap H locs [wd_Mo cs mo mr (fun _ => none) (upd mf 9 ((QF v3.toNatClampNeg) 3)) md (gMo PG hq), fm 8 (fPg cs PG), fo 13 (fPr cs hq qr QO QF QA) v3.toNatClampNeg, wd_Mpr cs (hq v3.toNatClampNeg) (qr v3.toNatClampNeg) (fun _ => QO v3.toNatClampNeg) (QF v3.toNatClampNeg) (QA v3.toNatClampNeg) (fun _ _ => none)] := hw
        have lv10 := Int32.le_toInt v10
        have uv10 := Int32.toInt_lt v10
        have hw : pw D A s.heap _ _ [wd_Mo cs mo mr (fun _ => none) (upd mf 9 ((QF v3.toNatClampNeg) 3)) md (gMo PG hq), fm 8 (fPg cs PG), fm 13 (fPr cs hq qr QO QF QA)] := fm_back (pr := [wd_Mo cs mo mr (fun _ => none) (upd mf 9 ((QF v3.toNatClampNeg) 3)) md (gMo PG hq), fm 8 (fPg cs PG)]) (T := fPr cs hq qr QO QF QA) hw hi7
        have hw : pw D A s.heap _ _ [wd_Mo cs mo mr (fun _ => none) (upd mf 9 ((QF v3.toNatClampNeg) 3)) md (gMo PG hq), fm 13 (fPr cs hq qr QO QF QA), fm 8 (fPg cs PG)] := hw.sub [0, 2, 1] rfl rfl
        exact px_iret (v := v10) S hr (z_nar (by omega)) hlk hAe hw (Nat.le_of_ble_eq_true rfl) (Nat.le_of_ble_eq_true rfl) (⟨(upd mf 9 ((QF v3.toNatClampNeg) 3)), QO, QF, QA, rfl, (show PrA PG RR QO QF QA from hpr), (show KpP QO QF QA QO QF QA p0.toNatClampNeg from hkp), (show (mf 0).toInt = (mf 0).toInt from rfl), (show (mf 2).toInt = (mf 2).toInt from rfl), (show (mf 3).toInt = (mf 3).toInt from rfl), (show (mf 7).toInt = (mf 7).toInt from rfl), (show (mf 8).toInt = (mf 8).toInt from rfl), (show (mf 10).toInt = (mf 10).toInt from rfl), (show 0 ≤ v10.toInt from by first | exact e11 | omega), (show v10.toInt ≤ 1 from by first | exact e12 | omega)⟩) d_Mo_waits_74
      · have nc8 : ¬ ((QF v3.toNatClampNeg) 2).toInt = (0 : Int) := mt (i_eq (x := ((QF v3.toNatClampNeg) 2)) (y := 0)).mpr c8
        refine lv_aload S.x S.b d_Mo_waits_43 (lv_at hl 0 rfl) ?_
        refine px_get S k_Mpr hT hw 3 0 2 (v := .int ((QF v3.toNatClampNeg) 2)) rfl rfl rfl (by decide) m10_226 d_Mo_waits_45 ?_
        refine lv_iconst (v := 1) S.x S.b d_Mo_waits_48 (by decide) ?_
        refine lv_icmp_ne (tgt := 60) S.x S.b d_Mo_waits_49 (by decide) (fun c14 => ?_) (fun c14 => ?_)
        · have nc14 : ¬ ((QF v3.toNatClampNeg) 2).toInt = (1 : Int) := mt (i_eq (x := ((QF v3.toNatClampNeg) 2)) (y := 1)).mpr c14
          refine lv_aload S.x S.b d_Mo_waits_60 (lv_at hl 0 rfl) ?_
          refine px_get S k_Mpr hT hw 3 0 2 (v := .int ((QF v3.toNatClampNeg) 2)) rfl rfl rfl (by decide) m10_226 d_Mo_waits_62 ?_
          refine lv_ineg S.x S.b d_Mo_waits_65 ?_
          have lr15 := Int32.le_toInt ((QF v3.toNatClampNeg) 2)
          have ur15 := Int32.toInt_lt ((QF v3.toNatClampNeg) 2)
          refine lv_topi (fun z16 ez16 => ?_)
          have lz16 := Int32.le_toInt z16
          have uz16 := Int32.toInt_lt z16
          refine px_put S k_Mo hT hw 0 0 9 rfl rfl (by decide) m11_87 rfl rfl rfl (Nat.le_of_ble_eq_true rfl) d_Mo_waits_66 (w' := wd_Mo cs mo mr (fun _ => none) (upd mf 9 z16) md (gMo PG hq)) (ps' := [wd_Mo cs mo mr (fun _ => none) (upd mf 9 z16) md (gMo PG hq), fm 8 (fPg cs PG), fo 13 (fPr cs hq qr QO QF QA) v3.toNatClampNeg, wd_Mpr cs (hq v3.toNatClampNeg) (qr v3.toNatClampNeg) (fun _ => QO v3.toNatClampNeg) (QF v3.toNatClampNeg) (QA v3.toNatClampNeg) (fun _ _ => none)]) rfl rfl (fun H locs hw => ?_)
          refine lv_aload S.x S.b d_Mo_waits_69 (lv_at hl 0 rfl) ?_
          refine px_calli (pr := [wd_Mo cs mo mr (fun _ => none) (upd mf 9 z16) md (gMo PG hq), fm 8 (fPg cs PG), fo 13 (fPr cs hq qr QO QF QA) v3.toNatClampNeg]) (px_runV (As := []) (rest := []) S (c_mq_hasEnded l D cs (hq v3.toNatClampNeg) (qr v3.toNatClampNeg) (fun _ _ => none) (fun _ => QO v3.toNatClampNeg) (QF v3.toNatClampNeg) (QA v3.toNatClampNeg)    _) hT (pr := [wd_Mo cs mo mr (fun _ => none) (upd mf 9 z16) md (gMo PG hq), fm 8 (fPg cs PG), fo 13 (fPr cs hq qr QO QF QA) v3.toNatClampNeg]) (pcs := [wd_Mpr cs (hq v3.toNatClampNeg) (qr v3.toNatClampNeg) (fun _ => QO v3.toNatClampNeg) (QF v3.toNatClampNeg) (QA v3.toNatClampNeg) (fun _ _ => none)]) hw px_X.tt (px_recv hT hw 3 0 rfl rfl rfl) m14_58 m14_55 m14_56 m14_57 m1_22 q_Mpr_hasEnded ⟨Nat.le_of_ble_eq_true rfl, Nat.le_of_ble_eq_true rfl⟩ hl.1 rfl (Nat.le_of_ble_eq_true rfl) d_Mo_waits_71 ⟨Nat.le_of_ble_eq_true rfl, Nat.le_of_ble_eq_true rfl⟩) hw hA (fun v18 p17 H locs hp17 hw => ?_)
          obtain ⟨rfl, e19, e20, e21⟩ := hp17
          replace e19 : 0 ≤ v18.toInt := e19
          replace e20 : v18.toInt ≤ 1 := e20
          replace e21 : v18.toInt = 1 → ((QF v3.toNatClampNeg) 2).toInt ≠ -2 := e21
          replace hw : pw D A s.heap H locs [wd_Mo cs mo mr (fun _ => none) (upd mf 9 z16) md (gMo PG hq), fm 8 (fPg cs PG), fo 13 (fPr cs hq qr QO QF QA) v3.toNatClampNeg, wd_Mpr cs (hq v3.toNatClampNeg) (qr v3.toNatClampNeg) (fun _ => QO v3.toNatClampNeg) (QF v3.toNatClampNeg) (QA v3.toNatClampNeg) (fun _ _ => none)] := hw
          have lv18 := Int32.le_toInt v18
          have uv18 := Int32.toInt_lt v18
          have hw : pw D A s.heap _ _ [wd_Mo cs mo mr (fun _ => none) (upd mf 9 z16) md (gMo PG hq), fm 8 (fPg cs PG), fm 13 (fPr cs hq qr QO QF QA)] := fm_back (pr := [wd_Mo cs mo mr (fun _ => none) (upd mf 9 z16) md (gMo PG hq), fm 8 (fPg cs PG)]) (T := fPr cs hq qr QO QF QA) hw hi7
          have hw : pw D A s.heap _ _ [wd_Mo cs mo mr (fun _ => none) (upd mf 9 z16) md (gMo PG hq), fm 13 (fPr cs hq qr QO QF QA), fm 8 (fPg cs PG)] := hw.sub [0, 2, 1] rfl rfl
          exact px_iret (v := v18) S hr (z_nar (by omega)) hlk hAe hw (Nat.le_of_ble_eq_true rfl) (Nat.le_of_ble_eq_true rfl) (⟨(upd mf 9 z16), QO, QF, QA, rfl, (show PrA PG RR QO QF QA from hpr), (show KpP QO QF QA QO QF QA p0.toNatClampNeg from hkp), (show (mf 0).toInt = (mf 0).toInt from rfl), (show (mf 2).toInt = (mf 2).toInt from rfl), (show (mf 3).toInt = (mf 3).toInt from rfl), (show (mf 7).toInt = (mf 7).toInt from rfl), (show (mf 8).toInt = (mf 8).toInt from rfl), (show (mf 10).toInt = (mf 10).toInt from rfl), (show 0 ≤ v18.toInt from by first | exact e19 | omega), (show v18.toInt ≤ 1 from by first | exact e20 | omega)⟩) d_Mo_waits_74
        · have nc14 : ((QF v3.toNatClampNeg) 2).toInt = (1 : Int) := (i_eq (x := ((QF v3.toNatClampNeg) 2)) (y := 1)).mp c14
          refine lv_aload S.x S.b d_Mo_waits_52 (lv_at hl 0 rfl) ?_
          refine px_get S k_Mpr hT hw 3 0 3 (v := .int ((QF v3.toNatClampNeg) 3)) rfl rfl rfl (by decide) m10_228 d_Mo_waits_54 ?_
          refine lv_goto (tgt := 66) S.x S.b d_Mo_waits_57 (by decide) ?_
          refine px_put S k_Mo hT hw 0 0 9 rfl rfl (by decide) m11_87 rfl rfl rfl (Nat.le_of_ble_eq_true rfl) d_Mo_waits_66 (w' := wd_Mo cs mo mr (fun _ => none) (upd mf 9 ((QF v3.toNatClampNeg) 3)) md (gMo PG hq)) (ps' := [wd_Mo cs mo mr (fun _ => none) (upd mf 9 ((QF v3.toNatClampNeg) 3)) md (gMo PG hq), fm 8 (fPg cs PG), fo 13 (fPr cs hq qr QO QF QA) v3.toNatClampNeg, wd_Mpr cs (hq v3.toNatClampNeg) (qr v3.toNatClampNeg) (fun _ => QO v3.toNatClampNeg) (QF v3.toNatClampNeg) (QA v3.toNatClampNeg) (fun _ _ => none)]) rfl rfl (fun H locs hw => ?_)
          refine lv_aload S.x S.b d_Mo_waits_69 (lv_at hl 0 rfl) ?_
          refine px_calli (pr := [wd_Mo cs mo mr (fun _ => none) (upd mf 9 ((QF v3.toNatClampNeg) 3)) md (gMo PG hq), fm 8 (fPg cs PG), fo 13 (fPr cs hq qr QO QF QA) v3.toNatClampNeg]) (px_runV (As := []) (rest := []) S (c_mq_hasEnded l D cs (hq v3.toNatClampNeg) (qr v3.toNatClampNeg) (fun _ _ => none) (fun _ => QO v3.toNatClampNeg) (QF v3.toNatClampNeg) (QA v3.toNatClampNeg)    _) hT (pr := [wd_Mo cs mo mr (fun _ => none) (upd mf 9 ((QF v3.toNatClampNeg) 3)) md (gMo PG hq), fm 8 (fPg cs PG), fo 13 (fPr cs hq qr QO QF QA) v3.toNatClampNeg]) (pcs := [wd_Mpr cs (hq v3.toNatClampNeg) (qr v3.toNatClampNeg) (fun _ => QO v3.toNatClampNeg) (QF v3.toNatClampNeg) (QA v3.toNatClampNeg) (fun _ _ => none)]) hw px_X.tt (px_recv hT hw 3 0 rfl rfl rfl) m14_58 m14_55 m14_56 m14_57 m1_22 q_Mpr_hasEnded ⟨Nat.le_of_ble_eq_true rfl, Nat.le_of_ble_eq_true rfl⟩ hl.1 rfl (Nat.le_of_ble_eq_true rfl) d_Mo_waits_71 ⟨Nat.le_of_ble_eq_true rfl, Nat.le_of_ble_eq_true rfl⟩) hw hA (fun v23 p22 H locs hp22 hw => ?_)
          obtain ⟨rfl, e24, e25, e26⟩ := hp22
          replace e24 : 0 ≤ v23.toInt := e24
          replace e25 : v23.toInt ≤ 1 := e25
          replace e26 : v23.toInt = 1 → ((QF v3.toNatClampNeg) 2).toInt ≠ -2 := e26
          replace hw : pw D A s.heap H locs [wd_Mo cs mo mr (fun _ => none) (upd mf 9 ((QF v3.toNatClampNeg) 3)) md (gMo PG hq), fm 8 (fPg cs PG), fo 13 (fPr cs hq qr QO QF QA) v3.toNatClampNeg, wd_Mpr cs (hq v3.toNatClampNeg) (qr v3.toNatClampNeg) (fun _ => QO v3.toNatClampNeg) (QF v3.toNatClampNeg) (QA v3.toNatClampNeg) (fun _ _ => none)] := hw
          have lv23 := Int32.le_toInt v23
          have uv23 := Int32.toInt_lt v23
          have hw : pw D A s.heap _ _ [wd_Mo cs mo mr (fun _ => none) (upd mf 9 ((QF v3.toNatClampNeg) 3)) md (gMo PG hq), fm 8 (fPg cs PG), fm 13 (fPr cs hq qr QO QF QA)] := fm_back (pr := [wd_Mo cs mo mr (fun _ => none) (upd mf 9 ((QF v3.toNatClampNeg) 3)) md (gMo PG hq), fm 8 (fPg cs PG)]) (T := fPr cs hq qr QO QF QA) hw hi7
          have hw : pw D A s.heap _ _ [wd_Mo cs mo mr (fun _ => none) (upd mf 9 ((QF v3.toNatClampNeg) 3)) md (gMo PG hq), fm 13 (fPr cs hq qr QO QF QA), fm 8 (fPg cs PG)] := hw.sub [0, 2, 1] rfl rfl
          exact px_iret (v := v23) S hr (z_nar (by omega)) hlk hAe hw (Nat.le_of_ble_eq_true rfl) (Nat.le_of_ble_eq_true rfl) (⟨(upd mf 9 ((QF v3.toNatClampNeg) 3)), QO, QF, QA, rfl, (show PrA PG RR QO QF QA from hpr), (show KpP QO QF QA QO QF QA p0.toNatClampNeg from hkp), (show (mf 0).toInt = (mf 0).toInt from rfl), (show (mf 2).toInt = (mf 2).toInt from rfl), (show (mf 3).toInt = (mf 3).toInt from rfl), (show (mf 7).toInt = (mf 7).toInt from rfl), (show (mf 8).toInt = (mf 8).toInt from rfl), (show (mf 10).toInt = (mf 10).toInt from rfl), (show 0 ≤ v23.toInt from by first | exact e24 | omega), (show v23.toInt ≤ 1 from by first | exact e25 | omega)⟩) d_Mo_waits_74
    · have nc6 : ¬ (0 : Int) ≤ v3.toInt := mt (i_le (x := 0) (y := v3)).mpr c6
      refine lv_aload_n S.x S.b d_Mo_waits_19 rfl (lv_at hl 1 rfl) ?_
      refine lv_iload_n S.x S.b d_Mo_waits_20 rfl (lv_at hl 2 rfl) ?_
      refine px_callv (pr := []) (px_runV (As := [.int p0]) (rest := []) S (c_mo_out l D cs RR mo mr mf md hq qr QO QF QA PG p0  (show 0 ≤ p0.toInt from by first | exact g0 | omega) (show p0.toInt < 13 from by first | exact g1 | omega) hpr hpg _) hT (pr := []) (pcs := [wd_Mo cs mo mr (fun _ => none) mf md (gMo PG hq), fm 13 (fPr cs hq qr QO QF QA), fm 8 (fPg cs PG)]) hw px_X.tt (px_recv hT hw 0 0 rfl rfl rfl) m14_54 m14_51 m14_53 ms_15_15 m1_20 q_Mo_out ⟨Nat.le_of_ble_eq_true rfl, Nat.le_of_ble_eq_true rfl⟩ hl.1 rfl (Nat.le_of_ble_eq_true rfl) d_Mo_waits_21 ⟨Nat.le_of_ble_eq_true rfl, Nat.le_of_ble_eq_true rfl⟩) hw hA (fun p33 H locs hp33 hw => ?_)
      obtain ⟨QO30, QF31, QA32, rfl, e35, e36, e37⟩ := hp33
      replace e35 : PrA PG RR QO30 QF31 QA32 := e35
      have hpr := e35
      replace e36 : KpP QO QF QA QO30 QF31 QA32 p0.toNatClampNeg := e36
      have hkp := hkp.tr e36
      replace e37 : (QF31 p0.toNatClampNeg 2).toInt ≠ -2 := e37
      replace hw : pw D A s.heap H locs [wd_Mo cs mo mr (fun _ => none) mf md (gMo PG hq), fm 13 (fPr cs hq qr QO30 QF31 QA32), fm 8 (fPg cs PG)] := hw
      refine lv_iconst (v := 1) S.x S.b d_Mo_waits_24 (by decide) ?_
      exact px_iret (v := 1) S hr rfl hlk hAe hw (Nat.le_of_ble_eq_true rfl) (Nat.le_of_ble_eq_true rfl) (⟨mf, QO30, QF31, QA32, rfl, (show PrA PG RR QO30 QF31 QA32 from hpr), (show KpP QO QF QA QO30 QF31 QA32 p0.toNatClampNeg from hkp), (show (mf 0).toInt = (mf 0).toInt from rfl), (show (mf 2).toInt = (mf 2).toInt from rfl), (show (mf 3).toInt = (mf 3).toInt from rfl), (show (mf 7).toInt = (mf 7).toInt from rfl), (show (mf 8).toInt = (mf 8).toInt from rfl), (show (mf 10).toInt = (mf 10).toInt from rfl), (show 0 ≤ (1 : Int) from by first | decide | omega), (show (1 : Int) ≤ 1 from by first | decide | omega)⟩) d_Mo_waits_25
  · have nc1 : p1.toInt = (0 : Int) := (i_eq (x := p1) (y := 0)).mp c1
    refine lv_iconst (v := (-1)) S.x S.b d_Mo_waits_4 (by decide) ?_
    refine lv_goto (tgt := 14) S.x S.b d_Mo_waits_5 (by decide) ?_
    refine lv_istore_n (lv' := [(3, .int (-1)), (0, .ref mo), (1, .int p0), (2, .int p1)]) S.x S.b d_Mo_waits_14 rfl hl (by decide) rfl (fun ls hl => ?_)
    refine lv_iload_n S.x S.b d_Mo_waits_15 rfl (lv_at hl 0 rfl) ?_
    refine lv_if_ge (tgt := 26) S.x S.b d_Mo_waits_16 (by decide) (fun c38 => ?_) (fun c38 => ?_)
    · exact absurd c38 (by decide)
    ·
      refine lv_aload_n S.x S.b d_Mo_waits_19 rfl (lv_at hl 1 rfl) ?_
      refine lv_iload_n S.x S.b d_Mo_waits_20 rfl (lv_at hl 2 rfl) ?_
      refine px_callv (pr := []) (px_runV (As := [.int p0]) (rest := []) S (c_mo_out l D cs RR mo mr mf md hq qr QO QF QA PG p0  (show 0 ≤ p0.toInt from by first | exact g0 | omega) (show p0.toInt < 13 from by first | exact g1 | omega) hpr hpg _) hT (pr := []) (pcs := [wd_Mo cs mo mr (fun _ => none) mf md (gMo PG hq), fm 13 (fPr cs hq qr QO QF QA), fm 8 (fPg cs PG)]) hw px_X.tt (px_recv hT hw 0 0 rfl rfl rfl) m14_54 m14_51 m14_53 ms_15_15 m1_20 q_Mo_out ⟨Nat.le_of_ble_eq_true rfl, Nat.le_of_ble_eq_true rfl⟩ hl.1 rfl (Nat.le_of_ble_eq_true rfl) d_Mo_waits_21 ⟨Nat.le_of_ble_eq_true rfl, Nat.le_of_ble_eq_true rfl⟩) hw hA (fun p45 H locs hp45 hw => ?_)
      obtain ⟨QO42, QF43, QA44, rfl, e47, e48, e49⟩ := hp45
      replace e47 : PrA PG RR QO42 QF43 QA44 := e47
      have hpr := e47
      replace e48 : KpP QO QF QA QO42 QF43 QA44 p0.toNatClampNeg := e48
      have hkp := hkp.tr e48
      replace e49 : (QF43 p0.toNatClampNeg 2).toInt ≠ -2 := e49
      replace hw : pw D A s.heap H locs [wd_Mo cs mo mr (fun _ => none) mf md (gMo PG hq), fm 13 (fPr cs hq qr QO42 QF43 QA44), fm 8 (fPg cs PG)] := hw
      refine lv_iconst (v := 1) S.x S.b d_Mo_waits_24 (by decide) ?_
      exact px_iret (v := 1) S hr rfl hlk hAe hw (Nat.le_of_ble_eq_true rfl) (Nat.le_of_ble_eq_true rfl) (⟨mf, QO42, QF43, QA44, rfl, (show PrA PG RR QO42 QF43 QA44 from hpr), (show KpP QO QF QA QO42 QF43 QA44 p0.toNatClampNeg from hkp), (show (mf 0).toInt = (mf 0).toInt from rfl), (show (mf 2).toInt = (mf 2).toInt from rfl), (show (mf 3).toInt = (mf 3).toInt from rfl), (show (mf 7).toInt = (mf 7).toInt from rfl), (show (mf 8).toInt = (mf 8).toInt from rfl), (show (mf 10).toInt = (mf 10).toInt from rfl), (show 0 ≤ (1 : Int) from by first | decide | omega), (show (1 : Int) ≤ 1 from by first | decide | omega)⟩) d_Mo_waits_25
abbrev b_Mo_isBlock : ByteArray := prog_14_method_22_code
def y_Mo_isBlock : MethodName := ⟨"HomeSystemModel", "isBlock", "(II)Z"⟩
theorem d_Mo_isBlock_0 : decode b_Mo_isBlock 0 = .ok (.iload_n 1, 1) := by decide +kernel
theorem d_Mo_isBlock_1 : decode b_Mo_isBlock 1 = .ok (.ifCond .ne 17, 3) := by decide +kernel
theorem d_Mo_isBlock_4 : decode b_Mo_isBlock 4 = .ok (.iload_n 2, 1) := by decide +kernel
theorem d_Mo_isBlock_5 : decode b_Mo_isBlock 5 = .ok (.ifCond .lt 13, 3) := by decide +kernel
theorem d_Mo_isBlock_8 : decode b_Mo_isBlock 8 = .ok (.iload_n 2, 1) := by decide +kernel
theorem d_Mo_isBlock_9 : decode b_Mo_isBlock 9 = .ok (.bipush 8, 2) := by decide +kernel
theorem d_Mo_isBlock_11 : decode b_Mo_isBlock 11 = .ok (.if_icmp .ge 7, 3) := by decide +kernel
theorem d_Mo_isBlock_14 : decode b_Mo_isBlock 14 = .ok (.iconst 1, 1) := by decide +kernel
theorem d_Mo_isBlock_15 : decode b_Mo_isBlock 15 = .ok (.goto 4, 3) := by decide +kernel
theorem d_Mo_isBlock_18 : decode b_Mo_isBlock 18 = .ok (.iconst 0, 1) := by decide +kernel
theorem d_Mo_isBlock_19 : decode b_Mo_isBlock 19 = .ok (.istore_n 3, 1) := by decide +kernel
theorem d_Mo_isBlock_20 : decode b_Mo_isBlock 20 = .ok (.iload_n 3, 1) := by decide +kernel
theorem d_Mo_isBlock_21 : decode b_Mo_isBlock 21 = .ok (.ifCond .ne 8, 3) := by decide +kernel
theorem d_Mo_isBlock_24 : decode b_Mo_isBlock 24 = .ok (.aload_n 0, 1) := by decide +kernel
theorem d_Mo_isBlock_25 : decode b_Mo_isBlock 25 = .ok (.iload_n 1, 1) := by decide +kernel
theorem d_Mo_isBlock_26 : decode b_Mo_isBlock 26 = .ok (.invokevirtual 93, 3) := by decide +kernel
theorem d_Mo_isBlock_29 : decode b_Mo_isBlock 29 = .ok (.iload_n 3, 1) := by decide +kernel
theorem d_Mo_isBlock_30 : decode b_Mo_isBlock 30 = .ok (.ireturn, 1) := by decide +kernel
theorem q_Mo_isBlock : px_y y_Mo_isBlock 2 := by unfold px_y; decide +kernel
set_option maxHeartbeats 4000000 in
set_option maxRecDepth 100000 in
theorem c_mo_isBlock (l : Launch) (D : va_G) (cs : Nat → ClassId) (RR : Nat → Int) (mo : Nat) (mr : Nat → Nat) (mf : Nat → Int32) (md : Nat → Nat → Int32) (hq : Nat → Nat) (qr : Nat → Nat → Nat) (QO : Nat → Option Nat) (QF : Nat → Nat → Int32) (QA : Nat → Nat → Nat → Int32) (PG : Nat → Pgs) (p0 p1 : Int32)  (g0 : 0 ≤ p0.toInt) (g1 : p0.toInt < 13) (hpr : PrA PG RR QO QF QA) (hpg : PgA PG) : MetI l y_Mo_isBlock b_Mo_isBlock 4 (.boolean) D cs 2 80 (0) (0) [.ref mo, .int p0, .int p1] [wd_Mo cs mo mr (fun _ => none) mf md (gMo PG hq), fm 13 (fPr cs hq qr QO QF QA), fm 8 (fPg cs PG)] (fun _ => True) (fun v ps => ∃ (QO' : Nat → Option Nat) (QF' : Nat → Nat → Int32) (QA' : Nat → Nat → Nat → Int32), (ps = [wd_Mo cs mo mr (fun _ => none) mf md (gMo PG hq), fm 13 (fPr cs hq qr QO' QF' QA'), fm 8 (fPg cs PG)]) ∧ (PrA PG RR QO' QF' QA') ∧ (KpP QO QF QA QO' QF' QA' p0.toNatClampNeg) ∧ (0 ≤ v.toInt) ∧ (v.toInt ≤ 1) ∧ (v.toInt = 1 → p0.toInt = 0 ∧ 0 ≤ p1.toInt ∧ p1.toInt < 8)) := by
  refine px_enter (by decide) (Nat.le_of_ble_eq_true rfl) ?_
  intro p e s m below meth c A ls hAe S hr hlk hnm hA hT hX hw hl
  replace hl : lv_has ls 4 [(0, .ref mo), (1, .int p0), (2, .int p1)] := hl
  have lp0 := Int32.le_toInt p0
  have up0 := Int32.toInt_lt p0
  have lp1 := Int32.le_toInt p1
  have up1 := Int32.toInt_lt p1
  have cst0 : (0 : Int32).toInt = 0 := rfl
  have cst1 : (1 : Int32).toInt = 1 := rfl
  have cst8 : (8 : Int32).toInt = 8 := rfl
  have hkp : KpP QO QF QA QO QF QA p0.toNatClampNeg := KpP.rf
  refine lv_iload_n S.x S.b d_Mo_isBlock_0 rfl (lv_at hl 1 rfl) ?_
  refine lv_if_ne (tgt := 18) S.x S.b d_Mo_isBlock_1 (by decide) (fun c1 => ?_) (fun c1 => ?_)
  · have nc1 : ¬ p0.toInt = (0 : Int) := mt (i_eq (x := p0) (y := 0)).mpr c1
    refine lv_iconst (v := 0) S.x S.b d_Mo_isBlock_18 (by decide) ?_
    refine lv_istore_n (lv' := [(3, .int 0), (0, .ref mo), (1, .int p0), (2, .int p1)]) S.x S.b d_Mo_isBlock_19 rfl hl (by decide) rfl (fun ls hl => ?_)
    refine lv_iload_n S.x S.b d_Mo_isBlock_20 rfl (lv_at hl 0 rfl) ?_
    refine lv_if_ne (tgt := 29) S.x S.b d_Mo_isBlock_21 (by decide) (fun c2 => ?_) (fun c2 => ?_)
    · exact absurd c2 (by decide)
    ·
      refine lv_aload_n S.x S.b d_Mo_isBlock_24 rfl (lv_at hl 1 rfl) ?_
      refine lv_iload_n S.x S.b d_Mo_isBlock_25 rfl (lv_at hl 2 rfl) ?_
      refine px_callv (pr := []) (px_runV (As := [.int p0]) (rest := []) S (c_mo_out l D cs RR mo mr mf md hq qr QO QF QA PG p0  (show 0 ≤ p0.toInt from by first | exact g0 | omega) (show p0.toInt < 13 from by first | exact g1 | omega) hpr hpg _) hT (pr := []) (pcs := [wd_Mo cs mo mr (fun _ => none) mf md (gMo PG hq), fm 13 (fPr cs hq qr QO QF QA), fm 8 (fPg cs PG)]) hw px_X.tt (px_recv hT hw 0 0 rfl rfl rfl) m14_54 m14_51 m14_53 ms_15_15 m1_20 q_Mo_out ⟨Nat.le_of_ble_eq_true rfl, Nat.le_of_ble_eq_true rfl⟩ hl.1 rfl (Nat.le_of_ble_eq_true rfl) d_Mo_isBlock_26 ⟨Nat.le_of_ble_eq_true rfl, Nat.le_of_ble_eq_true rfl⟩) hw hA (fun p9 H locs hp9 hw => ?_)
      obtain ⟨QO6, QF7, QA8, rfl, e11, e12, e13⟩ := hp9
      replace e11 : PrA PG RR QO6 QF7 QA8 := e11
      have hpr := e11
      replace e12 : KpP QO QF QA QO6 QF7 QA8 p0.toNatClampNeg := e12
      have hkp := hkp.tr e12
      replace e13 : (QF7 p0.toNatClampNeg 2).toInt ≠ -2 := e13
      replace hw : pw D A s.heap H locs [wd_Mo cs mo mr (fun _ => none) mf md (gMo PG hq), fm 13 (fPr cs hq qr QO6 QF7 QA8), fm 8 (fPg cs PG)] := hw
      refine lv_iload_n S.x S.b d_Mo_isBlock_29 rfl (lv_at hl 0 rfl) ?_
      exact px_iret (v := 0) S hr rfl hlk hAe hw (Nat.le_of_ble_eq_true rfl) (Nat.le_of_ble_eq_true rfl) (⟨QO6, QF7, QA8, rfl, (show PrA PG RR QO6 QF7 QA8 from hpr), (show KpP QO QF QA QO6 QF7 QA8 p0.toNatClampNeg from hkp), (show 0 ≤ (0 : Int) from by first | decide | omega), (show (0 : Int) ≤ 1 from by first | decide | omega), (show (0 : Int) = 1 → p0.toInt = 0 ∧ 0 ≤ p1.toInt ∧ p1.toInt < 8 from by first | with_reducible rfl | with_reducible assumption | omega)⟩) d_Mo_isBlock_30
  · have nc1 : p0.toInt = (0 : Int) := (i_eq (x := p0) (y := 0)).mp c1
    refine lv_iload_n S.x S.b d_Mo_isBlock_4 rfl (lv_at hl 2 rfl) ?_
    refine lv_if_lt (tgt := 18) S.x S.b d_Mo_isBlock_5 (by decide) (fun c14 => ?_) (fun c14 => ?_)
    · have nc14 : p1.toInt < (0 : Int) := (i_lt (x := p1) (y := 0)).mp c14
      refine lv_iconst (v := 0) S.x S.b d_Mo_isBlock_18 (by decide) ?_
      refine lv_istore_n (lv' := [(3, .int 0), (0, .ref mo), (1, .int p0), (2, .int p1)]) S.x S.b d_Mo_isBlock_19 rfl hl (by decide) rfl (fun ls hl => ?_)
      refine lv_iload_n S.x S.b d_Mo_isBlock_20 rfl (lv_at hl 0 rfl) ?_
      refine lv_if_ne (tgt := 29) S.x S.b d_Mo_isBlock_21 (by decide) (fun c15 => ?_) (fun c15 => ?_)
      · exact absurd c15 (by decide)
      ·
        refine lv_aload_n S.x S.b d_Mo_isBlock_24 rfl (lv_at hl 1 rfl) ?_
        refine lv_iload_n S.x S.b d_Mo_isBlock_25 rfl (lv_at hl 2 rfl) ?_
        refine px_callv (pr := []) (px_runV (As := [.int p0]) (rest := []) S (c_mo_out l D cs RR mo mr mf md hq qr QO QF QA PG p0  (show 0 ≤ p0.toInt from by first | exact g0 | omega) (show p0.toInt < 13 from by first | exact g1 | omega) hpr hpg _) hT (pr := []) (pcs := [wd_Mo cs mo mr (fun _ => none) mf md (gMo PG hq), fm 13 (fPr cs hq qr QO QF QA), fm 8 (fPg cs PG)]) hw px_X.tt (px_recv hT hw 0 0 rfl rfl rfl) m14_54 m14_51 m14_53 ms_15_15 m1_20 q_Mo_out ⟨Nat.le_of_ble_eq_true rfl, Nat.le_of_ble_eq_true rfl⟩ hl.1 rfl (Nat.le_of_ble_eq_true rfl) d_Mo_isBlock_26 ⟨Nat.le_of_ble_eq_true rfl, Nat.le_of_ble_eq_true rfl⟩) hw hA (fun p22 H locs hp22 hw => ?_)
        obtain ⟨QO19, QF20, QA21, rfl, e24, e25, e26⟩ := hp22
        replace e24 : PrA PG RR QO19 QF20 QA21 := e24
        have hpr := e24
        replace e25 : KpP QO QF QA QO19 QF20 QA21 p0.toNatClampNeg := e25
        have hkp := hkp.tr e25
        replace e26 : (QF20 p0.toNatClampNeg 2).toInt ≠ -2 := e26
        replace hw : pw D A s.heap H locs [wd_Mo cs mo mr (fun _ => none) mf md (gMo PG hq), fm 13 (fPr cs hq qr QO19 QF20 QA21), fm 8 (fPg cs PG)] := hw
        refine lv_iload_n S.x S.b d_Mo_isBlock_29 rfl (lv_at hl 0 rfl) ?_
        exact px_iret (v := 0) S hr rfl hlk hAe hw (Nat.le_of_ble_eq_true rfl) (Nat.le_of_ble_eq_true rfl) (⟨QO19, QF20, QA21, rfl, (show PrA PG RR QO19 QF20 QA21 from hpr), (show KpP QO QF QA QO19 QF20 QA21 p0.toNatClampNeg from hkp), (show 0 ≤ (0 : Int) from by first | decide | omega), (show (0 : Int) ≤ 1 from by first | decide | omega), (show (0 : Int) = 1 → p0.toInt = 0 ∧ 0 ≤ p1.toInt ∧ p1.toInt < 8 from by first | with_reducible rfl | with_reducible assumption | omega)⟩) d_Mo_isBlock_30
    · have nc14 : ¬ p1.toInt < (0 : Int) := mt (i_lt (x := p1) (y := 0)).mpr c14
      refine lv_iload_n S.x S.b d_Mo_isBlock_8 rfl (lv_at hl 2 rfl) ?_
      refine lv_bipush (v := 8) S.x S.b d_Mo_isBlock_9 (by decide) ?_
      refine lv_icmp_ge (tgt := 18) S.x S.b d_Mo_isBlock_11 (by decide) (fun c27 => ?_) (fun c27 => ?_)
      · have nc27 : (8 : Int) ≤ p1.toInt := (i_le (x := 8) (y := p1)).mp c27
        refine lv_iconst (v := 0) S.x S.b d_Mo_isBlock_18 (by decide) ?_
        refine lv_istore_n (lv' := [(3, .int 0), (0, .ref mo), (1, .int p0), (2, .int p1)]) S.x S.b d_Mo_isBlock_19 rfl hl (by decide) rfl (fun ls hl => ?_)
        refine lv_iload_n S.x S.b d_Mo_isBlock_20 rfl (lv_at hl 0 rfl) ?_
        refine lv_if_ne (tgt := 29) S.x S.b d_Mo_isBlock_21 (by decide) (fun c28 => ?_) (fun c28 => ?_)
        · exact absurd c28 (by decide)
        ·
          refine lv_aload_n S.x S.b d_Mo_isBlock_24 rfl (lv_at hl 1 rfl) ?_
          refine lv_iload_n S.x S.b d_Mo_isBlock_25 rfl (lv_at hl 2 rfl) ?_
          refine px_callv (pr := []) (px_runV (As := [.int p0]) (rest := []) S (c_mo_out l D cs RR mo mr mf md hq qr QO QF QA PG p0  (show 0 ≤ p0.toInt from by first | exact g0 | omega) (show p0.toInt < 13 from by first | exact g1 | omega) hpr hpg _) hT (pr := []) (pcs := [wd_Mo cs mo mr (fun _ => none) mf md (gMo PG hq), fm 13 (fPr cs hq qr QO QF QA), fm 8 (fPg cs PG)]) hw px_X.tt (px_recv hT hw 0 0 rfl rfl rfl) m14_54 m14_51 m14_53 ms_15_15 m1_20 q_Mo_out ⟨Nat.le_of_ble_eq_true rfl, Nat.le_of_ble_eq_true rfl⟩ hl.1 rfl (Nat.le_of_ble_eq_true rfl) d_Mo_isBlock_26 ⟨Nat.le_of_ble_eq_true rfl, Nat.le_of_ble_eq_true rfl⟩) hw hA (fun p35 H locs hp35 hw => ?_)
          obtain ⟨QO32, QF33, QA34, rfl, e37, e38, e39⟩ := hp35
          replace e37 : PrA PG RR QO32 QF33 QA34 := e37
          have hpr := e37
          replace e38 : KpP QO QF QA QO32 QF33 QA34 p0.toNatClampNeg := e38
          have hkp := hkp.tr e38
          replace e39 : (QF33 p0.toNatClampNeg 2).toInt ≠ -2 := e39
          replace hw : pw D A s.heap H locs [wd_Mo cs mo mr (fun _ => none) mf md (gMo PG hq), fm 13 (fPr cs hq qr QO32 QF33 QA34), fm 8 (fPg cs PG)] := hw
          refine lv_iload_n S.x S.b d_Mo_isBlock_29 rfl (lv_at hl 0 rfl) ?_
          exact px_iret (v := 0) S hr rfl hlk hAe hw (Nat.le_of_ble_eq_true rfl) (Nat.le_of_ble_eq_true rfl) (⟨QO32, QF33, QA34, rfl, (show PrA PG RR QO32 QF33 QA34 from hpr), (show KpP QO QF QA QO32 QF33 QA34 p0.toNatClampNeg from hkp), (show 0 ≤ (0 : Int) from by first | decide | omega), (show (0 : Int) ≤ 1 from by first | decide | omega), (show (0 : Int) = 1 → p0.toInt = 0 ∧ 0 ≤ p1.toInt ∧ p1.toInt < 8 from by first | with_reducible rfl | with_reducible assumption | omega)⟩) d_Mo_isBlock_30
      · have nc27 : ¬ (8 : Int) ≤ p1.toInt := mt (i_le (x := 8) (y := p1)).mpr c27
        refine lv_iconst (v := 1) S.x S.b d_Mo_isBlock_14 (by decide) ?_
        refine lv_goto (tgt := 19) S.x S.b d_Mo_isBlock_15 (by decide) ?_
        refine lv_istore_n (lv' := [(3, .int 1), (0, .ref mo), (1, .int p0), (2, .int p1)]) S.x S.b d_Mo_isBlock_19 rfl hl (by decide) rfl (fun ls hl => ?_)
        refine lv_iload_n S.x S.b d_Mo_isBlock_20 rfl (lv_at hl 0 rfl) ?_
        refine lv_if_ne (tgt := 29) S.x S.b d_Mo_isBlock_21 (by decide) (fun c40 => ?_) (fun c40 => ?_)
        ·
          refine lv_iload_n S.x S.b d_Mo_isBlock_29 rfl (lv_at hl 0 rfl) ?_
          exact px_iret (v := 1) S hr rfl hlk hAe hw (Nat.le_of_ble_eq_true rfl) (Nat.le_of_ble_eq_true rfl) (⟨QO, QF, QA, rfl, (show PrA PG RR QO QF QA from hpr), (show KpP QO QF QA QO QF QA p0.toNatClampNeg from hkp), (show 0 ≤ (1 : Int) from by first | decide | omega), (show (1 : Int) ≤ 1 from by first | decide | omega), (show (1 : Int) = 1 → p0.toInt = 0 ∧ 0 ≤ p1.toInt ∧ p1.toInt < 8 from by first | with_reducible rfl | with_reducible assumption | omega)⟩) d_Mo_isBlock_30
        · exact absurd c40 (by decide)
