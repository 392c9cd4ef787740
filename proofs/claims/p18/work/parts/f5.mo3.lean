theorem oz_7980b821ee {a0 : Int} {n1 : Nat} (h0 : (n1 : Int) = a0) (h1 : ¬ (13 : Int) ≤ a0) : 0 ≤ a0 ∧ a0 < ((13 : Nat) : Int) := by omega
theorem oz_f03bff5491 {a0 : Int} {n1 : Nat} (h0 : (n1 : Int) = a0) (h1 : n1 < 8) : 0 ≤ a0 ∧ a0 < ((8 : Nat) : Int) := by omega
theorem oz_a63a387477 {a1 : Int} {n0 : Nat} (h0 : (n0 : Int) = a1) (h1 : a1 = 0) : n0 < 13 := by omega
theorem oz_46c819e4be {a0 a1 : Int} (h0 : a0 = a1 + 1) (h1 : ¬ (16 : Int) ≤ a1) : a0 ≤ 16 := by omega
theorem oz_a8aa29b387 {a0 a2 : Int} {n1 : Nat} (h0 : 17 - a2 < ((n1 + 1 : Nat) : Int)) (h1 : a0 = a2 + 1) : 17 - a0 < (n1 : Int) := by omega
theorem oz_e3db8cb593 {a0 a1 a2 a3 : Int} (h0 : a0 = a1 + a2) (h1 : 0 ≤ a2) (h2 : a1 = 16 * a3) (h3 : 0 ≤ a3) (h4 : ¬ (16 : Int) ≤ a2) (h5 : a3 < 8) : 0 ≤ a0 ∧ a0 < ((128 : Nat) : Int) := by omega
theorem oz_43520e740e  : (0 : Int) ≤ 16 := by omega
theorem m10_233 : Cond.fieldLink "HomeSystemModel" 114 "HomeSystemModel$Process" "children" "I" ∈ AL := AL_10 (List.mem_of_getElem? (i := 233) rfl) rfl
theorem m11_124 : Cond.methodLink "HomeSystemModel" 41 ⟨"HomeSystemModel", "isProgram", "(I)Z"⟩ ∈ AL := AL_11 (List.mem_of_getElem? (i := 124) rfl) rfl
theorem m11_126 : Cond.code ⟨"HomeSystemModel", "isProgram", "(I)Z"⟩ prog_14_method_5_code 1 (Option.some FieldType.boolean) ∈ AL := AL_11 (List.mem_of_getElem? (i := 126) rfl) rfl
theorem m11_125 : Cond.static ⟨"HomeSystemModel", "isProgram", "(I)Z"⟩ ∈ AL := AL_11 (List.mem_of_getElem? (i := 125) rfl) rfl
theorem m11_82 : Cond.fieldLink "HomeSystemModel" 15 "HomeSystemModel" "programs" "[LHomeSystemModel$Program;" ∈ AL := AL_11 (List.mem_of_getElem? (i := 82) rfl) rfl
theorem m10_67 : Cond.fieldLink "HomeSystemModel" 61 "HomeSystemModel$Program" "sort" "I" ∈ AL := AL_10 (List.mem_of_getElem? (i := 67) rfl) rfl
theorem m11_85 : Cond.fieldLink "HomeSystemModel" 117 "HomeSystemModel" "workOfAll" "I" ∈ AL := AL_11 (List.mem_of_getElem? (i := 85) rfl) rfl
theorem m11_86 : Cond.fieldLink "HomeSystemModel" 120 "HomeSystemModel" "stackOfAll" "I" ∈ AL := AL_11 (List.mem_of_getElem? (i := 86) rfl) rfl
theorem m13_152 : Cond.methodLink "HomeSystemModel" 123 ⟨"HomeSystemModel$Process", "begin", "(LHomeSystemModel$Program;III)V"⟩ ∈ AL := AL_13 (List.mem_of_getElem? (i := 152) rfl) rfl
theorem m13_155 : Cond.code ⟨"HomeSystemModel$Process", "begin", "(LHomeSystemModel$Program;III)V"⟩ prog_15_method_4_code 7 (Option.none : Option Jvm.ClassFile.FieldType) ∈ AL := AL_13 (List.mem_of_getElem? (i := 155) rfl) rfl
theorem m13_154 : Cond.selects "HomeSystemModel$Process" ⟨"HomeSystemModel$Process", "begin", "(LHomeSystemModel$Program;III)V"⟩ ⟨"HomeSystemModel$Process", "begin", "(LHomeSystemModel$Program;III)V"⟩ ∈ AL := AL_13 (List.mem_of_getElem? (i := 154) rfl) rfl
theorem m13_153 : Cond.instanceMethod ⟨"HomeSystemModel$Process", "begin", "(LHomeSystemModel$Program;III)V"⟩ ∈ AL := AL_13 (List.mem_of_getElem? (i := 153) rfl) rfl
theorem m11_84 : Cond.fieldLink "HomeSystemModel" 25 "HomeSystemModel" "disk" "[I" ∈ AL := AL_11 (List.mem_of_getElem? (i := 84) rfl) rfl
theorem m14_91 : Cond.methodLink "HomeSystemModel" 166 ⟨"HomeSystemModel", "isBlock", "(II)Z"⟩ ∈ AL := AL_14 (List.mem_of_getElem? (i := 91) rfl) rfl
theorem m14_94 : Cond.code ⟨"HomeSystemModel", "isBlock", "(II)Z"⟩ prog_14_method_22_code 4 (Option.some FieldType.boolean) ∈ AL := AL_14 (List.mem_of_getElem? (i := 94) rfl) rfl
theorem ms_16_8 : Cond.selects "HomeSystemModel" ⟨"HomeSystemModel", "isBlock", "(II)Z"⟩ ⟨"HomeSystemModel", "isBlock", "(II)Z"⟩ ∈ AL := AL_p (q := (⟨"HomeSystemModel", "isBlock", "(II)Z"⟩, 11)) (by unfold lw_privs; exact List.mem_append_right _ (List.mem_append_right _ (List.mem_append_right _ (List.mem_append_right _ (List.mem_append_right _ (List.mem_append_right _ (List.mem_append_right _ (List.mem_append_right _ (List.mem_append_right _ (List.mem_append_right _ (List.mem_append_right _ (List.mem_append_right _ (List.mem_append_right _ (List.mem_append_right _ (List.mem_append_right _ (List.mem_append_left _ (List.mem_of_getElem? (i := 8) rfl)))))))))))))))))
theorem m14_93 : Cond.instanceMethod ⟨"HomeSystemModel", "isBlock", "(II)Z"⟩ ∈ AL := AL_14 (List.mem_of_getElem? (i := 93) rfl) rfl
theorem m10_237 : Cond.fieldLink "HomeSystemModel" 169 "HomeSystemModel$Process" "cells" "[I" ∈ AL := AL_10 (List.mem_of_getElem? (i := 237) rfl) rfl
abbrev b_Mo_spawns : ByteArray := prog_14_method_20_code
def y_Mo_spawns : MethodName := ⟨"HomeSystemModel", "spawns", "(III)V"⟩
theorem d_Mo_spawns_0 : decode b_Mo_spawns 0 = .ok (.aload_n 0, 1) := by decide +kernel
theorem d_Mo_spawns_1 : decode b_Mo_spawns 1 = .ok (.getfield 21, 3) := by decide +kernel
theorem d_Mo_spawns_4 : decode b_Mo_spawns 4 = .ok (.iload_n 1, 1) := by decide +kernel
theorem d_Mo_spawns_5 : decode b_Mo_spawns 5 = .ok (.aaload, 1) := by decide +kernel
theorem d_Mo_spawns_6 : decode b_Mo_spawns 6 = .ok (.astore 4, 2) := by decide +kernel
theorem d_Mo_spawns_8 : decode b_Mo_spawns 8 = .ok (.iconst 3, 1) := by decide +kernel
theorem d_Mo_spawns_9 : decode b_Mo_spawns 9 = .ok (.iload_n 1, 1) := by decide +kernel
theorem d_Mo_spawns_10 : decode b_Mo_spawns 10 = .ok (.imul, 1) := by decide +kernel
theorem d_Mo_spawns_11 : decode b_Mo_spawns 11 = .ok (.iconst 1, 1) := by decide +kernel
theorem d_Mo_spawns_12 : decode b_Mo_spawns 12 = .ok (.iadd, 1) := by decide +kernel
theorem d_Mo_spawns_13 : decode b_Mo_spawns 13 = .ok (.aload 4, 2) := by decide +kernel
theorem d_Mo_spawns_15 : decode b_Mo_spawns 15 = .ok (.getfield 114, 3) := by decide +kernel
theorem d_Mo_spawns_18 : decode b_Mo_spawns 18 = .ok (.iadd, 1) := by decide +kernel
theorem d_Mo_spawns_19 : decode b_Mo_spawns 19 = .ok (.istore 5, 2) := by decide +kernel
theorem d_Mo_spawns_21 : decode b_Mo_spawns 21 = .ok (.aload 4, 2) := by decide +kernel
theorem d_Mo_spawns_23 : decode b_Mo_spawns 23 = .ok (.getfield 114, 3) := by decide +kernel
theorem d_Mo_spawns_26 : decode b_Mo_spawns 26 = .ok (.iconst 3, 1) := by decide +kernel
theorem d_Mo_spawns_27 : decode b_Mo_spawns 27 = .ok (.if_icmp .ge 33, 3) := by decide +kernel
theorem d_Mo_spawns_30 : decode b_Mo_spawns 30 = .ok (.iload 5, 2) := by decide +kernel
theorem d_Mo_spawns_32 : decode b_Mo_spawns 32 = .ok (.bipush 13, 2) := by decide +kernel
theorem d_Mo_spawns_34 : decode b_Mo_spawns 34 = .ok (.if_icmp .ge 26, 3) := by decide +kernel
theorem d_Mo_spawns_37 : decode b_Mo_spawns 37 = .ok (.iload_n 2, 1) := by decide +kernel
theorem d_Mo_spawns_38 : decode b_Mo_spawns 38 = .ok (.invokestatic 41, 3) := by decide +kernel
theorem d_Mo_spawns_41 : decode b_Mo_spawns 41 = .ok (.ifCond .eq 19, 3) := by decide +kernel
theorem d_Mo_spawns_44 : decode b_Mo_spawns 44 = .ok (.aload_n 0, 1) := by decide +kernel
theorem d_Mo_spawns_45 : decode b_Mo_spawns 45 = .ok (.getfield 15, 3) := by decide +kernel
theorem d_Mo_spawns_48 : decode b_Mo_spawns 48 = .ok (.iload_n 2, 1) := by decide +kernel
theorem d_Mo_spawns_49 : decode b_Mo_spawns 49 = .ok (.aaload, 1) := by decide +kernel
theorem d_Mo_spawns_50 : decode b_Mo_spawns 50 = .ok (.getfield 61, 3) := by decide +kernel
theorem d_Mo_spawns_53 : decode b_Mo_spawns 53 = .ok (.ifCond .eq 7, 3) := by decide +kernel
theorem d_Mo_spawns_56 : decode b_Mo_spawns 56 = .ok (.iconst 1, 1) := by decide +kernel
theorem d_Mo_spawns_57 : decode b_Mo_spawns 57 = .ok (.goto 4, 3) := by decide +kernel
theorem d_Mo_spawns_60 : decode b_Mo_spawns 60 = .ok (.iconst 0, 1) := by decide +kernel
theorem d_Mo_spawns_61 : decode b_Mo_spawns 61 = .ok (.istore 6, 2) := by decide +kernel
theorem d_Mo_spawns_63 : decode b_Mo_spawns 63 = .ok (.aload_n 0, 1) := by decide +kernel
theorem d_Mo_spawns_64 : decode b_Mo_spawns 64 = .ok (.iconst (-1), 1) := by decide +kernel
theorem d_Mo_spawns_65 : decode b_Mo_spawns 65 = .ok (.putfield 111, 3) := by decide +kernel
theorem d_Mo_spawns_68 : decode b_Mo_spawns 68 = .ok (.iload 6, 2) := by decide +kernel
theorem d_Mo_spawns_70 : decode b_Mo_spawns 70 = .ok (.ifCond .eq 48, 3) := by decide +kernel
theorem d_Mo_spawns_73 : decode b_Mo_spawns 73 = .ok (.aload 4, 2) := by decide +kernel
theorem d_Mo_spawns_75 : decode b_Mo_spawns 75 = .ok (.dup, 1) := by decide +kernel
theorem d_Mo_spawns_76 : decode b_Mo_spawns 76 = .ok (.getfield 114, 3) := by decide +kernel
theorem d_Mo_spawns_79 : decode b_Mo_spawns 79 = .ok (.iconst 1, 1) := by decide +kernel
theorem d_Mo_spawns_80 : decode b_Mo_spawns 80 = .ok (.iadd, 1) := by decide +kernel
theorem d_Mo_spawns_81 : decode b_Mo_spawns 81 = .ok (.putfield 114, 3) := by decide +kernel
theorem d_Mo_spawns_84 : decode b_Mo_spawns 84 = .ok (.aload_n 0, 1) := by decide +kernel
theorem d_Mo_spawns_85 : decode b_Mo_spawns 85 = .ok (.aload 4, 2) := by decide +kernel
theorem d_Mo_spawns_87 : decode b_Mo_spawns 87 = .ok (.getfield 114, 3) := by decide +kernel
theorem d_Mo_spawns_90 : decode b_Mo_spawns 90 = .ok (.putfield 111, 3) := by decide +kernel
theorem d_Mo_spawns_93 : decode b_Mo_spawns 93 = .ok (.aload_n 0, 1) := by decide +kernel
theorem d_Mo_spawns_94 : decode b_Mo_spawns 94 = .ok (.getfield 21, 3) := by decide +kernel
theorem d_Mo_spawns_97 : decode b_Mo_spawns 97 = .ok (.iload 5, 2) := by decide +kernel
theorem d_Mo_spawns_99 : decode b_Mo_spawns 99 = .ok (.aaload, 1) := by decide +kernel
theorem d_Mo_spawns_100 : decode b_Mo_spawns 100 = .ok (.aload_n 0, 1) := by decide +kernel
theorem d_Mo_spawns_101 : decode b_Mo_spawns 101 = .ok (.getfield 15, 3) := by decide +kernel
theorem d_Mo_spawns_104 : decode b_Mo_spawns 104 = .ok (.iload_n 2, 1) := by decide +kernel
theorem d_Mo_spawns_105 : decode b_Mo_spawns 105 = .ok (.aaload, 1) := by decide +kernel
theorem d_Mo_spawns_106 : decode b_Mo_spawns 106 = .ok (.iload_n 3, 1) := by decide +kernel
theorem d_Mo_spawns_107 : decode b_Mo_spawns 107 = .ok (.aload_n 0, 1) := by decide +kernel
theorem d_Mo_spawns_108 : decode b_Mo_spawns 108 = .ok (.getfield 117, 3) := by decide +kernel
theorem d_Mo_spawns_111 : decode b_Mo_spawns 111 = .ok (.aload_n 0, 1) := by decide +kernel
theorem d_Mo_spawns_112 : decode b_Mo_spawns 112 = .ok (.getfield 120, 3) := by decide +kernel
theorem d_Mo_spawns_115 : decode b_Mo_spawns 115 = .ok (.invokevirtual 123, 3) := by decide +kernel
theorem d_Mo_spawns_118 : decode b_Mo_spawns 118 = .ok (.return_, 1) := by decide +kernel
theorem q_Mo_spawns : px_y y_Mo_spawns 3 := by unfold px_y; decide +kernel
set_option maxHeartbeats 4000000 in
set_option maxRecDepth 100000 in
theorem c_mo_spawns (l : Launch) (D : va_G) (cs : Nat → ClassId) (RR : Nat → Int) (mo : Nat) (mr : Nat → Nat) (md : Nat → Nat → Int32) (mf : Nat → Int32) (hq : Nat → Nat) (qr : Nat → Nat → Nat) (QO : Nat → Option Nat) (QF : Nat → Nat → Int32) (QA : Nat → Nat → Nat → Int32) (PG : Nat → Pgs) (p0 p1 p2 : Int32)  (g0 : 0 ≤ p0.toInt) (g1 : p0.toInt < 13) (g2 : 0 ≤ (mf 7).toInt) (g3 : (mf 7).toInt ≤ 100) (g4 : 0 ≤ (mf 8).toInt) (g5 : (mf 8).toInt ≤ 512) (g6 : (QF p0.toNatClampNeg 1).toInt = 1) (hpr : PrA PG RR QO QF QA) (hpg : PgA PG) : MetV l y_Mo_spawns b_Mo_spawns 7 D cs 3 120 (0) (0) [.ref mo, .int p0, .int p1, .int p2] [wd_Mo cs mo mr (fun _ => none) mf md (gMo PG hq), fm 13 (fPr cs hq qr QO QF QA), fm 8 (fPg cs PG)] (fun _ => True) (fun ps => ∃ (mf' : Nat → Int32) (QO' : Nat → Option Nat) (QF' : Nat → Nat → Int32) (QA' : Nat → Nat → Nat → Int32), (ps = [wd_Mo cs mo mr (fun _ => none) mf' md (gMo PG hq), fm 13 (fPr cs hq qr QO' QF' QA'), fm 8 (fPg cs PG)]) ∧ (PrA PG RR QO' QF' QA') ∧ (KpP QO QF QA QO' QF' QA' p0.toNatClampNeg) ∧ ((mf' 0).toInt = (mf 0).toInt) ∧ ((mf' 2).toInt = (mf 2).toInt) ∧ ((mf' 3).toInt = (mf 3).toInt) ∧ ((mf' 7).toInt = (mf 7).toInt) ∧ ((mf' 8).toInt = (mf 8).toInt) ∧ ((mf' 10).toInt = (mf 10).toInt)) := by
  refine px_enter (by decide) (Nat.le_of_ble_eq_true rfl) ?_
  intro p e s m below meth c A ls hAe S hr hlk hnm hA hT hX hw hl
  have hl : lv_has ls 7 [(0, .ref mo), (1, .int p0), (2, .int p1), (3, .int p2)] := hl
  have lp0 := Int32.le_toInt p0
  have up0 := Int32.toInt_lt p0
  have lp1 := Int32.le_toInt p1
  have up1 := Int32.toInt_lt p1
  have lp2 := Int32.le_toInt p2
  have up2 := Int32.toInt_lt p2
  have cstm1 : ((-1) : Int32).toInt = (-1) := rfl
  have cst0 : (0 : Int32).toInt = 0 := rfl
  have cst1 : (1 : Int32).toInt = 1 := rfl
  have cst3 : (3 : Int32).toInt = 3 := rfl
  have cst13 : (13 : Int32).toInt = 13 := rfl
  have hkp : KpP QO QF QA QO QF QA p0.toNatClampNeg := KpP.rf
  refine lv_aload_n S.x S.b d_Mo_spawns_0 rfl (lv_at hl 0 rfl) ?_
  refine px_get S k_Mo hT hw 0 0 5 (v := .ref (mr 5)) rfl rfl rfl (by decide) m11_83 d_Mo_spawns_1 ?_
  refine lv_iload_n S.x S.b d_Mo_spawns_4 rfl (lv_at hl 1 rfl) ?_
  refine px_aaldS S hT hw 0 3 10 (n := 13) (f := ((gMo PG hq) 5)) rfl rfl rfl (x := p0) (vp_in_iff.mpr (by first | exact oz_59feca6c45 g0 g1 | (constructor <;> omega))) (sk := (hq p0.toNatClampNeg)) rfl d_Mo_spawns_5 ?_
  refine lv_astore (lv' := [(4, .ref (hq p0.toNatClampNeg)), (0, .ref mo), (1, .int p0), (2, .int p1), (3, .int p2)]) S.x S.b d_Mo_spawns_6 hl (by decide) rfl (fun ls hl => ?_)
  refine lv_iconst (v := 3) S.x S.b d_Mo_spawns_8 (by decide) ?_
  refine lv_iload_n S.x S.b d_Mo_spawns_9 rfl (lv_at hl 2 rfl) ?_
  refine lv_imul S.x S.b d_Mo_spawns_10 ?_
  refine lv_topi (fun z1 ez1 => ?_)
  have lz1 := Int32.le_toInt z1
  have uz1 := Int32.toInt_lt z1
  have tz1 : -2147483648 ≤ 3 * p0.toInt → 3 * p0.toInt < 2147483648 → z1.toInt = 3 * p0.toInt := by rw [ez1]; exact i_mulc 3 p0 (by decide)
  try replace tz1 : z1.toInt = 3 * p0.toInt := by omega
  refine lv_iconst (v := 1) S.x S.b d_Mo_spawns_11 (by decide) ?_
  refine lv_iadd S.x S.b d_Mo_spawns_12 ?_
  refine lv_topi (fun z2 ez2 => ?_)
  have tz2 : z2.toInt = (z1.toInt + (1 : Int) + 2147483648) % 4294967296 - 2147483648 := by rw [ez2]; exact i_add z1 1
  have lz2 := Int32.le_toInt z2
  have uz2 := Int32.toInt_lt z2
  try replace tz2 : z2.toInt = z1.toInt + (1 : Int) := by omega
  refine lv_aload S.x S.b d_Mo_spawns_13 (lv_at hl 0 rfl) ?_
  have hw : pw D A s.heap _ _ [wd_Mo cs mo mr (fun _ => none) mf md (gMo PG hq), fm 8 (fPg cs PG), fm 13 (fPr cs hq qr QO QF QA)] := hw.sub [0, 2, 1] rfl rfl
  have hc3 := cl_nat (x := p0) (by first | exact g0 | omega)
  have hi3 : p0.toNatClampNeg < 13 := by first | exact oz_9995642664 hc3 g1 | omega
  have hw : pw D A s.heap _ _ [wd_Mo cs mo mr (fun _ => none) mf md (gMo PG hq), fm 8 (fPg cs PG), fo 13 (fPr cs hq qr QO QF QA) p0.toNatClampNeg, wd_Mpr cs (hq p0.toNatClampNeg) (qr p0.toNatClampNeg) (fun _ => QO p0.toNatClampNeg) (QF p0.toNatClampNeg) (QA p0.toNatClampNeg) (fun _ _ => none)] := fm_out (pr := [wd_Mo cs mo mr (fun _ => none) mf md (gMo PG hq), fm 8 (fPg cs PG)]) (T := fPr cs hq qr QO QF QA) hw hi3
  have hps3 := hpr.1 p0.toNatClampNeg hi3
  have hpb3 := hps3.1
  unfold PsB at hpb3
  refine px_get S k_Mpr hT hw 3 0 6 (v := .int ((QF p0.toNatClampNeg) 6)) rfl rfl rfl (by decide) m10_233 d_Mo_spawns_15 ?_
  refine lv_iadd S.x S.b d_Mo_spawns_18 ?_
  have lr4 := Int32.le_toInt ((QF p0.toNatClampNeg) 6)
  have ur4 := Int32.toInt_lt ((QF p0.toNatClampNeg) 6)
  refine lv_topi (fun z5 ez5 => ?_)
  have tz5 : z5.toInt = (z2.toInt + ((QF p0.toNatClampNeg) 6).toInt + 2147483648) % 4294967296 - 2147483648 := by rw [ez5]; exact i_add z2 ((QF p0.toNatClampNeg) 6)
  have lz5 := Int32.le_toInt z5
  have uz5 := Int32.toInt_lt z5
  try replace tz5 : z5.toInt = z2.toInt + ((QF p0.toNatClampNeg) 6).toInt := by omega
  refine lv_istore (lv' := [(5, .int z5), (4, .ref (hq p0.toNatClampNeg)), (0, .ref mo), (1, .int p0), (2, .int p1), (3, .int p2)]) S.x S.b d_Mo_spawns_19 hl (by decide) rfl (fun ls hl => ?_)
  refine lv_aload S.x S.b d_Mo_spawns_21 (lv_at hl 1 rfl) ?_
  refine px_get S k_Mpr hT hw 3 0 6 (v := .int ((QF p0.toNatClampNeg) 6)) rfl rfl rfl (by decide) m10_233 d_Mo_spawns_23 ?_
  refine lv_iconst (v := 3) S.x S.b d_Mo_spawns_26 (by decide) ?_
  refine lv_icmp_ge (tgt := 60) S.x S.b d_Mo_spawns_27 (by decide) (fun c6 => ?_) (fun c6 => ?_)
  · have nc6 : (3 : Int) ≤ ((QF p0.toNatClampNeg) 6).toInt := (i_le (x := 3) (y := ((QF p0.toNatClampNeg) 6))).mp c6
    refine lv_iconst (v := 0) S.x S.b d_Mo_spawns_60 (by decide) ?_
    refine lv_istore (lv' := [(6, .int 0), (5, .int z5), (4, .ref (hq p0.toNatClampNeg)), (0, .ref mo), (1, .int p0), (2, .int p1), (3, .int p2)]) S.x S.b d_Mo_spawns_61 hl (by decide) rfl (fun ls hl => ?_)
    refine lv_aload_n S.x S.b d_Mo_spawns_63 rfl (lv_at hl 3 rfl) ?_
    refine lv_iconst (v := (-1)) S.x S.b d_Mo_spawns_64 (by decide) ?_
    refine px_put S k_Mo hT hw 0 0 9 rfl rfl (by decide) m11_87 rfl rfl rfl (Nat.le_of_ble_eq_true rfl) d_Mo_spawns_65 (w' := wd_Mo cs mo mr (fun _ => none) (upd mf 9 (-1)) md (gMo PG hq)) (ps' := [wd_Mo cs mo mr (fun _ => none) (upd mf 9 (-1)) md (gMo PG hq), fm 8 (fPg cs PG), fo 13 (fPr cs hq qr QO QF QA) p0.toNatClampNeg, wd_Mpr cs (hq p0.toNatClampNeg) (qr p0.toNatClampNeg) (fun _ => QO p0.toNatClampNeg) (QF p0.toNatClampNeg) (QA p0.toNatClampNeg) (fun _ _ => none)]) rfl rfl (fun H locs hw => ?_)
    refine lv_iload S.x S.b d_Mo_spawns_68 (lv_at hl 0 rfl) ?_
    refine lv_if_eq (tgt := 118) S.x S.b d_Mo_spawns_70 (by decide) (fun c8 => ?_) (fun c8 => ?_)
    ·
      have hw : pw D A s.heap _ _ [wd_Mo cs mo mr (fun _ => none) (upd mf 9 (-1)) md (gMo PG hq), fm 8 (fPg cs PG), fm 13 (fPr cs hq qr QO QF QA)] := fm_back (pr := [wd_Mo cs mo mr (fun _ => none) (upd mf 9 (-1)) md (gMo PG hq), fm 8 (fPg cs PG)]) (T := fPr cs hq qr QO QF QA) hw hi3
      have hw : pw D A s.heap _ _ [wd_Mo cs mo mr (fun _ => none) (upd mf 9 (-1)) md (gMo PG hq), fm 13 (fPr cs hq qr QO QF QA), fm 8 (fPg cs PG)] := hw.sub [0, 2, 1] rfl rfl
      exact px_vret S hr hlk hAe hw (Nat.le_of_ble_eq_true rfl) (Nat.le_of_ble_eq_true rfl) (⟨(upd mf 9 (-1)), QO, QF, QA, rfl, (show PrA PG RR QO QF QA from hpr), (show KpP QO QF QA QO QF QA p0.toNatClampNeg from hkp), (show (mf 0).toInt = (mf 0).toInt from rfl), (show (mf 2).toInt = (mf 2).toInt from rfl), (show (mf 3).toInt = (mf 3).toInt from rfl), (show (mf 7).toInt = (mf 7).toInt from rfl), (show (mf 8).toInt = (mf 8).toInt from rfl), (show (mf 10).toInt = (mf 10).toInt from rfl)⟩) d_Mo_spawns_118
    · exact absurd c8 (by decide)
  · have nc6 : ¬ (3 : Int) ≤ ((QF p0.toNatClampNeg) 6).toInt := mt (i_le (x := 3) (y := ((QF p0.toNatClampNeg) 6))).mpr c6
    refine lv_iload S.x S.b d_Mo_spawns_30 (lv_at hl 0 rfl) ?_
    refine lv_bipush (v := 13) S.x S.b d_Mo_spawns_32 (by decide) ?_
    refine lv_icmp_ge (tgt := 60) S.x S.b d_Mo_spawns_34 (by decide) (fun c9 => ?_) (fun c9 => ?_)
    · have nc9 : (13 : Int) ≤ z5.toInt := (i_le (x := 13) (y := z5)).mp c9
      refine lv_iconst (v := 0) S.x S.b d_Mo_spawns_60 (by decide) ?_
      refine lv_istore (lv' := [(6, .int 0), (5, .int z5), (4, .ref (hq p0.toNatClampNeg)), (0, .ref mo), (1, .int p0), (2, .int p1), (3, .int p2)]) S.x S.b d_Mo_spawns_61 hl (by decide) rfl (fun ls hl => ?_)
      refine lv_aload_n S.x S.b d_Mo_spawns_63 rfl (lv_at hl 3 rfl) ?_
      refine lv_iconst (v := (-1)) S.x S.b d_Mo_spawns_64 (by decide) ?_
      refine px_put S k_Mo hT hw 0 0 9 rfl rfl (by decide) m11_87 rfl rfl rfl (Nat.le_of_ble_eq_true rfl) d_Mo_spawns_65 (w' := wd_Mo cs mo mr (fun _ => none) (upd mf 9 (-1)) md (gMo PG hq)) (ps' := [wd_Mo cs mo mr (fun _ => none) (upd mf 9 (-1)) md (gMo PG hq), fm 8 (fPg cs PG), fo 13 (fPr cs hq qr QO QF QA) p0.toNatClampNeg, wd_Mpr cs (hq p0.toNatClampNeg) (qr p0.toNatClampNeg) (fun _ => QO p0.toNatClampNeg) (QF p0.toNatClampNeg) (QA p0.toNatClampNeg) (fun _ _ => none)]) rfl rfl (fun H locs hw => ?_)
      refine lv_iload S.x S.b d_Mo_spawns_68 (lv_at hl 0 rfl) ?_
      refine lv_if_eq (tgt := 118) S.x S.b d_Mo_spawns_70 (by decide) (fun c11 => ?_) (fun c11 => ?_)
      ·
        have hw : pw D A s.heap _ _ [wd_Mo cs mo mr (fun _ => none) (upd mf 9 (-1)) md (gMo PG hq), fm 8 (fPg cs PG), fm 13 (fPr cs hq qr QO QF QA)] := fm_back (pr := [wd_Mo cs mo mr (fun _ => none) (upd mf 9 (-1)) md (gMo PG hq), fm 8 (fPg cs PG)]) (T := fPr cs hq qr QO QF QA) hw hi3
        have hw : pw D A s.heap _ _ [wd_Mo cs mo mr (fun _ => none) (upd mf 9 (-1)) md (gMo PG hq), fm 13 (fPr cs hq qr QO QF QA), fm 8 (fPg cs PG)] := hw.sub [0, 2, 1] rfl rfl
        exact px_vret S hr hlk hAe hw (Nat.le_of_ble_eq_true rfl) (Nat.le_of_ble_eq_true rfl) (⟨(upd mf 9 (-1)), QO, QF, QA, rfl, (show PrA PG RR QO QF QA from hpr), (show KpP QO QF QA QO QF QA p0.toNatClampNeg from hkp), (show (mf 0).toInt = (mf 0).toInt from rfl), (show (mf 2).toInt = (mf 2).toInt from rfl), (show (mf 3).toInt = (mf 3).toInt from rfl), (show (mf 7).toInt = (mf 7).toInt from rfl), (show (mf 8).toInt = (mf 8).toInt from rfl), (show (mf 10).toInt = (mf 10).toInt from rfl)⟩) d_Mo_spawns_118
      · exact absurd c11 (by decide)
    · have nc9 : ¬ (13 : Int) ≤ z5.toInt := mt (i_le (x := 13) (y := z5)).mpr c9
      refine lv_iload_n S.x S.b d_Mo_spawns_37 rfl (lv_at hl 4 rfl) ?_
      refine px_calli (pr := [wd_Mo cs mo mr (fun _ => none) mf md (gMo PG hq), fm 8 (fPg cs PG), fo 13 (fPr cs hq qr QO QF QA) p0.toNatClampNeg, wd_Mpr cs (hq p0.toNatClampNeg) (qr p0.toNatClampNeg) (fun _ => QO p0.toNatClampNeg) (QF p0.toNatClampNeg) (QA p0.toNatClampNeg) (fun _ _ => none)]) (px_runS (As := [.int p1]) (rest := []) S (c_mo_isProgram l D cs  p1   _) hT (pr := [wd_Mo cs mo mr (fun _ => none) mf md (gMo PG hq), fm 8 (fPg cs PG), fo 13 (fPr cs hq qr QO QF QA) p0.toNatClampNeg, wd_Mpr cs (hq p0.toNatClampNeg) (qr p0.toNatClampNeg) (fun _ => QO p0.toNatClampNeg) (QF p0.toNatClampNeg) (QA p0.toNatClampNeg) (fun _ _ => none)]) (pcs := []) hw px_X.tt m11_126 m11_124 m11_125 m1_20 q_Mo_isProgram ⟨Nat.le_of_ble_eq_true rfl, Nat.le_of_ble_eq_true rfl⟩ hl.1 rfl (Nat.le_of_ble_eq_true rfl) d_Mo_spawns_38 ⟨Nat.le_of_ble_eq_true rfl, Nat.le_of_ble_eq_true rfl⟩) hw hA (fun v13 p12 H locs hp12 hw => ?_)
      obtain ⟨rfl, e14, e15, e16⟩ := hp12
      have e14 : 0 ≤ v13.toInt := e14
      have e15 : v13.toInt ≤ 1 := e15
      have e16 : v13.toInt = 1 → 0 ≤ p1.toInt ∧ p1.toInt < 8 := e16
      have hw : pw D A s.heap H locs [wd_Mo cs mo mr (fun _ => none) mf md (gMo PG hq), fm 8 (fPg cs PG), fo 13 (fPr cs hq qr QO QF QA) p0.toNatClampNeg, wd_Mpr cs (hq p0.toNatClampNeg) (qr p0.toNatClampNeg) (fun _ => QO p0.toNatClampNeg) (QF p0.toNatClampNeg) (QA p0.toNatClampNeg) (fun _ _ => none)] := hw
      have lv13 := Int32.le_toInt v13
      have uv13 := Int32.toInt_lt v13
      refine lv_if_eq (tgt := 60) S.x S.b d_Mo_spawns_41 (by decide) (fun c17 => ?_) (fun c17 => ?_)
      · have nc17 : v13.toInt = (0 : Int) := (i_eq (x := v13) (y := 0)).mp c17
        refine lv_iconst (v := 0) S.x S.b d_Mo_spawns_60 (by decide) ?_
        refine lv_istore (lv' := [(6, .int 0), (5, .int z5), (4, .ref (hq p0.toNatClampNeg)), (0, .ref mo), (1, .int p0), (2, .int p1), (3, .int p2)]) S.x S.b d_Mo_spawns_61 hl (by decide) rfl (fun ls hl => ?_)
        refine lv_aload_n S.x S.b d_Mo_spawns_63 rfl (lv_at hl 3 rfl) ?_
        refine lv_iconst (v := (-1)) S.x S.b d_Mo_spawns_64 (by decide) ?_
        refine px_put S k_Mo hT hw 0 0 9 rfl rfl (by decide) m11_87 rfl rfl rfl (Nat.le_of_ble_eq_true rfl) d_Mo_spawns_65 (w' := wd_Mo cs mo mr (fun _ => none) (upd mf 9 (-1)) md (gMo PG hq)) (ps' := [wd_Mo cs mo mr (fun _ => none) (upd mf 9 (-1)) md (gMo PG hq), fm 8 (fPg cs PG), fo 13 (fPr cs hq qr QO QF QA) p0.toNatClampNeg, wd_Mpr cs (hq p0.toNatClampNeg) (qr p0.toNatClampNeg) (fun _ => QO p0.toNatClampNeg) (QF p0.toNatClampNeg) (QA p0.toNatClampNeg) (fun _ _ => none)]) rfl rfl (fun H locs hw => ?_)
        refine lv_iload S.x S.b d_Mo_spawns_68 (lv_at hl 0 rfl) ?_
        refine lv_if_eq (tgt := 118) S.x S.b d_Mo_spawns_70 (by decide) (fun c19 => ?_) (fun c19 => ?_)
        ·
          have hw : pw D A s.heap _ _ [wd_Mo cs mo mr (fun _ => none) (upd mf 9 (-1)) md (gMo PG hq), fm 8 (fPg cs PG), fm 13 (fPr cs hq qr QO QF QA)] := fm_back (pr := [wd_Mo cs mo mr (fun _ => none) (upd mf 9 (-1)) md (gMo PG hq), fm 8 (fPg cs PG)]) (T := fPr cs hq qr QO QF QA) hw hi3
          have hw : pw D A s.heap _ _ [wd_Mo cs mo mr (fun _ => none) (upd mf 9 (-1)) md (gMo PG hq), fm 13 (fPr cs hq qr QO QF QA), fm 8 (fPg cs PG)] := hw.sub [0, 2, 1] rfl rfl
          exact px_vret S hr hlk hAe hw (Nat.le_of_ble_eq_true rfl) (Nat.le_of_ble_eq_true rfl) (⟨(upd mf 9 (-1)), QO, QF, QA, rfl, (show PrA PG RR QO QF QA from hpr), (show KpP QO QF QA QO QF QA p0.toNatClampNeg from hkp), (show (mf 0).toInt = (mf 0).toInt from rfl), (show (mf 2).toInt = (mf 2).toInt from rfl), (show (mf 3).toInt = (mf 3).toInt from rfl), (show (mf 7).toInt = (mf 7).toInt from rfl), (show (mf 8).toInt = (mf 8).toInt from rfl), (show (mf 10).toInt = (mf 10).toInt from rfl)⟩) d_Mo_spawns_118
        · exact absurd c19 (by decide)
      · have nc17 : ¬ v13.toInt = (0 : Int) := mt (i_eq (x := v13) (y := 0)).mpr c17
        refine lv_aload_n S.x S.b d_Mo_spawns_44 rfl (lv_at hl 2 rfl) ?_
        refine px_get S k_Mo hT hw 0 0 4 (v := .ref (mr 4)) rfl rfl rfl (by decide) m11_82 d_Mo_spawns_45 ?_
        refine lv_iload_n S.x S.b d_Mo_spawns_48 rfl (lv_at hl 4 rfl) ?_
        refine px_aaldS S hT hw 0 2 9 (n := 8) (f := ((gMo PG hq) 4)) rfl rfl rfl (x := p1) (vp_in_iff.mpr (by constructor <;> omega)) (sk := (PG p1.toNatClampNeg).h) rfl d_Mo_spawns_49 ?_
        have hw : pw D A s.heap _ _ [wd_Mo cs mo mr (fun _ => none) mf md (gMo PG hq), fo 13 (fPr cs hq qr QO QF QA) p0.toNatClampNeg, wd_Mpr cs (hq p0.toNatClampNeg) (qr p0.toNatClampNeg) (fun _ => QO p0.toNatClampNeg) (QF p0.toNatClampNeg) (QA p0.toNatClampNeg) (fun _ _ => none), fm 8 (fPg cs PG)] := hw.sub [0, 2, 3, 1] rfl rfl
        have hc20 := cl_nat (x := p1) (by first | exact oz_016f458179 hc20 | omega)
        have hj20 : p1.toNatClampNeg < 8 := by omega
        have hw : pw D A s.heap _ _ [wd_Mo cs mo mr (fun _ => none) mf md (gMo PG hq), fo 13 (fPr cs hq qr QO QF QA) p0.toNatClampNeg, wd_Mpr cs (hq p0.toNatClampNeg) (qr p0.toNatClampNeg) (fun _ => QO p0.toNatClampNeg) (QF p0.toNatClampNeg) (QA p0.toNatClampNeg) (fun _ _ => none), fo 8 (fPg cs PG) p1.toNatClampNeg, wdP cs (PG p1.toNatClampNeg).h (PG p1.toNatClampNeg).r (PG p1.toNatClampNeg).g (PG p1.toNatClampNeg).tf (PG p1.toNatClampNeg).ta (PG p1.toNatClampNeg).pf (PG p1.toNatClampNeg).na (PG p1.toNatClampNeg).ma (PG p1.toNatClampNeg).wa (PG p1.toNatClampNeg).cf (PG p1.toNatClampNeg).ca (PG p1.toNatClampNeg).ef (PG p1.toNatClampNeg).ea (PG p1.toNatClampNeg).xf (PG p1.toNatClampNeg).xa] := fm_out (pr := [wd_Mo cs mo mr (fun _ => none) mf md (gMo PG hq), fo 13 (fPr cs hq qr QO QF QA) p0.toNatClampNeg, wd_Mpr cs (hq p0.toNatClampNeg) (qr p0.toNatClampNeg) (fun _ => QO p0.toNatClampNeg) (QF p0.toNatClampNeg) (QA p0.toNatClampNeg) (fun _ _ => none)]) (T := fPg cs PG) hw hj20
        have hpo21 := hpg p1.toNatClampNeg hj20
        have hp121 := hpo21.1
        have hp221 := hpo21.2.1
        refine px_get S k_Mpg hT hw 4 0 66 (v := .int ((PG p1.toNatClampNeg).xf 66)) rfl rfl rfl (by decide) m10_67 d_Mo_spawns_50 ?_
        refine lv_if_eq (tgt := 60) S.x S.b d_Mo_spawns_53 (by decide) (fun c22 => ?_) (fun c22 => ?_)
        · have nc22 : ((PG p1.toNatClampNeg).xf 66).toInt = (0 : Int) := (i_eq (x := ((PG p1.toNatClampNeg).xf 66)) (y := 0)).mp c22
          refine lv_iconst (v := 0) S.x S.b d_Mo_spawns_60 (by decide) ?_
          refine lv_istore (lv' := [(6, .int 0), (5, .int z5), (4, .ref (hq p0.toNatClampNeg)), (0, .ref mo), (1, .int p0), (2, .int p1), (3, .int p2)]) S.x S.b d_Mo_spawns_61 hl (by decide) rfl (fun ls hl => ?_)
          refine lv_aload_n S.x S.b d_Mo_spawns_63 rfl (lv_at hl 3 rfl) ?_
          refine lv_iconst (v := (-1)) S.x S.b d_Mo_spawns_64 (by decide) ?_
          refine px_put S k_Mo hT hw 0 0 9 rfl rfl (by decide) m11_87 rfl rfl rfl (Nat.le_of_ble_eq_true rfl) d_Mo_spawns_65 (w' := wd_Mo cs mo mr (fun _ => none) (upd mf 9 (-1)) md (gMo PG hq)) (ps' := [wd_Mo cs mo mr (fun _ => none) (upd mf 9 (-1)) md (gMo PG hq), fo 13 (fPr cs hq qr QO QF QA) p0.toNatClampNeg, wd_Mpr cs (hq p0.toNatClampNeg) (qr p0.toNatClampNeg) (fun _ => QO p0.toNatClampNeg) (QF p0.toNatClampNeg) (QA p0.toNatClampNeg) (fun _ _ => none), fo 8 (fPg cs PG) p1.toNatClampNeg, wdP cs (PG p1.toNatClampNeg).h (PG p1.toNatClampNeg).r (PG p1.toNatClampNeg).g (PG p1.toNatClampNeg).tf (PG p1.toNatClampNeg).ta (PG p1.toNatClampNeg).pf (PG p1.toNatClampNeg).na (PG p1.toNatClampNeg).ma (PG p1.toNatClampNeg).wa (PG p1.toNatClampNeg).cf (PG p1.toNatClampNeg).ca (PG p1.toNatClampNeg).ef (PG p1.toNatClampNeg).ea (PG p1.toNatClampNeg).xf (PG p1.toNatClampNeg).xa]) rfl rfl (fun H locs hw => ?_)
          refine lv_iload S.x S.b d_Mo_spawns_68 (lv_at hl 0 rfl) ?_
          refine lv_if_eq (tgt := 118) S.x S.b d_Mo_spawns_70 (by decide) (fun c24 => ?_) (fun c24 => ?_)
          ·
            have hw : pw D A s.heap _ _ [wd_Mo cs mo mr (fun _ => none) (upd mf 9 (-1)) md (gMo PG hq), fo 8 (fPg cs PG) p1.toNatClampNeg, wdP cs (PG p1.toNatClampNeg).h (PG p1.toNatClampNeg).r (PG p1.toNatClampNeg).g (PG p1.toNatClampNeg).tf (PG p1.toNatClampNeg).ta (PG p1.toNatClampNeg).pf (PG p1.toNatClampNeg).na (PG p1.toNatClampNeg).ma (PG p1.toNatClampNeg).wa (PG p1.toNatClampNeg).cf (PG p1.toNatClampNeg).ca (PG p1.toNatClampNeg).ef (PG p1.toNatClampNeg).ea (PG p1.toNatClampNeg).xf (PG p1.toNatClampNeg).xa, fo 13 (fPr cs hq qr QO QF QA) p0.toNatClampNeg, wd_Mpr cs (hq p0.toNatClampNeg) (qr p0.toNatClampNeg) (fun _ => QO p0.toNatClampNeg) (QF p0.toNatClampNeg) (QA p0.toNatClampNeg) (fun _ _ => none)] := hw.sub [0, 3, 4, 1, 2] rfl rfl
            have hw : pw D A s.heap _ _ [wd_Mo cs mo mr (fun _ => none) (upd mf 9 (-1)) md (gMo PG hq), fo 8 (fPg cs PG) p1.toNatClampNeg, wdP cs (PG p1.toNatClampNeg).h (PG p1.toNatClampNeg).r (PG p1.toNatClampNeg).g (PG p1.toNatClampNeg).tf (PG p1.toNatClampNeg).ta (PG p1.toNatClampNeg).pf (PG p1.toNatClampNeg).na (PG p1.toNatClampNeg).ma (PG p1.toNatClampNeg).wa (PG p1.toNatClampNeg).cf (PG p1.toNatClampNeg).ca (PG p1.toNatClampNeg).ef (PG p1.toNatClampNeg).ea (PG p1.toNatClampNeg).xf (PG p1.toNatClampNeg).xa, fm 13 (fPr cs hq qr QO QF QA)] := fm_back (pr := [wd_Mo cs mo mr (fun _ => none) (upd mf 9 (-1)) md (gMo PG hq), fo 8 (fPg cs PG) p1.toNatClampNeg, wdP cs (PG p1.toNatClampNeg).h (PG p1.toNatClampNeg).r (PG p1.toNatClampNeg).g (PG p1.toNatClampNeg).tf (PG p1.toNatClampNeg).ta (PG p1.toNatClampNeg).pf (PG p1.toNatClampNeg).na (PG p1.toNatClampNeg).ma (PG p1.toNatClampNeg).wa (PG p1.toNatClampNeg).cf (PG p1.toNatClampNeg).ca (PG p1.toNatClampNeg).ef (PG p1.toNatClampNeg).ea (PG p1.toNatClampNeg).xf (PG p1.toNatClampNeg).xa]) (T := fPr cs hq qr QO QF QA) hw hi3
            have hw : pw D A s.heap _ _ [wd_Mo cs mo mr (fun _ => none) (upd mf 9 (-1)) md (gMo PG hq), fm 13 (fPr cs hq qr QO QF QA), fo 8 (fPg cs PG) p1.toNatClampNeg, wdP cs (PG p1.toNatClampNeg).h (PG p1.toNatClampNeg).r (PG p1.toNatClampNeg).g (PG p1.toNatClampNeg).tf (PG p1.toNatClampNeg).ta (PG p1.toNatClampNeg).pf (PG p1.toNatClampNeg).na (PG p1.toNatClampNeg).ma (PG p1.toNatClampNeg).wa (PG p1.toNatClampNeg).cf (PG p1.toNatClampNeg).ca (PG p1.toNatClampNeg).ef (PG p1.toNatClampNeg).ea (PG p1.toNatClampNeg).xf (PG p1.toNatClampNeg).xa] := hw.sub [0, 3, 1, 2] rfl rfl
            have hw : pw D A s.heap _ _ [wd_Mo cs mo mr (fun _ => none) (upd mf 9 (-1)) md (gMo PG hq), fm 13 (fPr cs hq qr QO QF QA), fm 8 (fPg cs PG)] := fm_back (pr := [wd_Mo cs mo mr (fun _ => none) (upd mf 9 (-1)) md (gMo PG hq), fm 13 (fPr cs hq qr QO QF QA)]) (T := fPg cs PG) hw hj20
            exact px_vret S hr hlk hAe hw (Nat.le_of_ble_eq_true rfl) (Nat.le_of_ble_eq_true rfl) (⟨(upd mf 9 (-1)), QO, QF, QA, rfl, (show PrA PG RR QO QF QA from hpr), (show KpP QO QF QA QO QF QA p0.toNatClampNeg from hkp), (show (mf 0).toInt = (mf 0).toInt from rfl), (show (mf 2).toInt = (mf 2).toInt from rfl), (show (mf 3).toInt = (mf 3).toInt from rfl), (show (mf 7).toInt = (mf 7).toInt from rfl), (show (mf 8).toInt = (mf 8).toInt from rfl), (show (mf 10).toInt = (mf 10).toInt from rfl)⟩) d_Mo_spawns_118
          · exact absurd c24 (by decide)
        · have nc22 : ¬ ((PG p1.toNatClampNeg).xf 66).toInt = (0 : Int) := mt (i_eq (x := ((PG p1.toNatClampNeg).xf 66)) (y := 0)).mpr c22
          refine lv_iconst (v := 1) S.x S.b d_Mo_spawns_56 (by decide) ?_
          refine lv_goto (tgt := 61) S.x S.b d_Mo_spawns_57 (by decide) ?_
          refine lv_istore (lv' := [(6, .int 1), (5, .int z5), (4, .ref (hq p0.toNatClampNeg)), (0, .ref mo), (1, .int p0), (2, .int p1), (3, .int p2)]) S.x S.b d_Mo_spawns_61 hl (by decide) rfl (fun ls hl => ?_)
          refine lv_aload_n S.x S.b d_Mo_spawns_63 rfl (lv_at hl 3 rfl) ?_
          refine lv_iconst (v := (-1)) S.x S.b d_Mo_spawns_64 (by decide) ?_
          refine px_put S k_Mo hT hw 0 0 9 rfl rfl (by decide) m11_87 rfl rfl rfl (Nat.le_of_ble_eq_true rfl) d_Mo_spawns_65 (w' := wd_Mo cs mo mr (fun _ => none) (upd mf 9 (-1)) md (gMo PG hq)) (ps' := [wd_Mo cs mo mr (fun _ => none) (upd mf 9 (-1)) md (gMo PG hq), fo 13 (fPr cs hq qr QO QF QA) p0.toNatClampNeg, wd_Mpr cs (hq p0.toNatClampNeg) (qr p0.toNatClampNeg) (fun _ => QO p0.toNatClampNeg) (QF p0.toNatClampNeg) (QA p0.toNatClampNeg) (fun _ _ => none), fo 8 (fPg cs PG) p1.toNatClampNeg, wdP cs (PG p1.toNatClampNeg).h (PG p1.toNatClampNeg).r (PG p1.toNatClampNeg).g (PG p1.toNatClampNeg).tf (PG p1.toNatClampNeg).ta (PG p1.toNatClampNeg).pf (PG p1.toNatClampNeg).na (PG p1.toNatClampNeg).ma (PG p1.toNatClampNeg).wa (PG p1.toNatClampNeg).cf (PG p1.toNatClampNeg).ca (PG p1.toNatClampNeg).ef (PG p1.toNatClampNeg).ea (PG p1.toNatClampNeg).xf (PG p1.toNatClampNeg).xa]) rfl rfl (fun H locs hw => ?_)
          refine lv_iload S.x S.b d_Mo_spawns_68 (lv_at hl 0 rfl) ?_
          refine lv_if_eq (tgt := 118) S.x S.b d_Mo_spawns_70 (by decide) (fun c25 => ?_) (fun c25 => ?_)
          · exact absurd c25 (by decide)
          ·
            refine lv_aload S.x S.b d_Mo_spawns_73 (lv_at hl 2 rfl) ?_
            have hcz := cl_nat (x := z5) (by first | exact oz_016f458179 hcz | omega); have hcp := cl_nat (x := p0) (by first | exact g0 | omega); have hkid := hpr.kid (p := p0.toNatClampNeg) (z := z5.toNatClampNeg) (k := (QF p0.toNatClampNeg 6).toInt.toNat) (by omega) (by omega) (by omega) (by omega); have hpr0 := hpr
            refine lv_dup S.x S.b d_Mo_spawns_75 rfl ?_
            refine px_get S k_Mpr hT hw 2 0 6 (v := .int ((QF p0.toNatClampNeg) 6)) rfl rfl rfl (by decide) m10_233 d_Mo_spawns_76 ?_
            refine lv_iconst (v := 1) S.x S.b d_Mo_spawns_79 (by decide) ?_
            refine lv_iadd S.x S.b d_Mo_spawns_80 ?_
            have lr26 := Int32.le_toInt ((QF p0.toNatClampNeg) 6)
            have ur26 := Int32.toInt_lt ((QF p0.toNatClampNeg) 6)
            refine lv_topi (fun z27 ez27 => ?_)
            have tz27 : z27.toInt = (((QF p0.toNatClampNeg) 6).toInt + (1 : Int) + 2147483648) % 4294967296 - 2147483648 := by rw [ez27]; exact i_add ((QF p0.toNatClampNeg) 6) 1
            have lz27 := Int32.le_toInt z27
            have uz27 := Int32.toInt_lt z27
            try replace tz27 : z27.toInt = ((QF p0.toNatClampNeg) 6).toInt + (1 : Int) := by omega
            refine px_put S k_Mpr hT hw 2 0 6 rfl rfl (by decide) m10_233 rfl rfl rfl (Nat.le_of_ble_eq_true rfl) d_Mo_spawns_81 (w' := wd_Mpr cs (hq p0.toNatClampNeg) (qr p0.toNatClampNeg) (fun _ => QO p0.toNatClampNeg) (upd (QF p0.toNatClampNeg) 6 z27) (QA p0.toNatClampNeg) (fun _ _ => none)) (ps' := [wd_Mo cs mo mr (fun _ => none) (upd mf 9 (-1)) md (gMo PG hq), fo 13 (fPr cs hq qr QO QF QA) p0.toNatClampNeg, wd_Mpr cs (hq p0.toNatClampNeg) (qr p0.toNatClampNeg) (fun _ => QO p0.toNatClampNeg) (upd (QF p0.toNatClampNeg) 6 z27) (QA p0.toNatClampNeg) (fun _ _ => none), fo 8 (fPg cs PG) p1.toNatClampNeg, wdP cs (PG p1.toNatClampNeg).h (PG p1.toNatClampNeg).r (PG p1.toNatClampNeg).g (PG p1.toNatClampNeg).tf (PG p1.toNatClampNeg).ta (PG p1.toNatClampNeg).pf (PG p1.toNatClampNeg).na (PG p1.toNatClampNeg).ma (PG p1.toNatClampNeg).wa (PG p1.toNatClampNeg).cf (PG p1.toNatClampNeg).ca (PG p1.toNatClampNeg).ef (PG p1.toNatClampNeg).ea (PG p1.toNatClampNeg).xf (PG p1.toNatClampNeg).xa]) rfl rfl (fun H locs hw => ?_)
            refine lv_aload_n S.x S.b d_Mo_spawns_84 rfl (lv_at hl 3 rfl) ?_
            refine lv_aload S.x S.b d_Mo_spawns_85 (lv_at hl 2 rfl) ?_
            refine px_get S k_Mpr hT hw 2 0 6 (v := .int z27) rfl rfl rfl (by decide) m10_233 d_Mo_spawns_87 ?_
            refine px_put S k_Mo hT hw 0 0 9 rfl rfl (by decide) m11_87 rfl rfl rfl (Nat.le_of_ble_eq_true rfl) d_Mo_spawns_90 (w' := wd_Mo cs mo mr (fun _ => none) (upd mf 9 z27) md (gMo PG hq)) (ps' := [wd_Mo cs mo mr (fun _ => none) (upd mf 9 z27) md (gMo PG hq), fo 13 (fPr cs hq qr QO QF QA) p0.toNatClampNeg, wd_Mpr cs (hq p0.toNatClampNeg) (qr p0.toNatClampNeg) (fun _ => QO p0.toNatClampNeg) (upd (QF p0.toNatClampNeg) 6 z27) (QA p0.toNatClampNeg) (fun _ _ => none), fo 8 (fPg cs PG) p1.toNatClampNeg, wdP cs (PG p1.toNatClampNeg).h (PG p1.toNatClampNeg).r (PG p1.toNatClampNeg).g (PG p1.toNatClampNeg).tf (PG p1.toNatClampNeg).ta (PG p1.toNatClampNeg).pf (PG p1.toNatClampNeg).na (PG p1.toNatClampNeg).ma (PG p1.toNatClampNeg).wa (PG p1.toNatClampNeg).cf (PG p1.toNatClampNeg).ca (PG p1.toNatClampNeg).ef (PG p1.toNatClampNeg).ea (PG p1.toNatClampNeg).xf (PG p1.toNatClampNeg).xa]) rfl rfl (fun H locs hw => ?_)
            refine lv_aload_n S.x S.b d_Mo_spawns_93 rfl (lv_at hl 3 rfl) ?_
            refine px_get S k_Mo hT hw 0 0 5 (v := .ref (mr 5)) rfl rfl rfl (by decide) m11_83 d_Mo_spawns_94 ?_
            refine lv_iload S.x S.b d_Mo_spawns_97 (lv_at hl 1 rfl) ?_
            refine px_aaldS S hT hw 0 3 10 (n := 13) (f := ((gMo PG hq) 5)) rfl rfl rfl (x := z5) (vp_in_iff.mpr (by first | exact oz_7980b821ee hcz nc9 | (constructor <;> omega))) (sk := (hq z5.toNatClampNeg)) rfl d_Mo_spawns_99 ?_
            refine lv_aload_n S.x S.b d_Mo_spawns_100 rfl (lv_at hl 3 rfl) ?_
            refine px_get S k_Mo hT hw 0 0 4 (v := .ref (mr 4)) rfl rfl rfl (by decide) m11_82 d_Mo_spawns_101 ?_
            refine lv_iload_n S.x S.b d_Mo_spawns_104 rfl (lv_at hl 5 rfl) ?_
            refine px_aaldS S hT hw 0 2 9 (n := 8) (f := ((gMo PG hq) 4)) rfl rfl rfl (x := p1) (vp_in_iff.mpr (by first | exact oz_f03bff5491 hc20 hj20 | (constructor <;> omega))) (sk := (PG p1.toNatClampNeg).h) rfl d_Mo_spawns_105 ?_
            refine lv_iload_n S.x S.b d_Mo_spawns_106 rfl (lv_at hl 6 rfl) ?_
            refine lv_aload_n S.x S.b d_Mo_spawns_107 rfl (lv_at hl 3 rfl) ?_
            refine px_get S k_Mo hT hw 0 0 7 (v := .int (mf 7)) rfl rfl rfl (by decide) m11_85 d_Mo_spawns_108 ?_
            refine lv_aload_n S.x S.b d_Mo_spawns_111 rfl (lv_at hl 3 rfl) ?_
            refine px_get S k_Mo hT hw 0 0 8 (v := .int (mf 8)) rfl rfl rfl (by decide) m11_86 d_Mo_spawns_112 ?_
            have hw : pw D A s.heap _ _ [wd_Mo cs mo mr (fun _ => none) (upd mf 9 z27) md (gMo PG hq), fo 8 (fPg cs PG) p1.toNatClampNeg, wdP cs (PG p1.toNatClampNeg).h (PG p1.toNatClampNeg).r (PG p1.toNatClampNeg).g (PG p1.toNatClampNeg).tf (PG p1.toNatClampNeg).ta (PG p1.toNatClampNeg).pf (PG p1.toNatClampNeg).na (PG p1.toNatClampNeg).ma (PG p1.toNatClampNeg).wa (PG p1.toNatClampNeg).cf (PG p1.toNatClampNeg).ca (PG p1.toNatClampNeg).ef (PG p1.toNatClampNeg).ea (PG p1.toNatClampNeg).xf (PG p1.toNatClampNeg).xa, fo 13 (fPr cs hq qr QO QF QA) p0.toNatClampNeg, wd_Mpr cs (hq p0.toNatClampNeg) (qr p0.toNatClampNeg) (fun _ => QO p0.toNatClampNeg) (upd (QF p0.toNatClampNeg) 6 z27) (QA p0.toNatClampNeg) (fun _ _ => none)] := hw.sub [0, 3, 4, 1, 2] rfl rfl
            have hw := fpr_in (pr := [wd_Mo cs mo mr (fun _ => none) (upd mf 9 z27) md (gMo PG hq), fo 8 (fPg cs PG) p1.toNatClampNeg, wdP cs (PG p1.toNatClampNeg).h (PG p1.toNatClampNeg).r (PG p1.toNatClampNeg).g (PG p1.toNatClampNeg).tf (PG p1.toNatClampNeg).ta (PG p1.toNatClampNeg).pf (PG p1.toNatClampNeg).na (PG p1.toNatClampNeg).ma (PG p1.toNatClampNeg).wa (PG p1.toNatClampNeg).cf (PG p1.toNatClampNeg).ca (PG p1.toNatClampNeg).ef (PG p1.toNatClampNeg).ea (PG p1.toNatClampNeg).xf (PG p1.toNatClampNeg).xa]) hw hi3
            obtain ⟨QO28, hu_QO28⟩ : ∃ y : Nat → Option Nat, y = va_up QO p0.toNatClampNeg ((fun _ => QO p0.toNatClampNeg) 0) := ⟨_, rfl⟩
            obtain ⟨QF29, hu_QF29⟩ : ∃ y : Nat → Nat → Int32, y = va_up QF p0.toNatClampNeg (upd (QF p0.toNatClampNeg) 6 z27) := ⟨_, rfl⟩
            obtain ⟨QA30, hu_QA30⟩ : ∃ y : Nat → Nat → Nat → Int32, y = va_up QA p0.toNatClampNeg (QA p0.toNatClampNeg) := ⟨_, rfl⟩
            have hw : pw D A s.heap _ _ [wd_Mo cs mo mr (fun _ => none) (upd mf 9 z27) md (gMo PG hq), fo 8 (fPg cs PG) p1.toNatClampNeg, wdP cs (PG p1.toNatClampNeg).h (PG p1.toNatClampNeg).r (PG p1.toNatClampNeg).g (PG p1.toNatClampNeg).tf (PG p1.toNatClampNeg).ta (PG p1.toNatClampNeg).pf (PG p1.toNatClampNeg).na (PG p1.toNatClampNeg).ma (PG p1.toNatClampNeg).wa (PG p1.toNatClampNeg).cf (PG p1.toNatClampNeg).ca (PG p1.toNatClampNeg).ef (PG p1.toNatClampNeg).ea (PG p1.toNatClampNeg).xf (PG p1.toNatClampNeg).xa, fm 13 (fPr cs hq qr QO28 QF29 QA30)] := (by rw [hu_QO28, hu_QF29, hu_QA30]; exact hw)
            have hpr : PrA PG RR QO28 QF29 QA30 := (by rw [hu_QO28, hu_QF29, hu_QA30]; exact PrA.up hpr (PsR.chi hps3 (f' := (upd (QF p0.toNatClampNeg) 6 z27)) (show (0 ≤ ((QF p0.toNatClampNeg) 1).toInt ∧ ((QF p0.toNatClampNeg) 1).toInt ≤ 1) ∧ (0 ≤ ((QF p0.toNatClampNeg) 21).toInt ∧ ((QF p0.toNatClampNeg) 21).toInt ≤ 4) ∧ (0 ≤ ((QF p0.toNatClampNeg) 23).toInt ∧ ((QF p0.toNatClampNeg) 23).toInt ≤ 4) ∧ (0 ≤ ((QF p0.toNatClampNeg) 24).toInt ∧ ((QF p0.toNatClampNeg) 24).toInt ≤ 1000000) ∧ (0 ≤ z27.toInt ∧ z27.toInt ≤ 3) ∧ (0 ≤ ((QF p0.toNatClampNeg) 7).toInt ∧ ((QF p0.toNatClampNeg) 7).toInt ≤ 1) from by omega) (fun k9 a9 => by first | rfl | exact pk_un a9)) (show ((QF p0.toNatClampNeg) 1).toInt = (QF p0.toNatClampNeg 1).toInt from by first | exact oz_507c05ca68 | omega) (show (QF p0.toNatClampNeg 6).toInt ≤ z27.toInt from by first | exact oz_b88c2a0b93 tz27 | omega))
            have hqk1_QF29 : (QF29 p0.toNatClampNeg 1).toInt = ((QF p0.toNatClampNeg) 1).toInt := (by rw [hu_QF29, va_up_s]; try rfl)
            have hqk6_QF29 : (QF29 p0.toNatClampNeg 6).toInt = z27.toInt := (by rw [hu_QF29, va_up_s]; try rfl)
            have hkp : KpP QO QF QA QO28 QF29 QA30 p0.toNatClampNeg := (by rw [hu_QO28, hu_QF29, hu_QA30]; exact KpP.up hkp rfl (show (((QF p0.toNatClampNeg) 1).toInt = (QF p0.toNatClampNeg 1).toInt ∧ ((QF p0.toNatClampNeg) 4).toInt = (QF p0.toNatClampNeg 4).toInt ∧ ((QF p0.toNatClampNeg) 5).toInt = (QF p0.toNatClampNeg 5).toInt ∧ ((QF p0.toNatClampNeg) 7).toInt = (QF p0.toNatClampNeg 7).toInt ∧ ((QF p0.toNatClampNeg) 10).toInt = (QF p0.toNatClampNeg 10).toInt ∧ ((QF p0.toNatClampNeg) 11).toInt = (QF p0.toNatClampNeg 11).toInt) ∧ ((QF p0.toNatClampNeg) 12).toInt = (QF p0.toNatClampNeg 12).toInt ∧ ((QF p0.toNatClampNeg) 13).toInt = (QF p0.toNatClampNeg 13).toInt ∧ ((QF p0.toNatClampNeg) 14).toInt = (QF p0.toNatClampNeg 14).toInt ∧ ((QF p0.toNatClampNeg) 24).toInt = (QF p0.toNatClampNeg 24).toInt from by omega) (fun k9 a9 b9 => by first | rfl | simp only [va_up_n a9, va_up_n b9]))
            have hc31 := cl_nat (x := z5) (by first | exact oz_016f458179 hcz | omega)
            have hi31 : z5.toNatClampNeg < 13 := by first | exact oz_81bc16641b hcz nc9 | omega
            have hw : pw D A s.heap _ _ [wd_Mo cs mo mr (fun _ => none) (upd mf 9 z27) md (gMo PG hq), fo 8 (fPg cs PG) p1.toNatClampNeg, wdP cs (PG p1.toNatClampNeg).h (PG p1.toNatClampNeg).r (PG p1.toNatClampNeg).g (PG p1.toNatClampNeg).tf (PG p1.toNatClampNeg).ta (PG p1.toNatClampNeg).pf (PG p1.toNatClampNeg).na (PG p1.toNatClampNeg).ma (PG p1.toNatClampNeg).wa (PG p1.toNatClampNeg).cf (PG p1.toNatClampNeg).ca (PG p1.toNatClampNeg).ef (PG p1.toNatClampNeg).ea (PG p1.toNatClampNeg).xf (PG p1.toNatClampNeg).xa, fo 13 (fPr cs hq qr QO28 QF29 QA30) z5.toNatClampNeg, wd_Mpr cs (hq z5.toNatClampNeg) (qr z5.toNatClampNeg) (fun _ => QO28 z5.toNatClampNeg) (QF29 z5.toNatClampNeg) (QA30 z5.toNatClampNeg) (fun _ _ => none)] := fm_out (pr := [wd_Mo cs mo mr (fun _ => none) (upd mf 9 z27) md (gMo PG hq), fo 8 (fPg cs PG) p1.toNatClampNeg, wdP cs (PG p1.toNatClampNeg).h (PG p1.toNatClampNeg).r (PG p1.toNatClampNeg).g (PG p1.toNatClampNeg).tf (PG p1.toNatClampNeg).ta (PG p1.toNatClampNeg).pf (PG p1.toNatClampNeg).na (PG p1.toNatClampNeg).ma (PG p1.toNatClampNeg).wa (PG p1.toNatClampNeg).cf (PG p1.toNatClampNeg).ca (PG p1.toNatClampNeg).ef (PG p1.toNatClampNeg).ea (PG p1.toNatClampNeg).xf (PG p1.toNatClampNeg).xa]) (T := fPr cs hq qr QO28 QF29 QA30) hw hi31
            have hps31 := hpr.1 z5.toNatClampNeg hi31
            have hpb31 := hps31.1
            unfold PsB at hpb31
            have hw : pw D A s.heap _ _ [wd_Mo cs mo mr (fun _ => none) (upd mf 9 z27) md (gMo PG hq), fo 8 (fPg cs PG) p1.toNatClampNeg, fo 13 (fPr cs hq qr QO28 QF29 QA30) z5.toNatClampNeg, wd_Mpr cs (hq z5.toNatClampNeg) (qr z5.toNatClampNeg) (fun _ => QO28 z5.toNatClampNeg) (QF29 z5.toNatClampNeg) (QA30 z5.toNatClampNeg) (fun _ _ => none), wdP cs (PG p1.toNatClampNeg).h (PG p1.toNatClampNeg).r (PG p1.toNatClampNeg).g (PG p1.toNatClampNeg).tf (PG p1.toNatClampNeg).ta (PG p1.toNatClampNeg).pf (PG p1.toNatClampNeg).na (PG p1.toNatClampNeg).ma (PG p1.toNatClampNeg).wa (PG p1.toNatClampNeg).cf (PG p1.toNatClampNeg).ca (PG p1.toNatClampNeg).ef (PG p1.toNatClampNeg).ea (PG p1.toNatClampNeg).xf (PG p1.toNatClampNeg).xa] := hw.sub [0, 1, 3, 4, 2] rfl rfl
            refine px_callv (pr := [wd_Mo cs mo mr (fun _ => none) (upd mf 9 z27) md (gMo PG hq), fo 8 (fPg cs PG) p1.toNatClampNeg, fo 13 (fPr cs hq qr QO28 QF29 QA30) z5.toNatClampNeg]) (px_runV (As := [.ref (PG p1.toNatClampNeg).h, .int p2, .int (mf 7), .int (mf 8)]) (rest := []) S (c_mq_begin l D cs (hq z5.toNatClampNeg) (qr z5.toNatClampNeg) (fun _ _ => none) (fun _ => QO28 z5.toNatClampNeg) (QF29 z5.toNatClampNeg) (QA30 z5.toNatClampNeg) (PG p1.toNatClampNeg).h (PG p1.toNatClampNeg).r (PG p1.toNatClampNeg).g (PG p1.toNatClampNeg).tf (PG p1.toNatClampNeg).ta (PG p1.toNatClampNeg).pf (PG p1.toNatClampNeg).na (PG p1.toNatClampNeg).ma (PG p1.toNatClampNeg).wa (PG p1.toNatClampNeg).cf (PG p1.toNatClampNeg).ca (PG p1.toNatClampNeg).ef (PG p1.toNatClampNeg).ea (PG p1.toNatClampNeg).xf (PG p1.toNatClampNeg).xa p2 (mf 7) (mf 8)  (show 0 ≤ (mf 7).toInt from by first | exact g2 | omega) (show (mf 7).toInt ≤ 100 from by first | exact g3 | omega) (show 0 ≤ (mf 8).toInt from by first | exact g4 | omega) (show (mf 8).toInt ≤ 512 from by first | exact g5 | omega) hpo21.2.2 _) hT (pr := [wd_Mo cs mo mr (fun _ => none) (upd mf 9 z27) md (gMo PG hq), fo 8 (fPg cs PG) p1.toNatClampNeg, fo 13 (fPr cs hq qr QO28 QF29 QA30) z5.toNatClampNeg]) (pcs := [wd_Mpr cs (hq z5.toNatClampNeg) (qr z5.toNatClampNeg) (fun _ => QO28 z5.toNatClampNeg) (QF29 z5.toNatClampNeg) (QA30 z5.toNatClampNeg) (fun _ _ => none), wdP cs (PG p1.toNatClampNeg).h (PG p1.toNatClampNeg).r (PG p1.toNatClampNeg).g (PG p1.toNatClampNeg).tf (PG p1.toNatClampNeg).ta (PG p1.toNatClampNeg).pf (PG p1.toNatClampNeg).na (PG p1.toNatClampNeg).ma (PG p1.toNatClampNeg).wa (PG p1.toNatClampNeg).cf (PG p1.toNatClampNeg).ca (PG p1.toNatClampNeg).ef (PG p1.toNatClampNeg).ea (PG p1.toNatClampNeg).xf (PG p1.toNatClampNeg).xa]) hw px_X.tt (px_recv hT hw 3 0 rfl rfl rfl) m13_155 m13_152 m13_153 m13_154 m1_22 q_Mpr_begin ⟨Nat.le_of_ble_eq_true rfl, Nat.le_of_ble_eq_true rfl⟩ hl.1 rfl (Nat.le_of_ble_eq_true rfl) d_Mo_spawns_115 ⟨Nat.le_of_ble_eq_true rfl, Nat.le_of_ble_eq_true rfl⟩) hw hA (fun p38 H locs hp38 hw => ?_)
            obtain ⟨qo35, qf36, qa37, rfl, e40, e41, e42, e43, e44, e45, e46, e47, e48, e49, e50⟩ := hp38
            have e40 : OpS qo35 (PG p1.toNatClampNeg).h := e40
            have hop := e40
            have e41 : (qf36 1).toInt = 1 := e41
            have e42 : (qf36 2).toInt = -2 := e42
            have e43 : (qf36 3).toInt = 0 := e43
            have e44 : (qf36 6).toInt = 0 := e44
            have e45 : (qf36 7).toInt = 0 := e45
            have e46 : (qf36 21).toInt = 0 := e46
            have e47 : (qf36 23).toInt = 0 := e47
            have e48 : (qf36 24).toInt = 0 := e48
            have e49 : ((PG p1.toNatClampNeg).xf 66).toInt = 2 → 0 ≤ (qf36 4).toInt ∧ (qf36 4).toInt ≤ 1600 := e49
            have e50 : PsQ ((PG p1.toNatClampNeg).xf 66).toInt (PsT ⟨(PG p1.toNatClampNeg).h, (PG p1.toNatClampNeg).r, (PG p1.toNatClampNeg).g, (PG p1.toNatClampNeg).tf, (PG p1.toNatClampNeg).ta, (PG p1.toNatClampNeg).pf, (PG p1.toNatClampNeg).na, (PG p1.toNatClampNeg).ma, (PG p1.toNatClampNeg).wa, (PG p1.toNatClampNeg).cf, (PG p1.toNatClampNeg).ca, (PG p1.toNatClampNeg).ef, (PG p1.toNatClampNeg).ea, (PG p1.toNatClampNeg).xf, (PG p1.toNatClampNeg).xa⟩ (RMX - 1) qf36 qa37) := e50
            skip
            have hw : pw D A s.heap H locs [wd_Mo cs mo mr (fun _ => none) (upd mf 9 z27) md (gMo PG hq), fo 8 (fPg cs PG) p1.toNatClampNeg, fo 13 (fPr cs hq qr QO28 QF29 QA30) z5.toNatClampNeg, wd_Mpr cs (hq z5.toNatClampNeg) (qr z5.toNatClampNeg) qo35 qf36 qa37 (fun _ _ => none), wdP cs (PG p1.toNatClampNeg).h (PG p1.toNatClampNeg).r (PG p1.toNatClampNeg).g (PG p1.toNatClampNeg).tf (PG p1.toNatClampNeg).ta (PG p1.toNatClampNeg).pf (PG p1.toNatClampNeg).na (PG p1.toNatClampNeg).ma (PG p1.toNatClampNeg).wa (PG p1.toNatClampNeg).cf (PG p1.toNatClampNeg).ca (PG p1.toNatClampNeg).ef (PG p1.toNatClampNeg).ea (PG p1.toNatClampNeg).xf (PG p1.toNatClampNeg).xa] := hw
            have hw : pw D A s.heap _ _ [wd_Mo cs mo mr (fun _ => none) (upd mf 9 z27) md (gMo PG hq), fo 8 (fPg cs PG) p1.toNatClampNeg, wdP cs (PG p1.toNatClampNeg).h (PG p1.toNatClampNeg).r (PG p1.toNatClampNeg).g (PG p1.toNatClampNeg).tf (PG p1.toNatClampNeg).ta (PG p1.toNatClampNeg).pf (PG p1.toNatClampNeg).na (PG p1.toNatClampNeg).ma (PG p1.toNatClampNeg).wa (PG p1.toNatClampNeg).cf (PG p1.toNatClampNeg).ca (PG p1.toNatClampNeg).ef (PG p1.toNatClampNeg).ea (PG p1.toNatClampNeg).xf (PG p1.toNatClampNeg).xa, fo 13 (fPr cs hq qr QO28 QF29 QA30) z5.toNatClampNeg, wd_Mpr cs (hq z5.toNatClampNeg) (qr z5.toNatClampNeg) qo35 qf36 qa37 (fun _ _ => none)] := hw.sub [0, 1, 4, 2, 3] rfl rfl
            have hw := fpr_in (pr := [wd_Mo cs mo mr (fun _ => none) (upd mf 9 z27) md (gMo PG hq), fo 8 (fPg cs PG) p1.toNatClampNeg, wdP cs (PG p1.toNatClampNeg).h (PG p1.toNatClampNeg).r (PG p1.toNatClampNeg).g (PG p1.toNatClampNeg).tf (PG p1.toNatClampNeg).ta (PG p1.toNatClampNeg).pf (PG p1.toNatClampNeg).na (PG p1.toNatClampNeg).ma (PG p1.toNatClampNeg).wa (PG p1.toNatClampNeg).cf (PG p1.toNatClampNeg).ca (PG p1.toNatClampNeg).ef (PG p1.toNatClampNeg).ea (PG p1.toNatClampNeg).xf (PG p1.toNatClampNeg).xa]) hw hi31
            obtain ⟨QO51, hu_QO51⟩ : ∃ y : Nat → Option Nat, y = va_up QO28 z5.toNatClampNeg (qo35 0) := ⟨_, rfl⟩
            obtain ⟨QF52, hu_QF52⟩ : ∃ y : Nat → Nat → Int32, y = va_up QF29 z5.toNatClampNeg qf36 := ⟨_, rfl⟩
            obtain ⟨QA53, hu_QA53⟩ : ∃ y : Nat → Nat → Nat → Int32, y = va_up QA30 z5.toNatClampNeg qa37 := ⟨_, rfl⟩
            have hw : pw D A s.heap _ _ [wd_Mo cs mo mr (fun _ => none) (upd mf 9 z27) md (gMo PG hq), fo 8 (fPg cs PG) p1.toNatClampNeg, wdP cs (PG p1.toNatClampNeg).h (PG p1.toNatClampNeg).r (PG p1.toNatClampNeg).g (PG p1.toNatClampNeg).tf (PG p1.toNatClampNeg).ta (PG p1.toNatClampNeg).pf (PG p1.toNatClampNeg).na (PG p1.toNatClampNeg).ma (PG p1.toNatClampNeg).wa (PG p1.toNatClampNeg).cf (PG p1.toNatClampNeg).ca (PG p1.toNatClampNeg).ef (PG p1.toNatClampNeg).ea (PG p1.toNatClampNeg).xf (PG p1.toNatClampNeg).xa, fm 13 (fPr cs hq qr QO51 QF52 QA53)] := (by rw [hu_QO51, hu_QF52, hu_QA53]; exact hw)
            have hpr : PrA PG RR QO51 QF52 QA53 := (by rw [hu_QO51, hu_QF52, hu_QA53]; exact PrA.upT hpr (psr_bg (j := p1.toNatClampNeg) hj20 hop (show (0 ≤ (qf36 1).toInt ∧ (qf36 1).toInt ≤ 1) ∧ (0 ≤ (qf36 21).toInt ∧ (qf36 21).toInt ≤ 4) ∧ (0 ≤ (qf36 23).toInt ∧ (qf36 23).toInt ≤ 4) ∧ (0 ≤ (qf36 24).toInt ∧ (qf36 24).toInt ≤ 1000000) ∧ (0 ≤ (qf36 6).toInt ∧ (qf36 6).toInt ≤ 3) ∧ (0 ≤ (qf36 7).toInt ∧ (qf36 7).toInt ≤ 1) from by omega) hkid.2 (by omega) (by omega) (by omega) (fun q9 => by omega) e50) (TrI.bg (u := p0.toNatClampNeg) (j := (QF p0.toNatClampNeg 6).toInt.toNat) hpr.2 (by omega) (by omega) (by omega) (by omega) (by omega) (by rw [hu_QF29, va_up_n (by omega)]; exact hkid.1)))
            have hqk1_QF52 : (QF52 z5.toNatClampNeg 1).toInt = (qf36 1).toInt := (by rw [hu_QF52, va_up_s]; try rfl)
            have hqk6_QF52 : (QF52 z5.toNatClampNeg 6).toInt = (qf36 6).toInt := (by rw [hu_QF52, va_up_s]; try rfl)
            have hkp : KpP QO QF QA QO51 QF52 QA53 p0.toNatClampNeg := (by rw [hu_QO51, hu_QF52, hu_QA53]; exact KpP.oth hkp (by omega))
            have hw : pw D A s.heap _ _ [wd_Mo cs mo mr (fun _ => none) (upd mf 9 z27) md (gMo PG hq), fm 13 (fPr cs hq qr QO51 QF52 QA53), fo 8 (fPg cs PG) p1.toNatClampNeg, wdP cs (PG p1.toNatClampNeg).h (PG p1.toNatClampNeg).r (PG p1.toNatClampNeg).g (PG p1.toNatClampNeg).tf (PG p1.toNatClampNeg).ta (PG p1.toNatClampNeg).pf (PG p1.toNatClampNeg).na (PG p1.toNatClampNeg).ma (PG p1.toNatClampNeg).wa (PG p1.toNatClampNeg).cf (PG p1.toNatClampNeg).ca (PG p1.toNatClampNeg).ef (PG p1.toNatClampNeg).ea (PG p1.toNatClampNeg).xf (PG p1.toNatClampNeg).xa] := hw.sub [0, 3, 1, 2] rfl rfl
            have hw : pw D A s.heap _ _ [wd_Mo cs mo mr (fun _ => none) (upd mf 9 z27) md (gMo PG hq), fm 13 (fPr cs hq qr QO51 QF52 QA53), fm 8 (fPg cs PG)] := fm_back (pr := [wd_Mo cs mo mr (fun _ => none) (upd mf 9 z27) md (gMo PG hq), fm 13 (fPr cs hq qr QO51 QF52 QA53)]) (T := fPg cs PG) hw hj20
            exact px_vret S hr hlk hAe hw (Nat.le_of_ble_eq_true rfl) (Nat.le_of_ble_eq_true rfl) (⟨(upd mf 9 z27), QO51, QF52, QA53, rfl, (show PrA PG RR QO51 QF52 QA53 from hpr), (show KpP QO QF QA QO51 QF52 QA53 p0.toNatClampNeg from hkp), (show (mf 0).toInt = (mf 0).toInt from rfl), (show (mf 2).toInt = (mf 2).toInt from rfl), (show (mf 3).toInt = (mf 3).toInt from rfl), (show (mf 7).toInt = (mf 7).toInt from rfl), (show (mf 8).toInt = (mf 8).toInt from rfl), (show (mf 10).toInt = (mf 10).toInt from rfl)⟩) d_Mo_spawns_118
abbrev b_Mo_moveArray : ByteArray := prog_14_method_24_code
def y_Mo_moveArray : MethodName := ⟨"HomeSystemModel", "moveArray", "(IZIII)V"⟩
theorem d_Mo_moveArray_0 : decode b_Mo_moveArray 0 = .ok (.aload_n 0, 1) := by decide +kernel
theorem d_Mo_moveArray_1 : decode b_Mo_moveArray 1 = .ok (.iload_n 1, 1) := by decide +kernel
theorem d_Mo_moveArray_2 : decode b_Mo_moveArray 2 = .ok (.iload_n 3, 1) := by decide +kernel
theorem d_Mo_moveArray_3 : decode b_Mo_moveArray 3 = .ok (.invokevirtual 166, 3) := by decide +kernel
theorem d_Mo_moveArray_6 : decode b_Mo_moveArray 6 = .ok (.ifCond .ne 4, 3) := by decide +kernel
theorem d_Mo_moveArray_9 : decode b_Mo_moveArray 9 = .ok (.return_, 1) := by decide +kernel
theorem d_Mo_moveArray_10 : decode b_Mo_moveArray 10 = .ok (.aload_n 0, 1) := by decide +kernel
theorem d_Mo_moveArray_11 : decode b_Mo_moveArray 11 = .ok (.getfield 21, 3) := by decide +kernel
theorem d_Mo_moveArray_14 : decode b_Mo_moveArray 14 = .ok (.iload_n 1, 1) := by decide +kernel
theorem d_Mo_moveArray_15 : decode b_Mo_moveArray 15 = .ok (.aaload, 1) := by decide +kernel
theorem d_Mo_moveArray_16 : decode b_Mo_moveArray 16 = .ok (.getfield 169, 3) := by decide +kernel
theorem d_Mo_moveArray_19 : decode b_Mo_moveArray 19 = .ok (.astore 6, 2) := by decide +kernel
theorem d_Mo_moveArray_21 : decode b_Mo_moveArray 21 = .ok (.iconst 0, 1) := by decide +kernel
theorem d_Mo_moveArray_22 : decode b_Mo_moveArray 22 = .ok (.istore 7, 2) := by decide +kernel
theorem d_Mo_moveArray_24 : decode b_Mo_moveArray 24 = .ok (.iload 7, 2) := by decide +kernel
theorem d_Mo_moveArray_26 : decode b_Mo_moveArray 26 = .ok (.iload 5, 2) := by decide +kernel
theorem d_Mo_moveArray_28 : decode b_Mo_moveArray 28 = .ok (.if_icmp .ge 63, 3) := by decide +kernel
theorem d_Mo_moveArray_31 : decode b_Mo_moveArray 31 = .ok (.iload 7, 2) := by decide +kernel
theorem d_Mo_moveArray_33 : decode b_Mo_moveArray 33 = .ok (.bipush 16, 2) := by decide +kernel
theorem d_Mo_moveArray_35 : decode b_Mo_moveArray 35 = .ok (.if_icmp .ge 56, 3) := by decide +kernel
theorem d_Mo_moveArray_38 : decode b_Mo_moveArray 38 = .ok (.iload_n 2, 1) := by decide +kernel
theorem d_Mo_moveArray_39 : decode b_Mo_moveArray 39 = .ok (.ifCond .eq 26, 3) := by decide +kernel
theorem d_Mo_moveArray_42 : decode b_Mo_moveArray 42 = .ok (.aload 6, 2) := by decide +kernel
theorem d_Mo_moveArray_44 : decode b_Mo_moveArray 44 = .ok (.iload 4, 2) := by decide +kernel
theorem d_Mo_moveArray_46 : decode b_Mo_moveArray 46 = .ok (.iload 7, 2) := by decide +kernel
theorem d_Mo_moveArray_48 : decode b_Mo_moveArray 48 = .ok (.iadd, 1) := by decide +kernel
theorem d_Mo_moveArray_49 : decode b_Mo_moveArray 49 = .ok (.aload_n 0, 1) := by decide +kernel
theorem d_Mo_moveArray_50 : decode b_Mo_moveArray 50 = .ok (.getfield 25, 3) := by decide +kernel
theorem d_Mo_moveArray_53 : decode b_Mo_moveArray 53 = .ok (.bipush 16, 2) := by decide +kernel
theorem d_Mo_moveArray_55 : decode b_Mo_moveArray 55 = .ok (.iload_n 3, 1) := by decide +kernel
theorem d_Mo_moveArray_56 : decode b_Mo_moveArray 56 = .ok (.imul, 1) := by decide +kernel
theorem d_Mo_moveArray_57 : decode b_Mo_moveArray 57 = .ok (.iload 7, 2) := by decide +kernel
theorem d_Mo_moveArray_59 : decode b_Mo_moveArray 59 = .ok (.iadd, 1) := by decide +kernel
theorem d_Mo_moveArray_60 : decode b_Mo_moveArray 60 = .ok (.iaload, 1) := by decide +kernel
theorem d_Mo_moveArray_61 : decode b_Mo_moveArray 61 = .ok (.iastore, 1) := by decide +kernel
theorem d_Mo_moveArray_62 : decode b_Mo_moveArray 62 = .ok (.goto 23, 3) := by decide +kernel
theorem d_Mo_moveArray_65 : decode b_Mo_moveArray 65 = .ok (.aload_n 0, 1) := by decide +kernel
theorem d_Mo_moveArray_66 : decode b_Mo_moveArray 66 = .ok (.getfield 25, 3) := by decide +kernel
theorem d_Mo_moveArray_69 : decode b_Mo_moveArray 69 = .ok (.bipush 16, 2) := by decide +kernel
theorem d_Mo_moveArray_71 : decode b_Mo_moveArray 71 = .ok (.iload_n 3, 1) := by decide +kernel
theorem d_Mo_moveArray_72 : decode b_Mo_moveArray 72 = .ok (.imul, 1) := by decide +kernel
theorem d_Mo_moveArray_73 : decode b_Mo_moveArray 73 = .ok (.iload 7, 2) := by decide +kernel
theorem d_Mo_moveArray_75 : decode b_Mo_moveArray 75 = .ok (.iadd, 1) := by decide +kernel
theorem d_Mo_moveArray_76 : decode b_Mo_moveArray 76 = .ok (.aload 6, 2) := by decide +kernel
theorem d_Mo_moveArray_78 : decode b_Mo_moveArray 78 = .ok (.iload 4, 2) := by decide +kernel
theorem d_Mo_moveArray_80 : decode b_Mo_moveArray 80 = .ok (.iload 7, 2) := by decide +kernel
theorem d_Mo_moveArray_82 : decode b_Mo_moveArray 82 = .ok (.iadd, 1) := by decide +kernel
theorem d_Mo_moveArray_83 : decode b_Mo_moveArray 83 = .ok (.iaload, 1) := by decide +kernel
theorem d_Mo_moveArray_84 : decode b_Mo_moveArray 84 = .ok (.iastore, 1) := by decide +kernel
theorem d_Mo_moveArray_85 : decode b_Mo_moveArray 85 = .ok (.iinc 7 1, 3) := by decide +kernel
theorem d_Mo_moveArray_88 : decode b_Mo_moveArray 88 = .ok (.goto (-64), 3) := by decide +kernel
theorem d_Mo_moveArray_91 : decode b_Mo_moveArray 91 = .ok (.return_, 1) := by decide +kernel
theorem q_Mo_moveArray : px_y y_Mo_moveArray 5 := by unfold px_y; decide +kernel
set_option maxHeartbeats 4000000 in
set_option maxRecDepth 100000 in
theorem c_mo_moveArray (l : Launch) (D : va_G) (cs : Nat → ClassId) (RR : Nat → Int) (mo : Nat) (mr : Nat → Nat) (mf : Nat → Int32) (md : Nat → Nat → Int32) (hq : Nat → Nat) (qr : Nat → Nat → Nat) (QO : Nat → Option Nat) (QF : Nat → Nat → Int32) (QA : Nat → Nat → Nat → Int32) (PG : Nat → Pgs) (p0 p1 p2 p3 p4 : Int32)  (g0 : 0 ≤ p0.toInt) (g1 : p0.toInt < 13) (hpr : PrA PG RR QO QF QA) (hpg : PgA PG) (hmv : ∀ c : Int, p3.toInt ≤ c → c < p3.toInt + p4.toInt → 0 ≤ c ∧ c < 37000) : MetV l y_Mo_moveArray b_Mo_moveArray 8 D cs 3 120 (0) (0) [.ref mo, .int p0, .int p1, .int p2, .int p3, .int p4] [wd_Mo cs mo mr (fun _ => none) mf md (gMo PG hq), fm 13 (fPr cs hq qr QO QF QA), fm 8 (fPg cs PG)] (fun _ => True) (fun ps => ∃ (mf' : Nat → Int32) (md' : Nat → Nat → Int32) (QO' : Nat → Option Nat) (QF' : Nat → Nat → Int32) (QA' : Nat → Nat → Nat → Int32), (ps = [wd_Mo cs mo mr (fun _ => none) mf' md' (gMo PG hq), fm 13 (fPr cs hq qr QO' QF' QA'), fm 8 (fPg cs PG)]) ∧ (PrX PG RR QO' QF' QA' p0.toNatClampNeg) ∧ (KpM QO QF QA QO' QF' QA' p0.toNatClampNeg p3.toInt p4.toInt) ∧ ((mf' 0).toInt = (mf 0).toInt) ∧ ((mf' 2).toInt = (mf 2).toInt) ∧ ((mf' 3).toInt = (mf 3).toInt) ∧ ((mf' 7).toInt = (mf 7).toInt) ∧ ((mf' 8).toInt = (mf 8).toInt) ∧ ((mf' 9).toInt = (mf 9).toInt) ∧ ((mf' 10).toInt = (mf 10).toInt) ∧ (Md1 md md')) := by
  refine px_enter (by decide) (Nat.le_of_ble_eq_true rfl) ?_
  intro p e s m below meth c A ls hAe S hr hlk hnm hA hT hX hw hl
  have hl : lv_has ls 8 [(0, .ref mo), (1, .int p0), (2, .int p1), (3, .int p2), (4, .int p3), (5, .int p4)] := hl
  have lp0 := Int32.le_toInt p0
  have up0 := Int32.toInt_lt p0
  have lp1 := Int32.le_toInt p1
  have up1 := Int32.toInt_lt p1
  have lp2 := Int32.le_toInt p2
  have up2 := Int32.toInt_lt p2
  have lp3 := Int32.le_toInt p3
  have up3 := Int32.toInt_lt p3
  have lp4 := Int32.le_toInt p4
  have up4 := Int32.toInt_lt p4
  have cst0 : (0 : Int32).toInt = 0 := rfl
  have cst16 : (16 : Int32).toInt = 16 := rfl
  have hmdq : Md1 md md := rfl
  have hkp : KpP QO QF QA QO QF QA p0.toNatClampNeg := KpP.rf
  have J24 : ∀ (n_24 : Nat) (mf_24 : Nat → Int32) (md_24 : Nat → Nat → Int32) (QO_24 : Nat → Option Nat) (QF_24 : Nat → Nat → Int32) (QA_24 : Nat → Nat → Nat → Int32) (x24_7 : Int32) (H : Heap) (locs : List Loc) (ls : Array Slot), (PrX PG RR QO_24 QF_24 QA_24 p0.toNatClampNeg) → (KpM QO QF QA QO_24 QF_24 QA_24 p0.toNatClampNeg p3.toInt p4.toInt) → ((mf_24 0).toInt = (mf 0).toInt) → ((mf_24 2).toInt = (mf 2).toInt) → ((mf_24 3).toInt = (mf 3).toInt) → ((mf_24 7).toInt = (mf 7).toInt) → ((mf_24 8).toInt = (mf 8).toInt) → ((mf_24 9).toInt = (mf 9).toInt) → ((mf_24 10).toInt = (mf 10).toInt) → (Md1 md md_24) → (0 ≤ x24_7.toInt) → (x24_7.toInt ≤ 16) → (p0.toInt = 0) → (0 ≤ p2.toInt) → (p2.toInt < 8) → 17 - x24_7.toInt < (n_24 : Int) → pw D A s.heap H locs [wd_Mo cs mo mr (fun _ => none) mf_24 md_24 (gMo PG hq), fm 13 (fPr cs hq qr QO_24 QF_24 QA_24), fm 8 (fPg cs PG)] → lv_has ls 8 [(0, .ref mo), (1, .int p0), (2, .int p1), (3, .int p2), (4, .int p3), (5, .int p4), (6, .ref ((qr p0.toNatClampNeg) 8)), (7, .int x24_7)] → W p l e { frames := 3, cells := 0, slots := 0, locals := 120 } s m [.ref mo, .int p0, .int p1, .int p2, .int p3, .int p4].toArray below meth c H locs 0 0 (MQ below (va_Qv (fun ps => ∃ (mf' : Nat → Int32) (md' : Nat → Nat → Int32) (QO' : Nat → Option Nat) (QF' : Nat → Nat → Int32) (QA' : Nat → Nat → Nat → Int32), (ps = [wd_Mo cs mo mr (fun _ => none) mf' md' (gMo PG hq), fm 13 (fPr cs hq qr QO' QF' QA'), fm 8 (fPg cs PG)]) ∧ (PrX PG RR QO' QF' QA' p0.toNatClampNeg) ∧ (KpM QO QF QA QO' QF' QA' p0.toNatClampNeg p3.toInt p4.toInt) ∧ ((mf' 0).toInt = (mf 0).toInt) ∧ ((mf' 2).toInt = (mf 2).toInt) ∧ ((mf' 3).toInt = (mf 3).toInt) ∧ ((mf' 7).toInt = (mf 7).toInt) ∧ ((mf' 8).toInt = (mf 8).toInt) ∧ ((mf' 9).toInt = (mf 9).toInt) ∧ ((mf' 10).toInt = (mf 10).toInt) ∧ (Md1 md md')) (pc_B D (va_A ([wd_Mo cs mo mr (fun _ => none) mf md (gMo PG hq), fm 13 (fPr cs hq qr QO QF QA), fm 8 (fPg cs PG)] : List va_W).flatten s.heap.size)) (va_A ([wd_Mo cs mo mr (fun _ => none) mf md (gMo PG hq), fm 13 (fPr cs hq qr QO QF QA), fm 8 (fPg cs PG)] : List va_W).flatten s.heap.size)) [.ref mo, .int p0, .int p1, .int p2, .int p3, .int p4].toArray s 0 0 A) (F0 m 24 ls []) := by
    intro  n_24
    induction n_24 with
    | zero =>
      intro mf_24 md_24 QO_24 QF_24 QA_24 x24_7 H locs ls k24_0 k24_1 k24_2 k24_3 k24_4 k24_5 k24_6 k24_7 k24_8 k24_9 k24_10 k24_11 k24_12 k24_13 k24_14 hm hw hl
      have lx24_7 := Int32.le_toInt x24_7
      have ux24_7 := Int32.toInt_lt x24_7
      have hpx := k24_0
      have hkm := k24_1
      have hmdq := k24_9
      exact absurd hm (by omega)
    | succ n_24 ih24 =>
      intro mf_24 md_24 QO_24 QF_24 QA_24 x24_7 H locs ls k24_0 k24_1 k24_2 k24_3 k24_4 k24_5 k24_6 k24_7 k24_8 k24_9 k24_10 k24_11 k24_12 k24_13 k24_14 hm hw hl
      have lx24_7 := Int32.le_toInt x24_7
      have ux24_7 := Int32.toInt_lt x24_7
      have hpx := k24_0
      have hkm := k24_1
      have hmdq := k24_9
      refine lv_iload S.x S.b d_Mo_moveArray_24 (lv_at hl 7 rfl) ?_
      refine lv_iload S.x S.b d_Mo_moveArray_26 (lv_at hl 5 rfl) ?_
      refine lv_icmp_ge (tgt := 91) S.x S.b d_Mo_moveArray_28 (by decide) (fun c1 => ?_) (fun c1 => ?_)
      · have nc1 : p4.toInt ≤ x24_7.toInt := (i_le (x := p4) (y := x24_7)).mp c1
        exact px_vret S hr hlk hAe hw (Nat.le_of_ble_eq_true rfl) (Nat.le_of_ble_eq_true rfl) (⟨mf_24, md_24, QO_24, QF_24, QA_24, rfl, (show PrX PG RR QO_24 QF_24 QA_24 p0.toNatClampNeg from hpx), (show KpM QO QF QA QO_24 QF_24 QA_24 p0.toNatClampNeg p3.toInt p4.toInt from hkm), (show (mf_24 0).toInt = (mf 0).toInt from by first | exact k24_2 | omega), (show (mf_24 2).toInt = (mf 2).toInt from by first | exact k24_3 | omega), (show (mf_24 3).toInt = (mf 3).toInt from by first | exact k24_4 | omega), (show (mf_24 7).toInt = (mf 7).toInt from by first | exact k24_5 | omega), (show (mf_24 8).toInt = (mf 8).toInt from by first | exact k24_6 | omega), (show (mf_24 9).toInt = (mf 9).toInt from by first | exact k24_7 | omega), (show (mf_24 10).toInt = (mf 10).toInt from by first | exact k24_8 | omega), (show Md1 md md_24 from hmdq)⟩) d_Mo_moveArray_91
      · have nc1 : ¬ p4.toInt ≤ x24_7.toInt := mt (i_le (x := p4) (y := x24_7)).mpr c1
        refine lv_iload S.x S.b d_Mo_moveArray_31 (lv_at hl 7 rfl) ?_
        refine lv_bipush (v := 16) S.x S.b d_Mo_moveArray_33 (by decide) ?_
        refine lv_icmp_ge (tgt := 91) S.x S.b d_Mo_moveArray_35 (by decide) (fun c3 => ?_) (fun c3 => ?_)
        · have nc3 : (16 : Int) ≤ x24_7.toInt := (i_le (x := 16) (y := x24_7)).mp c3
          exact px_vret S hr hlk hAe hw (Nat.le_of_ble_eq_true rfl) (Nat.le_of_ble_eq_true rfl) (⟨mf_24, md_24, QO_24, QF_24, QA_24, rfl, (show PrX PG RR QO_24 QF_24 QA_24 p0.toNatClampNeg from hpx), (show KpM QO QF QA QO_24 QF_24 QA_24 p0.toNatClampNeg p3.toInt p4.toInt from hkm), (show (mf_24 0).toInt = (mf 0).toInt from by first | exact k24_2 | omega), (show (mf_24 2).toInt = (mf 2).toInt from by first | exact k24_3 | omega), (show (mf_24 3).toInt = (mf 3).toInt from by first | exact k24_4 | omega), (show (mf_24 7).toInt = (mf 7).toInt from by first | exact k24_5 | omega), (show (mf_24 8).toInt = (mf 8).toInt from by first | exact k24_6 | omega), (show (mf_24 9).toInt = (mf 9).toInt from by first | exact k24_7 | omega), (show (mf_24 10).toInt = (mf 10).toInt from by first | exact k24_8 | omega), (show Md1 md md_24 from hmdq)⟩) d_Mo_moveArray_91
        · have nc3 : ¬ (16 : Int) ≤ x24_7.toInt := mt (i_le (x := 16) (y := x24_7)).mpr c3
          refine lv_iload_n S.x S.b d_Mo_moveArray_38 rfl (lv_at hl 2 rfl) ?_
          refine lv_if_eq (tgt := 65) S.x S.b d_Mo_moveArray_39 (by decide) (fun c5 => ?_) (fun c5 => ?_)
          · have nc5 : p1.toInt = (0 : Int) := (i_eq (x := p1) (y := 0)).mp c5
            refine lv_aload_n S.x S.b d_Mo_moveArray_65 rfl (lv_at hl 0 rfl) ?_
            have hmi := hmv (p3.toInt + x24_7.toInt) (by omega) (by omega)
            refine px_get S k_Mo hT hw 0 0 6 (v := .ref (mr 6)) rfl rfl rfl (by decide) m11_84 d_Mo_moveArray_66 ?_
            refine lv_bipush (v := 16) S.x S.b d_Mo_moveArray_69 (by decide) ?_
            refine lv_iload_n S.x S.b d_Mo_moveArray_71 rfl (lv_at hl 3 rfl) ?_
            refine lv_imul S.x S.b d_Mo_moveArray_72 ?_
            refine lv_topi (fun z7 ez7 => ?_)
            have lz7 := Int32.le_toInt z7
            have uz7 := Int32.toInt_lt z7
            have tz7 : -2147483648 ≤ 16 * p2.toInt → 16 * p2.toInt < 2147483648 → z7.toInt = 16 * p2.toInt := by rw [ez7]; exact i_mulc 16 p2 (by decide)
            try replace tz7 : z7.toInt = 16 * p2.toInt := by omega
            refine lv_iload S.x S.b d_Mo_moveArray_73 (lv_at hl 7 rfl) ?_
            refine lv_iadd S.x S.b d_Mo_moveArray_75 ?_
            refine lv_topi (fun z8 ez8 => ?_)
            have tz8 : z8.toInt = (z7.toInt + x24_7.toInt + 2147483648) % 4294967296 - 2147483648 := by rw [ez8]; exact i_add z7 x24_7
            have lz8 := Int32.le_toInt z8
            have uz8 := Int32.toInt_lt z8
            try replace tz8 : z8.toInt = z7.toInt + x24_7.toInt := by omega
            refine lv_aload S.x S.b d_Mo_moveArray_76 (lv_at hl 6 rfl) ?_
            refine lv_iload S.x S.b d_Mo_moveArray_78 (lv_at hl 4 rfl) ?_
            refine lv_iload S.x S.b d_Mo_moveArray_80 (lv_at hl 7 rfl) ?_
            refine lv_iadd S.x S.b d_Mo_moveArray_82 ?_
            refine lv_topi (fun z9 ez9 => ?_)
            have tz9 : z9.toInt = (p3.toInt + x24_7.toInt + 2147483648) % 4294967296 - 2147483648 := by rw [ez9]; exact i_add p3 x24_7
            have lz9 := Int32.le_toInt z9
            have uz9 := Int32.toInt_lt z9
            try replace tz9 : z9.toInt = p3.toInt + x24_7.toInt := by omega
            have hw : pw D A s.heap _ _ [wd_Mo cs mo mr (fun _ => none) mf_24 md_24 (gMo PG hq), fm 8 (fPg cs PG), fm 13 (fPr cs hq qr QO_24 QF_24 QA_24)] := hw.sub [0, 2, 1] rfl rfl
            have hc10 := cl_nat (x := p0) (by first | exact g0 | omega)
            have hi10 : p0.toNatClampNeg < 13 := by first | exact oz_a63a387477 hc10 k24_12 | omega
            have hw : pw D A s.heap _ _ [wd_Mo cs mo mr (fun _ => none) mf_24 md_24 (gMo PG hq), fm 8 (fPg cs PG), fo 13 (fPr cs hq qr QO_24 QF_24 QA_24) p0.toNatClampNeg, wd_Mpr cs (hq p0.toNatClampNeg) (qr p0.toNatClampNeg) (fun _ => QO_24 p0.toNatClampNeg) (QF_24 p0.toNatClampNeg) (QA_24 p0.toNatClampNeg) (fun _ _ => none)] := fm_out (pr := [wd_Mo cs mo mr (fun _ => none) mf_24 md_24 (gMo PG hq), fm 8 (fPg cs PG)]) (T := fPr cs hq qr QO_24 QF_24 QA_24) hw hi10
            have hpb10 := hpx.2.2
            unfold PsB at hpb10
            refine px_iald S hT hw 3 1 (n := 37000) (f := ((QA_24 p0.toNatClampNeg) 8)) rfl (ga_Mpr_8 _ _ _ _ _ _ _) (x := z9) (vp_in_iff.mpr (by constructor <;> omega)) d_Mo_moveArray_83 ?_
            refine lv_topi (fun z11 ez11 => ?_)
            have lz11 := Int32.le_toInt z11
            have uz11 := Int32.toInt_lt z11
            refine px_iast S hT hw 0 4 (n := 128) (f := (md_24 6)) (x := z8) (y := z11) rfl (ga_Mo_6 _ _ _ _ _ _ _) (vp_in_iff.mpr (by constructor <;> omega)) d_Mo_moveArray_84 (w' := wd_Mo cs mo mr (fun _ => none) mf_24 (va_up md_24 6 (upd (md_24 6) z8.toNatClampNeg z11)) (gMo PG hq)) (ps' := [wd_Mo cs mo mr (fun _ => none) mf_24 (va_up md_24 6 (upd (md_24 6) z8.toNatClampNeg z11)) (gMo PG hq), fm 8 (fPg cs PG), fo 13 (fPr cs hq qr QO_24 QF_24 QA_24) p0.toNatClampNeg, wd_Mpr cs (hq p0.toNatClampNeg) (qr p0.toNatClampNeg) (fun _ => QO_24 p0.toNatClampNeg) (QF_24 p0.toNatClampNeg) (QA_24 p0.toNatClampNeg) (fun _ _ => none)]) (sa_Mo_6 _ _ _ _ _ _ _ _) rfl (fun H locs hw => ?_)
            obtain ⟨z12, ez12⟩ : ∃ y : Int32, y = x24_7 + 1 := ⟨_, rfl⟩
            have tz12 : z12.toInt = (x24_7.toInt + 1 + 2147483648) % 4294967296 - 2147483648 := by rw [ez12]; exact i_add x24_7 1
            have lz12 := Int32.le_toInt z12
            have uz12 := Int32.toInt_lt z12
            try replace tz12 : z12.toInt = x24_7.toInt + 1 := by omega
            refine lv_iinc (v := z12) (lv' := [(7, .int z12), (0, .ref mo), (1, .int p0), (2, .int p1), (3, .int p2), (4, .int p3), (5, .int p4), (6, .ref ((qr p0.toNatClampNeg) 8))]) S.x S.b d_Mo_moveArray_85 hl (k := 7) rfl (by rw [ez12]; rfl) (by decide) rfl (fun ls hl => ?_)
            refine lv_goto (tgt := 24) S.x S.b d_Mo_moveArray_88 (by decide) ?_
            have hw : pw D A s.heap _ _ [wd_Mo cs mo mr (fun _ => none) mf_24 (va_up md_24 6 (upd (md_24 6) z8.toNatClampNeg z11)) (gMo PG hq), fm 8 (fPg cs PG), fm 13 (fPr cs hq qr QO_24 QF_24 QA_24)] := fm_back (pr := [wd_Mo cs mo mr (fun _ => none) mf_24 (va_up md_24 6 (upd (md_24 6) z8.toNatClampNeg z11)) (gMo PG hq), fm 8 (fPg cs PG)]) (T := fPr cs hq qr QO_24 QF_24 QA_24) hw hi10
            have hw : pw D A s.heap _ _ [wd_Mo cs mo mr (fun _ => none) mf_24 (va_up md_24 6 (upd (md_24 6) z8.toNatClampNeg z11)) (gMo PG hq), fm 13 (fPr cs hq qr QO_24 QF_24 QA_24), fm 8 (fPg cs PG)] := hw.sub [0, 2, 1] rfl rfl
            exact ih24 mf_24 (va_up md_24 6 (upd (md_24 6) z8.toNatClampNeg z11)) QO_24 QF_24 QA_24 z12 _ _ ls (show PrX PG RR QO_24 QF_24 QA_24 p0.toNatClampNeg from hpx) (show KpM QO QF QA QO_24 QF_24 QA_24 p0.toNatClampNeg p3.toInt p4.toInt from hkm) (show (mf_24 0).toInt = (mf 0).toInt from by first | exact k24_2 | omega) (show (mf_24 2).toInt = (mf 2).toInt from by first | exact k24_3 | omega) (show (mf_24 3).toInt = (mf 3).toInt from by first | exact k24_4 | omega) (show (mf_24 7).toInt = (mf 7).toInt from by first | exact k24_5 | omega) (show (mf_24 8).toInt = (mf 8).toInt from by first | exact k24_6 | omega) (show (mf_24 9).toInt = (mf 9).toInt from by first | exact k24_7 | omega) (show (mf_24 10).toInt = (mf 10).toInt from by first | exact k24_8 | omega) (show Md1 md (va_up md_24 6 (upd (md_24 6) z8.toNatClampNeg z11)) from hmdq) (show 0 ≤ z12.toInt from by first | exact oz_ae613611c0 tz12 k24_10 | omega) (show z12.toInt ≤ 16 from by first | exact oz_46c819e4be tz12 nc3 | omega) (show p0.toInt = 0 from by first | exact k24_12 | omega) (show 0 ≤ p2.toInt from by first | exact k24_13 | omega) (show p2.toInt < 8 from by first | exact k24_14 | omega) (show 17 - z12.toInt < (n_24 : Int) from by first | exact oz_a8aa29b387 hm tz12 | omega) hw (lv_sub hl [1, 2, 3, 4, 5, 6, 7, 0] rfl)
          · have nc5 : ¬ p1.toInt = (0 : Int) := mt (i_eq (x := p1) (y := 0)).mpr c5
            refine lv_aload S.x S.b d_Mo_moveArray_42 (lv_at hl 6 rfl) ?_
            have hmi := hmv (p3.toInt + x24_7.toInt) (by omega) (by omega)
            refine lv_iload S.x S.b d_Mo_moveArray_44 (lv_at hl 4 rfl) ?_
            refine lv_iload S.x S.b d_Mo_moveArray_46 (lv_at hl 7 rfl) ?_
            refine lv_iadd S.x S.b d_Mo_moveArray_48 ?_
            refine lv_topi (fun z13 ez13 => ?_)
            have tz13 : z13.toInt = (p3.toInt + x24_7.toInt + 2147483648) % 4294967296 - 2147483648 := by rw [ez13]; exact i_add p3 x24_7
            have lz13 := Int32.le_toInt z13
            have uz13 := Int32.toInt_lt z13
            try replace tz13 : z13.toInt = p3.toInt + x24_7.toInt := by omega
            refine lv_aload_n S.x S.b d_Mo_moveArray_49 rfl (lv_at hl 0 rfl) ?_
            refine px_get S k_Mo hT hw 0 0 6 (v := .ref (mr 6)) rfl rfl rfl (by decide) m11_84 d_Mo_moveArray_50 ?_
            refine lv_bipush (v := 16) S.x S.b d_Mo_moveArray_53 (by decide) ?_
            refine lv_iload_n S.x S.b d_Mo_moveArray_55 rfl (lv_at hl 3 rfl) ?_
            refine lv_imul S.x S.b d_Mo_moveArray_56 ?_
            refine lv_topi (fun z14 ez14 => ?_)
            have lz14 := Int32.le_toInt z14
            have uz14 := Int32.toInt_lt z14
            have tz14 : -2147483648 ≤ 16 * p2.toInt → 16 * p2.toInt < 2147483648 → z14.toInt = 16 * p2.toInt := by rw [ez14]; exact i_mulc 16 p2 (by decide)
            try replace tz14 : z14.toInt = 16 * p2.toInt := by omega
            refine lv_iload S.x S.b d_Mo_moveArray_57 (lv_at hl 7 rfl) ?_
            refine lv_iadd S.x S.b d_Mo_moveArray_59 ?_
            refine lv_topi (fun z15 ez15 => ?_)
            have tz15 : z15.toInt = (z14.toInt + x24_7.toInt + 2147483648) % 4294967296 - 2147483648 := by rw [ez15]; exact i_add z14 x24_7
            have lz15 := Int32.le_toInt z15
            have uz15 := Int32.toInt_lt z15
            try replace tz15 : z15.toInt = z14.toInt + x24_7.toInt := by omega
            refine px_iald S hT hw 0 4 (n := 128) (f := (md_24 6)) rfl (ga_Mo_6 _ _ _ _ _ _ _) (x := z15) (vp_in_iff.mpr (by first | exact oz_e3db8cb593 tz15 k24_10 tz14 k24_13 nc3 k24_14 | (constructor <;> omega))) d_Mo_moveArray_60 ?_
            refine lv_topi (fun z16 ez16 => ?_)
            have lz16 := Int32.le_toInt z16
            have uz16 := Int32.toInt_lt z16
            have hw : pw D A s.heap _ _ [wd_Mo cs mo mr (fun _ => none) mf_24 md_24 (gMo PG hq), fm 8 (fPg cs PG), fm 13 (fPr cs hq qr QO_24 QF_24 QA_24)] := hw.sub [0, 2, 1] rfl rfl
            have hc17 := cl_nat (x := p0) (by first | exact g0 | omega)
            have hi17 : p0.toNatClampNeg < 13 := by first | exact oz_a63a387477 hc17 k24_12 | omega
            have hw : pw D A s.heap _ _ [wd_Mo cs mo mr (fun _ => none) mf_24 md_24 (gMo PG hq), fm 8 (fPg cs PG), fo 13 (fPr cs hq qr QO_24 QF_24 QA_24) p0.toNatClampNeg, wd_Mpr cs (hq p0.toNatClampNeg) (qr p0.toNatClampNeg) (fun _ => QO_24 p0.toNatClampNeg) (QF_24 p0.toNatClampNeg) (QA_24 p0.toNatClampNeg) (fun _ _ => none)] := fm_out (pr := [wd_Mo cs mo mr (fun _ => none) mf_24 md_24 (gMo PG hq), fm 8 (fPg cs PG)]) (T := fPr cs hq qr QO_24 QF_24 QA_24) hw hi17
            have hpb17 := hpx.2.2
            unfold PsB at hpb17
            refine px_iast S hT hw 3 1 (n := 37000) (f := ((QA_24 p0.toNatClampNeg) 8)) (x := z13) (y := z16) rfl (ga_Mpr_8 _ _ _ _ _ _ _) (vp_in_iff.mpr (by constructor <;> omega)) d_Mo_moveArray_61 (w' := wd_Mpr cs (hq p0.toNatClampNeg) (qr p0.toNatClampNeg) (fun _ => QO_24 p0.toNatClampNeg) (QF_24 p0.toNatClampNeg) (va_up (QA_24 p0.toNatClampNeg) 8 (upd ((QA_24 p0.toNatClampNeg) 8) z13.toNatClampNeg z16)) (fun _ _ => none)) (ps' := [wd_Mo cs mo mr (fun _ => none) mf_24 md_24 (gMo PG hq), fm 8 (fPg cs PG), fo 13 (fPr cs hq qr QO_24 QF_24 QA_24) p0.toNatClampNeg, wd_Mpr cs (hq p0.toNatClampNeg) (qr p0.toNatClampNeg) (fun _ => QO_24 p0.toNatClampNeg) (QF_24 p0.toNatClampNeg) (va_up (QA_24 p0.toNatClampNeg) 8 (upd ((QA_24 p0.toNatClampNeg) 8) z13.toNatClampNeg z16)) (fun _ _ => none)]) (sa_Mpr_8 _ _ _ _ _ _ _ _) rfl (fun H locs hw => ?_)
            refine lv_goto (tgt := 85) S.x S.b d_Mo_moveArray_62 (by decide) ?_
            obtain ⟨z18, ez18⟩ : ∃ y : Int32, y = x24_7 + 1 := ⟨_, rfl⟩
            have tz18 : z18.toInt = (x24_7.toInt + 1 + 2147483648) % 4294967296 - 2147483648 := by rw [ez18]; exact i_add x24_7 1
            have lz18 := Int32.le_toInt z18
            have uz18 := Int32.toInt_lt z18
            try replace tz18 : z18.toInt = x24_7.toInt + 1 := by omega
            refine lv_iinc (v := z18) (lv' := [(7, .int z18), (0, .ref mo), (1, .int p0), (2, .int p1), (3, .int p2), (4, .int p3), (5, .int p4), (6, .ref ((qr p0.toNatClampNeg) 8))]) S.x S.b d_Mo_moveArray_85 hl (k := 7) rfl (by rw [ez18]; rfl) (by decide) rfl (fun ls hl => ?_)
            refine lv_goto (tgt := 24) S.x S.b d_Mo_moveArray_88 (by decide) ?_
            have hw := fpr_in (pr := [wd_Mo cs mo mr (fun _ => none) mf_24 md_24 (gMo PG hq), fm 8 (fPg cs PG)]) hw hi17
            obtain ⟨QO19, hu_QO19⟩ : ∃ y : Nat → Option Nat, y = va_up QO_24 p0.toNatClampNeg ((fun _ => QO_24 p0.toNatClampNeg) 0) := ⟨_, rfl⟩
            obtain ⟨QF20, hu_QF20⟩ : ∃ y : Nat → Nat → Int32, y = va_up QF_24 p0.toNatClampNeg (QF_24 p0.toNatClampNeg) := ⟨_, rfl⟩
            obtain ⟨QA21, hu_QA21⟩ : ∃ y : Nat → Nat → Nat → Int32, y = va_up QA_24 p0.toNatClampNeg (va_up (QA_24 p0.toNatClampNeg) 8 (upd ((QA_24 p0.toNatClampNeg) 8) z13.toNatClampNeg z16)) := ⟨_, rfl⟩
            have hw : pw D A s.heap _ _ [wd_Mo cs mo mr (fun _ => none) mf_24 md_24 (gMo PG hq), fm 8 (fPg cs PG), fm 13 (fPr cs hq qr QO19 QF20 QA21)] := (by rw [hu_QO19, hu_QF20, hu_QA21]; exact hw)
            have hpx : PrX PG RR QO19 QF20 QA21 p0.toNatClampNeg := (by rw [hu_QO19, hu_QF20, hu_QA21]; exact PrX.up hpx (show (0 ≤ ((QF_24 p0.toNatClampNeg) 1).toInt ∧ ((QF_24 p0.toNatClampNeg) 1).toInt ≤ 1) ∧ (0 ≤ ((QF_24 p0.toNatClampNeg) 21).toInt ∧ ((QF_24 p0.toNatClampNeg) 21).toInt ≤ 4) ∧ (0 ≤ ((QF_24 p0.toNatClampNeg) 23).toInt ∧ ((QF_24 p0.toNatClampNeg) 23).toInt ≤ 4) ∧ (0 ≤ ((QF_24 p0.toNatClampNeg) 24).toInt ∧ ((QF_24 p0.toNatClampNeg) 24).toInt ≤ 1000000) ∧ (0 ≤ ((QF_24 p0.toNatClampNeg) 6).toInt ∧ ((QF_24 p0.toNatClampNeg) 6).toInt ≤ 3) ∧ (0 ≤ ((QF_24 p0.toNatClampNeg) 7).toInt ∧ ((QF_24 p0.toNatClampNeg) 7).toInt ≤ 1) from by omega) rfl (Int.le_refl _))
            have hkm : KpM QO QF QA QO19 QF20 QA21 p0.toNatClampNeg p3.toInt p4.toInt := (by rw [hu_QO19, hu_QF20, hu_QA21]; exact hkm.w (j := z13) (by omega) (by omega) (by omega))
            have hw : pw D A s.heap _ _ [wd_Mo cs mo mr (fun _ => none) mf_24 md_24 (gMo PG hq), fm 13 (fPr cs hq qr QO19 QF20 QA21), fm 8 (fPg cs PG)] := hw.sub [0, 2, 1] rfl rfl
            exact ih24 mf_24 md_24 QO19 QF20 QA21 z18 _ _ ls (show PrX PG RR QO19 QF20 QA21 p0.toNatClampNeg from hpx) (show KpM QO QF QA QO19 QF20 QA21 p0.toNatClampNeg p3.toInt p4.toInt from hkm) (show (mf_24 0).toInt = (mf 0).toInt from by first | exact k24_2 | omega) (show (mf_24 2).toInt = (mf 2).toInt from by first | exact k24_3 | omega) (show (mf_24 3).toInt = (mf 3).toInt from by first | exact k24_4 | omega) (show (mf_24 7).toInt = (mf 7).toInt from by first | exact k24_5 | omega) (show (mf_24 8).toInt = (mf 8).toInt from by first | exact k24_6 | omega) (show (mf_24 9).toInt = (mf 9).toInt from by first | exact k24_7 | omega) (show (mf_24 10).toInt = (mf 10).toInt from by first | exact k24_8 | omega) (show Md1 md md_24 from hmdq) (show 0 ≤ z18.toInt from by first | exact oz_ae613611c0 tz18 k24_10 | omega) (show z18.toInt ≤ 16 from by first | exact oz_46c819e4be tz18 nc3 | omega) (show p0.toInt = 0 from by first | exact k24_12 | omega) (show 0 ≤ p2.toInt from by first | exact k24_13 | omega) (show p2.toInt < 8 from by first | exact k24_14 | omega) (show 17 - z18.toInt < (n_24 : Int) from by first | exact oz_a8aa29b387 hm tz18 | omega) hw (lv_sub hl [1, 2, 3, 4, 5, 6, 7, 0] rfl)
  refine lv_aload_n S.x S.b d_Mo_moveArray_0 rfl (lv_at hl 0 rfl) ?_
  refine lv_iload_n S.x S.b d_Mo_moveArray_1 rfl (lv_at hl 1 rfl) ?_
  refine lv_iload_n S.x S.b d_Mo_moveArray_2 rfl (lv_at hl 3 rfl) ?_
  refine px_calli (pr := []) (px_runV (As := [.int p0, .int p2]) (rest := []) S (c_mo_isBlock l D cs RR mo mr mf md hq qr QO QF QA PG p0 p2  (show 0 ≤ p0.toInt from by first | exact g0 | omega) (show p0.toInt < 13 from by first | exact g1 | omega) hpr hpg _) hT (pr := []) (pcs := [wd_Mo cs mo mr (fun _ => none) mf md (gMo PG hq), fm 13 (fPr cs hq qr QO QF QA), fm 8 (fPg cs PG)]) hw px_X.tt (px_recv hT hw 0 0 rfl rfl rfl) m14_94 m14_91 m14_93 ms_16_8 m1_20 q_Mo_isBlock ⟨Nat.le_of_ble_eq_true rfl, Nat.le_of_ble_eq_true rfl⟩ hl.1 rfl (Nat.le_of_ble_eq_true rfl) d_Mo_moveArray_3 ⟨Nat.le_of_ble_eq_true rfl, Nat.le_of_ble_eq_true rfl⟩) hw hA (fun v29 p28 H locs hp28 hw => ?_)
  obtain ⟨QO25, QF26, QA27, rfl, e30, e31, e32, e33, e34⟩ := hp28
  have e30 : PrA PG RR QO25 QF26 QA27 := e30
  have hpr := e30
  have e31 : KpP QO QF QA QO25 QF26 QA27 p0.toNatClampNeg := e31
  have hkp := hkp.tr e31
  have e32 : 0 ≤ v29.toInt := e32
  have e33 : v29.toInt ≤ 1 := e33
  have e34 : v29.toInt = 1 → p0.toInt = 0 ∧ 0 ≤ p2.toInt ∧ p2.toInt < 8 := e34
  have hw : pw D A s.heap H locs [wd_Mo cs mo mr (fun _ => none) mf md (gMo PG hq), fm 13 (fPr cs hq qr QO25 QF26 QA27), fm 8 (fPg cs PG)] := hw
  have lv29 := Int32.le_toInt v29
  have uv29 := Int32.toInt_lt v29
  refine lv_if_ne (tgt := 10) S.x S.b d_Mo_moveArray_6 (by decide) (fun c35 => ?_) (fun c35 => ?_)
  · have nc35 : ¬ v29.toInt = (0 : Int) := mt (i_eq (x := v29) (y := 0)).mpr c35
    refine lv_aload_n S.x S.b d_Mo_moveArray_10 rfl (lv_at hl 0 rfl) ?_
    refine px_get S k_Mo hT hw 0 0 5 (v := .ref (mr 5)) rfl rfl rfl (by decide) m11_83 d_Mo_moveArray_11 ?_
    refine lv_iload_n S.x S.b d_Mo_moveArray_14 rfl (lv_at hl 1 rfl) ?_
    refine px_aaldS S hT hw 0 3 10 (n := 13) (f := ((gMo PG hq) 5)) rfl rfl rfl (x := p0) (vp_in_iff.mpr (by first | exact oz_59feca6c45 g0 g1 | (constructor <;> omega))) (sk := (hq p0.toNatClampNeg)) rfl d_Mo_moveArray_15 ?_
    have hw : pw D A s.heap _ _ [wd_Mo cs mo mr (fun _ => none) mf md (gMo PG hq), fm 8 (fPg cs PG), fm 13 (fPr cs hq qr QO25 QF26 QA27)] := hw.sub [0, 2, 1] rfl rfl
    have hc37 := cl_nat (x := p0) (by first | exact g0 | omega)
    have hi37 : p0.toNatClampNeg < 13 := by first | exact oz_9995642664 hc37 g1 | omega
    have hw : pw D A s.heap _ _ [wd_Mo cs mo mr (fun _ => none) mf md (gMo PG hq), fm 8 (fPg cs PG), fo 13 (fPr cs hq qr QO25 QF26 QA27) p0.toNatClampNeg, wd_Mpr cs (hq p0.toNatClampNeg) (qr p0.toNatClampNeg) (fun _ => QO25 p0.toNatClampNeg) (QF26 p0.toNatClampNeg) (QA27 p0.toNatClampNeg) (fun _ _ => none)] := fm_out (pr := [wd_Mo cs mo mr (fun _ => none) mf md (gMo PG hq), fm 8 (fPg cs PG)]) (T := fPr cs hq qr QO25 QF26 QA27) hw hi37
    have hps37 := hpr.1 p0.toNatClampNeg hi37
    have hpb37 := hps37.1
    unfold PsB at hpb37
    refine px_get S k_Mpr hT hw 3 0 8 (v := .ref ((qr p0.toNatClampNeg) 8)) rfl rfl rfl (by decide) m10_237 d_Mo_moveArray_16 ?_
    refine lv_astore (lv' := [(6, .ref ((qr p0.toNatClampNeg) 8)), (0, .ref mo), (1, .int p0), (2, .int p1), (3, .int p2), (4, .int p3), (5, .int p4)]) S.x S.b d_Mo_moveArray_19 hl (by decide) rfl (fun ls hl => ?_)
    refine lv_iconst (v := 0) S.x S.b d_Mo_moveArray_21 (by decide) ?_
    refine lv_istore (lv' := [(7, .int 0), (6, .ref ((qr p0.toNatClampNeg) 8)), (0, .ref mo), (1, .int p0), (2, .int p1), (3, .int p2), (4, .int p3), (5, .int p4)]) S.x S.b d_Mo_moveArray_22 hl (by decide) rfl (fun ls hl => ?_)
    have hw : pw D A s.heap _ _ [wd_Mo cs mo mr (fun _ => none) mf md (gMo PG hq), fm 8 (fPg cs PG), fm 13 (fPr cs hq qr QO25 QF26 QA27)] := fm_back (pr := [wd_Mo cs mo mr (fun _ => none) mf md (gMo PG hq), fm 8 (fPg cs PG)]) (T := fPr cs hq qr QO25 QF26 QA27) hw hi37
    have hw : pw D A s.heap _ _ [wd_Mo cs mo mr (fun _ => none) mf md (gMo PG hq), fm 13 (fPr cs hq qr QO25 QF26 QA27), fm 8 (fPg cs PG)] := hw.sub [0, 2, 1] rfl rfl
    exact J24 ((17 - (0 : Int)).toNat + 1) mf md QO25 QF26 QA27 (0 : Int32) _ _ ls (show PrX PG RR QO25 QF26 QA27 p0.toNatClampNeg from (hpr.px (by have q9 := cl_nat (x := p0) (by first | exact g0 | omega); omega))) (show KpM QO QF QA QO25 QF26 QA27 p0.toNatClampNeg p3.toInt p4.toInt from (KpM.of hkp)) (show (mf 0).toInt = (mf 0).toInt from rfl) (show (mf 2).toInt = (mf 2).toInt from rfl) (show (mf 3).toInt = (mf 3).toInt from rfl) (show (mf 7).toInt = (mf 7).toInt from rfl) (show (mf 8).toInt = (mf 8).toInt from rfl) (show (mf 9).toInt = (mf 9).toInt from rfl) (show (mf 10).toInt = (mf 10).toInt from rfl) (show Md1 md md from hmdq) (show 0 ≤ (0 : Int) from by first | exact oz_5a341f00aa | omega) (show (0 : Int) ≤ 16 from by first | exact oz_43520e740e | omega) (show p0.toInt = 0 from by omega) (show 0 ≤ p2.toInt from by omega) (show p2.toInt < 8 from by omega) (show 17 - (0 : Int) < ((((17 - (0 : Int)).toNat + 1 : Nat) : Int) : Int) from by first | exact oz_natlt | omega) hw (lv_sub hl [2, 3, 4, 5, 6, 7, 1, 0] rfl)
  · have nc35 : v29.toInt = (0 : Int) := (i_eq (x := v29) (y := 0)).mp c35
    exact px_vret S hr hlk hAe hw (Nat.le_of_ble_eq_true rfl) (Nat.le_of_ble_eq_true rfl) (⟨mf, md, QO25, QF26, QA27, rfl, (show PrX PG RR QO25 QF26 QA27 p0.toNatClampNeg from (hpr.px (by have q9 := cl_nat (x := p0) (by first | exact g0 | omega); omega))), (show KpM QO QF QA QO25 QF26 QA27 p0.toNatClampNeg p3.toInt p4.toInt from (KpM.of hkp)), (show (mf 0).toInt = (mf 0).toInt from rfl), (show (mf 2).toInt = (mf 2).toInt from rfl), (show (mf 3).toInt = (mf 3).toInt from rfl), (show (mf 7).toInt = (mf 7).toInt from rfl), (show (mf 8).toInt = (mf 8).toInt from rfl), (show (mf 9).toInt = (mf 9).toInt from rfl), (show (mf 10).toInt = (mf 10).toInt from rfl), (show Md1 md md from hmdq)⟩) d_Mo_moveArray_9
