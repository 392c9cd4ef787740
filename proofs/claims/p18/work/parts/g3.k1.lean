theorem oz_03ccb9bf57 {a0 : Int} (h0 : 0 ≤ a0) (h1 : a0 ≤ 12) : 0 ≤ a0 ∧ a0 < ((13 : Nat) : Int) := by omega
theorem oz_52b7a52644 {a1 : Int} {n0 : Nat} (h0 : (n0 : Int) = a1) (h1 : a1 ≤ 12) : n0 < 13 := by omega
theorem oz_4bc36f64a0 {a0 a1 a2 a3 : Int} {n4 : Nat} (h0 : a0 = a1 + a2) (h1 : ¬ a2 < (1 : Int)) (h2 : a1 = 3 * a3) (h3 : a3 = (n4 : Int)) : -1 ≤ a0 := by omega
theorem oz_86e49526c7 {n0 n1 n2 : Nat}  : 0 ≤ (5 * n0 + 4 * n1 + n2) := by omega
theorem oz_fc3b58e969 {n0 n1 n2 : Nat}  : 0 ≤ (9804 * n0 + 342 * n1 + 36864 * n2) := by omega
theorem oz_9d19b050ad {n0 n1 n2 : Nat}  : 0 + (5 * n0 + 4 * n1 + n2) ≤ 5 * n0 + 4 * n1 + n2 := by omega
theorem oz_b5592d0ae7 {n0 n1 n2 : Nat}  : 0 + (9804 * n0 + 342 * n1 + 36864 * n2) ≤ 9804 * n0 + 342 * n1 + 36864 * n2 := by omega
theorem oz_50e7088b63 {a1 : Int} {n0 : Nat} (h0 : (n0 : Int) = a1) (h1 : a1 = -1 ∨ (0 ≤ a1 ∧ a1 ≤ 12)) : n0 < 13 := by omega
theorem m6_139 : Cond.fieldLink "HomeSystem$Kernel" 78 "HomeSystem$AnyProcess" "outcome" "I" ∈ AL := AL_6 (List.mem_of_getElem? (i := 139) rfl) rfl
theorem m6_161 : Cond.fieldLink "HomeSystem$Kernel" 111 "HomeSystem$AnyProcess" "first" "I" ∈ AL := AL_6 (List.mem_of_getElem? (i := 161) rfl) rfl
theorem m6_149 : Cond.fieldLink "HomeSystem$Kernel" 142 "HomeSystem$AnyProcess" "children" "I" ∈ AL := AL_6 (List.mem_of_getElem? (i := 149) rfl) rfl
theorem m6_133 : Cond.fieldLink "HomeSystem$Kernel" 101 "HomeSystem$AnyProcess" "id" "I" ∈ AL := AL_6 (List.mem_of_getElem? (i := 133) rfl) rfl
theorem m8_151 : Cond.methodLink "HomeSystem$Kernel" 70 ⟨"HomeSystem$Kernel", "isRunning", "(I)Z"⟩ ∈ AL := AL_8 (List.mem_of_getElem? (i := 151) rfl) rfl
theorem m8_154 : Cond.code ⟨"HomeSystem$Kernel", "isRunning", "(I)Z"⟩ prog_4_method_4_code 2 (Option.some FieldType.boolean) ∈ AL := AL_8 (List.mem_of_getElem? (i := 154) rfl) rfl
theorem m1_19 : Cond.initialized "HomeSystem$Kernel" ∈ AL := AL_1 (List.mem_of_getElem? (i := 19) rfl) rfl
theorem ms_6_1 : Cond.selects "HomeSystem$Kernel" ⟨"HomeSystem$Kernel", "isRunning", "(I)Z"⟩ ⟨"HomeSystem$Kernel", "isRunning", "(I)Z"⟩ ∈ AL := AL_p (q := (⟨"HomeSystem$Kernel", "isRunning", "(I)Z"⟩, 10)) (by unfold lw_privs; exact List.mem_append_right _ (List.mem_append_right _ (List.mem_append_right _ (List.mem_append_right _ (List.mem_append_right _ (List.mem_append_left _ (List.mem_of_getElem? (i := 1) rfl)))))))
theorem m8_153 : Cond.instanceMethod ⟨"HomeSystem$Kernel", "isRunning", "(I)Z"⟩ ∈ AL := AL_8 (List.mem_of_getElem? (i := 153) rfl) rfl
theorem m8_67 : Cond.methodLink "HomeSystem$Kernel" 117 ⟨"HomeSystem$AnyProcess", "answer", "(I)V"⟩ ∈ AL := AL_8 (List.mem_of_getElem? (i := 67) rfl) rfl
theorem m8_75 : Cond.code ⟨"HomeSystem$TextProcess", "answer", "(I)V"⟩ prog_11_method_4_code 2 (Option.none : Option Jvm.ClassFile.FieldType) ∈ AL := AL_8 (List.mem_of_getElem? (i := 75) rfl) rfl
theorem m8_69 : Cond.sameMethod "HomeSystem$AnyProcess" "HomeSystem$AnyProcess" "answer" "(I)V" ∈ AL := AL_8 (List.mem_of_getElem? (i := 69) rfl) rfl
theorem m8_74 : Cond.instanceMethod ⟨"HomeSystem$TextProcess", "answer", "(I)V"⟩ ∈ AL := AL_8 (List.mem_of_getElem? (i := 74) rfl) rfl
theorem m8_73 : Cond.selects "HomeSystem$TextProcess" ⟨"HomeSystem$AnyProcess", "answer", "(I)V"⟩ ⟨"HomeSystem$TextProcess", "answer", "(I)V"⟩ ∈ AL := AL_8 (List.mem_of_getElem? (i := 73) rfl) rfl
theorem m8_68n : Cond.declares ⟨"HomeSystem$AnyProcess", "answer", "(I)V"⟩ ∈ tables_1 := by unfold tables_1; exact List.mem_append_right _ (List.mem_append_right _ (List.mem_append_right _ (List.mem_append_right _ (List.mem_append_right _ (List.mem_append_right _ (List.mem_append_right _ (List.mem_append_left _ (List.mem_of_getElem? (i := 68) rfl))))))))
theorem m6_166 : Cond.fieldLink "HomeSystem$Kernel" 120 "HomeSystem$AnyProcess" "second" "I" ∈ AL := AL_6 (List.mem_of_getElem? (i := 166) rfl) rfl
theorem m8_84 : Cond.methodLink "HomeSystem$Kernel" 74 ⟨"HomeSystem$AnyProcess", "finish", "(II)V"⟩ ∈ AL := AL_8 (List.mem_of_getElem? (i := 84) rfl) rfl
theorem m8_86 : Cond.sameMethod "HomeSystem$AnyProcess" "HomeSystem$AnyProcess" "finish" "(II)V" ∈ AL := AL_8 (List.mem_of_getElem? (i := 86) rfl) rfl
theorem m8_88 : Cond.selects "HomeSystem$TextProcess" ⟨"HomeSystem$AnyProcess", "finish", "(II)V"⟩ ⟨"HomeSystem$AnyProcess", "finish", "(II)V"⟩ ∈ AL := AL_8 (List.mem_of_getElem? (i := 88) rfl) rfl
theorem m8_72 : Cond.code ⟨"HomeSystem$RawProcess", "answer", "(I)V"⟩ prog_8_method_4_code 2 (Option.none : Option Jvm.ClassFile.FieldType) ∈ AL := AL_8 (List.mem_of_getElem? (i := 72) rfl) rfl
theorem m8_71 : Cond.instanceMethod ⟨"HomeSystem$RawProcess", "answer", "(I)V"⟩ ∈ AL := AL_8 (List.mem_of_getElem? (i := 71) rfl) rfl
theorem m8_70 : Cond.selects "HomeSystem$RawProcess" ⟨"HomeSystem$AnyProcess", "answer", "(I)V"⟩ ⟨"HomeSystem$RawProcess", "answer", "(I)V"⟩ ∈ AL := AL_8 (List.mem_of_getElem? (i := 70) rfl) rfl
theorem m8_87 : Cond.selects "HomeSystem$RawProcess" ⟨"HomeSystem$AnyProcess", "finish", "(II)V"⟩ ⟨"HomeSystem$AnyProcess", "finish", "(II)V"⟩ ∈ AL := AL_8 (List.mem_of_getElem? (i := 87) rfl) rfl
theorem m6_158 : Cond.fieldLink "HomeSystem$Kernel" 108 "HomeSystem$AnyProcess" "which" "I" ∈ AL := AL_6 (List.mem_of_getElem? (i := 158) rfl) rfl
theorem m6_146 : Cond.fieldLink "HomeSystem$Kernel" 145 "HomeSystem$AnyProcess" "given" "I" ∈ AL := AL_6 (List.mem_of_getElem? (i := 146) rfl) rfl
abbrev b_Ker_isRunning : ByteArray := prog_4_method_4_code
def y_Ker_isRunning : MethodName := ⟨"HomeSystem$Kernel", "isRunning", "(I)Z"⟩
theorem d_Ker_isRunning_0 : decode b_Ker_isRunning 0 = .ok (.aload_n 0, 1) := by decide +kernel
theorem d_Ker_isRunning_1 : decode b_Ker_isRunning 1 = .ok (.getfield 23, 3) := by decide +kernel
theorem d_Ker_isRunning_4 : decode b_Ker_isRunning 4 = .ok (.iload_n 1, 1) := by decide +kernel
theorem d_Ker_isRunning_5 : decode b_Ker_isRunning 5 = .ok (.aaload, 1) := by decide +kernel
theorem d_Ker_isRunning_6 : decode b_Ker_isRunning 6 = .ok (.ifnull 21, 3) := by decide +kernel
theorem d_Ker_isRunning_9 : decode b_Ker_isRunning 9 = .ok (.aload_n 0, 1) := by decide +kernel
theorem d_Ker_isRunning_10 : decode b_Ker_isRunning 10 = .ok (.getfield 23, 3) := by decide +kernel
theorem d_Ker_isRunning_13 : decode b_Ker_isRunning 13 = .ok (.iload_n 1, 1) := by decide +kernel
theorem d_Ker_isRunning_14 : decode b_Ker_isRunning 14 = .ok (.aaload, 1) := by decide +kernel
theorem d_Ker_isRunning_15 : decode b_Ker_isRunning 15 = .ok (.getfield 78, 3) := by decide +kernel
theorem d_Ker_isRunning_18 : decode b_Ker_isRunning 18 = .ok (.bipush (-2), 2) := by decide +kernel
theorem d_Ker_isRunning_20 : decode b_Ker_isRunning 20 = .ok (.if_icmp .ne 7, 3) := by decide +kernel
theorem d_Ker_isRunning_23 : decode b_Ker_isRunning 23 = .ok (.iconst 1, 1) := by decide +kernel
theorem d_Ker_isRunning_24 : decode b_Ker_isRunning 24 = .ok (.goto 4, 3) := by decide +kernel
theorem d_Ker_isRunning_27 : decode b_Ker_isRunning 27 = .ok (.iconst 0, 1) := by decide +kernel
theorem d_Ker_isRunning_28 : decode b_Ker_isRunning 28 = .ok (.ireturn, 1) := by decide +kernel
theorem q_Ker_isRunning : px_y y_Ker_isRunning 1 := by unfold px_y; decide +kernel
set_option maxHeartbeats 4000000 in
set_option maxRecDepth 100000 in
theorem c_k_isRunning (l : Launch) (D : va_G) (cs : Nat → ClassId) (hk : Nat) (kr : Nat → Nat) (pq : Nat → Option Nat) (pz : Nat → Option Nat) (tq : Nat → Option Nat) (rq : Nat → Option Nat) (kf : Nat → Int32) (ka : Nat → Nat → Int32) (TR : Nat → Nat → Nat) (TO : Nat → Option Nat) (TF : Nat → Nat → Int32) (TA : Nat → Nat → Nat → Int32) (RR : Nat → Nat → Nat) (RM : Nat → Option Nat) (RW : Nat → Option Nat) (RF : Nat → Nat → Int32) (RA : Nat → Nat → Nat → Int32) (RC : Nat → Nat → Int32) (PV : Nat → Pvs) (p0 : Int32)  (g0 : 0 ≤ p0.toInt) (g1 : p0.toInt ≤ 12) (hki : KnI pq PV pz tq rq TO TF TA RW RF) : MetI l y_Ker_isRunning b_Ker_isRunning 2 (.boolean) D cs 0 0 (0) (0) [.ref hk, .int p0] [wd_Ker cs hk kr (fun _ => none) kf ka (gKe pq pz tq rq), fm 13 (fTx cs tq TR TO TF TA), fm 13 (fRw cs rq RR RM RW RF RA RC), fm 8 (fPp cs pq PV)] (fun _ => True) (fun v ps => (ps = [wd_Ker cs hk kr (fun _ => none) kf ka (gKe pq pz tq rq), fm 13 (fTx cs tq TR TO TF TA), fm 13 (fRw cs rq RR RM RW RF RA RC), fm 8 (fPp cs pq PV)]) ∧ (v = 0 ∨ v = 1) ∧ (NnP pz p0 v)) := by
  refine px_enter (by decide) (Nat.le_of_ble_eq_true rfl) ?_
  intro p e s m below meth c A ls hAe S hr hlk hnm hA hT hX hw hl
  replace hl : lv_has ls 2 [(0, .ref hk), (1, .int p0)] := hl
  have lp0 := Int32.le_toInt p0
  have up0 := Int32.toInt_lt p0
  have cstm2 : ((-2) : Int32).toInt = (-2) := rfl
  have cst0 : (0 : Int32).toInt = 0 := rfl
  have cst1 : (1 : Int32).toInt = 1 := rfl
  refine lv_aload_n S.x S.b d_Ker_isRunning_0 rfl (lv_at hl 0 rfl) ?_
  refine px_get S k_Ker hT hw 0 0 2 (v := .ref (kr 2)) rfl rfl rfl (by decide) m2_222 d_Ker_isRunning_1 ?_
  refine lv_iload_n S.x S.b d_Ker_isRunning_4 rfl (lv_at hl 1 rfl) ?_
  refine px_aald S hT hw 0 3 6 (n := 13) (f := pz) rfl rfl rfl (x := p0) (vp_in_iff.mpr (by first | exact oz_03ccb9bf57 g0 g1 | (constructor <;> omega))) d_Ker_isRunning_5 ?_
  refine lq_top (fun y1 hy1 => ?_)
  refine lq_ifnull (x := y1) (tgt := 27) S.x S.b d_Ker_isRunning_6 (by decide) (fun c2 => ?_) (fun q3 c2 => ?_)
  ·
    subst c2
    have hc4 := cl_nat (x := p0) (by first | exact g0 | omega)
    have hi4 : p0.toNatClampNeg < 13 := by first | exact oz_52b7a52644 hc4 g1 | omega
    have hr4 := hy1.symm
    refine lv_iconst (v := 0) S.x S.b d_Ker_isRunning_27 (by decide) ?_
    exact px_iret (v := 0) S hr rfl hlk hAe hw (Nat.le_of_ble_eq_true rfl) (Nat.le_of_ble_eq_true rfl) (⟨rfl, (show (0 : Int32) = 0 ∨ (0 : Int32) = 1 from by first | exact Or.inl rfl | exact Or.inr rfl | exact z_or (by omega)), (show NnP pz p0 (0 : Int32) from (fun h9 => absurd h9 (by decide)))⟩) d_Ker_isRunning_28
  ·
    subst c2
    have hc5 := cl_nat (x := p0) (by first | exact g0 | omega)
    have hi5 : p0.toNatClampNeg < 13 := by first | exact oz_52b7a52644 hc5 g1 | omega
    have hr5 := hy1.symm
    refine lv_aload_n S.x S.b d_Ker_isRunning_9 rfl (lv_at hl 0 rfl) ?_
    refine px_get S k_Ker hT hw 0 0 2 (v := .ref (kr 2)) rfl rfl rfl (by decide) m2_222 d_Ker_isRunning_10 ?_
    refine lv_iload_n S.x S.b d_Ker_isRunning_13 rfl (lv_at hl 1 rfl) ?_
    refine px_aaldS S hT hw 0 3 6 (n := 13) (f := pz) rfl rfl rfl (x := p0) (vp_in_iff.mpr (by first | exact oz_03ccb9bf57 g0 g1 | (constructor <;> omega))) (sk := q3) hr5 d_Ker_isRunning_14 ?_
    rcases hki.2.2.2 p0.toNatClampNeg hi5 with hno | ⟨h9, e9, hcu6⟩ | ⟨h9, e9, hcu6⟩
    · rw [hno] at hr5; cases hr5
    ·
      cases (hr5.symm.trans e9)
      obtain ⟨j7, hp7, hj7, hjq7, hto7, hf07⟩ := hcu6.2
      have hw : pw D A s.heap _ _ [wd_Ker cs hk kr (fun _ => none) kf ka (gKe pq pz tq rq), fm 13 (fRw cs rq RR RM RW RF RA RC), fm 8 (fPp cs pq PV), fm 13 (fTx cs tq TR TO TF TA)] := hw.sub [0, 2, 3, 1] rfl rfl
      have hw : pw D A s.heap _ _ [wd_Ker cs hk kr (fun _ => none) kf ka (gKe pq pz tq rq), fm 13 (fRw cs rq RR RM RW RF RA RC), fm 8 (fPp cs pq PV), fo 13 (fTx cs tq TR TO TF TA) p0.toNatClampNeg, wd_Txp cs q3 (TR p0.toNatClampNeg) (fun k => if k = 3 then (some hp7) else none) (TF p0.toNatClampNeg) (TA p0.toNatClampNeg) (fun _ _ => none)] := ftx_out (pr := [wd_Ker cs hk kr (fun _ => none) kf ka (gKe pq pz tq rq), fm 13 (fRw cs rq RR RM RW RF RA RC), fm 8 (fPp cs pq PV)]) hw hi5 hcu6.1 hto7
      have htn8 : TxN p0.toNatClampNeg (TF p0.toNatClampNeg) (TA p0.toNatClampNeg) := hki.2.1 p0.toNatClampNeg hi5 _ hcu6.1
      obtain ⟨lk, ⟨i2, i3⟩, ⟨i4, i5⟩, ⟨i6, i7⟩, i8, ⟨i9, i11⟩, i10, hrt⟩ := htn8.1
      have hid8 := htn8.2.1
      have hch8 := htn8.2.2
      unfold KcI at hch8
      refine px_get S k_Txp hT hw 4 0 18 (v := .int ((TF p0.toNatClampNeg) 18)) rfl rfl rfl (by decide) m6_139 d_Ker_isRunning_15 ?_
      refine lv_bipush (v := (-2)) S.x S.b d_Ker_isRunning_18 (by decide) ?_
      refine lv_icmp_ne (tgt := 27) S.x S.b d_Ker_isRunning_20 (by decide) (fun c9 => ?_) (fun c9 => ?_)
      · have nc9 : ¬ ((TF p0.toNatClampNeg) 18).toInt = (-2 : Int) := mt (i_eq (x := ((TF p0.toNatClampNeg) 18)) (y := (-2))).mpr c9
        refine lv_iconst (v := 0) S.x S.b d_Ker_isRunning_27 (by decide) ?_
        have hw : pw D A s.heap _ _ [wd_Ker cs hk kr (fun _ => none) kf ka (gKe pq pz tq rq), fm 13 (fRw cs rq RR RM RW RF RA RC), fm 8 (fPp cs pq PV), fm 13 (fTx cs tq TR TO TF TA)] := ftx_back (pr := [wd_Ker cs hk kr (fun _ => none) kf ka (gKe pq pz tq rq), fm 13 (fRw cs rq RR RM RW RF RA RC), fm 8 (fPp cs pq PV)]) hw hi5 hcu6.1 hto7
        have hw : pw D A s.heap _ _ [wd_Ker cs hk kr (fun _ => none) kf ka (gKe pq pz tq rq), fm 13 (fTx cs tq TR TO TF TA), fm 13 (fRw cs rq RR RM RW RF RA RC), fm 8 (fPp cs pq PV)] := hw.sub [0, 3, 1, 2] rfl rfl
        exact px_iret (v := 0) S hr rfl hlk hAe hw (Nat.le_of_ble_eq_true rfl) (Nat.le_of_ble_eq_true rfl) (⟨rfl, (show (0 : Int32) = 0 ∨ (0 : Int32) = 1 from by first | exact Or.inl rfl | exact Or.inr rfl | exact z_or (by omega)), (show NnP pz p0 (0 : Int32) from (fun h9 => absurd h9 (by decide)))⟩) d_Ker_isRunning_28
      · have nc9 : ((TF p0.toNatClampNeg) 18).toInt = (-2 : Int) := (i_eq (x := ((TF p0.toNatClampNeg) 18)) (y := (-2))).mp c9
        refine lv_iconst (v := 1) S.x S.b d_Ker_isRunning_23 (by decide) ?_
        refine lv_goto (tgt := 28) S.x S.b d_Ker_isRunning_24 (by decide) ?_
        have hw : pw D A s.heap _ _ [wd_Ker cs hk kr (fun _ => none) kf ka (gKe pq pz tq rq), fm 13 (fRw cs rq RR RM RW RF RA RC), fm 8 (fPp cs pq PV), fm 13 (fTx cs tq TR TO TF TA)] := ftx_back (pr := [wd_Ker cs hk kr (fun _ => none) kf ka (gKe pq pz tq rq), fm 13 (fRw cs rq RR RM RW RF RA RC), fm 8 (fPp cs pq PV)]) hw hi5 hcu6.1 hto7
        have hw : pw D A s.heap _ _ [wd_Ker cs hk kr (fun _ => none) kf ka (gKe pq pz tq rq), fm 13 (fTx cs tq TR TO TF TA), fm 13 (fRw cs rq RR RM RW RF RA RC), fm 8 (fPp cs pq PV)] := hw.sub [0, 3, 1, 2] rfl rfl
        exact px_iret (v := 1) S hr rfl hlk hAe hw (Nat.le_of_ble_eq_true rfl) (Nat.le_of_ble_eq_true rfl) (⟨rfl, (show (1 : Int32) = 0 ∨ (1 : Int32) = 1 from by first | exact Or.inl rfl | exact Or.inr rfl | exact z_or (by omega)), (show NnP pz p0 (1 : Int32) from (fun _ => ⟨_, hr5⟩))⟩) d_Ker_isRunning_28
    ·
      cases (hr5.symm.trans e9)
      obtain ⟨j10, hp10, hj10, hjq10, hto10⟩ := hcu6.2
      have hw : pw D A s.heap _ _ [wd_Ker cs hk kr (fun _ => none) kf ka (gKe pq pz tq rq), fm 13 (fTx cs tq TR TO TF TA), fm 8 (fPp cs pq PV), fm 13 (fRw cs rq RR RM RW RF RA RC)] := hw.sub [0, 1, 3, 2] rfl rfl
      have hw : pw D A s.heap _ _ [wd_Ker cs hk kr (fun _ => none) kf ka (gKe pq pz tq rq), fm 13 (fTx cs tq TR TO TF TA), fm 8 (fPp cs pq PV), fo 13 (fRw cs rq RR RM RW RF RA RC) p0.toNatClampNeg, wd_Raw cs q3 (RR p0.toNatClampNeg) (fun k => if k = 2 then (RM p0.toNatClampNeg) else if k = 4 then (some ((PV j10).r 1)) else none) (RF p0.toNatClampNeg) (RA p0.toNatClampNeg) (fun _ _ => none), nA cs (RM p0.toNatClampNeg) 36864 (RC p0.toNatClampNeg)] := frw_out (pr := [wd_Ker cs hk kr (fun _ => none) kf ka (gKe pq pz tq rq), fm 13 (fTx cs tq TR TO TF TA), fm 8 (fPp cs pq PV)]) hw hi5 hcu6.1 hto10
      have hng11 := ndS_ge 13 RM p0.toNatClampNeg hi5
      have hrn11 : RwN p0.toNatClampNeg (RF p0.toNatClampNeg) := hki.2.2.1 p0.toNatClampNeg hi5 _ hcu6.1
      have hro11 := hrn11.1
      unfold RwO at hro11
      have hid11 := hrn11.2.1
      have hch11 := hrn11.2.2
      unfold KcI at hch11
      refine px_get S k_Raw hT hw 4 0 11 (v := .int ((RF p0.toNatClampNeg) 11)) rfl rfl rfl (by decide) m6_139 d_Ker_isRunning_15 ?_
      refine lv_bipush (v := (-2)) S.x S.b d_Ker_isRunning_18 (by decide) ?_
      refine lv_icmp_ne (tgt := 27) S.x S.b d_Ker_isRunning_20 (by decide) (fun c12 => ?_) (fun c12 => ?_)
      · have nc12 : ¬ ((RF p0.toNatClampNeg) 11).toInt = (-2 : Int) := mt (i_eq (x := ((RF p0.toNatClampNeg) 11)) (y := (-2))).mpr c12
        refine lv_iconst (v := 0) S.x S.b d_Ker_isRunning_27 (by decide) ?_
        have hw : pw D A s.heap _ _ [wd_Ker cs hk kr (fun _ => none) kf ka (gKe pq pz tq rq), fm 13 (fTx cs tq TR TO TF TA), fm 8 (fPp cs pq PV), fm 13 (fRw cs rq RR RM RW RF RA RC)] := frw_back (pr := [wd_Ker cs hk kr (fun _ => none) kf ka (gKe pq pz tq rq), fm 13 (fTx cs tq TR TO TF TA), fm 8 (fPp cs pq PV)]) hw hi5 hcu6.1 hto10
        have hw : pw D A s.heap _ _ [wd_Ker cs hk kr (fun _ => none) kf ka (gKe pq pz tq rq), fm 13 (fTx cs tq TR TO TF TA), fm 13 (fRw cs rq RR RM RW RF RA RC), fm 8 (fPp cs pq PV)] := hw.sub [0, 1, 3, 2] rfl rfl
        exact px_iret (v := 0) S hr rfl hlk hAe hw (Nat.le_of_ble_eq_true rfl) (Nat.le_of_ble_eq_true rfl) (⟨rfl, (show (0 : Int32) = 0 ∨ (0 : Int32) = 1 from by first | exact Or.inl rfl | exact Or.inr rfl | exact z_or (by omega)), (show NnP pz p0 (0 : Int32) from (fun h9 => absurd h9 (by decide)))⟩) d_Ker_isRunning_28
      · have nc12 : ((RF p0.toNatClampNeg) 11).toInt = (-2 : Int) := (i_eq (x := ((RF p0.toNatClampNeg) 11)) (y := (-2))).mp c12
        refine lv_iconst (v := 1) S.x S.b d_Ker_isRunning_23 (by decide) ?_
        refine lv_goto (tgt := 28) S.x S.b d_Ker_isRunning_24 (by decide) ?_
        have hw : pw D A s.heap _ _ [wd_Ker cs hk kr (fun _ => none) kf ka (gKe pq pz tq rq), fm 13 (fTx cs tq TR TO TF TA), fm 8 (fPp cs pq PV), fm 13 (fRw cs rq RR RM RW RF RA RC)] := frw_back (pr := [wd_Ker cs hk kr (fun _ => none) kf ka (gKe pq pz tq rq), fm 13 (fTx cs tq TR TO TF TA), fm 8 (fPp cs pq PV)]) hw hi5 hcu6.1 hto10
        have hw : pw D A s.heap _ _ [wd_Ker cs hk kr (fun _ => none) kf ka (gKe pq pz tq rq), fm 13 (fTx cs tq TR TO TF TA), fm 13 (fRw cs rq RR RM RW RF RA RC), fm 8 (fPp cs pq PV)] := hw.sub [0, 1, 3, 2] rfl rfl
        exact px_iret (v := 1) S hr rfl hlk hAe hw (Nat.le_of_ble_eq_true rfl) (Nat.le_of_ble_eq_true rfl) (⟨rfl, (show (1 : Int32) = 0 ∨ (1 : Int32) = 1 from by first | exact Or.inl rfl | exact Or.inr rfl | exact z_or (by omega)), (show NnP pz p0 (1 : Int32) from (fun _ => ⟨_, hr5⟩))⟩) d_Ker_isRunning_28
abbrev b_Ker_partner : ByteArray := prog_4_method_7_code
def y_Ker_partner : MethodName := ⟨"HomeSystem$Kernel", "partner", "(LHomeSystem$AnyProcess;)I"⟩
theorem d_Ker_partner_0 : decode b_Ker_partner 0 = .ok (.aload_n 1, 1) := by decide +kernel
theorem d_Ker_partner_1 : decode b_Ker_partner 1 = .ok (.getfield 111, 3) := by decide +kernel
theorem d_Ker_partner_4 : decode b_Ker_partner 4 = .ok (.istore_n 2, 1) := by decide +kernel
theorem d_Ker_partner_5 : decode b_Ker_partner 5 = .ok (.iload_n 2, 1) := by decide +kernel
theorem d_Ker_partner_6 : decode b_Ker_partner 6 = .ok (.ifCond .ne 23, 3) := by decide +kernel
theorem d_Ker_partner_9 : decode b_Ker_partner 9 = .ok (.aload_n 1, 1) := by decide +kernel
theorem d_Ker_partner_10 : decode b_Ker_partner 10 = .ok (.getfield 101, 3) := by decide +kernel
theorem d_Ker_partner_13 : decode b_Ker_partner 13 = .ok (.ifCond .ne 7, 3) := by decide +kernel
theorem d_Ker_partner_16 : decode b_Ker_partner 16 = .ok (.iconst (-1), 1) := by decide +kernel
theorem d_Ker_partner_17 : decode b_Ker_partner 17 = .ok (.goto 11, 3) := by decide +kernel
theorem d_Ker_partner_20 : decode b_Ker_partner 20 = .ok (.aload_n 1, 1) := by decide +kernel
theorem d_Ker_partner_21 : decode b_Ker_partner 21 = .ok (.getfield 101, 3) := by decide +kernel
theorem d_Ker_partner_24 : decode b_Ker_partner 24 = .ok (.iconst 1, 1) := by decide +kernel
theorem d_Ker_partner_25 : decode b_Ker_partner 25 = .ok (.isub, 1) := by decide +kernel
theorem d_Ker_partner_26 : decode b_Ker_partner 26 = .ok (.iconst 3, 1) := by decide +kernel
theorem d_Ker_partner_27 : decode b_Ker_partner 27 = .ok (.idiv, 1) := by decide +kernel
theorem d_Ker_partner_28 : decode b_Ker_partner 28 = .ok (.ireturn, 1) := by decide +kernel
theorem d_Ker_partner_29 : decode b_Ker_partner 29 = .ok (.iload_n 2, 1) := by decide +kernel
theorem d_Ker_partner_30 : decode b_Ker_partner 30 = .ok (.iconst 1, 1) := by decide +kernel
theorem d_Ker_partner_31 : decode b_Ker_partner 31 = .ok (.if_icmp .lt 22, 3) := by decide +kernel
theorem d_Ker_partner_34 : decode b_Ker_partner 34 = .ok (.iload_n 2, 1) := by decide +kernel
theorem d_Ker_partner_35 : decode b_Ker_partner 35 = .ok (.aload_n 1, 1) := by decide +kernel
theorem d_Ker_partner_36 : decode b_Ker_partner 36 = .ok (.getfield 142, 3) := by decide +kernel
theorem d_Ker_partner_39 : decode b_Ker_partner 39 = .ok (.if_icmp .gt 14, 3) := by decide +kernel
theorem d_Ker_partner_42 : decode b_Ker_partner 42 = .ok (.iconst 3, 1) := by decide +kernel
theorem d_Ker_partner_43 : decode b_Ker_partner 43 = .ok (.aload_n 1, 1) := by decide +kernel
theorem d_Ker_partner_44 : decode b_Ker_partner 44 = .ok (.getfield 101, 3) := by decide +kernel
theorem d_Ker_partner_47 : decode b_Ker_partner 47 = .ok (.imul, 1) := by decide +kernel
theorem d_Ker_partner_48 : decode b_Ker_partner 48 = .ok (.iload_n 2, 1) := by decide +kernel
theorem d_Ker_partner_49 : decode b_Ker_partner 49 = .ok (.iadd, 1) := by decide +kernel
theorem d_Ker_partner_50 : decode b_Ker_partner 50 = .ok (.goto 4, 3) := by decide +kernel
theorem d_Ker_partner_53 : decode b_Ker_partner 53 = .ok (.iconst (-1), 1) := by decide +kernel
theorem d_Ker_partner_54 : decode b_Ker_partner 54 = .ok (.ireturn, 1) := by decide +kernel
theorem q_Ker_partner : px_y y_Ker_partner 1 := by unfold px_y; decide +kernel
set_option maxHeartbeats 4000000 in
set_option maxRecDepth 100000 in
theorem c_k_partner_T (l : Launch) (D : va_G) (cs : Nat → ClassId) (hk : Nat) (kr : Nat → Nat) (pq : Nat → Option Nat) (pz : Nat → Option Nat) (tq : Nat → Option Nat) (rq : Nat → Option Nat) (kf : Nat → Int32) (ka : Nat → Nat → Int32) (TR : Nat → Nat → Nat) (TO : Nat → Option Nat) (TF : Nat → Nat → Int32) (TA : Nat → Nat → Nat → Int32) (RR : Nat → Nat → Nat) (RM : Nat → Option Nat) (RW : Nat → Option Nat) (RF : Nat → Nat → Int32) (RA : Nat → Nat → Nat → Int32) (RC : Nat → Nat → Int32) (PV : Nat → Pvs) (ip hx : Nat) (hki : KnI pq PV pz tq rq TO TF TA RW RF) (hip : ip < 13) (hcu : CuT pq PV tq TO ip hx) : MetI l y_Ker_partner b_Ker_partner 3 (.int) D cs 0 0 (0) (0) [.ref hk, .ref hx] [wd_Ker cs hk kr (fun _ => none) kf ka (gKe pq pz tq rq), fm 13 (fTx cs tq TR TO TF TA), fm 13 (fRw cs rq RR RM RW RF RA RC), fm 8 (fPp cs pq PV)] (fun _ => True) (fun v ps => (ps = [wd_Ker cs hk kr (fun _ => none) kf ka (gKe pq pz tq rq), fm 13 (fTx cs tq TR TO TF TA), fm 13 (fRw cs rq RR RM RW RF RA RC), fm 8 (fPp cs pq PV)]) ∧ (-1 ≤ v.toInt) ∧ (v.toInt ≤ 12)) := by
  refine px_enter (by decide) (Nat.le_of_ble_eq_true rfl) ?_
  intro p e s m below meth c A ls hAe S hr hlk hnm hA hT hX hw hl
  replace hl : lv_has ls 3 [(0, .ref hk), (1, .ref hx)] := hl
  have cstm1 : ((-1) : Int32).toInt = (-1) := rfl
  have cst1 : (1 : Int32).toInt = 1 := rfl
  have cst3 : (3 : Int32).toInt = 3 := rfl
  refine lv_aload_n S.x S.b d_Ker_partner_0 rfl (lv_at hl 1 rfl) ?_
  obtain ⟨j1, hp1, hj1, hjq1, hto1, hf01⟩ := hcu.2
  have hw : pw D A s.heap _ _ [wd_Ker cs hk kr (fun _ => none) kf ka (gKe pq pz tq rq), fm 13 (fRw cs rq RR RM RW RF RA RC), fm 8 (fPp cs pq PV), fm 13 (fTx cs tq TR TO TF TA)] := hw.sub [0, 2, 3, 1] rfl rfl
  have hw : pw D A s.heap _ _ [wd_Ker cs hk kr (fun _ => none) kf ka (gKe pq pz tq rq), fm 13 (fRw cs rq RR RM RW RF RA RC), fm 8 (fPp cs pq PV), fo 13 (fTx cs tq TR TO TF TA) ip, wd_Txp cs hx (TR ip) (fun k => if k = 3 then (some hp1) else none) (TF ip) (TA ip) (fun _ _ => none)] := ftx_out (pr := [wd_Ker cs hk kr (fun _ => none) kf ka (gKe pq pz tq rq), fm 13 (fRw cs rq RR RM RW RF RA RC), fm 8 (fPp cs pq PV)]) hw hip hcu.1 hto1
  have htn2 : TxN ip (TF ip) (TA ip) := hki.2.1 ip hip _ hcu.1
  obtain ⟨lk, ⟨i2, i3⟩, ⟨i4, i5⟩, ⟨i6, i7⟩, i8, ⟨i9, i11⟩, i10, hrt⟩ := htn2.1
  have hid2 := htn2.2.1
  have hch2 := htn2.2.2
  unfold KcI at hch2
  refine px_get S k_Txp hT hw 4 0 23 (v := .int ((TF ip) 23)) rfl rfl rfl (by decide) m6_161 d_Ker_partner_1 ?_
  refine lv_istore_n (lv' := [(2, .int ((TF ip) 23)), (0, .ref hk), (1, .ref hx)]) S.x S.b d_Ker_partner_4 rfl hl (by decide) rfl (fun ls hl => ?_)
  refine lv_iload_n S.x S.b d_Ker_partner_5 rfl (lv_at hl 0 rfl) ?_
  refine lv_if_ne (tgt := 29) S.x S.b d_Ker_partner_6 (by decide) (fun c3 => ?_) (fun c3 => ?_)
  · have nc3 : ¬ ((TF ip) 23).toInt = (0 : Int) := mt (i_eq (x := ((TF ip) 23)) (y := 0)).mpr c3
    refine lv_iload_n S.x S.b d_Ker_partner_29 rfl (lv_at hl 0 rfl) ?_
    refine lv_iconst (v := 1) S.x S.b d_Ker_partner_30 (by decide) ?_
    refine lv_icmp_lt (tgt := 53) S.x S.b d_Ker_partner_31 (by decide) (fun c4 => ?_) (fun c4 => ?_)
    · have nc4 : ((TF ip) 23).toInt < (1 : Int) := (i_lt (x := ((TF ip) 23)) (y := 1)).mp c4
      refine lv_iconst (v := (-1)) S.x S.b d_Ker_partner_53 (by decide) ?_
      have hw : pw D A s.heap _ _ [wd_Ker cs hk kr (fun _ => none) kf ka (gKe pq pz tq rq), fm 13 (fRw cs rq RR RM RW RF RA RC), fm 8 (fPp cs pq PV), fm 13 (fTx cs tq TR TO TF TA)] := ftx_back (pr := [wd_Ker cs hk kr (fun _ => none) kf ka (gKe pq pz tq rq), fm 13 (fRw cs rq RR RM RW RF RA RC), fm 8 (fPp cs pq PV)]) hw hip hcu.1 hto1
      have hw : pw D A s.heap _ _ [wd_Ker cs hk kr (fun _ => none) kf ka (gKe pq pz tq rq), fm 13 (fTx cs tq TR TO TF TA), fm 13 (fRw cs rq RR RM RW RF RA RC), fm 8 (fPp cs pq PV)] := hw.sub [0, 3, 1, 2] rfl rfl
      exact px_iret (v := (-1)) S hr rfl hlk hAe hw (Nat.le_of_ble_eq_true rfl) (Nat.le_of_ble_eq_true rfl) (⟨rfl, (show -1 ≤ (-1 : Int) from by first | decide | omega), (show (-1 : Int) ≤ 12 from by first | decide | omega)⟩) d_Ker_partner_54
    · have nc4 : ¬ ((TF ip) 23).toInt < (1 : Int) := mt (i_lt (x := ((TF ip) 23)) (y := 1)).mpr c4
      refine lv_iload_n S.x S.b d_Ker_partner_34 rfl (lv_at hl 0 rfl) ?_
      refine lv_aload_n S.x S.b d_Ker_partner_35 rfl (lv_at hl 2 rfl) ?_
      refine px_get S k_Txp hT hw 4 0 20 (v := .int ((TF ip) 20)) rfl rfl rfl (by decide) m6_149 d_Ker_partner_36 ?_
      refine lv_icmp_gt (tgt := 53) S.x S.b d_Ker_partner_39 (by decide) (fun c5 => ?_) (fun c5 => ?_)
      · have nc5 : ((TF ip) 20).toInt < ((TF ip) 23).toInt := (i_lt (x := ((TF ip) 20)) (y := ((TF ip) 23))).mp c5
        refine lv_iconst (v := (-1)) S.x S.b d_Ker_partner_53 (by decide) ?_
        have hw : pw D A s.heap _ _ [wd_Ker cs hk kr (fun _ => none) kf ka (gKe pq pz tq rq), fm 13 (fRw cs rq RR RM RW RF RA RC), fm 8 (fPp cs pq PV), fm 13 (fTx cs tq TR TO TF TA)] := ftx_back (pr := [wd_Ker cs hk kr (fun _ => none) kf ka (gKe pq pz tq rq), fm 13 (fRw cs rq RR RM RW RF RA RC), fm 8 (fPp cs pq PV)]) hw hip hcu.1 hto1
        have hw : pw D A s.heap _ _ [wd_Ker cs hk kr (fun _ => none) kf ka (gKe pq pz tq rq), fm 13 (fTx cs tq TR TO TF TA), fm 13 (fRw cs rq RR RM RW RF RA RC), fm 8 (fPp cs pq PV)] := hw.sub [0, 3, 1, 2] rfl rfl
        exact px_iret (v := (-1)) S hr rfl hlk hAe hw (Nat.le_of_ble_eq_true rfl) (Nat.le_of_ble_eq_true rfl) (⟨rfl, (show -1 ≤ (-1 : Int) from by first | decide | omega), (show (-1 : Int) ≤ 12 from by first | decide | omega)⟩) d_Ker_partner_54
      · have nc5 : ¬ ((TF ip) 20).toInt < ((TF ip) 23).toInt := mt (i_lt (x := ((TF ip) 20)) (y := ((TF ip) 23))).mpr c5
        refine lv_iconst (v := 3) S.x S.b d_Ker_partner_42 (by decide) ?_
        refine lv_aload_n S.x S.b d_Ker_partner_43 rfl (lv_at hl 2 rfl) ?_
        refine px_get S k_Txp hT hw 4 0 15 (v := .int ((TF ip) 15)) rfl rfl rfl (by decide) m6_133 d_Ker_partner_44 ?_
        refine lv_imul S.x S.b d_Ker_partner_47 ?_
        have lr6 := Int32.le_toInt ((TF ip) 15)
        have ur6 := Int32.toInt_lt ((TF ip) 15)
        refine lv_topi (fun z7 ez7 => ?_)
        have lz7 := Int32.le_toInt z7
        have uz7 := Int32.toInt_lt z7
        have tz7 : -2147483648 ≤ 3 * ((TF ip) 15).toInt → 3 * ((TF ip) 15).toInt < 2147483648 → z7.toInt = 3 * ((TF ip) 15).toInt := by rw [ez7]; exact i_mulc 3 ((TF ip) 15) (by decide)
        try replace tz7 : z7.toInt = 3 * ((TF ip) 15).toInt := by omega
        refine lv_iload_n S.x S.b d_Ker_partner_48 rfl (lv_at hl 0 rfl) ?_
        refine lv_iadd S.x S.b d_Ker_partner_49 ?_
        have lr8 := Int32.le_toInt ((TF ip) 23)
        have ur8 := Int32.toInt_lt ((TF ip) 23)
        refine lv_topi (fun z9 ez9 => ?_)
        have tz9 : z9.toInt = (z7.toInt + ((TF ip) 23).toInt + 2147483648) % 4294967296 - 2147483648 := by rw [ez9]; exact i_add z7 ((TF ip) 23)
        have lz9 := Int32.le_toInt z9
        have uz9 := Int32.toInt_lt z9
        try replace tz9 : z9.toInt = z7.toInt + ((TF ip) 23).toInt := by omega
        refine lv_goto (tgt := 54) S.x S.b d_Ker_partner_50 (by decide) ?_
        have hw : pw D A s.heap _ _ [wd_Ker cs hk kr (fun _ => none) kf ka (gKe pq pz tq rq), fm 13 (fRw cs rq RR RM RW RF RA RC), fm 8 (fPp cs pq PV), fm 13 (fTx cs tq TR TO TF TA)] := ftx_back (pr := [wd_Ker cs hk kr (fun _ => none) kf ka (gKe pq pz tq rq), fm 13 (fRw cs rq RR RM RW RF RA RC), fm 8 (fPp cs pq PV)]) hw hip hcu.1 hto1
        have hw : pw D A s.heap _ _ [wd_Ker cs hk kr (fun _ => none) kf ka (gKe pq pz tq rq), fm 13 (fTx cs tq TR TO TF TA), fm 13 (fRw cs rq RR RM RW RF RA RC), fm 8 (fPp cs pq PV)] := hw.sub [0, 3, 1, 2] rfl rfl
        exact px_iret (v := z9) S hr rfl hlk hAe hw (Nat.le_of_ble_eq_true rfl) (Nat.le_of_ble_eq_true rfl) (⟨rfl, (show -1 ≤ z9.toInt from by first | exact oz_4bc36f64a0 tz9 nc4 tz7 hid2 | omega), (show z9.toInt ≤ 12 from by first | with_reducible rfl | with_reducible assumption | omega)⟩) d_Ker_partner_54
  · have nc3 : ((TF ip) 23).toInt = (0 : Int) := (i_eq (x := ((TF ip) 23)) (y := 0)).mp c3
    refine lv_aload_n S.x S.b d_Ker_partner_9 rfl (lv_at hl 2 rfl) ?_
    refine px_get S k_Txp hT hw 4 0 15 (v := .int ((TF ip) 15)) rfl rfl rfl (by decide) m6_133 d_Ker_partner_10 ?_
    refine lv_if_ne (tgt := 20) S.x S.b d_Ker_partner_13 (by decide) (fun c10 => ?_) (fun c10 => ?_)
    · have nc10 : ¬ ((TF ip) 15).toInt = (0 : Int) := mt (i_eq (x := ((TF ip) 15)) (y := 0)).mpr c10
      refine lv_aload_n S.x S.b d_Ker_partner_20 rfl (lv_at hl 2 rfl) ?_
      refine px_get S k_Txp hT hw 4 0 15 (v := .int ((TF ip) 15)) rfl rfl rfl (by decide) m6_133 d_Ker_partner_21 ?_
      refine lv_iconst (v := 1) S.x S.b d_Ker_partner_24 (by decide) ?_
      refine lv_isub S.x S.b d_Ker_partner_25 ?_
      have lr11 := Int32.le_toInt ((TF ip) 15)
      have ur11 := Int32.toInt_lt ((TF ip) 15)
      refine lv_topi (fun z12 ez12 => ?_)
      have tz12 : z12.toInt = (((TF ip) 15).toInt - (1 : Int) + 2147483648) % 4294967296 - 2147483648 := by rw [ez12]; exact i_sub ((TF ip) 15) 1
      have lz12 := Int32.le_toInt z12
      have uz12 := Int32.toInt_lt z12
      try replace tz12 : z12.toInt = ((TF ip) 15).toInt - (1 : Int) := by omega
      refine lv_iconst (v := 3) S.x S.b d_Ker_partner_26 (by decide) ?_
      refine lv_idiv S.x S.b d_Ker_partner_27 (by decide) ?_
      refine lv_topi (fun z13 ez13 => ?_)
      have lz13 := Int32.le_toInt z13
      have uz13 := Int32.toInt_lt z13
      have tz13 : 0 ≤ z12.toInt → z13.toInt = z12.toInt / 3 := (by intro h9; rw [ez13]; exact i_idiv9 h9 (y := 3) (d := 3) (by decide) (by decide))
      try replace tz13 := tz13 (by omega)
      have hw : pw D A s.heap _ _ [wd_Ker cs hk kr (fun _ => none) kf ka (gKe pq pz tq rq), fm 13 (fRw cs rq RR RM RW RF RA RC), fm 8 (fPp cs pq PV), fm 13 (fTx cs tq TR TO TF TA)] := ftx_back (pr := [wd_Ker cs hk kr (fun _ => none) kf ka (gKe pq pz tq rq), fm 13 (fRw cs rq RR RM RW RF RA RC), fm 8 (fPp cs pq PV)]) hw hip hcu.1 hto1
      have hw : pw D A s.heap _ _ [wd_Ker cs hk kr (fun _ => none) kf ka (gKe pq pz tq rq), fm 13 (fTx cs tq TR TO TF TA), fm 13 (fRw cs rq RR RM RW RF RA RC), fm 8 (fPp cs pq PV)] := hw.sub [0, 3, 1, 2] rfl rfl
      exact px_iret (v := z13) S hr rfl hlk hAe hw (Nat.le_of_ble_eq_true rfl) (Nat.le_of_ble_eq_true rfl) (⟨rfl, (show -1 ≤ z13.toInt from by first | with_reducible rfl | with_reducible assumption | omega), (show z13.toInt ≤ 12 from by first | with_reducible rfl | with_reducible assumption | omega)⟩) d_Ker_partner_28
    · have nc10 : ((TF ip) 15).toInt = (0 : Int) := (i_eq (x := ((TF ip) 15)) (y := 0)).mp c10
      refine lv_iconst (v := (-1)) S.x S.b d_Ker_partner_16 (by decide) ?_
      refine lv_goto (tgt := 28) S.x S.b d_Ker_partner_17 (by decide) ?_
      have hw : pw D A s.heap _ _ [wd_Ker cs hk kr (fun _ => none) kf ka (gKe pq pz tq rq), fm 13 (fRw cs rq RR RM RW RF RA RC), fm 8 (fPp cs pq PV), fm 13 (fTx cs tq TR TO TF TA)] := ftx_back (pr := [wd_Ker cs hk kr (fun _ => none) kf ka (gKe pq pz tq rq), fm 13 (fRw cs rq RR RM RW RF RA RC), fm 8 (fPp cs pq PV)]) hw hip hcu.1 hto1
      have hw : pw D A s.heap _ _ [wd_Ker cs hk kr (fun _ => none) kf ka (gKe pq pz tq rq), fm 13 (fTx cs tq TR TO TF TA), fm 13 (fRw cs rq RR RM RW RF RA RC), fm 8 (fPp cs pq PV)] := hw.sub [0, 3, 1, 2] rfl rfl
      exact px_iret (v := (-1)) S hr rfl hlk hAe hw (Nat.le_of_ble_eq_true rfl) (Nat.le_of_ble_eq_true rfl) (⟨rfl, (show -1 ≤ (-1 : Int) from by first | decide | omega), (show (-1 : Int) ≤ 12 from by first | decide | omega)⟩) d_Ker_partner_28
set_option maxHeartbeats 4000000 in
set_option maxRecDepth 100000 in
theorem c_k_partner_R (l : Launch) (D : va_G) (cs : Nat → ClassId) (hk : Nat) (kr : Nat → Nat) (pq : Nat → Option Nat) (pz : Nat → Option Nat) (tq : Nat → Option Nat) (rq : Nat → Option Nat) (kf : Nat → Int32) (ka : Nat → Nat → Int32) (TR : Nat → Nat → Nat) (TO : Nat → Option Nat) (TF : Nat → Nat → Int32) (TA : Nat → Nat → Nat → Int32) (RR : Nat → Nat → Nat) (RM : Nat → Option Nat) (RW : Nat → Option Nat) (RF : Nat → Nat → Int32) (RA : Nat → Nat → Nat → Int32) (RC : Nat → Nat → Int32) (PV : Nat → Pvs) (ip hx : Nat) (hki : KnI pq PV pz tq rq TO TF TA RW RF) (hip : ip < 13) (hcu : CuR pq PV rq RW ip hx) : MetI l y_Ker_partner b_Ker_partner 3 (.int) D cs 0 0 (0) (0) [.ref hk, .ref hx] [wd_Ker cs hk kr (fun _ => none) kf ka (gKe pq pz tq rq), fm 13 (fTx cs tq TR TO TF TA), fm 13 (fRw cs rq RR RM RW RF RA RC), fm 8 (fPp cs pq PV)] (fun _ => True) (fun v ps => (ps = [wd_Ker cs hk kr (fun _ => none) kf ka (gKe pq pz tq rq), fm 13 (fTx cs tq TR TO TF TA), fm 13 (fRw cs rq RR RM RW RF RA RC), fm 8 (fPp cs pq PV)]) ∧ (-1 ≤ v.toInt) ∧ (v.toInt ≤ 12)) := by
  refine px_enter (by decide) (Nat.le_of_ble_eq_true rfl) ?_
  intro p e s m below meth c A ls hAe S hr hlk hnm hA hT hX hw hl
  replace hl : lv_has ls 3 [(0, .ref hk), (1, .ref hx)] := hl
  have cstm1 : ((-1) : Int32).toInt = (-1) := rfl
  have cst1 : (1 : Int32).toInt = 1 := rfl
  have cst3 : (3 : Int32).toInt = 3 := rfl
  refine lv_aload_n S.x S.b d_Ker_partner_0 rfl (lv_at hl 1 rfl) ?_
  obtain ⟨j1, hp1, hj1, hjq1, hto1⟩ := hcu.2
  have hw : pw D A s.heap _ _ [wd_Ker cs hk kr (fun _ => none) kf ka (gKe pq pz tq rq), fm 13 (fTx cs tq TR TO TF TA), fm 8 (fPp cs pq PV), fm 13 (fRw cs rq RR RM RW RF RA RC)] := hw.sub [0, 1, 3, 2] rfl rfl
  have hw : pw D A s.heap _ _ [wd_Ker cs hk kr (fun _ => none) kf ka (gKe pq pz tq rq), fm 13 (fTx cs tq TR TO TF TA), fm 8 (fPp cs pq PV), fo 13 (fRw cs rq RR RM RW RF RA RC) ip, wd_Raw cs hx (RR ip) (fun k => if k = 2 then (RM ip) else if k = 4 then (some ((PV j1).r 1)) else none) (RF ip) (RA ip) (fun _ _ => none), nA cs (RM ip) 36864 (RC ip)] := frw_out (pr := [wd_Ker cs hk kr (fun _ => none) kf ka (gKe pq pz tq rq), fm 13 (fTx cs tq TR TO TF TA), fm 8 (fPp cs pq PV)]) hw hip hcu.1 hto1
  have hng2 := ndS_ge 13 RM ip hip
  have hrn2 : RwN ip (RF ip) := hki.2.2.1 ip hip _ hcu.1
  have hro2 := hrn2.1
  unfold RwO at hro2
  have hid2 := hrn2.2.1
  have hch2 := hrn2.2.2
  unfold KcI at hch2
  refine px_get S k_Raw hT hw 4 0 16 (v := .int ((RF ip) 16)) rfl rfl rfl (by decide) m6_161 d_Ker_partner_1 ?_
  refine lv_istore_n (lv' := [(2, .int ((RF ip) 16)), (0, .ref hk), (1, .ref hx)]) S.x S.b d_Ker_partner_4 rfl hl (by decide) rfl (fun ls hl => ?_)
  refine lv_iload_n S.x S.b d_Ker_partner_5 rfl (lv_at hl 0 rfl) ?_
  refine lv_if_ne (tgt := 29) S.x S.b d_Ker_partner_6 (by decide) (fun c3 => ?_) (fun c3 => ?_)
  · have nc3 : ¬ ((RF ip) 16).toInt = (0 : Int) := mt (i_eq (x := ((RF ip) 16)) (y := 0)).mpr c3
    refine lv_iload_n S.x S.b d_Ker_partner_29 rfl (lv_at hl 0 rfl) ?_
    refine lv_iconst (v := 1) S.x S.b d_Ker_partner_30 (by decide) ?_
    refine lv_icmp_lt (tgt := 53) S.x S.b d_Ker_partner_31 (by decide) (fun c4 => ?_) (fun c4 => ?_)
    · have nc4 : ((RF ip) 16).toInt < (1 : Int) := (i_lt (x := ((RF ip) 16)) (y := 1)).mp c4
      refine lv_iconst (v := (-1)) S.x S.b d_Ker_partner_53 (by decide) ?_
      have hw : pw D A s.heap _ _ [wd_Ker cs hk kr (fun _ => none) kf ka (gKe pq pz tq rq), fm 13 (fTx cs tq TR TO TF TA), fm 8 (fPp cs pq PV), fm 13 (fRw cs rq RR RM RW RF RA RC)] := frw_back (pr := [wd_Ker cs hk kr (fun _ => none) kf ka (gKe pq pz tq rq), fm 13 (fTx cs tq TR TO TF TA), fm 8 (fPp cs pq PV)]) hw hip hcu.1 hto1
      have hw : pw D A s.heap _ _ [wd_Ker cs hk kr (fun _ => none) kf ka (gKe pq pz tq rq), fm 13 (fTx cs tq TR TO TF TA), fm 13 (fRw cs rq RR RM RW RF RA RC), fm 8 (fPp cs pq PV)] := hw.sub [0, 1, 3, 2] rfl rfl
      exact px_iret (v := (-1)) S hr rfl hlk hAe hw (Nat.le_of_ble_eq_true rfl) (Nat.le_of_ble_eq_true rfl) (⟨rfl, (show -1 ≤ (-1 : Int) from by first | decide | omega), (show (-1 : Int) ≤ 12 from by first | decide | omega)⟩) d_Ker_partner_54
    · have nc4 : ¬ ((RF ip) 16).toInt < (1 : Int) := mt (i_lt (x := ((RF ip) 16)) (y := 1)).mpr c4
      refine lv_iload_n S.x S.b d_Ker_partner_34 rfl (lv_at hl 0 rfl) ?_
      refine lv_aload_n S.x S.b d_Ker_partner_35 rfl (lv_at hl 2 rfl) ?_
      refine px_get S k_Raw hT hw 4 0 13 (v := .int ((RF ip) 13)) rfl rfl rfl (by decide) m6_149 d_Ker_partner_36 ?_
      refine lv_icmp_gt (tgt := 53) S.x S.b d_Ker_partner_39 (by decide) (fun c5 => ?_) (fun c5 => ?_)
      · have nc5 : ((RF ip) 13).toInt < ((RF ip) 16).toInt := (i_lt (x := ((RF ip) 13)) (y := ((RF ip) 16))).mp c5
        refine lv_iconst (v := (-1)) S.x S.b d_Ker_partner_53 (by decide) ?_
        have hw : pw D A s.heap _ _ [wd_Ker cs hk kr (fun _ => none) kf ka (gKe pq pz tq rq), fm 13 (fTx cs tq TR TO TF TA), fm 8 (fPp cs pq PV), fm 13 (fRw cs rq RR RM RW RF RA RC)] := frw_back (pr := [wd_Ker cs hk kr (fun _ => none) kf ka (gKe pq pz tq rq), fm 13 (fTx cs tq TR TO TF TA), fm 8 (fPp cs pq PV)]) hw hip hcu.1 hto1
        have hw : pw D A s.heap _ _ [wd_Ker cs hk kr (fun _ => none) kf ka (gKe pq pz tq rq), fm 13 (fTx cs tq TR TO TF TA), fm 13 (fRw cs rq RR RM RW RF RA RC), fm 8 (fPp cs pq PV)] := hw.sub [0, 1, 3, 2] rfl rfl
        exact px_iret (v := (-1)) S hr rfl hlk hAe hw (Nat.le_of_ble_eq_true rfl) (Nat.le_of_ble_eq_true rfl) (⟨rfl, (show -1 ≤ (-1 : Int) from by first | decide | omega), (show (-1 : Int) ≤ 12 from by first | decide | omega)⟩) d_Ker_partner_54
      · have nc5 : ¬ ((RF ip) 13).toInt < ((RF ip) 16).toInt := mt (i_lt (x := ((RF ip) 13)) (y := ((RF ip) 16))).mpr c5
        refine lv_iconst (v := 3) S.x S.b d_Ker_partner_42 (by decide) ?_
        refine lv_aload_n S.x S.b d_Ker_partner_43 rfl (lv_at hl 2 rfl) ?_
        refine px_get S k_Raw hT hw 4 0 8 (v := .int ((RF ip) 8)) rfl rfl rfl (by decide) m6_133 d_Ker_partner_44 ?_
        refine lv_imul S.x S.b d_Ker_partner_47 ?_
        have lr6 := Int32.le_toInt ((RF ip) 8)
        have ur6 := Int32.toInt_lt ((RF ip) 8)
        refine lv_topi (fun z7 ez7 => ?_)
        have lz7 := Int32.le_toInt z7
        have uz7 := Int32.toInt_lt z7
        have tz7 : -2147483648 ≤ 3 * ((RF ip) 8).toInt → 3 * ((RF ip) 8).toInt < 2147483648 → z7.toInt = 3 * ((RF ip) 8).toInt := by rw [ez7]; exact i_mulc 3 ((RF ip) 8) (by decide)
        try replace tz7 : z7.toInt = 3 * ((RF ip) 8).toInt := by omega
        refine lv_iload_n S.x S.b d_Ker_partner_48 rfl (lv_at hl 0 rfl) ?_
        refine lv_iadd S.x S.b d_Ker_partner_49 ?_
        have lr8 := Int32.le_toInt ((RF ip) 16)
        have ur8 := Int32.toInt_lt ((RF ip) 16)
        refine lv_topi (fun z9 ez9 => ?_)
        have tz9 : z9.toInt = (z7.toInt + ((RF ip) 16).toInt + 2147483648) % 4294967296 - 2147483648 := by rw [ez9]; exact i_add z7 ((RF ip) 16)
        have lz9 := Int32.le_toInt z9
        have uz9 := Int32.toInt_lt z9
        try replace tz9 : z9.toInt = z7.toInt + ((RF ip) 16).toInt := by omega
        refine lv_goto (tgt := 54) S.x S.b d_Ker_partner_50 (by decide) ?_
        have hw : pw D A s.heap _ _ [wd_Ker cs hk kr (fun _ => none) kf ka (gKe pq pz tq rq), fm 13 (fTx cs tq TR TO TF TA), fm 8 (fPp cs pq PV), fm 13 (fRw cs rq RR RM RW RF RA RC)] := frw_back (pr := [wd_Ker cs hk kr (fun _ => none) kf ka (gKe pq pz tq rq), fm 13 (fTx cs tq TR TO TF TA), fm 8 (fPp cs pq PV)]) hw hip hcu.1 hto1
        have hw : pw D A s.heap _ _ [wd_Ker cs hk kr (fun _ => none) kf ka (gKe pq pz tq rq), fm 13 (fTx cs tq TR TO TF TA), fm 13 (fRw cs rq RR RM RW RF RA RC), fm 8 (fPp cs pq PV)] := hw.sub [0, 1, 3, 2] rfl rfl
        exact px_iret (v := z9) S hr rfl hlk hAe hw (Nat.le_of_ble_eq_true rfl) (Nat.le_of_ble_eq_true rfl) (⟨rfl, (show -1 ≤ z9.toInt from by first | exact oz_4bc36f64a0 tz9 nc4 tz7 hid2 | omega), (show z9.toInt ≤ 12 from by first | with_reducible rfl | with_reducible assumption | omega)⟩) d_Ker_partner_54
  · have nc3 : ((RF ip) 16).toInt = (0 : Int) := (i_eq (x := ((RF ip) 16)) (y := 0)).mp c3
    refine lv_aload_n S.x S.b d_Ker_partner_9 rfl (lv_at hl 2 rfl) ?_
    refine px_get S k_Raw hT hw 4 0 8 (v := .int ((RF ip) 8)) rfl rfl rfl (by decide) m6_133 d_Ker_partner_10 ?_
    refine lv_if_ne (tgt := 20) S.x S.b d_Ker_partner_13 (by decide) (fun c10 => ?_) (fun c10 => ?_)
    · have nc10 : ¬ ((RF ip) 8).toInt = (0 : Int) := mt (i_eq (x := ((RF ip) 8)) (y := 0)).mpr c10
      refine lv_aload_n S.x S.b d_Ker_partner_20 rfl (lv_at hl 2 rfl) ?_
      refine px_get S k_Raw hT hw 4 0 8 (v := .int ((RF ip) 8)) rfl rfl rfl (by decide) m6_133 d_Ker_partner_21 ?_
      refine lv_iconst (v := 1) S.x S.b d_Ker_partner_24 (by decide) ?_
      refine lv_isub S.x S.b d_Ker_partner_25 ?_
      have lr11 := Int32.le_toInt ((RF ip) 8)
      have ur11 := Int32.toInt_lt ((RF ip) 8)
      refine lv_topi (fun z12 ez12 => ?_)
      have tz12 : z12.toInt = (((RF ip) 8).toInt - (1 : Int) + 2147483648) % 4294967296 - 2147483648 := by rw [ez12]; exact i_sub ((RF ip) 8) 1
      have lz12 := Int32.le_toInt z12
      have uz12 := Int32.toInt_lt z12
      try replace tz12 : z12.toInt = ((RF ip) 8).toInt - (1 : Int) := by omega
      refine lv_iconst (v := 3) S.x S.b d_Ker_partner_26 (by decide) ?_
      refine lv_idiv S.x S.b d_Ker_partner_27 (by decide) ?_
      refine lv_topi (fun z13 ez13 => ?_)
      have lz13 := Int32.le_toInt z13
      have uz13 := Int32.toInt_lt z13
      have tz13 : 0 ≤ z12.toInt → z13.toInt = z12.toInt / 3 := (by intro h9; rw [ez13]; exact i_idiv9 h9 (y := 3) (d := 3) (by decide) (by decide))
      try replace tz13 := tz13 (by omega)
      have hw : pw D A s.heap _ _ [wd_Ker cs hk kr (fun _ => none) kf ka (gKe pq pz tq rq), fm 13 (fTx cs tq TR TO TF TA), fm 8 (fPp cs pq PV), fm 13 (fRw cs rq RR RM RW RF RA RC)] := frw_back (pr := [wd_Ker cs hk kr (fun _ => none) kf ka (gKe pq pz tq rq), fm 13 (fTx cs tq TR TO TF TA), fm 8 (fPp cs pq PV)]) hw hip hcu.1 hto1
      have hw : pw D A s.heap _ _ [wd_Ker cs hk kr (fun _ => none) kf ka (gKe pq pz tq rq), fm 13 (fTx cs tq TR TO TF TA), fm 13 (fRw cs rq RR RM RW RF RA RC), fm 8 (fPp cs pq PV)] := hw.sub [0, 1, 3, 2] rfl rfl
      exact px_iret (v := z13) S hr rfl hlk hAe hw (Nat.le_of_ble_eq_true rfl) (Nat.le_of_ble_eq_true rfl) (⟨rfl, (show -1 ≤ z13.toInt from by first | with_reducible rfl | with_reducible assumption | omega), (show z13.toInt ≤ 12 from by first | with_reducible rfl | with_reducible assumption | omega)⟩) d_Ker_partner_28
    · have nc10 : ((RF ip) 8).toInt = (0 : Int) := (i_eq (x := ((RF ip) 8)) (y := 0)).mp c10
      refine lv_iconst (v := (-1)) S.x S.b d_Ker_partner_16 (by decide) ?_
      refine lv_goto (tgt := 28) S.x S.b d_Ker_partner_17 (by decide) ?_
      have hw : pw D A s.heap _ _ [wd_Ker cs hk kr (fun _ => none) kf ka (gKe pq pz tq rq), fm 13 (fTx cs tq TR TO TF TA), fm 8 (fPp cs pq PV), fm 13 (fRw cs rq RR RM RW RF RA RC)] := frw_back (pr := [wd_Ker cs hk kr (fun _ => none) kf ka (gKe pq pz tq rq), fm 13 (fTx cs tq TR TO TF TA), fm 8 (fPp cs pq PV)]) hw hip hcu.1 hto1
      have hw : pw D A s.heap _ _ [wd_Ker cs hk kr (fun _ => none) kf ka (gKe pq pz tq rq), fm 13 (fTx cs tq TR TO TF TA), fm 13 (fRw cs rq RR RM RW RF RA RC), fm 8 (fPp cs pq PV)] := hw.sub [0, 1, 3, 2] rfl rfl
      exact px_iret (v := (-1)) S hr rfl hlk hAe hw (Nat.le_of_ble_eq_true rfl) (Nat.le_of_ble_eq_true rfl) (⟨rfl, (show -1 ≤ (-1 : Int) from by first | decide | omega), (show (-1 : Int) ≤ 12 from by first | decide | omega)⟩) d_Ker_partner_28
abbrev b_Ker_send : ByteArray := prog_4_method_8_code
def y_Ker_send : MethodName := ⟨"HomeSystem$Kernel", "send", "(LHomeSystem$AnyProcess;II)Z"⟩
theorem d_Ker_send_0 : decode b_Ker_send 0 = .ok (.iload_n 2, 1) := by decide +kernel
theorem d_Ker_send_1 : decode b_Ker_send 1 = .ok (.iconst (-1), 1) := by decide +kernel
theorem d_Ker_send_2 : decode b_Ker_send 2 = .ok (.if_icmp .ne 11, 3) := by decide +kernel
theorem d_Ker_send_5 : decode b_Ker_send 5 = .ok (.aload_n 1, 1) := by decide +kernel
theorem d_Ker_send_6 : decode b_Ker_send 6 = .ok (.iconst 2, 1) := by decide +kernel
theorem d_Ker_send_7 : decode b_Ker_send 7 = .ok (.iconst 0, 1) := by decide +kernel
theorem d_Ker_send_8 : decode b_Ker_send 8 = .ok (.invokevirtual 74, 3) := by decide +kernel
theorem d_Ker_send_11 : decode b_Ker_send 11 = .ok (.iconst 1, 1) := by decide +kernel
theorem d_Ker_send_12 : decode b_Ker_send 12 = .ok (.ireturn, 1) := by decide +kernel
theorem d_Ker_send_13 : decode b_Ker_send 13 = .ok (.aload_n 0, 1) := by decide +kernel
theorem d_Ker_send_14 : decode b_Ker_send 14 = .ok (.iload_n 2, 1) := by decide +kernel
theorem d_Ker_send_15 : decode b_Ker_send 15 = .ok (.invokevirtual 70, 3) := by decide +kernel
theorem d_Ker_send_18 : decode b_Ker_send 18 = .ok (.ifCond .eq 53, 3) := by decide +kernel
theorem d_Ker_send_21 : decode b_Ker_send 21 = .ok (.aload_n 0, 1) := by decide +kernel
theorem d_Ker_send_22 : decode b_Ker_send 22 = .ok (.getfield 45, 3) := by decide +kernel
theorem d_Ker_send_25 : decode b_Ker_send 25 = .ok (.iload_n 3, 1) := by decide +kernel
theorem d_Ker_send_26 : decode b_Ker_send 26 = .ok (.iaload, 1) := by decide +kernel
theorem d_Ker_send_27 : decode b_Ker_send 27 = .ok (.iconst 4, 1) := by decide +kernel
theorem d_Ker_send_28 : decode b_Ker_send 28 = .ok (.if_icmp .ne 5, 3) := by decide +kernel
theorem d_Ker_send_31 : decode b_Ker_send 31 = .ok (.iconst 0, 1) := by decide +kernel
theorem d_Ker_send_32 : decode b_Ker_send 32 = .ok (.ireturn, 1) := by decide +kernel
theorem d_Ker_send_33 : decode b_Ker_send 33 = .ok (.aload_n 0, 1) := by decide +kernel
theorem d_Ker_send_34 : decode b_Ker_send 34 = .ok (.getfield 39, 3) := by decide +kernel
theorem d_Ker_send_37 : decode b_Ker_send 37 = .ok (.iconst 4, 1) := by decide +kernel
theorem d_Ker_send_38 : decode b_Ker_send 38 = .ok (.iload_n 3, 1) := by decide +kernel
theorem d_Ker_send_39 : decode b_Ker_send 39 = .ok (.imul, 1) := by decide +kernel
theorem d_Ker_send_40 : decode b_Ker_send 40 = .ok (.aload_n 0, 1) := by decide +kernel
theorem d_Ker_send_41 : decode b_Ker_send 41 = .ok (.getfield 42, 3) := by decide +kernel
theorem d_Ker_send_44 : decode b_Ker_send 44 = .ok (.iload_n 3, 1) := by decide +kernel
theorem d_Ker_send_45 : decode b_Ker_send 45 = .ok (.iaload, 1) := by decide +kernel
theorem d_Ker_send_46 : decode b_Ker_send 46 = .ok (.aload_n 0, 1) := by decide +kernel
theorem d_Ker_send_47 : decode b_Ker_send 47 = .ok (.getfield 45, 3) := by decide +kernel
theorem d_Ker_send_50 : decode b_Ker_send 50 = .ok (.iload_n 3, 1) := by decide +kernel
theorem d_Ker_send_51 : decode b_Ker_send 51 = .ok (.iaload, 1) := by decide +kernel
theorem d_Ker_send_52 : decode b_Ker_send 52 = .ok (.iadd, 1) := by decide +kernel
theorem d_Ker_send_53 : decode b_Ker_send 53 = .ok (.iconst 4, 1) := by decide +kernel
theorem d_Ker_send_54 : decode b_Ker_send 54 = .ok (.irem, 1) := by decide +kernel
theorem d_Ker_send_55 : decode b_Ker_send 55 = .ok (.iadd, 1) := by decide +kernel
theorem d_Ker_send_56 : decode b_Ker_send 56 = .ok (.aload_n 1, 1) := by decide +kernel
theorem d_Ker_send_57 : decode b_Ker_send 57 = .ok (.getfield 120, 3) := by decide +kernel
theorem d_Ker_send_60 : decode b_Ker_send 60 = .ok (.iastore, 1) := by decide +kernel
theorem d_Ker_send_61 : decode b_Ker_send 61 = .ok (.aload_n 0, 1) := by decide +kernel
theorem d_Ker_send_62 : decode b_Ker_send 62 = .ok (.getfield 45, 3) := by decide +kernel
theorem d_Ker_send_65 : decode b_Ker_send 65 = .ok (.iload_n 3, 1) := by decide +kernel
theorem d_Ker_send_66 : decode b_Ker_send 66 = .ok (.dup2, 1) := by decide +kernel
theorem d_Ker_send_67 : decode b_Ker_send 67 = .ok (.iaload, 1) := by decide +kernel
theorem d_Ker_send_68 : decode b_Ker_send 68 = .ok (.iconst 1, 1) := by decide +kernel
theorem d_Ker_send_69 : decode b_Ker_send 69 = .ok (.iadd, 1) := by decide +kernel
theorem d_Ker_send_70 : decode b_Ker_send 70 = .ok (.iastore, 1) := by decide +kernel
theorem d_Ker_send_71 : decode b_Ker_send 71 = .ok (.aload_n 1, 1) := by decide +kernel
theorem d_Ker_send_72 : decode b_Ker_send 72 = .ok (.iconst 0, 1) := by decide +kernel
theorem d_Ker_send_73 : decode b_Ker_send 73 = .ok (.invokevirtual 117, 3) := by decide +kernel
theorem d_Ker_send_76 : decode b_Ker_send 76 = .ok (.iconst 1, 1) := by decide +kernel
theorem d_Ker_send_77 : decode b_Ker_send 77 = .ok (.ireturn, 1) := by decide +kernel
theorem q_Ker_send : px_y y_Ker_send 3 := by unfold px_y; decide +kernel
set_option maxHeartbeats 4000000 in
set_option maxRecDepth 100000 in
theorem c_k_send_T (l : Launch) (D : va_G) (cs : Nat → ClassId) (hk : Nat) (kr : Nat → Nat) (pq : Nat → Option Nat) (kf : Nat → Int32) (PV : Nat → Pvs) (pz : Nat → Option Nat) (tq : Nat → Option Nat) (rq : Nat → Option Nat) (ka : Nat → Nat → Int32) (TR : Nat → Nat → Nat) (TO : Nat → Option Nat) (TF : Nat → Nat → Int32) (TA : Nat → Nat → Nat → Int32) (RR : Nat → Nat → Nat) (RM : Nat → Option Nat) (RW : Nat → Option Nat) (RF : Nat → Nat → Int32) (RA : Nat → Nat → Nat → Int32) (RC : Nat → Nat → Int32) (p0 p1 : Int32) (ip hx : Nat) (g0 : p0.toInt = -1 ∨ (0 ≤ p0.toInt ∧ p0.toInt ≤ 12 ∧ 0 ≤ p1.toInt ∧ p1.toInt ≤ 25)) (g1 : (TF ip 21).toInt = 1) (hki : KnI pq PV pz tq rq TO TF TA RW RF) (hro : RoI ka) (hrm : RmI rq RM) (hip : ip < 13) (hcu : CuT pq PV tq TO ip hx) : MgI l y_Ker_send b_Ker_send 4 (.boolean) D cs 4 160 ((5 * ndS 13 tq + 4 * ndS 13 rq + ndS 13 RM)) ((9804 * ndS 13 tq + 342 * ndS 13 rq + 36864 * ndS 13 RM)) [.ref hk, .ref hx, .int p0, .int p1] [wd_Ker cs hk kr (fun _ => none) kf ka (gKe pq pz tq rq), fm 13 (fTx cs tq TR TO TF TA), fm 13 (fRw cs rq RR RM RW RF RA RC), fm 8 (fPp cs pq PV)] (fun _ => True) (fun v ps => ∃ (pz' : Nat → Option Nat) (tq' : Nat → Option Nat) (rq' : Nat → Option Nat) (ka' : Nat → Nat → Int32) (TR' : Nat → Nat → Nat) (TO' : Nat → Option Nat) (TF' : Nat → Nat → Int32) (TA' : Nat → Nat → Nat → Int32) (RR' : Nat → Nat → Nat) (RM' : Nat → Option Nat) (RW' : Nat → Option Nat) (RF' : Nat → Nat → Int32) (RA' : Nat → Nat → Nat → Int32) (RC' : Nat → Nat → Int32), (ps.1 = [wd_Ker cs hk kr (fun _ => none) kf ka' (gKe pq pz' tq' rq'), fm 13 (fTx cs tq' TR' TO' TF' TA'), fm 13 (fRw cs rq' RR' RM' RW' RF' RA' RC'), fm 8 (fPp cs pq PV)]) ∧ (v = 0 ∨ v = 1) ∧ (CuT pq PV tq' TO' ip hx) ∧ (KnI pq PV pz' tq' rq' TO' TF' TA' RW' RF') ∧ (RoI ka') ∧ (RmI rq' RM') ∧ (ps.2.1 + (5 * ndS 13 tq' + 4 * ndS 13 rq' + ndS 13 RM') ≤ 5 * ndS 13 tq + 4 * ndS 13 rq + ndS 13 RM) ∧ (ps.2.2 + (9804 * ndS 13 tq' + 342 * ndS 13 rq' + 36864 * ndS 13 RM') ≤ 9804 * ndS 13 tq + 342 * ndS 13 rq + 36864 * ndS 13 RM)) := by
  refine pg_enter (by decide) (Nat.le_of_ble_eq_true rfl) ?_
  intro p e s m below meth c A ls hAe S hr hlk hnm hA hT hX hw hl
  replace hl : lv_has ls 4 [(0, .ref hk), (1, .ref hx), (2, .int p0), (3, .int p1)] := hl
  have lp0 := Int32.le_toInt p0
  have up0 := Int32.toInt_lt p0
  have lp1 := Int32.le_toInt p1
  have up1 := Int32.toInt_lt p1
  have cstm1 : ((-1) : Int32).toInt = (-1) := rfl
  have cst0 : (0 : Int32).toInt = 0 := rfl
  have cst1 : (1 : Int32).toInt = 1 := rfl
  have cst2 : (2 : Int32).toInt = 2 := rfl
  have cst4 : (4 : Int32).toInt = 4 := rfl
  refine lv_iload_n S.x S.b d_Ker_send_0 rfl (lv_at hl 2 rfl) ?_
  obtain ⟨j1, hp1, hj1, hjq1, hto1, hf01⟩ := hcu.2
  refine lv_iconst (v := (-1)) S.x S.b d_Ker_send_1 (by decide) ?_
  refine lv_icmp_ne (tgt := 13) S.x S.b d_Ker_send_2 (by decide) (fun c2 => ?_) (fun c2 => ?_)
  · have nc2 : ¬ p0.toInt = (-1 : Int) := mt (i_eq (x := p0) (y := (-1))).mpr c2
    refine lv_aload_n S.x S.b d_Ker_send_13 rfl (lv_at hl 0 rfl) ?_
    refine lv_iload_n S.x S.b d_Ker_send_14 rfl (lv_at hl 2 rfl) ?_
    refine px_calli (pr := []) (px_runV (As := [.int p0]) (rest := []) S (c_k_isRunning l D cs hk kr pq pz tq rq kf ka TR TO TF TA RR RM RW RF RA RC PV p0  (show 0 ≤ p0.toInt from by first | with_reducible rfl | with_reducible assumption | omega) (show p0.toInt ≤ 12 from by first | with_reducible rfl | with_reducible assumption | omega) hki _) hT (pr := []) (pcs := [wd_Ker cs hk kr (fun _ => none) kf ka (gKe pq pz tq rq), fm 13 (fTx cs tq TR TO TF TA), fm 13 (fRw cs rq RR RM RW RF RA RC), fm 8 (fPp cs pq PV)]) hw px_X.tt (px_recv hT hw 0 0 rfl rfl rfl) m8_154 m8_151 m8_153 ms_6_1 m1_19 q_Ker_isRunning ⟨Nat.le_of_ble_eq_true rfl, Nat.le_of_ble_eq_true rfl⟩ hl.1 rfl (Nat.le_of_ble_eq_true rfl) d_Ker_send_15 ⟨show 0 + 0 ≤ (5 * ndS 13 tq + 4 * ndS 13 rq + ndS 13 RM) from by first | with_reducible rfl | with_reducible assumption | omega, show 0 + 0 ≤ (9804 * ndS 13 tq + 342 * ndS 13 rq + 36864 * ndS 13 RM) from by first | with_reducible rfl | with_reducible assumption | omega⟩) hw hA (fun v4 p3 H locs hp3 hw => ?_)
    obtain ⟨rfl, e5, e6⟩ := hp3
    have e5 := z_rng e5
    replace e6 : NnP pz p0 v4 := e6
    replace hw : pw D A s.heap H locs [wd_Ker cs hk kr (fun _ => none) kf ka (gKe pq pz tq rq), fm 13 (fTx cs tq TR TO TF TA), fm 13 (fRw cs rq RR RM RW RF RA RC), fm 8 (fPp cs pq PV)] := hw
    have lv4 := Int32.le_toInt v4
    have uv4 := Int32.toInt_lt v4
    refine lv_if_eq (tgt := 71) S.x S.b d_Ker_send_18 (by decide) (fun c7 => ?_) (fun c7 => ?_)
    · have nc7 : v4.toInt = (0 : Int) := (i_eq (x := v4) (y := 0)).mp c7
      refine lv_aload_n S.x S.b d_Ker_send_71 rfl (lv_at hl 1 rfl) ?_
      refine lv_iconst (v := 0) S.x S.b d_Ker_send_72 (by decide) ?_
      have hw : pw D A s.heap _ _ [wd_Ker cs hk kr (fun _ => none) kf ka (gKe pq pz tq rq), fm 13 (fRw cs rq RR RM RW RF RA RC), fm 8 (fPp cs pq PV), fm 13 (fTx cs tq TR TO TF TA)] := hw.sub [0, 2, 3, 1] rfl rfl
      have hw : pw D A s.heap _ _ [wd_Ker cs hk kr (fun _ => none) kf ka (gKe pq pz tq rq), fm 13 (fRw cs rq RR RM RW RF RA RC), fm 8 (fPp cs pq PV), fo 13 (fTx cs tq TR TO TF TA) ip, wd_Txp cs hx (TR ip) (fun k => if k = 3 then (some hp1) else none) (TF ip) (TA ip) (fun _ _ => none)] := ftx_out (pr := [wd_Ker cs hk kr (fun _ => none) kf ka (gKe pq pz tq rq), fm 13 (fRw cs rq RR RM RW RF RA RC), fm 8 (fPp cs pq PV)]) hw hip hcu.1 hto1
      have htn8 : TxN ip (TF ip) (TA ip) := hki.2.1 ip hip _ hcu.1
      obtain ⟨lk, ⟨i2, i3⟩, ⟨i4, i5⟩, ⟨i6, i7⟩, i8, ⟨i9, i11⟩, i10, hrt⟩ := htn8.1
      have hid8 := htn8.2.1
      have hch8 := htn8.2.2
      unfold KcI at hch8
      refine px_callv (pr := [wd_Ker cs hk kr (fun _ => none) kf ka (gKe pq pz tq rq), fm 13 (fRw cs rq RR RM RW RF RA RC), fm 8 (fPp cs pq PV), fo 13 (fTx cs tq TR TO TF TA) ip]) (px_runA (As := [.int 0]) (rest := []) S (c_Txp_answer l D cs hx (TR ip) (fun _ _ => none) hp1 (TF ip) (TA ip) 0  (show TxOk ((TF ip) 4) ((TF ip) 5) ((TF ip) 8) ((TF ip) 9) ((TF ip) 17) 0 ((TA ip) 2) from ⟨(by first | exact lk | exact lk_eq lk (by omega) | exact lk_mk (by omega)), ⟨by omega, by omega⟩, ⟨by omega, by omega⟩, ⟨by omega, by omega⟩, by omega, ⟨by decide, by decide⟩, (by show _ + _ + (0 : Int) ≤ 100; omega), hrt⟩) _) hT (pr := [wd_Ker cs hk kr (fun _ => none) kf ka (gKe pq pz tq rq), fm 13 (fRw cs rq RR RM RW RF RA RC), fm 8 (fPp cs pq PV), fo 13 (fTx cs tq TR TO TF TA) ip]) (pcs := [wd_Txp cs hx (TR ip) (fun k => if k = 3 then (some hp1) else none) (TF ip) (TA ip) (fun _ _ => none)]) hw px_X.tt (C := "HomeSystem$TextProcess") (owner := "HomeSystem$AnyProcess") (x := ⟨"HomeSystem$AnyProcess", "answer", "(I)V"⟩) (px_recv hT hw 4 0 rfl rfl rfl) m8_75 m8_67 m8_69 m8_74 m8_73 m1_35 m8_68n ⟨by decide, by decide⟩ rfl q_Txp_answer ⟨Nat.le_of_ble_eq_true rfl, Nat.le_of_ble_eq_true rfl⟩ hl.1 rfl (Nat.le_of_ble_eq_true rfl) d_Ker_send_73 ⟨show 0 + 0 ≤ (5 * ndS 13 tq + 4 * ndS 13 rq + ndS 13 RM) from by first | with_reducible rfl | with_reducible assumption | omega, show 0 + 0 ≤ (9804 * ndS 13 tq + 342 * ndS 13 rq + 36864 * ndS 13 RM) from by first | with_reducible rfl | with_reducible assumption | omega⟩) hw hA (fun p13 H locs hp13 hw => ?_)
      obtain ⟨f11, a12, rfl, e15, e16, e17, e18, e19, e20⟩ := hp13
      replace e15 : TxOk (f11 4) (f11 5) (f11 8) (f11 9) (f11 17) (f11 21) (a12 2) := e15
      obtain ⟨lk, ⟨i2, i3⟩, ⟨i4, i5⟩, ⟨i6, i7⟩, i8, ⟨i9, i11⟩, i10, hrt⟩ := e15
      replace e16 : (f11 9).toInt = ((TF ip) 9).toInt := e16
      replace e17 : (f11 17).toInt = ((TF ip) 17).toInt := e17
      replace e18 : (f11 21).toInt = 0 := e18
      replace e19 : (f11 15).toInt = ((TF ip) 15).toInt := e19
      replace e20 : (f11 20).toInt = ((TF ip) 20).toInt := e20
      replace hw : pw D A s.heap H locs [wd_Ker cs hk kr (fun _ => none) kf ka (gKe pq pz tq rq), fm 13 (fRw cs rq RR RM RW RF RA RC), fm 8 (fPp cs pq PV), fo 13 (fTx cs tq TR TO TF TA) ip, wd_Txp cs hx (TR ip) (fun k => if k = 3 then (some hp1) else none) f11 a12 (fun _ _ => none)] := hw
      refine lv_iconst (v := 1) S.x S.b d_Ker_send_76 (by decide) ?_
      have hw := ftx_in0 (pr := [wd_Ker cs hk kr (fun _ => none) kf ka (gKe pq pz tq rq), fm 13 (fRw cs rq RR RM RW RF RA RC), fm 8 (fPp cs pq PV)]) hw hip hcu.1 hto1
      obtain ⟨TF21, hu_TF21⟩ : ∃ y : Nat → Nat → Int32, y = va_up TF ip f11 := ⟨_, rfl⟩
      obtain ⟨TA22, hu_TA22⟩ : ∃ y : Nat → Nat → Nat → Int32, y = va_up TA ip a12 := ⟨_, rfl⟩
      have hw : pw D A s.heap _ _ [wd_Ker cs hk kr (fun _ => none) kf ka (gKe pq pz tq rq), fm 13 (fRw cs rq RR RM RW RF RA RC), fm 8 (fPp cs pq PV), fm 13 (fTx cs tq TR TO TF21 TA22)] := (by rw [hu_TF21, hu_TA22]; exact hw)
      have hki : KnI pq PV pz tq rq TO TF21 TA22 RW RF := (by rw [hu_TF21, hu_TA22]; exact hki.upT (show TxN ip f11 a12 from ⟨(show TxOk (f11 4) (f11 5) (f11 8) (f11 9) (f11 17) (f11 21) (a12 2) from ⟨(by first | exact lk | exact lk_eq lk (by omega) | exact lk_mk (by omega)), ⟨by omega, by omega⟩, ⟨by omega, by omega⟩, ⟨by omega, by omega⟩, by omega, ⟨by omega, by omega⟩, by omega, hrt⟩), (show ((f11 15).toInt) = ((ip : Nat) : Int) from by first | with_reducible rfl | with_reducible assumption | omega), (show 0 ≤ (f11 20).toInt ∧ (f11 20).toInt ≤ 3 ∧ ((f11 20).toInt = 0 ∨ 3 * ((ip : Nat) : Int) + (f11 20).toInt ≤ 12) from by first | with_reducible rfl | with_reducible assumption | omega)⟩))
      have hz21_TF21 : (TF21 ip 21).toInt = (f11 21).toInt := (by rw [hu_TF21, va_up_s]; try rfl)
      have hw : pw D A s.heap _ _ [wd_Ker cs hk kr (fun _ => none) kf ka (gKe pq pz tq rq), fm 13 (fTx cs tq TR TO TF21 TA22), fm 13 (fRw cs rq RR RM RW RF RA RC), fm 8 (fPp cs pq PV)] := hw.sub [0, 3, 1, 2] rfl rfl
      exact pg_iret (v := 1) S hr rfl hlk hAe hw (show 0 ≤ (5 * ndS 13 tq + 4 * ndS 13 rq + ndS 13 RM) from by first | exact oz_86e49526c7 | omega) (show 0 ≤ (9804 * ndS 13 tq + 342 * ndS 13 rq + 36864 * ndS 13 RM) from by first | exact oz_fc3b58e969 | omega) (⟨pz, tq, rq, ka, TR, TO, TF21, TA22, RR, RM, RW, RF, RA, RC, rfl, (show (1 : Int32) = 0 ∨ (1 : Int32) = 1 from by first | exact Or.inl rfl | exact Or.inr rfl | exact z_or (by omega)), (show CuT pq PV tq TO ip hx from hcu), (show KnI pq PV pz tq rq TO TF21 TA22 RW RF from hki), (show RoI ka from hro), (show RmI rq RM from hrm), (show 0 + (5 * ndS 13 tq + 4 * ndS 13 rq + ndS 13 RM) ≤ 5 * ndS 13 tq + 4 * ndS 13 rq + ndS 13 RM from by first | exact oz_9d19b050ad | omega), (show 0 + (9804 * ndS 13 tq + 342 * ndS 13 rq + 36864 * ndS 13 RM) ≤ 9804 * ndS 13 tq + 342 * ndS 13 rq + 36864 * ndS 13 RM from by first | exact oz_b5592d0ae7 | omega)⟩) d_Ker_send_77
    · have nc7 : ¬ v4.toInt = (0 : Int) := mt (i_eq (x := v4) (y := 0)).mpr c7
      refine lv_aload_n S.x S.b d_Ker_send_21 rfl (lv_at hl 0 rfl) ?_
      refine px_get S k_Ker hT hw 0 0 7 (v := .ref (kr 7)) rfl rfl rfl (by decide) m2_228 d_Ker_send_22 ?_
      refine lv_iload_n S.x S.b d_Ker_send_25 rfl (lv_at hl 3 rfl) ?_
      refine px_iald S hT hw 0 8 (n := 26) (f := (ka 7)) rfl (ga_Ker_7 _ _ _ _ _ _ _) (x := p1) (vp_in_iff.mpr (by constructor <;> omega)) d_Ker_send_26 ?_
      refine lv_topi (fun z23 ez23 => ?_)
      have lz23 := Int32.le_toInt z23
      have uz23 := Int32.toInt_lt z23
      have qz23 := hro.at7 (x := p1) (by omega) (by omega) ez23
      refine lv_iconst (v := 4) S.x S.b d_Ker_send_27 (by decide) ?_
      refine lv_icmp_ne (tgt := 33) S.x S.b d_Ker_send_28 (by decide) (fun c24 => ?_) (fun c24 => ?_)
      · have nc24 : ¬ z23.toInt = (4 : Int) := mt (i_eq (x := z23) (y := 4)).mpr c24
        refine lv_aload_n S.x S.b d_Ker_send_33 rfl (lv_at hl 0 rfl) ?_
        refine px_get S k_Ker hT hw 0 0 5 (v := .ref (kr 5)) rfl rfl rfl (by decide) m2_226 d_Ker_send_34 ?_
        refine lv_iconst (v := 4) S.x S.b d_Ker_send_37 (by decide) ?_
        refine lv_iload_n S.x S.b d_Ker_send_38 rfl (lv_at hl 3 rfl) ?_
        refine lv_imul S.x S.b d_Ker_send_39 ?_
        refine lv_topi (fun z25 ez25 => ?_)
        have lz25 := Int32.le_toInt z25
        have uz25 := Int32.toInt_lt z25
        have tz25 : -2147483648 ≤ 4 * p1.toInt → 4 * p1.toInt < 2147483648 → z25.toInt = 4 * p1.toInt := by rw [ez25]; exact i_mulc 4 p1 (by decide)
        try replace tz25 : z25.toInt = 4 * p1.toInt := by omega
        refine lv_aload_n S.x S.b d_Ker_send_40 rfl (lv_at hl 0 rfl) ?_
        refine px_get S k_Ker hT hw 0 0 6 (v := .ref (kr 6)) rfl rfl rfl (by decide) m2_227 d_Ker_send_41 ?_
        refine lv_iload_n S.x S.b d_Ker_send_44 rfl (lv_at hl 3 rfl) ?_
        refine px_iald S hT hw 0 7 (n := 26) (f := (ka 6)) rfl (ga_Ker_6 _ _ _ _ _ _ _) (x := p1) (vp_in_iff.mpr (by constructor <;> omega)) d_Ker_send_45 ?_
        refine lv_topi (fun z26 ez26 => ?_)
        have lz26 := Int32.le_toInt z26
        have uz26 := Int32.toInt_lt z26
        have qz26 := hro.at6 (x := p1) (by omega) (by omega) ez26
        refine lv_aload_n S.x S.b d_Ker_send_46 rfl (lv_at hl 0 rfl) ?_
        refine px_get S k_Ker hT hw 0 0 7 (v := .ref (kr 7)) rfl rfl rfl (by decide) m2_228 d_Ker_send_47 ?_
        refine lv_iload_n S.x S.b d_Ker_send_50 rfl (lv_at hl 3 rfl) ?_
        refine px_iald S hT hw 0 8 (n := 26) (f := (ka 7)) rfl (ga_Ker_7 _ _ _ _ _ _ _) (x := p1) (vp_in_iff.mpr (by constructor <;> omega)) d_Ker_send_51 ?_
        refine lv_topi (fun z27 ez27 => ?_)
        have lz27 := Int32.le_toInt z27
        have uz27 := Int32.toInt_lt z27
        have qz27 := hro.at7 (x := p1) (by omega) (by omega) ez27
        refine lv_iadd S.x S.b d_Ker_send_52 ?_
        refine lv_topi (fun z28 ez28 => ?_)
        have tz28 : z28.toInt = (z26.toInt + z27.toInt + 2147483648) % 4294967296 - 2147483648 := by rw [ez28]; exact i_add z26 z27
        have lz28 := Int32.le_toInt z28
        have uz28 := Int32.toInt_lt z28
        try replace tz28 : z28.toInt = z26.toInt + z27.toInt := by omega
        refine lv_iconst (v := 4) S.x S.b d_Ker_send_53 (by decide) ?_
        refine lv_irem S.x S.b d_Ker_send_54 (by decide) ?_
        refine lv_topi (fun z29 ez29 => ?_)
        have lz29 := Int32.le_toInt z29
        have uz29 := Int32.toInt_lt z29
        have tz29 : 0 ≤ z28.toInt → z29.toInt = z28.toInt % 4 := (by intro h9; rw [ez29]; exact i_irem9 h9 (y := 4) (d := 4) (by decide) (by decide))
        try replace tz29 := tz29 (by omega)
        refine lv_iadd S.x S.b d_Ker_send_55 ?_
        refine lv_topi (fun z30 ez30 => ?_)
        have tz30 : z30.toInt = (z25.toInt + z29.toInt + 2147483648) % 4294967296 - 2147483648 := by rw [ez30]; exact i_add z25 z29
        have lz30 := Int32.le_toInt z30
        have uz30 := Int32.toInt_lt z30
        try replace tz30 : z30.toInt = z25.toInt + z29.toInt := by omega
        refine lv_aload_n S.x S.b d_Ker_send_56 rfl (lv_at hl 1 rfl) ?_
        have hw : pw D A s.heap _ _ [wd_Ker cs hk kr (fun _ => none) kf ka (gKe pq pz tq rq), fm 13 (fRw cs rq RR RM RW RF RA RC), fm 8 (fPp cs pq PV), fm 13 (fTx cs tq TR TO TF TA)] := hw.sub [0, 2, 3, 1] rfl rfl
        have hw : pw D A s.heap _ _ [wd_Ker cs hk kr (fun _ => none) kf ka (gKe pq pz tq rq), fm 13 (fRw cs rq RR RM RW RF RA RC), fm 8 (fPp cs pq PV), fo 13 (fTx cs tq TR TO TF TA) ip, wd_Txp cs hx (TR ip) (fun k => if k = 3 then (some hp1) else none) (TF ip) (TA ip) (fun _ _ => none)] := ftx_out (pr := [wd_Ker cs hk kr (fun _ => none) kf ka (gKe pq pz tq rq), fm 13 (fRw cs rq RR RM RW RF RA RC), fm 8 (fPp cs pq PV)]) hw hip hcu.1 hto1
        have htn31 : TxN ip (TF ip) (TA ip) := hki.2.1 ip hip _ hcu.1
        obtain ⟨lk, ⟨i2, i3⟩, ⟨i4, i5⟩, ⟨i6, i7⟩, i8, ⟨i9, i11⟩, i10, hrt⟩ := htn31.1
        have hid31 := htn31.2.1
        have hch31 := htn31.2.2
        unfold KcI at hch31
        refine px_get S k_Txp hT hw 4 0 24 (v := .int ((TF ip) 24)) rfl rfl rfl (by decide) m6_166 d_Ker_send_57 ?_
        refine px_iast S hT hw 0 6 (n := 104) (f := (ka 5)) (x := z30) (y := ((TF ip) 24)) rfl (ga_Ker_5 _ _ _ _ _ _ _) (vp_in_iff.mpr (by constructor <;> omega)) d_Ker_send_60 (w' := wd_Ker cs hk kr (fun _ => none) kf (va_up ka 5 (upd (ka 5) z30.toNatClampNeg ((TF ip) 24))) (gKe pq pz tq rq)) (ps' := [wd_Ker cs hk kr (fun _ => none) kf (va_up ka 5 (upd (ka 5) z30.toNatClampNeg ((TF ip) 24))) (gKe pq pz tq rq), fm 13 (fRw cs rq RR RM RW RF RA RC), fm 8 (fPp cs pq PV), fo 13 (fTx cs tq TR TO TF TA) ip, wd_Txp cs hx (TR ip) (fun k => if k = 3 then (some hp1) else none) (TF ip) (TA ip) (fun _ _ => none)]) (sa_Ker_5 _ _ _ _ _ _ _ _) rfl (fun H locs hw => ?_)
        have hro : RoI (va_up ka 5 (upd (ka 5) z30.toNatClampNeg ((TF ip) 24))) := hro.oth (by decide) (by decide)
        refine lv_aload_n S.x S.b d_Ker_send_61 rfl (lv_at hl 0 rfl) ?_
        refine px_get S k_Ker hT hw 0 0 7 (v := .ref (kr 7)) rfl rfl rfl (by decide) m2_228 d_Ker_send_62 ?_
        refine lv_iload_n S.x S.b d_Ker_send_65 rfl (lv_at hl 3 rfl) ?_
        refine lv_dup2_11 S.x S.b d_Ker_send_66 rfl rfl ?_
        refine px_iald S hT hw 0 8 (n := 26) (f := ((va_up ka 5 (upd (ka 5) z30.toNatClampNeg ((TF ip) 24))) 7)) rfl (ga_Ker_7 _ _ _ _ _ _ _) (x := p1) (vp_in_iff.mpr (by constructor <;> omega)) d_Ker_send_67 ?_
        refine lv_topi (fun z32 ez32 => ?_)
        have lz32 := Int32.le_toInt z32
        have uz32 := Int32.toInt_lt z32
        have qz32 := hro.at7 (x := p1) (by omega) (by omega) ez32
        have hlnk : z32.toInt = z23.toInt := (by rw [ez32, ez23, va_up_n (by decide)])
        refine lv_iconst (v := 1) S.x S.b d_Ker_send_68 (by decide) ?_
        refine lv_iadd S.x S.b d_Ker_send_69 ?_
        refine lv_topi (fun z33 ez33 => ?_)
        have tz33 : z33.toInt = (z32.toInt + (1 : Int) + 2147483648) % 4294967296 - 2147483648 := by rw [ez33]; exact i_add z32 1
        have lz33 := Int32.le_toInt z33
        have uz33 := Int32.toInt_lt z33
        try replace tz33 : z33.toInt = z32.toInt + (1 : Int) := by omega
        refine px_iast S hT hw 0 8 (n := 26) (f := ((va_up ka 5 (upd (ka 5) z30.toNatClampNeg ((TF ip) 24))) 7)) (x := p1) (y := z33) rfl (ga_Ker_7 _ _ _ _ _ _ _) (vp_in_iff.mpr (by constructor <;> omega)) d_Ker_send_70 (w' := wd_Ker cs hk kr (fun _ => none) kf (va_up (va_up ka 5 (upd (ka 5) z30.toNatClampNeg ((TF ip) 24))) 7 (upd ((va_up ka 5 (upd (ka 5) z30.toNatClampNeg ((TF ip) 24))) 7) p1.toNatClampNeg z33)) (gKe pq pz tq rq)) (ps' := [wd_Ker cs hk kr (fun _ => none) kf (va_up (va_up ka 5 (upd (ka 5) z30.toNatClampNeg ((TF ip) 24))) 7 (upd ((va_up ka 5 (upd (ka 5) z30.toNatClampNeg ((TF ip) 24))) 7) p1.toNatClampNeg z33)) (gKe pq pz tq rq), fm 13 (fRw cs rq RR RM RW RF RA RC), fm 8 (fPp cs pq PV), fo 13 (fTx cs tq TR TO TF TA) ip, wd_Txp cs hx (TR ip) (fun k => if k = 3 then (some hp1) else none) (TF ip) (TA ip) (fun _ _ => none)]) (sa_Ker_7 _ _ _ _ _ _ _ _) rfl (fun H locs hw => ?_)
        have hro : RoI (va_up (va_up ka 5 (upd (ka 5) z30.toNatClampNeg ((TF ip) 24))) 7 (upd ((va_up ka 5 (upd (ka 5) z30.toNatClampNeg ((TF ip) 24))) 7) p1.toNatClampNeg z33)) := hro.up7 (by omega) (by omega)
        refine lv_aload_n S.x S.b d_Ker_send_71 rfl (lv_at hl 1 rfl) ?_
        refine lv_iconst (v := 0) S.x S.b d_Ker_send_72 (by decide) ?_
        refine px_callv (pr := [wd_Ker cs hk kr (fun _ => none) kf (va_up (va_up ka 5 (upd (ka 5) z30.toNatClampNeg ((TF ip) 24))) 7 (upd ((va_up ka 5 (upd (ka 5) z30.toNatClampNeg ((TF ip) 24))) 7) p1.toNatClampNeg z33)) (gKe pq pz tq rq), fm 13 (fRw cs rq RR RM RW RF RA RC), fm 8 (fPp cs pq PV), fo 13 (fTx cs tq TR TO TF TA) ip]) (px_runA (As := [.int 0]) (rest := []) S (c_Txp_answer l D cs hx (TR ip) (fun _ _ => none) hp1 (TF ip) (TA ip) 0  (show TxOk ((TF ip) 4) ((TF ip) 5) ((TF ip) 8) ((TF ip) 9) ((TF ip) 17) 0 ((TA ip) 2) from ⟨(by first | exact lk | exact lk_eq lk (by omega) | exact lk_mk (by omega)), ⟨by omega, by omega⟩, ⟨by omega, by omega⟩, ⟨by omega, by omega⟩, by omega, ⟨by decide, by decide⟩, (by show _ + _ + (0 : Int) ≤ 100; omega), hrt⟩) _) hT (pr := [wd_Ker cs hk kr (fun _ => none) kf (va_up (va_up ka 5 (upd (ka 5) z30.toNatClampNeg ((TF ip) 24))) 7 (upd ((va_up ka 5 (upd (ka 5) z30.toNatClampNeg ((TF ip) 24))) 7) p1.toNatClampNeg z33)) (gKe pq pz tq rq), fm 13 (fRw cs rq RR RM RW RF RA RC), fm 8 (fPp cs pq PV), fo 13 (fTx cs tq TR TO TF TA) ip]) (pcs := [wd_Txp cs hx (TR ip) (fun k => if k = 3 then (some hp1) else none) (TF ip) (TA ip) (fun _ _ => none)]) hw px_X.tt (C := "HomeSystem$TextProcess") (owner := "HomeSystem$AnyProcess") (x := ⟨"HomeSystem$AnyProcess", "answer", "(I)V"⟩) (px_recv hT hw 4 0 rfl rfl rfl) m8_75 m8_67 m8_69 m8_74 m8_73 m1_35 m8_68n ⟨by decide, by decide⟩ rfl q_Txp_answer ⟨Nat.le_of_ble_eq_true rfl, Nat.le_of_ble_eq_true rfl⟩ hl.1 rfl (Nat.le_of_ble_eq_true rfl) d_Ker_send_73 ⟨show 0 + 0 ≤ (5 * ndS 13 tq + 4 * ndS 13 rq + ndS 13 RM) from by first | with_reducible rfl | with_reducible assumption | omega, show 0 + 0 ≤ (9804 * ndS 13 tq + 342 * ndS 13 rq + 36864 * ndS 13 RM) from by first | with_reducible rfl | with_reducible assumption | omega⟩) hw hA (fun p38 H locs hp38 hw => ?_)
        obtain ⟨f36, a37, rfl, e40, e41, e42, e43, e44, e45⟩ := hp38
        replace e40 : TxOk (f36 4) (f36 5) (f36 8) (f36 9) (f36 17) (f36 21) (a37 2) := e40
        obtain ⟨lk, ⟨i2, i3⟩, ⟨i4, i5⟩, ⟨i6, i7⟩, i8, ⟨i9, i11⟩, i10, hrt⟩ := e40
        replace e41 : (f36 9).toInt = ((TF ip) 9).toInt := e41
        replace e42 : (f36 17).toInt = ((TF ip) 17).toInt := e42
        replace e43 : (f36 21).toInt = 0 := e43
        replace e44 : (f36 15).toInt = ((TF ip) 15).toInt := e44
        replace e45 : (f36 20).toInt = ((TF ip) 20).toInt := e45
        replace hw : pw D A s.heap H locs [wd_Ker cs hk kr (fun _ => none) kf (va_up (va_up ka 5 (upd (ka 5) z30.toNatClampNeg ((TF ip) 24))) 7 (upd ((va_up ka 5 (upd (ka 5) z30.toNatClampNeg ((TF ip) 24))) 7) p1.toNatClampNeg z33)) (gKe pq pz tq rq), fm 13 (fRw cs rq RR RM RW RF RA RC), fm 8 (fPp cs pq PV), fo 13 (fTx cs tq TR TO TF TA) ip, wd_Txp cs hx (TR ip) (fun k => if k = 3 then (some hp1) else none) f36 a37 (fun _ _ => none)] := hw
        refine lv_iconst (v := 1) S.x S.b d_Ker_send_76 (by decide) ?_
        have hw := ftx_in0 (pr := [wd_Ker cs hk kr (fun _ => none) kf (va_up (va_up ka 5 (upd (ka 5) z30.toNatClampNeg ((TF ip) 24))) 7 (upd ((va_up ka 5 (upd (ka 5) z30.toNatClampNeg ((TF ip) 24))) 7) p1.toNatClampNeg z33)) (gKe pq pz tq rq), fm 13 (fRw cs rq RR RM RW RF RA RC), fm 8 (fPp cs pq PV)]) hw hip hcu.1 hto1
        obtain ⟨TF46, hu_TF46⟩ : ∃ y : Nat → Nat → Int32, y = va_up TF ip f36 := ⟨_, rfl⟩
        obtain ⟨TA47, hu_TA47⟩ : ∃ y : Nat → Nat → Nat → Int32, y = va_up TA ip a37 := ⟨_, rfl⟩
        have hw : pw D A s.heap _ _ [wd_Ker cs hk kr (fun _ => none) kf (va_up (va_up ka 5 (upd (ka 5) z30.toNatClampNeg ((TF ip) 24))) 7 (upd ((va_up ka 5 (upd (ka 5) z30.toNatClampNeg ((TF ip) 24))) 7) p1.toNatClampNeg z33)) (gKe pq pz tq rq), fm 13 (fRw cs rq RR RM RW RF RA RC), fm 8 (fPp cs pq PV), fm 13 (fTx cs tq TR TO TF46 TA47)] := (by rw [hu_TF46, hu_TA47]; exact hw)
        have hki : KnI pq PV pz tq rq TO TF46 TA47 RW RF := (by rw [hu_TF46, hu_TA47]; exact hki.upT (show TxN ip f36 a37 from ⟨(show TxOk (f36 4) (f36 5) (f36 8) (f36 9) (f36 17) (f36 21) (a37 2) from ⟨(by first | exact lk | exact lk_eq lk (by omega) | exact lk_mk (by omega)), ⟨by omega, by omega⟩, ⟨by omega, by omega⟩, ⟨by omega, by omega⟩, by omega, ⟨by omega, by omega⟩, by omega, hrt⟩), (show ((f36 15).toInt) = ((ip : Nat) : Int) from by first | with_reducible rfl | with_reducible assumption | omega), (show 0 ≤ (f36 20).toInt ∧ (f36 20).toInt ≤ 3 ∧ ((f36 20).toInt = 0 ∨ 3 * ((ip : Nat) : Int) + (f36 20).toInt ≤ 12) from by first | with_reducible rfl | with_reducible assumption | omega)⟩))
        have hz21_TF46 : (TF46 ip 21).toInt = (f36 21).toInt := (by rw [hu_TF46, va_up_s]; try rfl)
        have hw : pw D A s.heap _ _ [wd_Ker cs hk kr (fun _ => none) kf (va_up (va_up ka 5 (upd (ka 5) z30.toNatClampNeg ((TF ip) 24))) 7 (upd ((va_up ka 5 (upd (ka 5) z30.toNatClampNeg ((TF ip) 24))) 7) p1.toNatClampNeg z33)) (gKe pq pz tq rq), fm 13 (fTx cs tq TR TO TF46 TA47), fm 13 (fRw cs rq RR RM RW RF RA RC), fm 8 (fPp cs pq PV)] := hw.sub [0, 3, 1, 2] rfl rfl
        exact pg_iret (v := 1) S hr rfl hlk hAe hw (show 0 ≤ (5 * ndS 13 tq + 4 * ndS 13 rq + ndS 13 RM) from by first | exact oz_86e49526c7 | omega) (show 0 ≤ (9804 * ndS 13 tq + 342 * ndS 13 rq + 36864 * ndS 13 RM) from by first | exact oz_fc3b58e969 | omega) (⟨pz, tq, rq, (va_up (va_up ka 5 (upd (ka 5) z30.toNatClampNeg ((TF ip) 24))) 7 (upd ((va_up ka 5 (upd (ka 5) z30.toNatClampNeg ((TF ip) 24))) 7) p1.toNatClampNeg z33)), TR, TO, TF46, TA47, RR, RM, RW, RF, RA, RC, rfl, (show (1 : Int32) = 0 ∨ (1 : Int32) = 1 from by first | exact Or.inl rfl | exact Or.inr rfl | exact z_or (by omega)), (show CuT pq PV tq TO ip hx from hcu), (show KnI pq PV pz tq rq TO TF46 TA47 RW RF from hki), (show RoI (va_up (va_up ka 5 (upd (ka 5) z30.toNatClampNeg ((TF ip) 24))) 7 (upd ((va_up ka 5 (upd (ka 5) z30.toNatClampNeg ((TF ip) 24))) 7) p1.toNatClampNeg z33)) from hro), (show RmI rq RM from hrm), (show 0 + (5 * ndS 13 tq + 4 * ndS 13 rq + ndS 13 RM) ≤ 5 * ndS 13 tq + 4 * ndS 13 rq + ndS 13 RM from by first | exact oz_9d19b050ad | omega), (show 0 + (9804 * ndS 13 tq + 342 * ndS 13 rq + 36864 * ndS 13 RM) ≤ 9804 * ndS 13 tq + 342 * ndS 13 rq + 36864 * ndS 13 RM from by first | exact oz_b5592d0ae7 | omega)⟩) d_Ker_send_77
      · have nc24 : z23.toInt = (4 : Int) := (i_eq (x := z23) (y := 4)).mp c24
        refine lv_iconst (v := 0) S.x S.b d_Ker_send_31 (by decide) ?_
        exact pg_iret (v := 0) S hr rfl hlk hAe hw (show 0 ≤ (5 * ndS 13 tq + 4 * ndS 13 rq + ndS 13 RM) from by first | exact oz_86e49526c7 | omega) (show 0 ≤ (9804 * ndS 13 tq + 342 * ndS 13 rq + 36864 * ndS 13 RM) from by first | exact oz_fc3b58e969 | omega) (⟨pz, tq, rq, ka, TR, TO, TF, TA, RR, RM, RW, RF, RA, RC, rfl, (show (0 : Int32) = 0 ∨ (0 : Int32) = 1 from by first | exact Or.inl rfl | exact Or.inr rfl | exact z_or (by omega)), (show CuT pq PV tq TO ip hx from hcu), (show KnI pq PV pz tq rq TO TF TA RW RF from hki), (show RoI ka from hro), (show RmI rq RM from hrm), (show 0 + (5 * ndS 13 tq + 4 * ndS 13 rq + ndS 13 RM) ≤ 5 * ndS 13 tq + 4 * ndS 13 rq + ndS 13 RM from by first | exact oz_9d19b050ad | omega), (show 0 + (9804 * ndS 13 tq + 342 * ndS 13 rq + 36864 * ndS 13 RM) ≤ 9804 * ndS 13 tq + 342 * ndS 13 rq + 36864 * ndS 13 RM from by first | exact oz_b5592d0ae7 | omega)⟩) d_Ker_send_32
  · have nc2 : p0.toInt = (-1 : Int) := (i_eq (x := p0) (y := (-1))).mp c2
    refine lv_aload_n S.x S.b d_Ker_send_5 rfl (lv_at hl 1 rfl) ?_
    refine lv_iconst (v := 2) S.x S.b d_Ker_send_6 (by decide) ?_
    refine lv_iconst (v := 0) S.x S.b d_Ker_send_7 (by decide) ?_
    have hw : pw D A s.heap _ _ [wd_Ker cs hk kr (fun _ => none) kf ka (gKe pq pz tq rq), fm 13 (fRw cs rq RR RM RW RF RA RC), fm 8 (fPp cs pq PV), fm 13 (fTx cs tq TR TO TF TA)] := hw.sub [0, 2, 3, 1] rfl rfl
    have hw : pw D A s.heap _ _ [wd_Ker cs hk kr (fun _ => none) kf ka (gKe pq pz tq rq), fm 13 (fRw cs rq RR RM RW RF RA RC), fm 8 (fPp cs pq PV), fo 13 (fTx cs tq TR TO TF TA) ip, wd_Txp cs hx (TR ip) (fun k => if k = 3 then (some hp1) else none) (TF ip) (TA ip) (fun _ _ => none)] := ftx_out (pr := [wd_Ker cs hk kr (fun _ => none) kf ka (gKe pq pz tq rq), fm 13 (fRw cs rq RR RM RW RF RA RC), fm 8 (fPp cs pq PV)]) hw hip hcu.1 hto1
    have htn48 : TxN ip (TF ip) (TA ip) := hki.2.1 ip hip _ hcu.1
    obtain ⟨lk, ⟨i2, i3⟩, ⟨i4, i5⟩, ⟨i6, i7⟩, i8, ⟨i9, i11⟩, i10, hrt⟩ := htn48.1
    have hid48 := htn48.2.1
    have hch48 := htn48.2.2
    unfold KcI at hch48
    refine px_callv (pr := [wd_Ker cs hk kr (fun _ => none) kf ka (gKe pq pz tq rq), fm 13 (fRw cs rq RR RM RW RF RA RC), fm 8 (fPp cs pq PV), fo 13 (fTx cs tq TR TO TF TA) ip]) (px_runU (As := [.int 2, .int 0]) (rest := []) S (c_finish_Txp l D cs hx (TR ip) (fun _ _ => none) hp1 (TF ip) (TA ip) 2 0  (show TxOk ((TF ip) 4) ((TF ip) 5) ((TF ip) 8) ((TF ip) 9) ((TF ip) 17) ((TF ip) 21) ((TA ip) 2) from ⟨(by first | exact lk | exact lk_eq lk (by omega) | exact lk_mk (by omega)), ⟨by omega, by omega⟩, ⟨by omega, by omega⟩, ⟨by omega, by omega⟩, by omega, ⟨by first | exact oz_1b364b1c5f g1 | omega, by first | exact oz_02032f9386 g1 | omega⟩, by omega, hrt⟩) _) hT (pr := [wd_Ker cs hk kr (fun _ => none) kf ka (gKe pq pz tq rq), fm 13 (fRw cs rq RR RM RW RF RA RC), fm 8 (fPp cs pq PV), fo 13 (fTx cs tq TR TO TF TA) ip]) (pcs := [wd_Txp cs hx (TR ip) (fun k => if k = 3 then (some hp1) else none) (TF ip) (TA ip) (fun _ _ => none)]) hw px_X.tt (C := "HomeSystem$TextProcess") (x := ⟨"HomeSystem$AnyProcess", "finish", "(II)V"⟩) (px_recv hT hw 4 0 rfl rfl rfl) m8_89 m8_84 m8_86 m8_85 m8_88 m1_33 rfl q_HomeSystem_AnyProcess_finish ⟨Nat.le_of_ble_eq_true rfl, Nat.le_of_ble_eq_true rfl⟩ hl.1 rfl (Nat.le_of_ble_eq_true rfl) d_Ker_send_8 ⟨show 0 + 0 ≤ (5 * ndS 13 tq + 4 * ndS 13 rq + ndS 13 RM) from by first | with_reducible rfl | with_reducible assumption | omega, show 0 + 0 ≤ (9804 * ndS 13 tq + 342 * ndS 13 rq + 36864 * ndS 13 RM) from by first | with_reducible rfl | with_reducible assumption | omega⟩) hw hA (fun p51 H locs hp51 hw => ?_)
    obtain ⟨f49, a50, rfl, h58, e53, e54, e55, e56, e57⟩ := hp51
    obtain ⟨lk, ⟨i2, i3⟩, ⟨i4, i5⟩, ⟨i6, i7⟩, i8, ⟨i9, i11⟩, i10, hrt⟩ := h58
    replace e53 : (f49 9).toInt = ((TF ip) 9).toInt := e53
    replace e54 : (f49 17).toInt = ((TF ip) 17).toInt := e54
    replace e55 : (f49 21).toInt = 0 := e55
    replace e56 : (f49 15).toInt = ((TF ip) 15).toInt := e56
    replace e57 : (f49 20).toInt = ((TF ip) 20).toInt := e57
    replace hw : pw D A s.heap H locs [wd_Ker cs hk kr (fun _ => none) kf ka (gKe pq pz tq rq), fm 13 (fRw cs rq RR RM RW RF RA RC), fm 8 (fPp cs pq PV), fo 13 (fTx cs tq TR TO TF TA) ip, wd_Txp cs hx (TR ip) (fun k => if k = 3 then (some hp1) else none) f49 a50 (fun _ _ => none)] := hw
    refine lv_iconst (v := 1) S.x S.b d_Ker_send_11 (by decide) ?_
    have hw := ftx_in0 (pr := [wd_Ker cs hk kr (fun _ => none) kf ka (gKe pq pz tq rq), fm 13 (fRw cs rq RR RM RW RF RA RC), fm 8 (fPp cs pq PV)]) hw hip hcu.1 hto1
    obtain ⟨TF59, hu_TF59⟩ : ∃ y : Nat → Nat → Int32, y = va_up TF ip f49 := ⟨_, rfl⟩
    obtain ⟨TA60, hu_TA60⟩ : ∃ y : Nat → Nat → Nat → Int32, y = va_up TA ip a50 := ⟨_, rfl⟩
    have hw : pw D A s.heap _ _ [wd_Ker cs hk kr (fun _ => none) kf ka (gKe pq pz tq rq), fm 13 (fRw cs rq RR RM RW RF RA RC), fm 8 (fPp cs pq PV), fm 13 (fTx cs tq TR TO TF59 TA60)] := (by rw [hu_TF59, hu_TA60]; exact hw)
    have hki : KnI pq PV pz tq rq TO TF59 TA60 RW RF := (by rw [hu_TF59, hu_TA60]; exact hki.upT (show TxN ip f49 a50 from ⟨(show TxOk (f49 4) (f49 5) (f49 8) (f49 9) (f49 17) (f49 21) (a50 2) from ⟨(by first | exact lk | exact lk_eq lk (by omega) | exact lk_mk (by omega)), ⟨by omega, by omega⟩, ⟨by omega, by omega⟩, ⟨by omega, by omega⟩, by omega, ⟨by omega, by omega⟩, by omega, hrt⟩), (show ((f49 15).toInt) = ((ip : Nat) : Int) from by first | with_reducible rfl | with_reducible assumption | omega), (show 0 ≤ (f49 20).toInt ∧ (f49 20).toInt ≤ 3 ∧ ((f49 20).toInt = 0 ∨ 3 * ((ip : Nat) : Int) + (f49 20).toInt ≤ 12) from by first | with_reducible rfl | with_reducible assumption | omega)⟩))
    have hz21_TF59 : (TF59 ip 21).toInt = (f49 21).toInt := (by rw [hu_TF59, va_up_s]; try rfl)
    have hw : pw D A s.heap _ _ [wd_Ker cs hk kr (fun _ => none) kf ka (gKe pq pz tq rq), fm 13 (fTx cs tq TR TO TF59 TA60), fm 13 (fRw cs rq RR RM RW RF RA RC), fm 8 (fPp cs pq PV)] := hw.sub [0, 3, 1, 2] rfl rfl
    exact pg_iret (v := 1) S hr rfl hlk hAe hw (show 0 ≤ (5 * ndS 13 tq + 4 * ndS 13 rq + ndS 13 RM) from by first | exact oz_86e49526c7 | omega) (show 0 ≤ (9804 * ndS 13 tq + 342 * ndS 13 rq + 36864 * ndS 13 RM) from by first | exact oz_fc3b58e969 | omega) (⟨pz, tq, rq, ka, TR, TO, TF59, TA60, RR, RM, RW, RF, RA, RC, rfl, (show (1 : Int32) = 0 ∨ (1 : Int32) = 1 from by first | exact Or.inl rfl | exact Or.inr rfl | exact z_or (by omega)), (show CuT pq PV tq TO ip hx from hcu), (show KnI pq PV pz tq rq TO TF59 TA60 RW RF from hki), (show RoI ka from hro), (show RmI rq RM from hrm), (show 0 + (5 * ndS 13 tq + 4 * ndS 13 rq + ndS 13 RM) ≤ 5 * ndS 13 tq + 4 * ndS 13 rq + ndS 13 RM from by first | exact oz_9d19b050ad | omega), (show 0 + (9804 * ndS 13 tq + 342 * ndS 13 rq + 36864 * ndS 13 RM) ≤ 9804 * ndS 13 tq + 342 * ndS 13 rq + 36864 * ndS 13 RM from by first | exact oz_b5592d0ae7 | omega)⟩) d_Ker_send_12
set_option maxHeartbeats 4000000 in
set_option maxRecDepth 100000 in
theorem c_k_send_R (l : Launch) (D : va_G) (cs : Nat → ClassId) (hk : Nat) (kr : Nat → Nat) (pq : Nat → Option Nat) (kf : Nat → Int32) (PV : Nat → Pvs) (pz : Nat → Option Nat) (tq : Nat → Option Nat) (rq : Nat → Option Nat) (ka : Nat → Nat → Int32) (TR : Nat → Nat → Nat) (TO : Nat → Option Nat) (TF : Nat → Nat → Int32) (TA : Nat → Nat → Nat → Int32) (RR : Nat → Nat → Nat) (RM : Nat → Option Nat) (RW : Nat → Option Nat) (RF : Nat → Nat → Int32) (RA : Nat → Nat → Nat → Int32) (RC : Nat → Nat → Int32) (p0 p1 : Int32) (ip hx : Nat) (g0 : p0.toInt = -1 ∨ (0 ≤ p0.toInt ∧ p0.toInt ≤ 12 ∧ 0 ≤ p1.toInt ∧ p1.toInt ≤ 25)) (g1 : (RF ip 14).toInt = 1) (hki : KnI pq PV pz tq rq TO TF TA RW RF) (hro : RoI ka) (hrm : RmI rq RM) (hip : ip < 13) (hcu : CuR pq PV rq RW ip hx) : MgI l y_Ker_send b_Ker_send 4 (.boolean) D cs 4 160 ((5 * ndS 13 tq + 4 * ndS 13 rq + ndS 13 RM)) ((9804 * ndS 13 tq + 342 * ndS 13 rq + 36864 * ndS 13 RM)) [.ref hk, .ref hx, .int p0, .int p1] [wd_Ker cs hk kr (fun _ => none) kf ka (gKe pq pz tq rq), fm 13 (fTx cs tq TR TO TF TA), fm 13 (fRw cs rq RR RM RW RF RA RC), fm 8 (fPp cs pq PV)] (fun _ => True) (fun v ps => ∃ (pz' : Nat → Option Nat) (tq' : Nat → Option Nat) (rq' : Nat → Option Nat) (ka' : Nat → Nat → Int32) (TR' : Nat → Nat → Nat) (TO' : Nat → Option Nat) (TF' : Nat → Nat → Int32) (TA' : Nat → Nat → Nat → Int32) (RR' : Nat → Nat → Nat) (RM' : Nat → Option Nat) (RW' : Nat → Option Nat) (RF' : Nat → Nat → Int32) (RA' : Nat → Nat → Nat → Int32) (RC' : Nat → Nat → Int32), (ps.1 = [wd_Ker cs hk kr (fun _ => none) kf ka' (gKe pq pz' tq' rq'), fm 13 (fTx cs tq' TR' TO' TF' TA'), fm 13 (fRw cs rq' RR' RM' RW' RF' RA' RC'), fm 8 (fPp cs pq PV)]) ∧ (v = 0 ∨ v = 1) ∧ (CuR pq PV rq' RW' ip hx) ∧ (KnI pq PV pz' tq' rq' TO' TF' TA' RW' RF') ∧ (RoI ka') ∧ (RmI rq' RM') ∧ (ps.2.1 + (5 * ndS 13 tq' + 4 * ndS 13 rq' + ndS 13 RM') ≤ 5 * ndS 13 tq + 4 * ndS 13 rq + ndS 13 RM) ∧ (ps.2.2 + (9804 * ndS 13 tq' + 342 * ndS 13 rq' + 36864 * ndS 13 RM') ≤ 9804 * ndS 13 tq + 342 * ndS 13 rq + 36864 * ndS 13 RM)) := by
  refine pg_enter (by decide) (Nat.le_of_ble_eq_true rfl) ?_
  intro p e s m below meth c A ls hAe S hr hlk hnm hA hT hX hw hl
  replace hl : lv_has ls 4 [(0, .ref hk), (1, .ref hx), (2, .int p0), (3, .int p1)] := hl
  have lp0 := Int32.le_toInt p0
  have up0 := Int32.toInt_lt p0
  have lp1 := Int32.le_toInt p1
  have up1 := Int32.toInt_lt p1
  have cstm1 : ((-1) : Int32).toInt = (-1) := rfl
  have cst0 : (0 : Int32).toInt = 0 := rfl
  have cst1 : (1 : Int32).toInt = 1 := rfl
  have cst2 : (2 : Int32).toInt = 2 := rfl
  have cst4 : (4 : Int32).toInt = 4 := rfl
  refine lv_iload_n S.x S.b d_Ker_send_0 rfl (lv_at hl 2 rfl) ?_
  obtain ⟨j1, hp1, hj1, hjq1, hto1⟩ := hcu.2
  refine lv_iconst (v := (-1)) S.x S.b d_Ker_send_1 (by decide) ?_
  refine lv_icmp_ne (tgt := 13) S.x S.b d_Ker_send_2 (by decide) (fun c2 => ?_) (fun c2 => ?_)
  · have nc2 : ¬ p0.toInt = (-1 : Int) := mt (i_eq (x := p0) (y := (-1))).mpr c2
    refine lv_aload_n S.x S.b d_Ker_send_13 rfl (lv_at hl 0 rfl) ?_
    refine lv_iload_n S.x S.b d_Ker_send_14 rfl (lv_at hl 2 rfl) ?_
    refine px_calli (pr := []) (px_runV (As := [.int p0]) (rest := []) S (c_k_isRunning l D cs hk kr pq pz tq rq kf ka TR TO TF TA RR RM RW RF RA RC PV p0  (show 0 ≤ p0.toInt from by first | with_reducible rfl | with_reducible assumption | omega) (show p0.toInt ≤ 12 from by first | with_reducible rfl | with_reducible assumption | omega) hki _) hT (pr := []) (pcs := [wd_Ker cs hk kr (fun _ => none) kf ka (gKe pq pz tq rq), fm 13 (fTx cs tq TR TO TF TA), fm 13 (fRw cs rq RR RM RW RF RA RC), fm 8 (fPp cs pq PV)]) hw px_X.tt (px_recv hT hw 0 0 rfl rfl rfl) m8_154 m8_151 m8_153 ms_6_1 m1_19 q_Ker_isRunning ⟨Nat.le_of_ble_eq_true rfl, Nat.le_of_ble_eq_true rfl⟩ hl.1 rfl (Nat.le_of_ble_eq_true rfl) d_Ker_send_15 ⟨show 0 + 0 ≤ (5 * ndS 13 tq + 4 * ndS 13 rq + ndS 13 RM) from by first | with_reducible rfl | with_reducible assumption | omega, show 0 + 0 ≤ (9804 * ndS 13 tq + 342 * ndS 13 rq + 36864 * ndS 13 RM) from by first | with_reducible rfl | with_reducible assumption | omega⟩) hw hA (fun v4 p3 H locs hp3 hw => ?_)
    obtain ⟨rfl, e5, e6⟩ := hp3
    have e5 := z_rng e5
    replace e6 : NnP pz p0 v4 := e6
    replace hw : pw D A s.heap H locs [wd_Ker cs hk kr (fun _ => none) kf ka (gKe pq pz tq rq), fm 13 (fTx cs tq TR TO TF TA), fm 13 (fRw cs rq RR RM RW RF RA RC), fm 8 (fPp cs pq PV)] := hw
    have lv4 := Int32.le_toInt v4
    have uv4 := Int32.toInt_lt v4
    refine lv_if_eq (tgt := 71) S.x S.b d_Ker_send_18 (by decide) (fun c7 => ?_) (fun c7 => ?_)
    · have nc7 : v4.toInt = (0 : Int) := (i_eq (x := v4) (y := 0)).mp c7
      refine lv_aload_n S.x S.b d_Ker_send_71 rfl (lv_at hl 1 rfl) ?_
      refine lv_iconst (v := 0) S.x S.b d_Ker_send_72 (by decide) ?_
      have hw : pw D A s.heap _ _ [wd_Ker cs hk kr (fun _ => none) kf ka (gKe pq pz tq rq), fm 13 (fTx cs tq TR TO TF TA), fm 8 (fPp cs pq PV), fm 13 (fRw cs rq RR RM RW RF RA RC)] := hw.sub [0, 1, 3, 2] rfl rfl
      have hw : pw D A s.heap _ _ [wd_Ker cs hk kr (fun _ => none) kf ka (gKe pq pz tq rq), fm 13 (fTx cs tq TR TO TF TA), fm 8 (fPp cs pq PV), fo 13 (fRw cs rq RR RM RW RF RA RC) ip, wd_Raw cs hx (RR ip) (fun k => if k = 2 then (RM ip) else if k = 4 then (some ((PV j1).r 1)) else none) (RF ip) (RA ip) (fun _ _ => none), nA cs (RM ip) 36864 (RC ip)] := frw_out (pr := [wd_Ker cs hk kr (fun _ => none) kf ka (gKe pq pz tq rq), fm 13 (fTx cs tq TR TO TF TA), fm 8 (fPp cs pq PV)]) hw hip hcu.1 hto1
      have hng8 := ndS_ge 13 RM ip hip
      have hrn8 : RwN ip (RF ip) := hki.2.2.1 ip hip _ hcu.1
      have hro8 := hrn8.1
      unfold RwO at hro8
      have hid8 := hrn8.2.1
      have hch8 := hrn8.2.2
      unfold KcI at hch8
      have hw : pw D A s.heap _ _ [wd_Ker cs hk kr (fun _ => none) kf ka (gKe pq pz tq rq), fm 13 (fTx cs tq TR TO TF TA), fm 8 (fPp cs pq PV), fo 13 (fRw cs rq RR RM RW RF RA RC) ip, nA cs (RM ip) 36864 (RC ip), wd_Raw cs hx (RR ip) (fun k => if k = 2 then (RM ip) else if k = 4 then (some ((PV j1).r 1)) else none) (RF ip) (RA ip) (fun _ _ => none)] := hw.sub [0, 1, 2, 3, 5, 4] rfl rfl
      refine px_callv (pr := [wd_Ker cs hk kr (fun _ => none) kf ka (gKe pq pz tq rq), fm 13 (fTx cs tq TR TO TF TA), fm 8 (fPp cs pq PV), fo 13 (fRw cs rq RR RM RW RF RA RC) ip, nA cs (RM ip) 36864 (RC ip)]) (px_runA (As := [.int 0]) (rest := []) S (c_Raw_answer l D cs hx (RR ip) (fun _ _ => none) (RM ip) (some ((PV j1).r 1)) (RF ip) (RA ip) 0  (show 1 ≤ ((RF ip) 7).toInt from by first | with_reducible rfl | with_reducible assumption | omega) _) hT (pr := [wd_Ker cs hk kr (fun _ => none) kf ka (gKe pq pz tq rq), fm 13 (fTx cs tq TR TO TF TA), fm 8 (fPp cs pq PV), fo 13 (fRw cs rq RR RM RW RF RA RC) ip, nA cs (RM ip) 36864 (RC ip)]) (pcs := [wd_Raw cs hx (RR ip) (fun k => if k = 2 then (RM ip) else if k = 4 then (some ((PV j1).r 1)) else none) (RF ip) (RA ip) (fun _ _ => none)]) hw px_X.tt (C := "HomeSystem$RawProcess") (owner := "HomeSystem$AnyProcess") (x := ⟨"HomeSystem$AnyProcess", "answer", "(I)V"⟩) (px_recv hT hw 5 0 rfl rfl rfl) m8_72 m8_67 m8_69 m8_71 m8_70 m1_34 m8_68n ⟨by decide, by decide⟩ rfl q_Raw_answer ⟨Nat.le_of_ble_eq_true rfl, Nat.le_of_ble_eq_true rfl⟩ hl.1 rfl (Nat.le_of_ble_eq_true rfl) d_Ker_send_73 ⟨show 0 + 0 ≤ (5 * ndS 13 tq + 4 * ndS 13 rq + ndS 13 RM) from by first | with_reducible rfl | with_reducible assumption | omega, show 0 + 0 ≤ (9804 * ndS 13 tq + 342 * ndS 13 rq + 36864 * ndS 13 RM) from by first | with_reducible rfl | with_reducible assumption | omega⟩) hw hA (fun p11 H locs hp11 hw => ?_)
      obtain ⟨f9, a10, rfl, e13, e14, e15, e16, e17, e18⟩ := hp11
      replace e13 : (f9 7).toInt = ((RF ip) 7).toInt - 1 := e13
      replace e14 : (f9 8).toInt = ((RF ip) 8).toInt := e14
      replace e15 : (f9 10).toInt = ((RF ip) 10).toInt := e15
      replace e16 : (f9 13).toInt = ((RF ip) 13).toInt := e16
      replace e17 : (f9 14).toInt = 0 := e17
      replace e18 : (f9 11).toInt = ((RF ip) 11).toInt := e18
      replace hw : pw D A s.heap H locs [wd_Ker cs hk kr (fun _ => none) kf ka (gKe pq pz tq rq), fm 13 (fTx cs tq TR TO TF TA), fm 8 (fPp cs pq PV), fo 13 (fRw cs rq RR RM RW RF RA RC) ip, nA cs (RM ip) 36864 (RC ip), wd_Raw cs hx (RR ip) (fun k => if k = 2 then (RM ip) else if k = 4 then (some ((PV j1).r 1)) else none) f9 a10 (fun _ _ => none)] := hw
      refine lv_iconst (v := 1) S.x S.b d_Ker_send_76 (by decide) ?_
      have hw : pw D A s.heap _ _ [wd_Ker cs hk kr (fun _ => none) kf ka (gKe pq pz tq rq), fm 13 (fTx cs tq TR TO TF TA), fm 8 (fPp cs pq PV), fo 13 (fRw cs rq RR RM RW RF RA RC) ip, wd_Raw cs hx (RR ip) (fun k => if k = 2 then (RM ip) else if k = 4 then (some ((PV j1).r 1)) else none) f9 a10 (fun _ _ => none), nA cs (RM ip) 36864 (RC ip)] := hw.sub [0, 1, 2, 3, 5, 4] rfl rfl
      have hw := frw_in0 (pr := [wd_Ker cs hk kr (fun _ => none) kf ka (gKe pq pz tq rq), fm 13 (fTx cs tq TR TO TF TA), fm 8 (fPp cs pq PV)]) hw hip hcu.1 hto1
      obtain ⟨RM19, hu_RM19⟩ : ∃ y : Nat → Option Nat, y = va_up RM ip (RM ip) := ⟨_, rfl⟩
      obtain ⟨RF20, hu_RF20⟩ : ∃ y : Nat → Nat → Int32, y = va_up RF ip f9 := ⟨_, rfl⟩
      obtain ⟨RA21, hu_RA21⟩ : ∃ y : Nat → Nat → Nat → Int32, y = va_up RA ip a10 := ⟨_, rfl⟩
      obtain ⟨RC22, hu_RC22⟩ : ∃ y : Nat → Nat → Int32, y = va_up RC ip (RC ip) := ⟨_, rfl⟩
      have hw : pw D A s.heap _ _ [wd_Ker cs hk kr (fun _ => none) kf ka (gKe pq pz tq rq), fm 13 (fTx cs tq TR TO TF TA), fm 8 (fPp cs pq PV), fm 13 (fRw cs rq RR RM19 RW RF20 RA21 RC22)] := (by rw [hu_RM19, hu_RF20, hu_RA21, hu_RC22]; exact hw)
      have hki : KnI pq PV pz tq rq TO TF TA RW RF20 := (by rw [hu_RF20]; exact hki.upR (show RwN ip f9 from ⟨(show (0 ≤ (f9 7).toInt ∧ (f9 7).toInt ≤ 1600) ∧ (0 ≤ (f9 10).toInt ∧ (f9 10).toInt + (f9 7).toInt ≤ 1600) ∧ ((f9 14).toInt = 0 ∨ (f9 14).toInt = 1) ∧ ((f9 14).toInt = 1 → 1 ≤ (f9 7).toInt) from by first | with_reducible rfl | with_reducible assumption | omega), (show ((f9 8).toInt) = ((ip : Nat) : Int) from by first | with_reducible rfl | with_reducible assumption | omega), (show 0 ≤ (f9 13).toInt ∧ (f9 13).toInt ≤ 3 ∧ ((f9 13).toInt = 0 ∨ 3 * ((ip : Nat) : Int) + (f9 13).toInt ≤ 12) from by first | with_reducible rfl | with_reducible assumption | omega)⟩))
      have hrm : RmI rq RM19 := (by rw [hu_RM19]; exact hrm.up hcu.1)
      have hnd_RM19 := ndS_up 13 RM ip (RM ip) hip; rw [← hu_RM19] at hnd_RM19
      have hz14_RF20 : (RF20 ip 14).toInt = (f9 14).toInt := (by rw [hu_RF20, va_up_s]; try rfl)
      have hw : pw D A s.heap _ _ [wd_Ker cs hk kr (fun _ => none) kf ka (gKe pq pz tq rq), fm 13 (fTx cs tq TR TO TF TA), fm 13 (fRw cs rq RR RM19 RW RF20 RA21 RC22), fm 8 (fPp cs pq PV)] := hw.sub [0, 1, 3, 2] rfl rfl
      exact pg_iret (v := 1) S hr rfl hlk hAe hw (show 0 ≤ (5 * ndS 13 tq + 4 * ndS 13 rq + ndS 13 RM) from by first | exact oz_86e49526c7 | omega) (show 0 ≤ (9804 * ndS 13 tq + 342 * ndS 13 rq + 36864 * ndS 13 RM) from by first | exact oz_fc3b58e969 | omega) (⟨pz, tq, rq, ka, TR, TO, TF, TA, RR, RM19, RW, RF20, RA21, RC22, rfl, (show (1 : Int32) = 0 ∨ (1 : Int32) = 1 from by first | exact Or.inl rfl | exact Or.inr rfl | exact z_or (by omega)), (show CuR pq PV rq RW ip hx from hcu), (show KnI pq PV pz tq rq TO TF TA RW RF20 from hki), (show RoI ka from hro), (show RmI rq RM19 from hrm), (show 0 + (5 * ndS 13 tq + 4 * ndS 13 rq + ndS 13 RM19) ≤ 5 * ndS 13 tq + 4 * ndS 13 rq + ndS 13 RM from by first | with_reducible rfl | with_reducible assumption | omega), (show 0 + (9804 * ndS 13 tq + 342 * ndS 13 rq + 36864 * ndS 13 RM19) ≤ 9804 * ndS 13 tq + 342 * ndS 13 rq + 36864 * ndS 13 RM from by first | with_reducible rfl | with_reducible assumption | omega)⟩) d_Ker_send_77
    · have nc7 : ¬ v4.toInt = (0 : Int) := mt (i_eq (x := v4) (y := 0)).mpr c7
      refine lv_aload_n S.x S.b d_Ker_send_21 rfl (lv_at hl 0 rfl) ?_
      refine px_get S k_Ker hT hw 0 0 7 (v := .ref (kr 7)) rfl rfl rfl (by decide) m2_228 d_Ker_send_22 ?_
      refine lv_iload_n S.x S.b d_Ker_send_25 rfl (lv_at hl 3 rfl) ?_
      refine px_iald S hT hw 0 8 (n := 26) (f := (ka 7)) rfl (ga_Ker_7 _ _ _ _ _ _ _) (x := p1) (vp_in_iff.mpr (by constructor <;> omega)) d_Ker_send_26 ?_
      refine lv_topi (fun z23 ez23 => ?_)
      have lz23 := Int32.le_toInt z23
      have uz23 := Int32.toInt_lt z23
      have qz23 := hro.at7 (x := p1) (by omega) (by omega) ez23
      refine lv_iconst (v := 4) S.x S.b d_Ker_send_27 (by decide) ?_
      refine lv_icmp_ne (tgt := 33) S.x S.b d_Ker_send_28 (by decide) (fun c24 => ?_) (fun c24 => ?_)
      · have nc24 : ¬ z23.toInt = (4 : Int) := mt (i_eq (x := z23) (y := 4)).mpr c24
        refine lv_aload_n S.x S.b d_Ker_send_33 rfl (lv_at hl 0 rfl) ?_
        refine px_get S k_Ker hT hw 0 0 5 (v := .ref (kr 5)) rfl rfl rfl (by decide) m2_226 d_Ker_send_34 ?_
        refine lv_iconst (v := 4) S.x S.b d_Ker_send_37 (by decide) ?_
        refine lv_iload_n S.x S.b d_Ker_send_38 rfl (lv_at hl 3 rfl) ?_
        refine lv_imul S.x S.b d_Ker_send_39 ?_
        refine lv_topi (fun z25 ez25 => ?_)
        have lz25 := Int32.le_toInt z25
        have uz25 := Int32.toInt_lt z25
        have tz25 : -2147483648 ≤ 4 * p1.toInt → 4 * p1.toInt < 2147483648 → z25.toInt = 4 * p1.toInt := by rw [ez25]; exact i_mulc 4 p1 (by decide)
        try replace tz25 : z25.toInt = 4 * p1.toInt := by omega
        refine lv_aload_n S.x S.b d_Ker_send_40 rfl (lv_at hl 0 rfl) ?_
        refine px_get S k_Ker hT hw 0 0 6 (v := .ref (kr 6)) rfl rfl rfl (by decide) m2_227 d_Ker_send_41 ?_
        refine lv_iload_n S.x S.b d_Ker_send_44 rfl (lv_at hl 3 rfl) ?_
        refine px_iald S hT hw 0 7 (n := 26) (f := (ka 6)) rfl (ga_Ker_6 _ _ _ _ _ _ _) (x := p1) (vp_in_iff.mpr (by constructor <;> omega)) d_Ker_send_45 ?_
        refine lv_topi (fun z26 ez26 => ?_)
        have lz26 := Int32.le_toInt z26
        have uz26 := Int32.toInt_lt z26
        have qz26 := hro.at6 (x := p1) (by omega) (by omega) ez26
        refine lv_aload_n S.x S.b d_Ker_send_46 rfl (lv_at hl 0 rfl) ?_
        refine px_get S k_Ker hT hw 0 0 7 (v := .ref (kr 7)) rfl rfl rfl (by decide) m2_228 d_Ker_send_47 ?_
        refine lv_iload_n S.x S.b d_Ker_send_50 rfl (lv_at hl 3 rfl) ?_
        refine px_iald S hT hw 0 8 (n := 26) (f := (ka 7)) rfl (ga_Ker_7 _ _ _ _ _ _ _) (x := p1) (vp_in_iff.mpr (by constructor <;> omega)) d_Ker_send_51 ?_
        refine lv_topi (fun z27 ez27 => ?_)
        have lz27 := Int32.le_toInt z27
        have uz27 := Int32.toInt_lt z27
        have qz27 := hro.at7 (x := p1) (by omega) (by omega) ez27
        refine lv_iadd S.x S.b d_Ker_send_52 ?_
        refine lv_topi (fun z28 ez28 => ?_)
        have tz28 : z28.toInt = (z26.toInt + z27.toInt + 2147483648) % 4294967296 - 2147483648 := by rw [ez28]; exact i_add z26 z27
        have lz28 := Int32.le_toInt z28
        have uz28 := Int32.toInt_lt z28
        try replace tz28 : z28.toInt = z26.toInt + z27.toInt := by omega
        refine lv_iconst (v := 4) S.x S.b d_Ker_send_53 (by decide) ?_
        refine lv_irem S.x S.b d_Ker_send_54 (by decide) ?_
        refine lv_topi (fun z29 ez29 => ?_)
        have lz29 := Int32.le_toInt z29
        have uz29 := Int32.toInt_lt z29
        have tz29 : 0 ≤ z28.toInt → z29.toInt = z28.toInt % 4 := (by intro h9; rw [ez29]; exact i_irem9 h9 (y := 4) (d := 4) (by decide) (by decide))
        try replace tz29 := tz29 (by omega)
        refine lv_iadd S.x S.b d_Ker_send_55 ?_
        refine lv_topi (fun z30 ez30 => ?_)
        have tz30 : z30.toInt = (z25.toInt + z29.toInt + 2147483648) % 4294967296 - 2147483648 := by rw [ez30]; exact i_add z25 z29
        have lz30 := Int32.le_toInt z30
        have uz30 := Int32.toInt_lt z30
        try replace tz30 : z30.toInt = z25.toInt + z29.toInt := by omega
        refine lv_aload_n S.x S.b d_Ker_send_56 rfl (lv_at hl 1 rfl) ?_
        have hw : pw D A s.heap _ _ [wd_Ker cs hk kr (fun _ => none) kf ka (gKe pq pz tq rq), fm 13 (fTx cs tq TR TO TF TA), fm 8 (fPp cs pq PV), fm 13 (fRw cs rq RR RM RW RF RA RC)] := hw.sub [0, 1, 3, 2] rfl rfl
        have hw : pw D A s.heap _ _ [wd_Ker cs hk kr (fun _ => none) kf ka (gKe pq pz tq rq), fm 13 (fTx cs tq TR TO TF TA), fm 8 (fPp cs pq PV), fo 13 (fRw cs rq RR RM RW RF RA RC) ip, wd_Raw cs hx (RR ip) (fun k => if k = 2 then (RM ip) else if k = 4 then (some ((PV j1).r 1)) else none) (RF ip) (RA ip) (fun _ _ => none), nA cs (RM ip) 36864 (RC ip)] := frw_out (pr := [wd_Ker cs hk kr (fun _ => none) kf ka (gKe pq pz tq rq), fm 13 (fTx cs tq TR TO TF TA), fm 8 (fPp cs pq PV)]) hw hip hcu.1 hto1
        have hng31 := ndS_ge 13 RM ip hip
        have hrn31 : RwN ip (RF ip) := hki.2.2.1 ip hip _ hcu.1
        have hro31 := hrn31.1
        unfold RwO at hro31
        have hid31 := hrn31.2.1
        have hch31 := hrn31.2.2
        unfold KcI at hch31
        refine px_get S k_Raw hT hw 4 0 17 (v := .int ((RF ip) 17)) rfl rfl rfl (by decide) m6_166 d_Ker_send_57 ?_
        refine px_iast S hT hw 0 6 (n := 104) (f := (ka 5)) (x := z30) (y := ((RF ip) 17)) rfl (ga_Ker_5 _ _ _ _ _ _ _) (vp_in_iff.mpr (by constructor <;> omega)) d_Ker_send_60 (w' := wd_Ker cs hk kr (fun _ => none) kf (va_up ka 5 (upd (ka 5) z30.toNatClampNeg ((RF ip) 17))) (gKe pq pz tq rq)) (ps' := [wd_Ker cs hk kr (fun _ => none) kf (va_up ka 5 (upd (ka 5) z30.toNatClampNeg ((RF ip) 17))) (gKe pq pz tq rq), fm 13 (fTx cs tq TR TO TF TA), fm 8 (fPp cs pq PV), fo 13 (fRw cs rq RR RM RW RF RA RC) ip, wd_Raw cs hx (RR ip) (fun k => if k = 2 then (RM ip) else if k = 4 then (some ((PV j1).r 1)) else none) (RF ip) (RA ip) (fun _ _ => none), nA cs (RM ip) 36864 (RC ip)]) (sa_Ker_5 _ _ _ _ _ _ _ _) rfl (fun H locs hw => ?_)
        have hro : RoI (va_up ka 5 (upd (ka 5) z30.toNatClampNeg ((RF ip) 17))) := hro.oth (by decide) (by decide)
        refine lv_aload_n S.x S.b d_Ker_send_61 rfl (lv_at hl 0 rfl) ?_
        refine px_get S k_Ker hT hw 0 0 7 (v := .ref (kr 7)) rfl rfl rfl (by decide) m2_228 d_Ker_send_62 ?_
        refine lv_iload_n S.x S.b d_Ker_send_65 rfl (lv_at hl 3 rfl) ?_
        refine lv_dup2_11 S.x S.b d_Ker_send_66 rfl rfl ?_
        refine px_iald S hT hw 0 8 (n := 26) (f := ((va_up ka 5 (upd (ka 5) z30.toNatClampNeg ((RF ip) 17))) 7)) rfl (ga_Ker_7 _ _ _ _ _ _ _) (x := p1) (vp_in_iff.mpr (by constructor <;> omega)) d_Ker_send_67 ?_
        refine lv_topi (fun z32 ez32 => ?_)
        have lz32 := Int32.le_toInt z32
        have uz32 := Int32.toInt_lt z32
        have qz32 := hro.at7 (x := p1) (by omega) (by omega) ez32
        have hlnk : z32.toInt = z23.toInt := (by rw [ez32, ez23, va_up_n (by decide)])
        refine lv_iconst (v := 1) S.x S.b d_Ker_send_68 (by decide) ?_
        refine lv_iadd S.x S.b d_Ker_send_69 ?_
        refine lv_topi (fun z33 ez33 => ?_)
        have tz33 : z33.toInt = (z32.toInt + (1 : Int) + 2147483648) % 4294967296 - 2147483648 := by rw [ez33]; exact i_add z32 1
        have lz33 := Int32.le_toInt z33
        have uz33 := Int32.toInt_lt z33
        try replace tz33 : z33.toInt = z32.toInt + (1 : Int) := by omega
        refine px_iast S hT hw 0 8 (n := 26) (f := ((va_up ka 5 (upd (ka 5) z30.toNatClampNeg ((RF ip) 17))) 7)) (x := p1) (y := z33) rfl (ga_Ker_7 _ _ _ _ _ _ _) (vp_in_iff.mpr (by constructor <;> omega)) d_Ker_send_70 (w' := wd_Ker cs hk kr (fun _ => none) kf (va_up (va_up ka 5 (upd (ka 5) z30.toNatClampNeg ((RF ip) 17))) 7 (upd ((va_up ka 5 (upd (ka 5) z30.toNatClampNeg ((RF ip) 17))) 7) p1.toNatClampNeg z33)) (gKe pq pz tq rq)) (ps' := [wd_Ker cs hk kr (fun _ => none) kf (va_up (va_up ka 5 (upd (ka 5) z30.toNatClampNeg ((RF ip) 17))) 7 (upd ((va_up ka 5 (upd (ka 5) z30.toNatClampNeg ((RF ip) 17))) 7) p1.toNatClampNeg z33)) (gKe pq pz tq rq), fm 13 (fTx cs tq TR TO TF TA), fm 8 (fPp cs pq PV), fo 13 (fRw cs rq RR RM RW RF RA RC) ip, wd_Raw cs hx (RR ip) (fun k => if k = 2 then (RM ip) else if k = 4 then (some ((PV j1).r 1)) else none) (RF ip) (RA ip) (fun _ _ => none), nA cs (RM ip) 36864 (RC ip)]) (sa_Ker_7 _ _ _ _ _ _ _ _) rfl (fun H locs hw => ?_)
        have hro : RoI (va_up (va_up ka 5 (upd (ka 5) z30.toNatClampNeg ((RF ip) 17))) 7 (upd ((va_up ka 5 (upd (ka 5) z30.toNatClampNeg ((RF ip) 17))) 7) p1.toNatClampNeg z33)) := hro.up7 (by omega) (by omega)
        refine lv_aload_n S.x S.b d_Ker_send_71 rfl (lv_at hl 1 rfl) ?_
        refine lv_iconst (v := 0) S.x S.b d_Ker_send_72 (by decide) ?_
        have hw : pw D A s.heap _ _ [wd_Ker cs hk kr (fun _ => none) kf (va_up (va_up ka 5 (upd (ka 5) z30.toNatClampNeg ((RF ip) 17))) 7 (upd ((va_up ka 5 (upd (ka 5) z30.toNatClampNeg ((RF ip) 17))) 7) p1.toNatClampNeg z33)) (gKe pq pz tq rq), fm 13 (fTx cs tq TR TO TF TA), fm 8 (fPp cs pq PV), fo 13 (fRw cs rq RR RM RW RF RA RC) ip, nA cs (RM ip) 36864 (RC ip), wd_Raw cs hx (RR ip) (fun k => if k = 2 then (RM ip) else if k = 4 then (some ((PV j1).r 1)) else none) (RF ip) (RA ip) (fun _ _ => none)] := hw.sub [0, 1, 2, 3, 5, 4] rfl rfl
        refine px_callv (pr := [wd_Ker cs hk kr (fun _ => none) kf (va_up (va_up ka 5 (upd (ka 5) z30.toNatClampNeg ((RF ip) 17))) 7 (upd ((va_up ka 5 (upd (ka 5) z30.toNatClampNeg ((RF ip) 17))) 7) p1.toNatClampNeg z33)) (gKe pq pz tq rq), fm 13 (fTx cs tq TR TO TF TA), fm 8 (fPp cs pq PV), fo 13 (fRw cs rq RR RM RW RF RA RC) ip, nA cs (RM ip) 36864 (RC ip)]) (px_runA (As := [.int 0]) (rest := []) S (c_Raw_answer l D cs hx (RR ip) (fun _ _ => none) (RM ip) (some ((PV j1).r 1)) (RF ip) (RA ip) 0  (show 1 ≤ ((RF ip) 7).toInt from by first | with_reducible rfl | with_reducible assumption | omega) _) hT (pr := [wd_Ker cs hk kr (fun _ => none) kf (va_up (va_up ka 5 (upd (ka 5) z30.toNatClampNeg ((RF ip) 17))) 7 (upd ((va_up ka 5 (upd (ka 5) z30.toNatClampNeg ((RF ip) 17))) 7) p1.toNatClampNeg z33)) (gKe pq pz tq rq), fm 13 (fTx cs tq TR TO TF TA), fm 8 (fPp cs pq PV), fo 13 (fRw cs rq RR RM RW RF RA RC) ip, nA cs (RM ip) 36864 (RC ip)]) (pcs := [wd_Raw cs hx (RR ip) (fun k => if k = 2 then (RM ip) else if k = 4 then (some ((PV j1).r 1)) else none) (RF ip) (RA ip) (fun _ _ => none)]) hw px_X.tt (C := "HomeSystem$RawProcess") (owner := "HomeSystem$AnyProcess") (x := ⟨"HomeSystem$AnyProcess", "answer", "(I)V"⟩) (px_recv hT hw 5 0 rfl rfl rfl) m8_72 m8_67 m8_69 m8_71 m8_70 m1_34 m8_68n ⟨by decide, by decide⟩ rfl q_Raw_answer ⟨Nat.le_of_ble_eq_true rfl, Nat.le_of_ble_eq_true rfl⟩ hl.1 rfl (Nat.le_of_ble_eq_true rfl) d_Ker_send_73 ⟨show 0 + 0 ≤ (5 * ndS 13 tq + 4 * ndS 13 rq + ndS 13 RM) from by first | with_reducible rfl | with_reducible assumption | omega, show 0 + 0 ≤ (9804 * ndS 13 tq + 342 * ndS 13 rq + 36864 * ndS 13 RM) from by first | with_reducible rfl | with_reducible assumption | omega⟩) hw hA (fun p36 H locs hp36 hw => ?_)
        obtain ⟨f34, a35, rfl, e38, e39, e40, e41, e42, e43⟩ := hp36
        replace e38 : (f34 7).toInt = ((RF ip) 7).toInt - 1 := e38
        replace e39 : (f34 8).toInt = ((RF ip) 8).toInt := e39
        replace e40 : (f34 10).toInt = ((RF ip) 10).toInt := e40
        replace e41 : (f34 13).toInt = ((RF ip) 13).toInt := e41
        replace e42 : (f34 14).toInt = 0 := e42
        replace e43 : (f34 11).toInt = ((RF ip) 11).toInt := e43
        replace hw : pw D A s.heap H locs [wd_Ker cs hk kr (fun _ => none) kf (va_up (va_up ka 5 (upd (ka 5) z30.toNatClampNeg ((RF ip) 17))) 7 (upd ((va_up ka 5 (upd (ka 5) z30.toNatClampNeg ((RF ip) 17))) 7) p1.toNatClampNeg z33)) (gKe pq pz tq rq), fm 13 (fTx cs tq TR TO TF TA), fm 8 (fPp cs pq PV), fo 13 (fRw cs rq RR RM RW RF RA RC) ip, nA cs (RM ip) 36864 (RC ip), wd_Raw cs hx (RR ip) (fun k => if k = 2 then (RM ip) else if k = 4 then (some ((PV j1).r 1)) else none) f34 a35 (fun _ _ => none)] := hw
        refine lv_iconst (v := 1) S.x S.b d_Ker_send_76 (by decide) ?_
        have hw : pw D A s.heap _ _ [wd_Ker cs hk kr (fun _ => none) kf (va_up (va_up ka 5 (upd (ka 5) z30.toNatClampNeg ((RF ip) 17))) 7 (upd ((va_up ka 5 (upd (ka 5) z30.toNatClampNeg ((RF ip) 17))) 7) p1.toNatClampNeg z33)) (gKe pq pz tq rq), fm 13 (fTx cs tq TR TO TF TA), fm 8 (fPp cs pq PV), fo 13 (fRw cs rq RR RM RW RF RA RC) ip, wd_Raw cs hx (RR ip) (fun k => if k = 2 then (RM ip) else if k = 4 then (some ((PV j1).r 1)) else none) f34 a35 (fun _ _ => none), nA cs (RM ip) 36864 (RC ip)] := hw.sub [0, 1, 2, 3, 5, 4] rfl rfl
        have hw := frw_in0 (pr := [wd_Ker cs hk kr (fun _ => none) kf (va_up (va_up ka 5 (upd (ka 5) z30.toNatClampNeg ((RF ip) 17))) 7 (upd ((va_up ka 5 (upd (ka 5) z30.toNatClampNeg ((RF ip) 17))) 7) p1.toNatClampNeg z33)) (gKe pq pz tq rq), fm 13 (fTx cs tq TR TO TF TA), fm 8 (fPp cs pq PV)]) hw hip hcu.1 hto1
        obtain ⟨RM44, hu_RM44⟩ : ∃ y : Nat → Option Nat, y = va_up RM ip (RM ip) := ⟨_, rfl⟩
        obtain ⟨RF45, hu_RF45⟩ : ∃ y : Nat → Nat → Int32, y = va_up RF ip f34 := ⟨_, rfl⟩
        obtain ⟨RA46, hu_RA46⟩ : ∃ y : Nat → Nat → Nat → Int32, y = va_up RA ip a35 := ⟨_, rfl⟩
        obtain ⟨RC47, hu_RC47⟩ : ∃ y : Nat → Nat → Int32, y = va_up RC ip (RC ip) := ⟨_, rfl⟩
        have hw : pw D A s.heap _ _ [wd_Ker cs hk kr (fun _ => none) kf (va_up (va_up ka 5 (upd (ka 5) z30.toNatClampNeg ((RF ip) 17))) 7 (upd ((va_up ka 5 (upd (ka 5) z30.toNatClampNeg ((RF ip) 17))) 7) p1.toNatClampNeg z33)) (gKe pq pz tq rq), fm 13 (fTx cs tq TR TO TF TA), fm 8 (fPp cs pq PV), fm 13 (fRw cs rq RR RM44 RW RF45 RA46 RC47)] := (by rw [hu_RM44, hu_RF45, hu_RA46, hu_RC47]; exact hw)
        have hki : KnI pq PV pz tq rq TO TF TA RW RF45 := (by rw [hu_RF45]; exact hki.upR (show RwN ip f34 from ⟨(show (0 ≤ (f34 7).toInt ∧ (f34 7).toInt ≤ 1600) ∧ (0 ≤ (f34 10).toInt ∧ (f34 10).toInt + (f34 7).toInt ≤ 1600) ∧ ((f34 14).toInt = 0 ∨ (f34 14).toInt = 1) ∧ ((f34 14).toInt = 1 → 1 ≤ (f34 7).toInt) from by first | with_reducible rfl | with_reducible assumption | omega), (show ((f34 8).toInt) = ((ip : Nat) : Int) from by first | with_reducible rfl | with_reducible assumption | omega), (show 0 ≤ (f34 13).toInt ∧ (f34 13).toInt ≤ 3 ∧ ((f34 13).toInt = 0 ∨ 3 * ((ip : Nat) : Int) + (f34 13).toInt ≤ 12) from by first | with_reducible rfl | with_reducible assumption | omega)⟩))
        have hrm : RmI rq RM44 := (by rw [hu_RM44]; exact hrm.up hcu.1)
        have hnd_RM44 := ndS_up 13 RM ip (RM ip) hip; rw [← hu_RM44] at hnd_RM44
        have hz14_RF45 : (RF45 ip 14).toInt = (f34 14).toInt := (by rw [hu_RF45, va_up_s]; try rfl)
        have hw : pw D A s.heap _ _ [wd_Ker cs hk kr (fun _ => none) kf (va_up (va_up ka 5 (upd (ka 5) z30.toNatClampNeg ((RF ip) 17))) 7 (upd ((va_up ka 5 (upd (ka 5) z30.toNatClampNeg ((RF ip) 17))) 7) p1.toNatClampNeg z33)) (gKe pq pz tq rq), fm 13 (fTx cs tq TR TO TF TA), fm 13 (fRw cs rq RR RM44 RW RF45 RA46 RC47), fm 8 (fPp cs pq PV)] := hw.sub [0, 1, 3, 2] rfl rfl
        exact pg_iret (v := 1) S hr rfl hlk hAe hw (show 0 ≤ (5 * ndS 13 tq + 4 * ndS 13 rq + ndS 13 RM) from by first | exact oz_86e49526c7 | omega) (show 0 ≤ (9804 * ndS 13 tq + 342 * ndS 13 rq + 36864 * ndS 13 RM) from by first | exact oz_fc3b58e969 | omega) (⟨pz, tq, rq, (va_up (va_up ka 5 (upd (ka 5) z30.toNatClampNeg ((RF ip) 17))) 7 (upd ((va_up ka 5 (upd (ka 5) z30.toNatClampNeg ((RF ip) 17))) 7) p1.toNatClampNeg z33)), TR, TO, TF, TA, RR, RM44, RW, RF45, RA46, RC47, rfl, (show (1 : Int32) = 0 ∨ (1 : Int32) = 1 from by first | exact Or.inl rfl | exact Or.inr rfl | exact z_or (by omega)), (show CuR pq PV rq RW ip hx from hcu), (show KnI pq PV pz tq rq TO TF TA RW RF45 from hki), (show RoI (va_up (va_up ka 5 (upd (ka 5) z30.toNatClampNeg ((RF ip) 17))) 7 (upd ((va_up ka 5 (upd (ka 5) z30.toNatClampNeg ((RF ip) 17))) 7) p1.toNatClampNeg z33)) from hro), (show RmI rq RM44 from hrm), (show 0 + (5 * ndS 13 tq + 4 * ndS 13 rq + ndS 13 RM44) ≤ 5 * ndS 13 tq + 4 * ndS 13 rq + ndS 13 RM from by first | with_reducible rfl | with_reducible assumption | omega), (show 0 + (9804 * ndS 13 tq + 342 * ndS 13 rq + 36864 * ndS 13 RM44) ≤ 9804 * ndS 13 tq + 342 * ndS 13 rq + 36864 * ndS 13 RM from by first | with_reducible rfl | with_reducible assumption | omega)⟩) d_Ker_send_77
      · have nc24 : z23.toInt = (4 : Int) := (i_eq (x := z23) (y := 4)).mp c24
        refine lv_iconst (v := 0) S.x S.b d_Ker_send_31 (by decide) ?_
        exact pg_iret (v := 0) S hr rfl hlk hAe hw (show 0 ≤ (5 * ndS 13 tq + 4 * ndS 13 rq + ndS 13 RM) from by first | exact oz_86e49526c7 | omega) (show 0 ≤ (9804 * ndS 13 tq + 342 * ndS 13 rq + 36864 * ndS 13 RM) from by first | exact oz_fc3b58e969 | omega) (⟨pz, tq, rq, ka, TR, TO, TF, TA, RR, RM, RW, RF, RA, RC, rfl, (show (0 : Int32) = 0 ∨ (0 : Int32) = 1 from by first | exact Or.inl rfl | exact Or.inr rfl | exact z_or (by omega)), (show CuR pq PV rq RW ip hx from hcu), (show KnI pq PV pz tq rq TO TF TA RW RF from hki), (show RoI ka from hro), (show RmI rq RM from hrm), (show 0 + (5 * ndS 13 tq + 4 * ndS 13 rq + ndS 13 RM) ≤ 5 * ndS 13 tq + 4 * ndS 13 rq + ndS 13 RM from by first | exact oz_9d19b050ad | omega), (show 0 + (9804 * ndS 13 tq + 342 * ndS 13 rq + 36864 * ndS 13 RM) ≤ 9804 * ndS 13 tq + 342 * ndS 13 rq + 36864 * ndS 13 RM from by first | exact oz_b5592d0ae7 | omega)⟩) d_Ker_send_32
  · have nc2 : p0.toInt = (-1 : Int) := (i_eq (x := p0) (y := (-1))).mp c2
    refine lv_aload_n S.x S.b d_Ker_send_5 rfl (lv_at hl 1 rfl) ?_
    refine lv_iconst (v := 2) S.x S.b d_Ker_send_6 (by decide) ?_
    refine lv_iconst (v := 0) S.x S.b d_Ker_send_7 (by decide) ?_
    have hw : pw D A s.heap _ _ [wd_Ker cs hk kr (fun _ => none) kf ka (gKe pq pz tq rq), fm 13 (fTx cs tq TR TO TF TA), fm 8 (fPp cs pq PV), fm 13 (fRw cs rq RR RM RW RF RA RC)] := hw.sub [0, 1, 3, 2] rfl rfl
    have hw : pw D A s.heap _ _ [wd_Ker cs hk kr (fun _ => none) kf ka (gKe pq pz tq rq), fm 13 (fTx cs tq TR TO TF TA), fm 8 (fPp cs pq PV), fo 13 (fRw cs rq RR RM RW RF RA RC) ip, wd_Raw cs hx (RR ip) (fun k => if k = 2 then (RM ip) else if k = 4 then (some ((PV j1).r 1)) else none) (RF ip) (RA ip) (fun _ _ => none), nA cs (RM ip) 36864 (RC ip)] := frw_out (pr := [wd_Ker cs hk kr (fun _ => none) kf ka (gKe pq pz tq rq), fm 13 (fTx cs tq TR TO TF TA), fm 8 (fPp cs pq PV)]) hw hip hcu.1 hto1
    have hng48 := ndS_ge 13 RM ip hip
    have hrn48 : RwN ip (RF ip) := hki.2.2.1 ip hip _ hcu.1
    have hro48 := hrn48.1
    unfold RwO at hro48
    have hid48 := hrn48.2.1
    have hch48 := hrn48.2.2
    unfold KcI at hch48
    have hw : pw D A s.heap _ _ [wd_Ker cs hk kr (fun _ => none) kf ka (gKe pq pz tq rq), fm 13 (fTx cs tq TR TO TF TA), fm 8 (fPp cs pq PV), fo 13 (fRw cs rq RR RM RW RF RA RC) ip, nA cs (RM ip) 36864 (RC ip), wd_Raw cs hx (RR ip) (fun k => if k = 2 then (RM ip) else if k = 4 then (some ((PV j1).r 1)) else none) (RF ip) (RA ip) (fun _ _ => none)] := hw.sub [0, 1, 2, 3, 5, 4] rfl rfl
    refine px_callv (pr := [wd_Ker cs hk kr (fun _ => none) kf ka (gKe pq pz tq rq), fm 13 (fTx cs tq TR TO TF TA), fm 8 (fPp cs pq PV), fo 13 (fRw cs rq RR RM RW RF RA RC) ip, nA cs (RM ip) 36864 (RC ip)]) (px_runU (As := [.int 2, .int 0]) (rest := []) S (c_finish_Raw l D cs hx (RR ip) (fun _ _ => none) (RM ip) (some ((PV j1).r 1)) (RF ip) (RA ip) 2 0   _) hT (pr := [wd_Ker cs hk kr (fun _ => none) kf ka (gKe pq pz tq rq), fm 13 (fTx cs tq TR TO TF TA), fm 8 (fPp cs pq PV), fo 13 (fRw cs rq RR RM RW RF RA RC) ip, nA cs (RM ip) 36864 (RC ip)]) (pcs := [wd_Raw cs hx (RR ip) (fun k => if k = 2 then (RM ip) else if k = 4 then (some ((PV j1).r 1)) else none) (RF ip) (RA ip) (fun _ _ => none)]) hw px_X.tt (C := "HomeSystem$RawProcess") (x := ⟨"HomeSystem$AnyProcess", "finish", "(II)V"⟩) (px_recv hT hw 5 0 rfl rfl rfl) m8_89 m8_84 m8_86 m8_85 m8_87 m1_33 rfl q_HomeSystem_AnyProcess_finish ⟨Nat.le_of_ble_eq_true rfl, Nat.le_of_ble_eq_true rfl⟩ hl.1 rfl (Nat.le_of_ble_eq_true rfl) d_Ker_send_8 ⟨show 0 + 0 ≤ (5 * ndS 13 tq + 4 * ndS 13 rq + ndS 13 RM) from by first | with_reducible rfl | with_reducible assumption | omega, show 0 + 0 ≤ (9804 * ndS 13 tq + 342 * ndS 13 rq + 36864 * ndS 13 RM) from by first | with_reducible rfl | with_reducible assumption | omega⟩) hw hA (fun p51 H locs hp51 hw => ?_)
    obtain ⟨f49, a50, rfl, e53, e54, e55, e56, e57, e58, e59⟩ := hp51
    replace e53 : (f49 3).toInt = ((RF ip) 3).toInt := e53
    replace e54 : (f49 7).toInt = ((RF ip) 7).toInt := e54
    replace e55 : (f49 8).toInt = ((RF ip) 8).toInt := e55
    replace e56 : (f49 10).toInt = ((RF ip) 10).toInt := e56
    replace e57 : (f49 13).toInt = ((RF ip) 13).toInt := e57
    replace e58 : (f49 14).toInt = 0 := e58
    replace e59 : (f49 11).toInt = (2 : Int) := e59
    replace hw : pw D A s.heap H locs [wd_Ker cs hk kr (fun _ => none) kf ka (gKe pq pz tq rq), fm 13 (fTx cs tq TR TO TF TA), fm 8 (fPp cs pq PV), fo 13 (fRw cs rq RR RM RW RF RA RC) ip, nA cs (RM ip) 36864 (RC ip), wd_Raw cs hx (RR ip) (fun k => if k = 2 then (RM ip) else if k = 4 then (some ((PV j1).r 1)) else none) f49 a50 (fun _ _ => none)] := hw
    refine lv_iconst (v := 1) S.x S.b d_Ker_send_11 (by decide) ?_
    have hw : pw D A s.heap _ _ [wd_Ker cs hk kr (fun _ => none) kf ka (gKe pq pz tq rq), fm 13 (fTx cs tq TR TO TF TA), fm 8 (fPp cs pq PV), fo 13 (fRw cs rq RR RM RW RF RA RC) ip, wd_Raw cs hx (RR ip) (fun k => if k = 2 then (RM ip) else if k = 4 then (some ((PV j1).r 1)) else none) f49 a50 (fun _ _ => none), nA cs (RM ip) 36864 (RC ip)] := hw.sub [0, 1, 2, 3, 5, 4] rfl rfl
    have hw := frw_in0 (pr := [wd_Ker cs hk kr (fun _ => none) kf ka (gKe pq pz tq rq), fm 13 (fTx cs tq TR TO TF TA), fm 8 (fPp cs pq PV)]) hw hip hcu.1 hto1
    obtain ⟨RM60, hu_RM60⟩ : ∃ y : Nat → Option Nat, y = va_up RM ip (RM ip) := ⟨_, rfl⟩
    obtain ⟨RF61, hu_RF61⟩ : ∃ y : Nat → Nat → Int32, y = va_up RF ip f49 := ⟨_, rfl⟩
    obtain ⟨RA62, hu_RA62⟩ : ∃ y : Nat → Nat → Nat → Int32, y = va_up RA ip a50 := ⟨_, rfl⟩
    obtain ⟨RC63, hu_RC63⟩ : ∃ y : Nat → Nat → Int32, y = va_up RC ip (RC ip) := ⟨_, rfl⟩
    have hw : pw D A s.heap _ _ [wd_Ker cs hk kr (fun _ => none) kf ka (gKe pq pz tq rq), fm 13 (fTx cs tq TR TO TF TA), fm 8 (fPp cs pq PV), fm 13 (fRw cs rq RR RM60 RW RF61 RA62 RC63)] := (by rw [hu_RM60, hu_RF61, hu_RA62, hu_RC63]; exact hw)
    have hki : KnI pq PV pz tq rq TO TF TA RW RF61 := (by rw [hu_RF61]; exact hki.upR (show RwN ip f49 from ⟨(show (0 ≤ (f49 7).toInt ∧ (f49 7).toInt ≤ 1600) ∧ (0 ≤ (f49 10).toInt ∧ (f49 10).toInt + (f49 7).toInt ≤ 1600) ∧ ((f49 14).toInt = 0 ∨ (f49 14).toInt = 1) ∧ ((f49 14).toInt = 1 → 1 ≤ (f49 7).toInt) from by first | with_reducible rfl | with_reducible assumption | omega), (show ((f49 8).toInt) = ((ip : Nat) : Int) from by first | with_reducible rfl | with_reducible assumption | omega), (show 0 ≤ (f49 13).toInt ∧ (f49 13).toInt ≤ 3 ∧ ((f49 13).toInt = 0 ∨ 3 * ((ip : Nat) : Int) + (f49 13).toInt ≤ 12) from by first | with_reducible rfl | with_reducible assumption | omega)⟩))
    have hrm : RmI rq RM60 := (by rw [hu_RM60]; exact hrm.up hcu.1)
    have hnd_RM60 := ndS_up 13 RM ip (RM ip) hip; rw [← hu_RM60] at hnd_RM60
    have hz14_RF61 : (RF61 ip 14).toInt = (f49 14).toInt := (by rw [hu_RF61, va_up_s]; try rfl)
    have hw : pw D A s.heap _ _ [wd_Ker cs hk kr (fun _ => none) kf ka (gKe pq pz tq rq), fm 13 (fTx cs tq TR TO TF TA), fm 13 (fRw cs rq RR RM60 RW RF61 RA62 RC63), fm 8 (fPp cs pq PV)] := hw.sub [0, 1, 3, 2] rfl rfl
    exact pg_iret (v := 1) S hr rfl hlk hAe hw (show 0 ≤ (5 * ndS 13 tq + 4 * ndS 13 rq + ndS 13 RM) from by first | exact oz_86e49526c7 | omega) (show 0 ≤ (9804 * ndS 13 tq + 342 * ndS 13 rq + 36864 * ndS 13 RM) from by first | exact oz_fc3b58e969 | omega) (⟨pz, tq, rq, ka, TR, TO, TF, TA, RR, RM60, RW, RF61, RA62, RC63, rfl, (show (1 : Int32) = 0 ∨ (1 : Int32) = 1 from by first | exact Or.inl rfl | exact Or.inr rfl | exact z_or (by omega)), (show CuR pq PV rq RW ip hx from hcu), (show KnI pq PV pz tq rq TO TF TA RW RF61 from hki), (show RoI ka from hro), (show RmI rq RM60 from hrm), (show 0 + (5 * ndS 13 tq + 4 * ndS 13 rq + ndS 13 RM60) ≤ 5 * ndS 13 tq + 4 * ndS 13 rq + ndS 13 RM from by first | with_reducible rfl | with_reducible assumption | omega), (show 0 + (9804 * ndS 13 tq + 342 * ndS 13 rq + 36864 * ndS 13 RM60) ≤ 9804 * ndS 13 tq + 342 * ndS 13 rq + 36864 * ndS 13 RM from by first | with_reducible rfl | with_reducible assumption | omega)⟩) d_Ker_send_12
abbrev b_Ker_receive : ByteArray := prog_4_method_9_code
def y_Ker_receive : MethodName := ⟨"HomeSystem$Kernel", "receive", "(LHomeSystem$AnyProcess;II)Z"⟩
theorem d_Ker_receive_0 : decode b_Ker_receive 0 = .ok (.iload_n 2, 1) := by decide +kernel
theorem d_Ker_receive_1 : decode b_Ker_receive 1 = .ok (.iconst (-1), 1) := by decide +kernel
theorem d_Ker_receive_2 : decode b_Ker_receive 2 = .ok (.if_icmp .ne 11, 3) := by decide +kernel
theorem d_Ker_receive_5 : decode b_Ker_receive 5 = .ok (.aload_n 1, 1) := by decide +kernel
theorem d_Ker_receive_6 : decode b_Ker_receive 6 = .ok (.iconst 2, 1) := by decide +kernel
theorem d_Ker_receive_7 : decode b_Ker_receive 7 = .ok (.iconst 0, 1) := by decide +kernel
theorem d_Ker_receive_8 : decode b_Ker_receive 8 = .ok (.invokevirtual 74, 3) := by decide +kernel
theorem d_Ker_receive_11 : decode b_Ker_receive 11 = .ok (.iconst 1, 1) := by decide +kernel
theorem d_Ker_receive_12 : decode b_Ker_receive 12 = .ok (.ireturn, 1) := by decide +kernel
theorem d_Ker_receive_13 : decode b_Ker_receive 13 = .ok (.aload_n 1, 1) := by decide +kernel
theorem d_Ker_receive_14 : decode b_Ker_receive 14 = .ok (.getfield 108, 3) := by decide +kernel
theorem d_Ker_receive_17 : decode b_Ker_receive 17 = .ok (.iconst 4, 1) := by decide +kernel
theorem d_Ker_receive_18 : decode b_Ker_receive 18 = .ok (.if_icmp .ne 7, 3) := by decide +kernel
theorem d_Ker_receive_21 : decode b_Ker_receive 21 = .ok (.iconst 1, 1) := by decide +kernel
theorem d_Ker_receive_22 : decode b_Ker_receive 22 = .ok (.goto 4, 3) := by decide +kernel
theorem d_Ker_receive_25 : decode b_Ker_receive 25 = .ok (.iconst 0, 1) := by decide +kernel
theorem d_Ker_receive_26 : decode b_Ker_receive 26 = .ok (.istore 4, 2) := by decide +kernel
theorem d_Ker_receive_28 : decode b_Ker_receive 28 = .ok (.aload_n 0, 1) := by decide +kernel
theorem d_Ker_receive_29 : decode b_Ker_receive 29 = .ok (.getfield 45, 3) := by decide +kernel
theorem d_Ker_receive_32 : decode b_Ker_receive 32 = .ok (.iload_n 3, 1) := by decide +kernel
theorem d_Ker_receive_33 : decode b_Ker_receive 33 = .ok (.iaload, 1) := by decide +kernel
theorem d_Ker_receive_34 : decode b_Ker_receive 34 = .ok (.ifCond .ne 36, 3) := by decide +kernel
theorem d_Ker_receive_37 : decode b_Ker_receive 37 = .ok (.iload 4, 2) := by decide +kernel
theorem d_Ker_receive_39 : decode b_Ker_receive 39 = .ok (.ifCond .eq 15, 3) := by decide +kernel
theorem d_Ker_receive_42 : decode b_Ker_receive 42 = .ok (.aload_n 0, 1) := by decide +kernel
theorem d_Ker_receive_43 : decode b_Ker_receive 43 = .ok (.iload_n 2, 1) := by decide +kernel
theorem d_Ker_receive_44 : decode b_Ker_receive 44 = .ok (.invokevirtual 70, 3) := by decide +kernel
theorem d_Ker_receive_47 : decode b_Ker_receive 47 = .ok (.ifCond .ne 7, 3) := by decide +kernel
theorem d_Ker_receive_50 : decode b_Ker_receive 50 = .ok (.iconst 1, 1) := by decide +kernel
theorem d_Ker_receive_51 : decode b_Ker_receive 51 = .ok (.goto 4, 3) := by decide +kernel
theorem d_Ker_receive_54 : decode b_Ker_receive 54 = .ok (.iconst 0, 1) := by decide +kernel
theorem d_Ker_receive_55 : decode b_Ker_receive 55 = .ok (.istore 5, 2) := by decide +kernel
theorem d_Ker_receive_57 : decode b_Ker_receive 57 = .ok (.iload 5, 2) := by decide +kernel
theorem d_Ker_receive_59 : decode b_Ker_receive 59 = .ok (.ifCond .eq 8, 3) := by decide +kernel
theorem d_Ker_receive_62 : decode b_Ker_receive 62 = .ok (.aload_n 1, 1) := by decide +kernel
theorem d_Ker_receive_63 : decode b_Ker_receive 63 = .ok (.iconst 0, 1) := by decide +kernel
theorem d_Ker_receive_64 : decode b_Ker_receive 64 = .ok (.invokevirtual 117, 3) := by decide +kernel
theorem d_Ker_receive_67 : decode b_Ker_receive 67 = .ok (.iload 5, 2) := by decide +kernel
theorem d_Ker_receive_69 : decode b_Ker_receive 69 = .ok (.ireturn, 1) := by decide +kernel
theorem d_Ker_receive_70 : decode b_Ker_receive 70 = .ok (.iload 4, 2) := by decide +kernel
theorem d_Ker_receive_72 : decode b_Ker_receive 72 = .ok (.ifCond .eq 10, 3) := by decide +kernel
theorem d_Ker_receive_75 : decode b_Ker_receive 75 = .ok (.aload_n 1, 1) := by decide +kernel
theorem d_Ker_receive_76 : decode b_Ker_receive 76 = .ok (.iconst 1, 1) := by decide +kernel
theorem d_Ker_receive_77 : decode b_Ker_receive 77 = .ok (.invokevirtual 117, 3) := by decide +kernel
theorem d_Ker_receive_80 : decode b_Ker_receive 80 = .ok (.iconst 1, 1) := by decide +kernel
theorem d_Ker_receive_81 : decode b_Ker_receive 81 = .ok (.ireturn, 1) := by decide +kernel
theorem d_Ker_receive_82 : decode b_Ker_receive 82 = .ok (.aload_n 0, 1) := by decide +kernel
theorem d_Ker_receive_83 : decode b_Ker_receive 83 = .ok (.getfield 39, 3) := by decide +kernel
theorem d_Ker_receive_86 : decode b_Ker_receive 86 = .ok (.iconst 4, 1) := by decide +kernel
theorem d_Ker_receive_87 : decode b_Ker_receive 87 = .ok (.iload_n 3, 1) := by decide +kernel
theorem d_Ker_receive_88 : decode b_Ker_receive 88 = .ok (.imul, 1) := by decide +kernel
theorem d_Ker_receive_89 : decode b_Ker_receive 89 = .ok (.aload_n 0, 1) := by decide +kernel
theorem d_Ker_receive_90 : decode b_Ker_receive 90 = .ok (.getfield 42, 3) := by decide +kernel
theorem d_Ker_receive_93 : decode b_Ker_receive 93 = .ok (.iload_n 3, 1) := by decide +kernel
theorem d_Ker_receive_94 : decode b_Ker_receive 94 = .ok (.iaload, 1) := by decide +kernel
theorem d_Ker_receive_95 : decode b_Ker_receive 95 = .ok (.iadd, 1) := by decide +kernel
theorem d_Ker_receive_96 : decode b_Ker_receive 96 = .ok (.iaload, 1) := by decide +kernel
theorem d_Ker_receive_97 : decode b_Ker_receive 97 = .ok (.istore 5, 2) := by decide +kernel
theorem d_Ker_receive_99 : decode b_Ker_receive 99 = .ok (.aload_n 0, 1) := by decide +kernel
theorem d_Ker_receive_100 : decode b_Ker_receive 100 = .ok (.getfield 42, 3) := by decide +kernel
theorem d_Ker_receive_103 : decode b_Ker_receive 103 = .ok (.iload_n 3, 1) := by decide +kernel
theorem d_Ker_receive_104 : decode b_Ker_receive 104 = .ok (.aload_n 0, 1) := by decide +kernel
theorem d_Ker_receive_105 : decode b_Ker_receive 105 = .ok (.getfield 42, 3) := by decide +kernel
theorem d_Ker_receive_108 : decode b_Ker_receive 108 = .ok (.iload_n 3, 1) := by decide +kernel
theorem d_Ker_receive_109 : decode b_Ker_receive 109 = .ok (.iaload, 1) := by decide +kernel
theorem d_Ker_receive_110 : decode b_Ker_receive 110 = .ok (.iconst 1, 1) := by decide +kernel
theorem d_Ker_receive_111 : decode b_Ker_receive 111 = .ok (.iadd, 1) := by decide +kernel
theorem d_Ker_receive_112 : decode b_Ker_receive 112 = .ok (.iconst 4, 1) := by decide +kernel
theorem d_Ker_receive_113 : decode b_Ker_receive 113 = .ok (.irem, 1) := by decide +kernel
theorem d_Ker_receive_114 : decode b_Ker_receive 114 = .ok (.iastore, 1) := by decide +kernel
theorem d_Ker_receive_115 : decode b_Ker_receive 115 = .ok (.aload_n 0, 1) := by decide +kernel
theorem d_Ker_receive_116 : decode b_Ker_receive 116 = .ok (.getfield 45, 3) := by decide +kernel
theorem d_Ker_receive_119 : decode b_Ker_receive 119 = .ok (.iload_n 3, 1) := by decide +kernel
theorem d_Ker_receive_120 : decode b_Ker_receive 120 = .ok (.dup2, 1) := by decide +kernel
theorem d_Ker_receive_121 : decode b_Ker_receive 121 = .ok (.iaload, 1) := by decide +kernel
theorem d_Ker_receive_122 : decode b_Ker_receive 122 = .ok (.iconst 1, 1) := by decide +kernel
theorem d_Ker_receive_123 : decode b_Ker_receive 123 = .ok (.isub, 1) := by decide +kernel
theorem d_Ker_receive_124 : decode b_Ker_receive 124 = .ok (.iastore, 1) := by decide +kernel
theorem d_Ker_receive_125 : decode b_Ker_receive 125 = .ok (.aload_n 1, 1) := by decide +kernel
theorem d_Ker_receive_126 : decode b_Ker_receive 126 = .ok (.iload 5, 2) := by decide +kernel
theorem d_Ker_receive_128 : decode b_Ker_receive 128 = .ok (.invokevirtual 117, 3) := by decide +kernel
theorem d_Ker_receive_131 : decode b_Ker_receive 131 = .ok (.iconst 1, 1) := by decide +kernel
theorem d_Ker_receive_132 : decode b_Ker_receive 132 = .ok (.ireturn, 1) := by decide +kernel
theorem q_Ker_receive : px_y y_Ker_receive 3 := by unfold px_y; decide +kernel
set_option maxHeartbeats 4000000 in
set_option maxRecDepth 100000 in
theorem c_k_receive_T (l : Launch) (D : va_G) (cs : Nat → ClassId) (hk : Nat) (kr : Nat → Nat) (pq : Nat → Option Nat) (kf : Nat → Int32) (PV : Nat → Pvs) (pz : Nat → Option Nat) (tq : Nat → Option Nat) (rq : Nat → Option Nat) (ka : Nat → Nat → Int32) (TR : Nat → Nat → Nat) (TO : Nat → Option Nat) (TF : Nat → Nat → Int32) (TA : Nat → Nat → Nat → Int32) (RR : Nat → Nat → Nat) (RM : Nat → Option Nat) (RW : Nat → Option Nat) (RF : Nat → Nat → Int32) (RA : Nat → Nat → Nat → Int32) (RC : Nat → Nat → Int32) (p0 p1 : Int32) (ip hx : Nat) (g0 : p0.toInt = -1 ∨ (0 ≤ p0.toInt ∧ p0.toInt ≤ 12 ∧ 0 ≤ p1.toInt ∧ p1.toInt ≤ 25)) (g1 : (TF ip 21).toInt = 1) (hki : KnI pq PV pz tq rq TO TF TA RW RF) (hro : RoI ka) (hrm : RmI rq RM) (hip : ip < 13) (hcu : CuT pq PV tq TO ip hx) : MgI l y_Ker_receive b_Ker_receive 6 (.boolean) D cs 4 160 ((5 * ndS 13 tq + 4 * ndS 13 rq + ndS 13 RM)) ((9804 * ndS 13 tq + 342 * ndS 13 rq + 36864 * ndS 13 RM)) [.ref hk, .ref hx, .int p0, .int p1] [wd_Ker cs hk kr (fun _ => none) kf ka (gKe pq pz tq rq), fm 13 (fTx cs tq TR TO TF TA), fm 13 (fRw cs rq RR RM RW RF RA RC), fm 8 (fPp cs pq PV)] (fun _ => True) (fun v ps => ∃ (pz' : Nat → Option Nat) (tq' : Nat → Option Nat) (rq' : Nat → Option Nat) (ka' : Nat → Nat → Int32) (TR' : Nat → Nat → Nat) (TO' : Nat → Option Nat) (TF' : Nat → Nat → Int32) (TA' : Nat → Nat → Nat → Int32) (RR' : Nat → Nat → Nat) (RM' : Nat → Option Nat) (RW' : Nat → Option Nat) (RF' : Nat → Nat → Int32) (RA' : Nat → Nat → Nat → Int32) (RC' : Nat → Nat → Int32), (ps.1 = [wd_Ker cs hk kr (fun _ => none) kf ka' (gKe pq pz' tq' rq'), fm 13 (fTx cs tq' TR' TO' TF' TA'), fm 13 (fRw cs rq' RR' RM' RW' RF' RA' RC'), fm 8 (fPp cs pq PV)]) ∧ (v = 0 ∨ v = 1) ∧ (CuT pq PV tq' TO' ip hx) ∧ (KnI pq PV pz' tq' rq' TO' TF' TA' RW' RF') ∧ (RoI ka') ∧ (RmI rq' RM') ∧ (ps.2.1 + (5 * ndS 13 tq' + 4 * ndS 13 rq' + ndS 13 RM') ≤ 5 * ndS 13 tq + 4 * ndS 13 rq + ndS 13 RM) ∧ (ps.2.2 + (9804 * ndS 13 tq' + 342 * ndS 13 rq' + 36864 * ndS 13 RM') ≤ 9804 * ndS 13 tq + 342 * ndS 13 rq + 36864 * ndS 13 RM)) := by
  refine pg_enter (by decide) (Nat.le_of_ble_eq_true rfl) ?_
  intro p e s m below meth c A ls hAe S hr hlk hnm hA hT hX hw hl
  replace hl : lv_has ls 6 [(0, .ref hk), (1, .ref hx), (2, .int p0), (3, .int p1)] := hl
  have lp0 := Int32.le_toInt p0
  have up0 := Int32.toInt_lt p0
  have lp1 := Int32.le_toInt p1
  have up1 := Int32.toInt_lt p1
  have cstm1 : ((-1) : Int32).toInt = (-1) := rfl
  have cst0 : (0 : Int32).toInt = 0 := rfl
  have cst1 : (1 : Int32).toInt = 1 := rfl
  have cst2 : (2 : Int32).toInt = 2 := rfl
  have cst4 : (4 : Int32).toInt = 4 := rfl
  refine lv_iload_n S.x S.b d_Ker_receive_0 rfl (lv_at hl 2 rfl) ?_
  obtain ⟨j1, hp1, hj1, hjq1, hto1, hf01⟩ := hcu.2
  refine lv_iconst (v := (-1)) S.x S.b d_Ker_receive_1 (by decide) ?_
  refine lv_icmp_ne (tgt := 13) S.x S.b d_Ker_receive_2 (by decide) (fun c2 => ?_) (fun c2 => ?_)
  · have nc2 : ¬ p0.toInt = (-1 : Int) := mt (i_eq (x := p0) (y := (-1))).mpr c2
    refine lv_aload_n S.x S.b d_Ker_receive_13 rfl (lv_at hl 1 rfl) ?_
    have hw : pw D A s.heap _ _ [wd_Ker cs hk kr (fun _ => none) kf ka (gKe pq pz tq rq), fm 13 (fRw cs rq RR RM RW RF RA RC), fm 8 (fPp cs pq PV), fm 13 (fTx cs tq TR TO TF TA)] := hw.sub [0, 2, 3, 1] rfl rfl
    have hw : pw D A s.heap _ _ [wd_Ker cs hk kr (fun _ => none) kf ka (gKe pq pz tq rq), fm 13 (fRw cs rq RR RM RW RF RA RC), fm 8 (fPp cs pq PV), fo 13 (fTx cs tq TR TO TF TA) ip, wd_Txp cs hx (TR ip) (fun k => if k = 3 then (some hp1) else none) (TF ip) (TA ip) (fun _ _ => none)] := ftx_out (pr := [wd_Ker cs hk kr (fun _ => none) kf ka (gKe pq pz tq rq), fm 13 (fRw cs rq RR RM RW RF RA RC), fm 8 (fPp cs pq PV)]) hw hip hcu.1 hto1
    have htn3 : TxN ip (TF ip) (TA ip) := hki.2.1 ip hip _ hcu.1
    obtain ⟨lk, ⟨i2, i3⟩, ⟨i4, i5⟩, ⟨i6, i7⟩, i8, ⟨i9, i11⟩, i10, hrt⟩ := htn3.1
    have hid3 := htn3.2.1
    have hch3 := htn3.2.2
    unfold KcI at hch3
    refine px_get S k_Txp hT hw 4 0 22 (v := .int ((TF ip) 22)) rfl rfl rfl (by decide) m6_158 d_Ker_receive_14 ?_
    refine lv_iconst (v := 4) S.x S.b d_Ker_receive_17 (by decide) ?_
    refine lv_icmp_ne (tgt := 25) S.x S.b d_Ker_receive_18 (by decide) (fun c4 => ?_) (fun c4 => ?_)
    · have nc4 : ¬ ((TF ip) 22).toInt = (4 : Int) := mt (i_eq (x := ((TF ip) 22)) (y := 4)).mpr c4
      refine lv_iconst (v := 0) S.x S.b d_Ker_receive_25 (by decide) ?_
      refine lv_istore (lv' := [(4, .int 0), (0, .ref hk), (1, .ref hx), (2, .int p0), (3, .int p1)]) S.x S.b d_Ker_receive_26 hl (by decide) rfl (fun ls hl => ?_)
      refine lv_aload_n S.x S.b d_Ker_receive_28 rfl (lv_at hl 1 rfl) ?_
      refine px_get S k_Ker hT hw 0 0 7 (v := .ref (kr 7)) rfl rfl rfl (by decide) m2_228 d_Ker_receive_29 ?_
      refine lv_iload_n S.x S.b d_Ker_receive_32 rfl (lv_at hl 4 rfl) ?_
      refine px_iald S hT hw 0 8 (n := 26) (f := (ka 7)) rfl (ga_Ker_7 _ _ _ _ _ _ _) (x := p1) (vp_in_iff.mpr (by constructor <;> omega)) d_Ker_receive_33 ?_
      refine lv_topi (fun z5 ez5 => ?_)
      have lz5 := Int32.le_toInt z5
      have uz5 := Int32.toInt_lt z5
      have qz5 := hro.at7 (x := p1) (by omega) (by omega) ez5
      refine lv_if_ne (tgt := 70) S.x S.b d_Ker_receive_34 (by decide) (fun c6 => ?_) (fun c6 => ?_)
      · have nc6 : ¬ z5.toInt = (0 : Int) := mt (i_eq (x := z5) (y := 0)).mpr c6
        refine lv_iload S.x S.b d_Ker_receive_70 (lv_at hl 0 rfl) ?_
        refine lv_if_eq (tgt := 82) S.x S.b d_Ker_receive_72 (by decide) (fun c7 => ?_) (fun c7 => ?_)
        ·
          refine lv_aload_n S.x S.b d_Ker_receive_82 rfl (lv_at hl 1 rfl) ?_
          refine px_get S k_Ker hT hw 0 0 5 (v := .ref (kr 5)) rfl rfl rfl (by decide) m2_226 d_Ker_receive_83 ?_
          refine lv_iconst (v := 4) S.x S.b d_Ker_receive_86 (by decide) ?_
          refine lv_iload_n S.x S.b d_Ker_receive_87 rfl (lv_at hl 4 rfl) ?_
          refine lv_imul S.x S.b d_Ker_receive_88 ?_
          refine lv_topi (fun z8 ez8 => ?_)
          have lz8 := Int32.le_toInt z8
          have uz8 := Int32.toInt_lt z8
          have tz8 : -2147483648 ≤ 4 * p1.toInt → 4 * p1.toInt < 2147483648 → z8.toInt = 4 * p1.toInt := by rw [ez8]; exact i_mulc 4 p1 (by decide)
          try replace tz8 : z8.toInt = 4 * p1.toInt := by omega
          refine lv_aload_n S.x S.b d_Ker_receive_89 rfl (lv_at hl 1 rfl) ?_
          refine px_get S k_Ker hT hw 0 0 6 (v := .ref (kr 6)) rfl rfl rfl (by decide) m2_227 d_Ker_receive_90 ?_
          refine lv_iload_n S.x S.b d_Ker_receive_93 rfl (lv_at hl 4 rfl) ?_
          refine px_iald S hT hw 0 7 (n := 26) (f := (ka 6)) rfl (ga_Ker_6 _ _ _ _ _ _ _) (x := p1) (vp_in_iff.mpr (by constructor <;> omega)) d_Ker_receive_94 ?_
          refine lv_topi (fun z9 ez9 => ?_)
          have lz9 := Int32.le_toInt z9
          have uz9 := Int32.toInt_lt z9
          have qz9 := hro.at6 (x := p1) (by omega) (by omega) ez9
          refine lv_iadd S.x S.b d_Ker_receive_95 ?_
          refine lv_topi (fun z10 ez10 => ?_)
          have tz10 : z10.toInt = (z8.toInt + z9.toInt + 2147483648) % 4294967296 - 2147483648 := by rw [ez10]; exact i_add z8 z9
          have lz10 := Int32.le_toInt z10
          have uz10 := Int32.toInt_lt z10
          try replace tz10 : z10.toInt = z8.toInt + z9.toInt := by omega
          refine px_iald S hT hw 0 6 (n := 104) (f := (ka 5)) rfl (ga_Ker_5 _ _ _ _ _ _ _) (x := z10) (vp_in_iff.mpr (by constructor <;> omega)) d_Ker_receive_96 ?_
          refine lv_topi (fun z11 ez11 => ?_)
          have lz11 := Int32.le_toInt z11
          have uz11 := Int32.toInt_lt z11
          refine lv_istore (lv' := [(5, .int z11), (4, .int 0), (0, .ref hk), (1, .ref hx), (2, .int p0), (3, .int p1)]) S.x S.b d_Ker_receive_97 hl (by decide) rfl (fun ls hl => ?_)
          refine lv_aload_n S.x S.b d_Ker_receive_99 rfl (lv_at hl 2 rfl) ?_
          refine px_get S k_Ker hT hw 0 0 6 (v := .ref (kr 6)) rfl rfl rfl (by decide) m2_227 d_Ker_receive_100 ?_
          refine lv_iload_n S.x S.b d_Ker_receive_103 rfl (lv_at hl 5 rfl) ?_
          refine lv_aload_n S.x S.b d_Ker_receive_104 rfl (lv_at hl 2 rfl) ?_
          refine px_get S k_Ker hT hw 0 0 6 (v := .ref (kr 6)) rfl rfl rfl (by decide) m2_227 d_Ker_receive_105 ?_
          refine lv_iload_n S.x S.b d_Ker_receive_108 rfl (lv_at hl 5 rfl) ?_
          refine px_iald S hT hw 0 7 (n := 26) (f := (ka 6)) rfl (ga_Ker_6 _ _ _ _ _ _ _) (x := p1) (vp_in_iff.mpr (by constructor <;> omega)) d_Ker_receive_109 ?_
          refine lv_topi (fun z12 ez12 => ?_)
          have lz12 := Int32.le_toInt z12
          have uz12 := Int32.toInt_lt z12
          have qz12 := hro.at6 (x := p1) (by omega) (by omega) ez12
          refine lv_iconst (v := 1) S.x S.b d_Ker_receive_110 (by decide) ?_
          refine lv_iadd S.x S.b d_Ker_receive_111 ?_
          refine lv_topi (fun z13 ez13 => ?_)
          have tz13 : z13.toInt = (z12.toInt + (1 : Int) + 2147483648) % 4294967296 - 2147483648 := by rw [ez13]; exact i_add z12 1
          have lz13 := Int32.le_toInt z13
          have uz13 := Int32.toInt_lt z13
          try replace tz13 : z13.toInt = z12.toInt + (1 : Int) := by omega
          refine lv_iconst (v := 4) S.x S.b d_Ker_receive_112 (by decide) ?_
          refine lv_irem S.x S.b d_Ker_receive_113 (by decide) ?_
          refine lv_topi (fun z14 ez14 => ?_)
          have lz14 := Int32.le_toInt z14
          have uz14 := Int32.toInt_lt z14
          have tz14 : 0 ≤ z13.toInt → z14.toInt = z13.toInt % 4 := (by intro h9; rw [ez14]; exact i_irem9 h9 (y := 4) (d := 4) (by decide) (by decide))
          try replace tz14 := tz14 (by omega)
          refine px_iast S hT hw 0 7 (n := 26) (f := (ka 6)) (x := p1) (y := z14) rfl (ga_Ker_6 _ _ _ _ _ _ _) (vp_in_iff.mpr (by constructor <;> omega)) d_Ker_receive_114 (w' := wd_Ker cs hk kr (fun _ => none) kf (va_up ka 6 (upd (ka 6) p1.toNatClampNeg z14)) (gKe pq pz tq rq)) (ps' := [wd_Ker cs hk kr (fun _ => none) kf (va_up ka 6 (upd (ka 6) p1.toNatClampNeg z14)) (gKe pq pz tq rq), fm 13 (fRw cs rq RR RM RW RF RA RC), fm 8 (fPp cs pq PV), fo 13 (fTx cs tq TR TO TF TA) ip, wd_Txp cs hx (TR ip) (fun k => if k = 3 then (some hp1) else none) (TF ip) (TA ip) (fun _ _ => none)]) (sa_Ker_6 _ _ _ _ _ _ _ _) rfl (fun H locs hw => ?_)
          have hro : RoI (va_up ka 6 (upd (ka 6) p1.toNatClampNeg z14)) := hro.up6 (by omega) (by omega)
          refine lv_aload_n S.x S.b d_Ker_receive_115 rfl (lv_at hl 2 rfl) ?_
          refine px_get S k_Ker hT hw 0 0 7 (v := .ref (kr 7)) rfl rfl rfl (by decide) m2_228 d_Ker_receive_116 ?_
          refine lv_iload_n S.x S.b d_Ker_receive_119 rfl (lv_at hl 5 rfl) ?_
          refine lv_dup2_11 S.x S.b d_Ker_receive_120 rfl rfl ?_
          refine px_iald S hT hw 0 8 (n := 26) (f := ((va_up ka 6 (upd (ka 6) p1.toNatClampNeg z14)) 7)) rfl (ga_Ker_7 _ _ _ _ _ _ _) (x := p1) (vp_in_iff.mpr (by constructor <;> omega)) d_Ker_receive_121 ?_
          refine lv_topi (fun z15 ez15 => ?_)
          have lz15 := Int32.le_toInt z15
          have uz15 := Int32.toInt_lt z15
          have qz15 := hro.at7 (x := p1) (by omega) (by omega) ez15
          have hlnk : z15.toInt = z5.toInt := (by rw [ez15, ez5, va_up_n (by decide)])
          refine lv_iconst (v := 1) S.x S.b d_Ker_receive_122 (by decide) ?_
          refine lv_isub S.x S.b d_Ker_receive_123 ?_
          refine lv_topi (fun z16 ez16 => ?_)
          have tz16 : z16.toInt = (z15.toInt - (1 : Int) + 2147483648) % 4294967296 - 2147483648 := by rw [ez16]; exact i_sub z15 1
          have lz16 := Int32.le_toInt z16
          have uz16 := Int32.toInt_lt z16
          try replace tz16 : z16.toInt = z15.toInt - (1 : Int) := by omega
          refine px_iast S hT hw 0 8 (n := 26) (f := ((va_up ka 6 (upd (ka 6) p1.toNatClampNeg z14)) 7)) (x := p1) (y := z16) rfl (ga_Ker_7 _ _ _ _ _ _ _) (vp_in_iff.mpr (by constructor <;> omega)) d_Ker_receive_124 (w' := wd_Ker cs hk kr (fun _ => none) kf (va_up (va_up ka 6 (upd (ka 6) p1.toNatClampNeg z14)) 7 (upd ((va_up ka 6 (upd (ka 6) p1.toNatClampNeg z14)) 7) p1.toNatClampNeg z16)) (gKe pq pz tq rq)) (ps' := [wd_Ker cs hk kr (fun _ => none) kf (va_up (va_up ka 6 (upd (ka 6) p1.toNatClampNeg z14)) 7 (upd ((va_up ka 6 (upd (ka 6) p1.toNatClampNeg z14)) 7) p1.toNatClampNeg z16)) (gKe pq pz tq rq), fm 13 (fRw cs rq RR RM RW RF RA RC), fm 8 (fPp cs pq PV), fo 13 (fTx cs tq TR TO TF TA) ip, wd_Txp cs hx (TR ip) (fun k => if k = 3 then (some hp1) else none) (TF ip) (TA ip) (fun _ _ => none)]) (sa_Ker_7 _ _ _ _ _ _ _ _) rfl (fun H locs hw => ?_)
          have hro : RoI (va_up (va_up ka 6 (upd (ka 6) p1.toNatClampNeg z14)) 7 (upd ((va_up ka 6 (upd (ka 6) p1.toNatClampNeg z14)) 7) p1.toNatClampNeg z16)) := hro.up7 (by omega) (by omega)
          refine lv_aload_n S.x S.b d_Ker_receive_125 rfl (lv_at hl 3 rfl) ?_
          refine lv_iload S.x S.b d_Ker_receive_126 (lv_at hl 0 rfl) ?_
          refine px_callv (pr := [wd_Ker cs hk kr (fun _ => none) kf (va_up (va_up ka 6 (upd (ka 6) p1.toNatClampNeg z14)) 7 (upd ((va_up ka 6 (upd (ka 6) p1.toNatClampNeg z14)) 7) p1.toNatClampNeg z16)) (gKe pq pz tq rq), fm 13 (fRw cs rq RR RM RW RF RA RC), fm 8 (fPp cs pq PV), fo 13 (fTx cs tq TR TO TF TA) ip]) (px_runA (As := [.int z11]) (rest := []) S (c_Txp_answer l D cs hx (TR ip) (fun _ _ => none) hp1 (TF ip) (TA ip) z11  (show TxOk ((TF ip) 4) ((TF ip) 5) ((TF ip) 8) ((TF ip) 9) ((TF ip) 17) 0 ((TA ip) 2) from ⟨(by first | exact lk | exact lk_eq lk (by omega) | exact lk_mk (by omega)), ⟨by omega, by omega⟩, ⟨by omega, by omega⟩, ⟨by omega, by omega⟩, by omega, ⟨by decide, by decide⟩, (by show _ + _ + (0 : Int) ≤ 100; omega), hrt⟩) _) hT (pr := [wd_Ker cs hk kr (fun _ => none) kf (va_up (va_up ka 6 (upd (ka 6) p1.toNatClampNeg z14)) 7 (upd ((va_up ka 6 (upd (ka 6) p1.toNatClampNeg z14)) 7) p1.toNatClampNeg z16)) (gKe pq pz tq rq), fm 13 (fRw cs rq RR RM RW RF RA RC), fm 8 (fPp cs pq PV), fo 13 (fTx cs tq TR TO TF TA) ip]) (pcs := [wd_Txp cs hx (TR ip) (fun k => if k = 3 then (some hp1) else none) (TF ip) (TA ip) (fun _ _ => none)]) hw px_X.tt (C := "HomeSystem$TextProcess") (owner := "HomeSystem$AnyProcess") (x := ⟨"HomeSystem$AnyProcess", "answer", "(I)V"⟩) (px_recv hT hw 4 0 rfl rfl rfl) m8_75 m8_67 m8_69 m8_74 m8_73 m1_35 m8_68n ⟨by decide, by decide⟩ rfl q_Txp_answer ⟨Nat.le_of_ble_eq_true rfl, Nat.le_of_ble_eq_true rfl⟩ hl.1 rfl (Nat.le_of_ble_eq_true rfl) d_Ker_receive_128 ⟨show 0 + 0 ≤ (5 * ndS 13 tq + 4 * ndS 13 rq + ndS 13 RM) from by first | with_reducible rfl | with_reducible assumption | omega, show 0 + 0 ≤ (9804 * ndS 13 tq + 342 * ndS 13 rq + 36864 * ndS 13 RM) from by first | with_reducible rfl | with_reducible assumption | omega⟩) hw hA (fun p21 H locs hp21 hw => ?_)
          obtain ⟨f19, a20, rfl, e23, e24, e25, e26, e27, e28⟩ := hp21
          replace e23 : TxOk (f19 4) (f19 5) (f19 8) (f19 9) (f19 17) (f19 21) (a20 2) := e23
          obtain ⟨lk, ⟨i2, i3⟩, ⟨i4, i5⟩, ⟨i6, i7⟩, i8, ⟨i9, i11⟩, i10, hrt⟩ := e23
          replace e24 : (f19 9).toInt = ((TF ip) 9).toInt := e24
          replace e25 : (f19 17).toInt = ((TF ip) 17).toInt := e25
          replace e26 : (f19 21).toInt = 0 := e26
          replace e27 : (f19 15).toInt = ((TF ip) 15).toInt := e27
          replace e28 : (f19 20).toInt = ((TF ip) 20).toInt := e28
          replace hw : pw D A s.heap H locs [wd_Ker cs hk kr (fun _ => none) kf (va_up (va_up ka 6 (upd (ka 6) p1.toNatClampNeg z14)) 7 (upd ((va_up ka 6 (upd (ka 6) p1.toNatClampNeg z14)) 7) p1.toNatClampNeg z16)) (gKe pq pz tq rq), fm 13 (fRw cs rq RR RM RW RF RA RC), fm 8 (fPp cs pq PV), fo 13 (fTx cs tq TR TO TF TA) ip, wd_Txp cs hx (TR ip) (fun k => if k = 3 then (some hp1) else none) f19 a20 (fun _ _ => none)] := hw
          refine lv_iconst (v := 1) S.x S.b d_Ker_receive_131 (by decide) ?_
          have hw := ftx_in0 (pr := [wd_Ker cs hk kr (fun _ => none) kf (va_up (va_up ka 6 (upd (ka 6) p1.toNatClampNeg z14)) 7 (upd ((va_up ka 6 (upd (ka 6) p1.toNatClampNeg z14)) 7) p1.toNatClampNeg z16)) (gKe pq pz tq rq), fm 13 (fRw cs rq RR RM RW RF RA RC), fm 8 (fPp cs pq PV)]) hw hip hcu.1 hto1
          obtain ⟨TF29, hu_TF29⟩ : ∃ y : Nat → Nat → Int32, y = va_up TF ip f19 := ⟨_, rfl⟩
          obtain ⟨TA30, hu_TA30⟩ : ∃ y : Nat → Nat → Nat → Int32, y = va_up TA ip a20 := ⟨_, rfl⟩
          have hw : pw D A s.heap _ _ [wd_Ker cs hk kr (fun _ => none) kf (va_up (va_up ka 6 (upd (ka 6) p1.toNatClampNeg z14)) 7 (upd ((va_up ka 6 (upd (ka 6) p1.toNatClampNeg z14)) 7) p1.toNatClampNeg z16)) (gKe pq pz tq rq), fm 13 (fRw cs rq RR RM RW RF RA RC), fm 8 (fPp cs pq PV), fm 13 (fTx cs tq TR TO TF29 TA30)] := (by rw [hu_TF29, hu_TA30]; exact hw)
          have hki : KnI pq PV pz tq rq TO TF29 TA30 RW RF := (by rw [hu_TF29, hu_TA30]; exact hki.upT (show TxN ip f19 a20 from ⟨(show TxOk (f19 4) (f19 5) (f19 8) (f19 9) (f19 17) (f19 21) (a20 2) from ⟨(by first | exact lk | exact lk_eq lk (by omega) | exact lk_mk (by omega)), ⟨by omega, by omega⟩, ⟨by omega, by omega⟩, ⟨by omega, by omega⟩, by omega, ⟨by omega, by omega⟩, by omega, hrt⟩), (show ((f19 15).toInt) = ((ip : Nat) : Int) from by first | with_reducible rfl | with_reducible assumption | omega), (show 0 ≤ (f19 20).toInt ∧ (f19 20).toInt ≤ 3 ∧ ((f19 20).toInt = 0 ∨ 3 * ((ip : Nat) : Int) + (f19 20).toInt ≤ 12) from by first | with_reducible rfl | with_reducible assumption | omega)⟩))
          have hz21_TF29 : (TF29 ip 21).toInt = (f19 21).toInt := (by rw [hu_TF29, va_up_s]; try rfl)
          have hw : pw D A s.heap _ _ [wd_Ker cs hk kr (fun _ => none) kf (va_up (va_up ka 6 (upd (ka 6) p1.toNatClampNeg z14)) 7 (upd ((va_up ka 6 (upd (ka 6) p1.toNatClampNeg z14)) 7) p1.toNatClampNeg z16)) (gKe pq pz tq rq), fm 13 (fTx cs tq TR TO TF29 TA30), fm 13 (fRw cs rq RR RM RW RF RA RC), fm 8 (fPp cs pq PV)] := hw.sub [0, 3, 1, 2] rfl rfl
          exact pg_iret (v := 1) S hr rfl hlk hAe hw (show 0 ≤ (5 * ndS 13 tq + 4 * ndS 13 rq + ndS 13 RM) from by first | exact oz_86e49526c7 | omega) (show 0 ≤ (9804 * ndS 13 tq + 342 * ndS 13 rq + 36864 * ndS 13 RM) from by first | exact oz_fc3b58e969 | omega) (⟨pz, tq, rq, (va_up (va_up ka 6 (upd (ka 6) p1.toNatClampNeg z14)) 7 (upd ((va_up ka 6 (upd (ka 6) p1.toNatClampNeg z14)) 7) p1.toNatClampNeg z16)), TR, TO, TF29, TA30, RR, RM, RW, RF, RA, RC, rfl, (show (1 : Int32) = 0 ∨ (1 : Int32) = 1 from by first | exact Or.inl rfl | exact Or.inr rfl | exact z_or (by omega)), (show CuT pq PV tq TO ip hx from hcu), (show KnI pq PV pz tq rq TO TF29 TA30 RW RF from hki), (show RoI (va_up (va_up ka 6 (upd (ka 6) p1.toNatClampNeg z14)) 7 (upd ((va_up ka 6 (upd (ka 6) p1.toNatClampNeg z14)) 7) p1.toNatClampNeg z16)) from hro), (show RmI rq RM from hrm), (show 0 + (5 * ndS 13 tq + 4 * ndS 13 rq + ndS 13 RM) ≤ 5 * ndS 13 tq + 4 * ndS 13 rq + ndS 13 RM from by first | exact oz_9d19b050ad | omega), (show 0 + (9804 * ndS 13 tq + 342 * ndS 13 rq + 36864 * ndS 13 RM) ≤ 9804 * ndS 13 tq + 342 * ndS 13 rq + 36864 * ndS 13 RM from by first | exact oz_b5592d0ae7 | omega)⟩) d_Ker_receive_132
        · exact absurd c7 (by decide)
      · have nc6 : z5.toInt = (0 : Int) := (i_eq (x := z5) (y := 0)).mp c6
        refine lv_iload S.x S.b d_Ker_receive_37 (lv_at hl 0 rfl) ?_
        refine lv_if_eq (tgt := 54) S.x S.b d_Ker_receive_39 (by decide) (fun c31 => ?_) (fun c31 => ?_)
        ·
          refine lv_iconst (v := 0) S.x S.b d_Ker_receive_54 (by decide) ?_
          refine lv_istore (lv' := [(5, .int 0), (4, .int 0), (0, .ref hk), (1, .ref hx), (2, .int p0), (3, .int p1)]) S.x S.b d_Ker_receive_55 hl (by decide) rfl (fun ls hl => ?_)
          refine lv_iload S.x S.b d_Ker_receive_57 (lv_at hl 0 rfl) ?_
          refine lv_if_eq (tgt := 67) S.x S.b d_Ker_receive_59 (by decide) (fun c32 => ?_) (fun c32 => ?_)
          ·
            refine lv_iload S.x S.b d_Ker_receive_67 (lv_at hl 0 rfl) ?_
            have hw : pw D A s.heap _ _ [wd_Ker cs hk kr (fun _ => none) kf ka (gKe pq pz tq rq), fm 13 (fRw cs rq RR RM RW RF RA RC), fm 8 (fPp cs pq PV), fm 13 (fTx cs tq TR TO TF TA)] := ftx_back (pr := [wd_Ker cs hk kr (fun _ => none) kf ka (gKe pq pz tq rq), fm 13 (fRw cs rq RR RM RW RF RA RC), fm 8 (fPp cs pq PV)]) hw hip hcu.1 hto1
            have hw : pw D A s.heap _ _ [wd_Ker cs hk kr (fun _ => none) kf ka (gKe pq pz tq rq), fm 13 (fTx cs tq TR TO TF TA), fm 13 (fRw cs rq RR RM RW RF RA RC), fm 8 (fPp cs pq PV)] := hw.sub [0, 3, 1, 2] rfl rfl
            exact pg_iret (v := 0) S hr rfl hlk hAe hw (show 0 ≤ (5 * ndS 13 tq + 4 * ndS 13 rq + ndS 13 RM) from by first | exact oz_86e49526c7 | omega) (show 0 ≤ (9804 * ndS 13 tq + 342 * ndS 13 rq + 36864 * ndS 13 RM) from by first | exact oz_fc3b58e969 | omega) (⟨pz, tq, rq, ka, TR, TO, TF, TA, RR, RM, RW, RF, RA, RC, rfl, (show (0 : Int32) = 0 ∨ (0 : Int32) = 1 from by first | exact Or.inl rfl | exact Or.inr rfl | exact z_or (by omega)), (show CuT pq PV tq TO ip hx from hcu), (show KnI pq PV pz tq rq TO TF TA RW RF from hki), (show RoI ka from hro), (show RmI rq RM from hrm), (show 0 + (5 * ndS 13 tq + 4 * ndS 13 rq + ndS 13 RM) ≤ 5 * ndS 13 tq + 4 * ndS 13 rq + ndS 13 RM from by first | exact oz_9d19b050ad | omega), (show 0 + (9804 * ndS 13 tq + 342 * ndS 13 rq + 36864 * ndS 13 RM) ≤ 9804 * ndS 13 tq + 342 * ndS 13 rq + 36864 * ndS 13 RM from by first | exact oz_b5592d0ae7 | omega)⟩) d_Ker_receive_69
          · exact absurd c32 (by decide)
        · exact absurd c31 (by decide)
    · have nc4 : ((TF ip) 22).toInt = (4 : Int) := (i_eq (x := ((TF ip) 22)) (y := 4)).mp c4
      refine lv_iconst (v := 1) S.x S.b d_Ker_receive_21 (by decide) ?_
      refine lv_goto (tgt := 26) S.x S.b d_Ker_receive_22 (by decide) ?_
      refine lv_istore (lv' := [(4, .int 1), (0, .ref hk), (1, .ref hx), (2, .int p0), (3, .int p1)]) S.x S.b d_Ker_receive_26 hl (by decide) rfl (fun ls hl => ?_)
      refine lv_aload_n S.x S.b d_Ker_receive_28 rfl (lv_at hl 1 rfl) ?_
      refine px_get S k_Ker hT hw 0 0 7 (v := .ref (kr 7)) rfl rfl rfl (by decide) m2_228 d_Ker_receive_29 ?_
      refine lv_iload_n S.x S.b d_Ker_receive_32 rfl (lv_at hl 4 rfl) ?_
      refine px_iald S hT hw 0 8 (n := 26) (f := (ka 7)) rfl (ga_Ker_7 _ _ _ _ _ _ _) (x := p1) (vp_in_iff.mpr (by constructor <;> omega)) d_Ker_receive_33 ?_
      refine lv_topi (fun z33 ez33 => ?_)
      have lz33 := Int32.le_toInt z33
      have uz33 := Int32.toInt_lt z33
      have qz33 := hro.at7 (x := p1) (by omega) (by omega) ez33
      refine lv_if_ne (tgt := 70) S.x S.b d_Ker_receive_34 (by decide) (fun c34 => ?_) (fun c34 => ?_)
      · have nc34 : ¬ z33.toInt = (0 : Int) := mt (i_eq (x := z33) (y := 0)).mpr c34
        refine lv_iload S.x S.b d_Ker_receive_70 (lv_at hl 0 rfl) ?_
        refine lv_if_eq (tgt := 82) S.x S.b d_Ker_receive_72 (by decide) (fun c35 => ?_) (fun c35 => ?_)
        · exact absurd c35 (by decide)
        ·
          refine lv_aload_n S.x S.b d_Ker_receive_75 rfl (lv_at hl 2 rfl) ?_
          refine lv_iconst (v := 1) S.x S.b d_Ker_receive_76 (by decide) ?_
          refine px_callv (pr := [wd_Ker cs hk kr (fun _ => none) kf ka (gKe pq pz tq rq), fm 13 (fRw cs rq RR RM RW RF RA RC), fm 8 (fPp cs pq PV), fo 13 (fTx cs tq TR TO TF TA) ip]) (px_runA (As := [.int 1]) (rest := []) S (c_Txp_answer l D cs hx (TR ip) (fun _ _ => none) hp1 (TF ip) (TA ip) 1  (show TxOk ((TF ip) 4) ((TF ip) 5) ((TF ip) 8) ((TF ip) 9) ((TF ip) 17) 0 ((TA ip) 2) from ⟨(by first | exact lk | exact lk_eq lk (by omega) | exact lk_mk (by omega)), ⟨by omega, by omega⟩, ⟨by omega, by omega⟩, ⟨by omega, by omega⟩, by omega, ⟨by decide, by decide⟩, (by show _ + _ + (0 : Int) ≤ 100; omega), hrt⟩) _) hT (pr := [wd_Ker cs hk kr (fun _ => none) kf ka (gKe pq pz tq rq), fm 13 (fRw cs rq RR RM RW RF RA RC), fm 8 (fPp cs pq PV), fo 13 (fTx cs tq TR TO TF TA) ip]) (pcs := [wd_Txp cs hx (TR ip) (fun k => if k = 3 then (some hp1) else none) (TF ip) (TA ip) (fun _ _ => none)]) hw px_X.tt (C := "HomeSystem$TextProcess") (owner := "HomeSystem$AnyProcess") (x := ⟨"HomeSystem$AnyProcess", "answer", "(I)V"⟩) (px_recv hT hw 4 0 rfl rfl rfl) m8_75 m8_67 m8_69 m8_74 m8_73 m1_35 m8_68n ⟨by decide, by decide⟩ rfl q_Txp_answer ⟨Nat.le_of_ble_eq_true rfl, Nat.le_of_ble_eq_true rfl⟩ hl.1 rfl (Nat.le_of_ble_eq_true rfl) d_Ker_receive_77 ⟨show 0 + 0 ≤ (5 * ndS 13 tq + 4 * ndS 13 rq + ndS 13 RM) from by first | with_reducible rfl | with_reducible assumption | omega, show 0 + 0 ≤ (9804 * ndS 13 tq + 342 * ndS 13 rq + 36864 * ndS 13 RM) from by first | with_reducible rfl | with_reducible assumption | omega⟩) hw hA (fun p40 H locs hp40 hw => ?_)
          obtain ⟨f38, a39, rfl, e42, e43, e44, e45, e46, e47⟩ := hp40
          replace e42 : TxOk (f38 4) (f38 5) (f38 8) (f38 9) (f38 17) (f38 21) (a39 2) := e42
          obtain ⟨lk, ⟨i2, i3⟩, ⟨i4, i5⟩, ⟨i6, i7⟩, i8, ⟨i9, i11⟩, i10, hrt⟩ := e42
          replace e43 : (f38 9).toInt = ((TF ip) 9).toInt := e43
          replace e44 : (f38 17).toInt = ((TF ip) 17).toInt := e44
          replace e45 : (f38 21).toInt = 0 := e45
          replace e46 : (f38 15).toInt = ((TF ip) 15).toInt := e46
          replace e47 : (f38 20).toInt = ((TF ip) 20).toInt := e47
          replace hw : pw D A s.heap H locs [wd_Ker cs hk kr (fun _ => none) kf ka (gKe pq pz tq rq), fm 13 (fRw cs rq RR RM RW RF RA RC), fm 8 (fPp cs pq PV), fo 13 (fTx cs tq TR TO TF TA) ip, wd_Txp cs hx (TR ip) (fun k => if k = 3 then (some hp1) else none) f38 a39 (fun _ _ => none)] := hw
          refine lv_iconst (v := 1) S.x S.b d_Ker_receive_80 (by decide) ?_
          have hw := ftx_in0 (pr := [wd_Ker cs hk kr (fun _ => none) kf ka (gKe pq pz tq rq), fm 13 (fRw cs rq RR RM RW RF RA RC), fm 8 (fPp cs pq PV)]) hw hip hcu.1 hto1
          obtain ⟨TF48, hu_TF48⟩ : ∃ y : Nat → Nat → Int32, y = va_up TF ip f38 := ⟨_, rfl⟩
          obtain ⟨TA49, hu_TA49⟩ : ∃ y : Nat → Nat → Nat → Int32, y = va_up TA ip a39 := ⟨_, rfl⟩
          have hw : pw D A s.heap _ _ [wd_Ker cs hk kr (fun _ => none) kf ka (gKe pq pz tq rq), fm 13 (fRw cs rq RR RM RW RF RA RC), fm 8 (fPp cs pq PV), fm 13 (fTx cs tq TR TO TF48 TA49)] := (by rw [hu_TF48, hu_TA49]; exact hw)
          have hki : KnI pq PV pz tq rq TO TF48 TA49 RW RF := (by rw [hu_TF48, hu_TA49]; exact hki.upT (show TxN ip f38 a39 from ⟨(show TxOk (f38 4) (f38 5) (f38 8) (f38 9) (f38 17) (f38 21) (a39 2) from ⟨(by first | exact lk | exact lk_eq lk (by omega) | exact lk_mk (by omega)), ⟨by omega, by omega⟩, ⟨by omega, by omega⟩, ⟨by omega, by omega⟩, by omega, ⟨by omega, by omega⟩, by omega, hrt⟩), (show ((f38 15).toInt) = ((ip : Nat) : Int) from by first | with_reducible rfl | with_reducible assumption | omega), (show 0 ≤ (f38 20).toInt ∧ (f38 20).toInt ≤ 3 ∧ ((f38 20).toInt = 0 ∨ 3 * ((ip : Nat) : Int) + (f38 20).toInt ≤ 12) from by first | with_reducible rfl | with_reducible assumption | omega)⟩))
          have hz21_TF48 : (TF48 ip 21).toInt = (f38 21).toInt := (by rw [hu_TF48, va_up_s]; try rfl)
          have hw : pw D A s.heap _ _ [wd_Ker cs hk kr (fun _ => none) kf ka (gKe pq pz tq rq), fm 13 (fTx cs tq TR TO TF48 TA49), fm 13 (fRw cs rq RR RM RW RF RA RC), fm 8 (fPp cs pq PV)] := hw.sub [0, 3, 1, 2] rfl rfl
          exact pg_iret (v := 1) S hr rfl hlk hAe hw (show 0 ≤ (5 * ndS 13 tq + 4 * ndS 13 rq + ndS 13 RM) from by first | exact oz_86e49526c7 | omega) (show 0 ≤ (9804 * ndS 13 tq + 342 * ndS 13 rq + 36864 * ndS 13 RM) from by first | exact oz_fc3b58e969 | omega) (⟨pz, tq, rq, ka, TR, TO, TF48, TA49, RR, RM, RW, RF, RA, RC, rfl, (show (1 : Int32) = 0 ∨ (1 : Int32) = 1 from by first | exact Or.inl rfl | exact Or.inr rfl | exact z_or (by omega)), (show CuT pq PV tq TO ip hx from hcu), (show KnI pq PV pz tq rq TO TF48 TA49 RW RF from hki), (show RoI ka from hro), (show RmI rq RM from hrm), (show 0 + (5 * ndS 13 tq + 4 * ndS 13 rq + ndS 13 RM) ≤ 5 * ndS 13 tq + 4 * ndS 13 rq + ndS 13 RM from by first | exact oz_9d19b050ad | omega), (show 0 + (9804 * ndS 13 tq + 342 * ndS 13 rq + 36864 * ndS 13 RM) ≤ 9804 * ndS 13 tq + 342 * ndS 13 rq + 36864 * ndS 13 RM from by first | exact oz_b5592d0ae7 | omega)⟩) d_Ker_receive_81
      · have nc34 : z33.toInt = (0 : Int) := (i_eq (x := z33) (y := 0)).mp c34
        refine lv_iload S.x S.b d_Ker_receive_37 (lv_at hl 0 rfl) ?_
        refine lv_if_eq (tgt := 54) S.x S.b d_Ker_receive_39 (by decide) (fun c50 => ?_) (fun c50 => ?_)
        · exact absurd c50 (by decide)
        ·
          refine lv_aload_n S.x S.b d_Ker_receive_42 rfl (lv_at hl 1 rfl) ?_
          refine lv_iload_n S.x S.b d_Ker_receive_43 rfl (lv_at hl 3 rfl) ?_
          have hw : pw D A s.heap _ _ [wd_Ker cs hk kr (fun _ => none) kf ka (gKe pq pz tq rq), fm 13 (fRw cs rq RR RM RW RF RA RC), fm 8 (fPp cs pq PV), fm 13 (fTx cs tq TR TO TF TA)] := ftx_back (pr := [wd_Ker cs hk kr (fun _ => none) kf ka (gKe pq pz tq rq), fm 13 (fRw cs rq RR RM RW RF RA RC), fm 8 (fPp cs pq PV)]) hw hip hcu.1 hto1
          have hw : pw D A s.heap _ _ [wd_Ker cs hk kr (fun _ => none) kf ka (gKe pq pz tq rq), fm 13 (fTx cs tq TR TO TF TA), fm 13 (fRw cs rq RR RM RW RF RA RC), fm 8 (fPp cs pq PV)] := hw.sub [0, 3, 1, 2] rfl rfl
          refine px_calli (pr := []) (px_runV (As := [.int p0]) (rest := []) S (c_k_isRunning l D cs hk kr pq pz tq rq kf ka TR TO TF TA RR RM RW RF RA RC PV p0  (show 0 ≤ p0.toInt from by first | with_reducible rfl | with_reducible assumption | omega) (show p0.toInt ≤ 12 from by first | with_reducible rfl | with_reducible assumption | omega) hki _) hT (pr := []) (pcs := [wd_Ker cs hk kr (fun _ => none) kf ka (gKe pq pz tq rq), fm 13 (fTx cs tq TR TO TF TA), fm 13 (fRw cs rq RR RM RW RF RA RC), fm 8 (fPp cs pq PV)]) hw px_X.tt (px_recv hT hw 0 0 rfl rfl rfl) m8_154 m8_151 m8_153 ms_6_1 m1_19 q_Ker_isRunning ⟨Nat.le_of_ble_eq_true rfl, Nat.le_of_ble_eq_true rfl⟩ hl.1 rfl (Nat.le_of_ble_eq_true rfl) d_Ker_receive_44 ⟨show 0 + 0 ≤ (5 * ndS 13 tq + 4 * ndS 13 rq + ndS 13 RM) from by first | with_reducible rfl | with_reducible assumption | omega, show 0 + 0 ≤ (9804 * ndS 13 tq + 342 * ndS 13 rq + 36864 * ndS 13 RM) from by first | with_reducible rfl | with_reducible assumption | omega⟩) hw hA (fun v52 p51 H locs hp51 hw => ?_)
          obtain ⟨rfl, e53, e54⟩ := hp51
          have e53 := z_rng e53
          replace e54 : NnP pz p0 v52 := e54
          replace hw : pw D A s.heap H locs [wd_Ker cs hk kr (fun _ => none) kf ka (gKe pq pz tq rq), fm 13 (fTx cs tq TR TO TF TA), fm 13 (fRw cs rq RR RM RW RF RA RC), fm 8 (fPp cs pq PV)] := hw
          have lv52 := Int32.le_toInt v52
          have uv52 := Int32.toInt_lt v52
          refine lv_if_ne (tgt := 54) S.x S.b d_Ker_receive_47 (by decide) (fun c55 => ?_) (fun c55 => ?_)
          · have nc55 : ¬ v52.toInt = (0 : Int) := mt (i_eq (x := v52) (y := 0)).mpr c55
            refine lv_iconst (v := 0) S.x S.b d_Ker_receive_54 (by decide) ?_
            refine lv_istore (lv' := [(5, .int 0), (4, .int 1), (0, .ref hk), (1, .ref hx), (2, .int p0), (3, .int p1)]) S.x S.b d_Ker_receive_55 hl (by decide) rfl (fun ls hl => ?_)
            refine lv_iload S.x S.b d_Ker_receive_57 (lv_at hl 0 rfl) ?_
            refine lv_if_eq (tgt := 67) S.x S.b d_Ker_receive_59 (by decide) (fun c56 => ?_) (fun c56 => ?_)
            ·
              refine lv_iload S.x S.b d_Ker_receive_67 (lv_at hl 0 rfl) ?_
              exact pg_iret (v := 0) S hr rfl hlk hAe hw (show 0 ≤ (5 * ndS 13 tq + 4 * ndS 13 rq + ndS 13 RM) from by first | exact oz_86e49526c7 | omega) (show 0 ≤ (9804 * ndS 13 tq + 342 * ndS 13 rq + 36864 * ndS 13 RM) from by first | exact oz_fc3b58e969 | omega) (⟨pz, tq, rq, ka, TR, TO, TF, TA, RR, RM, RW, RF, RA, RC, rfl, (show (0 : Int32) = 0 ∨ (0 : Int32) = 1 from by first | exact Or.inl rfl | exact Or.inr rfl | exact z_or (by omega)), (show CuT pq PV tq TO ip hx from hcu), (show KnI pq PV pz tq rq TO TF TA RW RF from hki), (show RoI ka from hro), (show RmI rq RM from hrm), (show 0 + (5 * ndS 13 tq + 4 * ndS 13 rq + ndS 13 RM) ≤ 5 * ndS 13 tq + 4 * ndS 13 rq + ndS 13 RM from by first | exact oz_9d19b050ad | omega), (show 0 + (9804 * ndS 13 tq + 342 * ndS 13 rq + 36864 * ndS 13 RM) ≤ 9804 * ndS 13 tq + 342 * ndS 13 rq + 36864 * ndS 13 RM from by first | exact oz_b5592d0ae7 | omega)⟩) d_Ker_receive_69
            · exact absurd c56 (by decide)
          · have nc55 : v52.toInt = (0 : Int) := (i_eq (x := v52) (y := 0)).mp c55
            refine lv_iconst (v := 1) S.x S.b d_Ker_receive_50 (by decide) ?_
            refine lv_goto (tgt := 55) S.x S.b d_Ker_receive_51 (by decide) ?_
            refine lv_istore (lv' := [(5, .int 1), (4, .int 1), (0, .ref hk), (1, .ref hx), (2, .int p0), (3, .int p1)]) S.x S.b d_Ker_receive_55 hl (by decide) rfl (fun ls hl => ?_)
            refine lv_iload S.x S.b d_Ker_receive_57 (lv_at hl 0 rfl) ?_
            refine lv_if_eq (tgt := 67) S.x S.b d_Ker_receive_59 (by decide) (fun c57 => ?_) (fun c57 => ?_)
            · exact absurd c57 (by decide)
            ·
              refine lv_aload_n S.x S.b d_Ker_receive_62 rfl (lv_at hl 3 rfl) ?_
              refine lv_iconst (v := 0) S.x S.b d_Ker_receive_63 (by decide) ?_
              have hw : pw D A s.heap _ _ [wd_Ker cs hk kr (fun _ => none) kf ka (gKe pq pz tq rq), fm 13 (fRw cs rq RR RM RW RF RA RC), fm 8 (fPp cs pq PV), fm 13 (fTx cs tq TR TO TF TA)] := hw.sub [0, 2, 3, 1] rfl rfl
              have hw : pw D A s.heap _ _ [wd_Ker cs hk kr (fun _ => none) kf ka (gKe pq pz tq rq), fm 13 (fRw cs rq RR RM RW RF RA RC), fm 8 (fPp cs pq PV), fo 13 (fTx cs tq TR TO TF TA) ip, wd_Txp cs hx (TR ip) (fun k => if k = 3 then (some hp1) else none) (TF ip) (TA ip) (fun _ _ => none)] := ftx_out (pr := [wd_Ker cs hk kr (fun _ => none) kf ka (gKe pq pz tq rq), fm 13 (fRw cs rq RR RM RW RF RA RC), fm 8 (fPp cs pq PV)]) hw hip hcu.1 hto1
              have htn58 : TxN ip (TF ip) (TA ip) := hki.2.1 ip hip _ hcu.1
              obtain ⟨lk, ⟨i2, i3⟩, ⟨i4, i5⟩, ⟨i6, i7⟩, i8, ⟨i9, i11⟩, i10, hrt⟩ := htn58.1
              have hid58 := htn58.2.1
              have hch58 := htn58.2.2
              unfold KcI at hch58
              refine px_callv (pr := [wd_Ker cs hk kr (fun _ => none) kf ka (gKe pq pz tq rq), fm 13 (fRw cs rq RR RM RW RF RA RC), fm 8 (fPp cs pq PV), fo 13 (fTx cs tq TR TO TF TA) ip]) (px_runA (As := [.int 0]) (rest := []) S (c_Txp_answer l D cs hx (TR ip) (fun _ _ => none) hp1 (TF ip) (TA ip) 0  (show TxOk ((TF ip) 4) ((TF ip) 5) ((TF ip) 8) ((TF ip) 9) ((TF ip) 17) 0 ((TA ip) 2) from ⟨(by first | exact lk | exact lk_eq lk (by omega) | exact lk_mk (by omega)), ⟨by omega, by omega⟩, ⟨by omega, by omega⟩, ⟨by omega, by omega⟩, by omega, ⟨by decide, by decide⟩, (by show _ + _ + (0 : Int) ≤ 100; omega), hrt⟩) _) hT (pr := [wd_Ker cs hk kr (fun _ => none) kf ka (gKe pq pz tq rq), fm 13 (fRw cs rq RR RM RW RF RA RC), fm 8 (fPp cs pq PV), fo 13 (fTx cs tq TR TO TF TA) ip]) (pcs := [wd_Txp cs hx (TR ip) (fun k => if k = 3 then (some hp1) else none) (TF ip) (TA ip) (fun _ _ => none)]) hw px_X.tt (C := "HomeSystem$TextProcess") (owner := "HomeSystem$AnyProcess") (x := ⟨"HomeSystem$AnyProcess", "answer", "(I)V"⟩) (px_recv hT hw 4 0 rfl rfl rfl) m8_75 m8_67 m8_69 m8_74 m8_73 m1_35 m8_68n ⟨by decide, by decide⟩ rfl q_Txp_answer ⟨Nat.le_of_ble_eq_true rfl, Nat.le_of_ble_eq_true rfl⟩ hl.1 rfl (Nat.le_of_ble_eq_true rfl) d_Ker_receive_64 ⟨show 0 + 0 ≤ (5 * ndS 13 tq + 4 * ndS 13 rq + ndS 13 RM) from by first | with_reducible rfl | with_reducible assumption | omega, show 0 + 0 ≤ (9804 * ndS 13 tq + 342 * ndS 13 rq + 36864 * ndS 13 RM) from by first | with_reducible rfl | with_reducible assumption | omega⟩) hw hA (fun p63 H locs hp63 hw => ?_)
              obtain ⟨f61, a62, rfl, e65, e66, e67, e68, e69, e70⟩ := hp63
              replace e65 : TxOk (f61 4) (f61 5) (f61 8) (f61 9) (f61 17) (f61 21) (a62 2) := e65
              obtain ⟨lk, ⟨i2, i3⟩, ⟨i4, i5⟩, ⟨i6, i7⟩, i8, ⟨i9, i11⟩, i10, hrt⟩ := e65
              replace e66 : (f61 9).toInt = ((TF ip) 9).toInt := e66
              replace e67 : (f61 17).toInt = ((TF ip) 17).toInt := e67
              replace e68 : (f61 21).toInt = 0 := e68
              replace e69 : (f61 15).toInt = ((TF ip) 15).toInt := e69
              replace e70 : (f61 20).toInt = ((TF ip) 20).toInt := e70
              replace hw : pw D A s.heap H locs [wd_Ker cs hk kr (fun _ => none) kf ka (gKe pq pz tq rq), fm 13 (fRw cs rq RR RM RW RF RA RC), fm 8 (fPp cs pq PV), fo 13 (fTx cs tq TR TO TF TA) ip, wd_Txp cs hx (TR ip) (fun k => if k = 3 then (some hp1) else none) f61 a62 (fun _ _ => none)] := hw
              refine lv_iload S.x S.b d_Ker_receive_67 (lv_at hl 0 rfl) ?_
              have hw := ftx_in0 (pr := [wd_Ker cs hk kr (fun _ => none) kf ka (gKe pq pz tq rq), fm 13 (fRw cs rq RR RM RW RF RA RC), fm 8 (fPp cs pq PV)]) hw hip hcu.1 hto1
              obtain ⟨TF71, hu_TF71⟩ : ∃ y : Nat → Nat → Int32, y = va_up TF ip f61 := ⟨_, rfl⟩
              obtain ⟨TA72, hu_TA72⟩ : ∃ y : Nat → Nat → Nat → Int32, y = va_up TA ip a62 := ⟨_, rfl⟩
              have hw : pw D A s.heap _ _ [wd_Ker cs hk kr (fun _ => none) kf ka (gKe pq pz tq rq), fm 13 (fRw cs rq RR RM RW RF RA RC), fm 8 (fPp cs pq PV), fm 13 (fTx cs tq TR TO TF71 TA72)] := (by rw [hu_TF71, hu_TA72]; exact hw)
              have hki : KnI pq PV pz tq rq TO TF71 TA72 RW RF := (by rw [hu_TF71, hu_TA72]; exact hki.upT (show TxN ip f61 a62 from ⟨(show TxOk (f61 4) (f61 5) (f61 8) (f61 9) (f61 17) (f61 21) (a62 2) from ⟨(by first | exact lk | exact lk_eq lk (by omega) | exact lk_mk (by omega)), ⟨by omega, by omega⟩, ⟨by omega, by omega⟩, ⟨by omega, by omega⟩, by omega, ⟨by omega, by omega⟩, by omega, hrt⟩), (show ((f61 15).toInt) = ((ip : Nat) : Int) from by first | with_reducible rfl | with_reducible assumption | omega), (show 0 ≤ (f61 20).toInt ∧ (f61 20).toInt ≤ 3 ∧ ((f61 20).toInt = 0 ∨ 3 * ((ip : Nat) : Int) + (f61 20).toInt ≤ 12) from by first | with_reducible rfl | with_reducible assumption | omega)⟩))
              have hz21_TF71 : (TF71 ip 21).toInt = (f61 21).toInt := (by rw [hu_TF71, va_up_s]; try rfl)
              have hw : pw D A s.heap _ _ [wd_Ker cs hk kr (fun _ => none) kf ka (gKe pq pz tq rq), fm 13 (fTx cs tq TR TO TF71 TA72), fm 13 (fRw cs rq RR RM RW RF RA RC), fm 8 (fPp cs pq PV)] := hw.sub [0, 3, 1, 2] rfl rfl
              exact pg_iret (v := 1) S hr rfl hlk hAe hw (show 0 ≤ (5 * ndS 13 tq + 4 * ndS 13 rq + ndS 13 RM) from by first | exact oz_86e49526c7 | omega) (show 0 ≤ (9804 * ndS 13 tq + 342 * ndS 13 rq + 36864 * ndS 13 RM) from by first | exact oz_fc3b58e969 | omega) (⟨pz, tq, rq, ka, TR, TO, TF71, TA72, RR, RM, RW, RF, RA, RC, rfl, (show (1 : Int32) = 0 ∨ (1 : Int32) = 1 from by first | exact Or.inl rfl | exact Or.inr rfl | exact z_or (by omega)), (show CuT pq PV tq TO ip hx from hcu), (show KnI pq PV pz tq rq TO TF71 TA72 RW RF from hki), (show RoI ka from hro), (show RmI rq RM from hrm), (show 0 + (5 * ndS 13 tq + 4 * ndS 13 rq + ndS 13 RM) ≤ 5 * ndS 13 tq + 4 * ndS 13 rq + ndS 13 RM from by first | exact oz_9d19b050ad | omega), (show 0 + (9804 * ndS 13 tq + 342 * ndS 13 rq + 36864 * ndS 13 RM) ≤ 9804 * ndS 13 tq + 342 * ndS 13 rq + 36864 * ndS 13 RM from by first | exact oz_b5592d0ae7 | omega)⟩) d_Ker_receive_69
  · have nc2 : p0.toInt = (-1 : Int) := (i_eq (x := p0) (y := (-1))).mp c2
    refine lv_aload_n S.x S.b d_Ker_receive_5 rfl (lv_at hl 1 rfl) ?_
    refine lv_iconst (v := 2) S.x S.b d_Ker_receive_6 (by decide) ?_
    refine lv_iconst (v := 0) S.x S.b d_Ker_receive_7 (by decide) ?_
    have hw : pw D A s.heap _ _ [wd_Ker cs hk kr (fun _ => none) kf ka (gKe pq pz tq rq), fm 13 (fRw cs rq RR RM RW RF RA RC), fm 8 (fPp cs pq PV), fm 13 (fTx cs tq TR TO TF TA)] := hw.sub [0, 2, 3, 1] rfl rfl
    have hw : pw D A s.heap _ _ [wd_Ker cs hk kr (fun _ => none) kf ka (gKe pq pz tq rq), fm 13 (fRw cs rq RR RM RW RF RA RC), fm 8 (fPp cs pq PV), fo 13 (fTx cs tq TR TO TF TA) ip, wd_Txp cs hx (TR ip) (fun k => if k = 3 then (some hp1) else none) (TF ip) (TA ip) (fun _ _ => none)] := ftx_out (pr := [wd_Ker cs hk kr (fun _ => none) kf ka (gKe pq pz tq rq), fm 13 (fRw cs rq RR RM RW RF RA RC), fm 8 (fPp cs pq PV)]) hw hip hcu.1 hto1
    have htn73 : TxN ip (TF ip) (TA ip) := hki.2.1 ip hip _ hcu.1
    obtain ⟨lk, ⟨i2, i3⟩, ⟨i4, i5⟩, ⟨i6, i7⟩, i8, ⟨i9, i11⟩, i10, hrt⟩ := htn73.1
    have hid73 := htn73.2.1
    have hch73 := htn73.2.2
    unfold KcI at hch73
    refine px_callv (pr := [wd_Ker cs hk kr (fun _ => none) kf ka (gKe pq pz tq rq), fm 13 (fRw cs rq RR RM RW RF RA RC), fm 8 (fPp cs pq PV), fo 13 (fTx cs tq TR TO TF TA) ip]) (px_runU (As := [.int 2, .int 0]) (rest := []) S (c_finish_Txp l D cs hx (TR ip) (fun _ _ => none) hp1 (TF ip) (TA ip) 2 0  (show TxOk ((TF ip) 4) ((TF ip) 5) ((TF ip) 8) ((TF ip) 9) ((TF ip) 17) ((TF ip) 21) ((TA ip) 2) from ⟨(by first | exact lk | exact lk_eq lk (by omega) | exact lk_mk (by omega)), ⟨by omega, by omega⟩, ⟨by omega, by omega⟩, ⟨by omega, by omega⟩, by omega, ⟨by first | exact oz_1b364b1c5f g1 | omega, by first | exact oz_02032f9386 g1 | omega⟩, by omega, hrt⟩) _) hT (pr := [wd_Ker cs hk kr (fun _ => none) kf ka (gKe pq pz tq rq), fm 13 (fRw cs rq RR RM RW RF RA RC), fm 8 (fPp cs pq PV), fo 13 (fTx cs tq TR TO TF TA) ip]) (pcs := [wd_Txp cs hx (TR ip) (fun k => if k = 3 then (some hp1) else none) (TF ip) (TA ip) (fun _ _ => none)]) hw px_X.tt (C := "HomeSystem$TextProcess") (x := ⟨"HomeSystem$AnyProcess", "finish", "(II)V"⟩) (px_recv hT hw 4 0 rfl rfl rfl) m8_89 m8_84 m8_86 m8_85 m8_88 m1_33 rfl q_HomeSystem_AnyProcess_finish ⟨Nat.le_of_ble_eq_true rfl, Nat.le_of_ble_eq_true rfl⟩ hl.1 rfl (Nat.le_of_ble_eq_true rfl) d_Ker_receive_8 ⟨show 0 + 0 ≤ (5 * ndS 13 tq + 4 * ndS 13 rq + ndS 13 RM) from by first | with_reducible rfl | with_reducible assumption | omega, show 0 + 0 ≤ (9804 * ndS 13 tq + 342 * ndS 13 rq + 36864 * ndS 13 RM) from by first | with_reducible rfl | with_reducible assumption | omega⟩) hw hA (fun p76 H locs hp76 hw => ?_)
    obtain ⟨f74, a75, rfl, h83, e78, e79, e80, e81, e82⟩ := hp76
    obtain ⟨lk, ⟨i2, i3⟩, ⟨i4, i5⟩, ⟨i6, i7⟩, i8, ⟨i9, i11⟩, i10, hrt⟩ := h83
    replace e78 : (f74 9).toInt = ((TF ip) 9).toInt := e78
    replace e79 : (f74 17).toInt = ((TF ip) 17).toInt := e79
    replace e80 : (f74 21).toInt = 0 := e80
    replace e81 : (f74 15).toInt = ((TF ip) 15).toInt := e81
    replace e82 : (f74 20).toInt = ((TF ip) 20).toInt := e82
    replace hw : pw D A s.heap H locs [wd_Ker cs hk kr (fun _ => none) kf ka (gKe pq pz tq rq), fm 13 (fRw cs rq RR RM RW RF RA RC), fm 8 (fPp cs pq PV), fo 13 (fTx cs tq TR TO TF TA) ip, wd_Txp cs hx (TR ip) (fun k => if k = 3 then (some hp1) else none) f74 a75 (fun _ _ => none)] := hw
    refine lv_iconst (v := 1) S.x S.b d_Ker_receive_11 (by decide) ?_
    have hw := ftx_in0 (pr := [wd_Ker cs hk kr (fun _ => none) kf ka (gKe pq pz tq rq), fm 13 (fRw cs rq RR RM RW RF RA RC), fm 8 (fPp cs pq PV)]) hw hip hcu.1 hto1
    obtain ⟨TF84, hu_TF84⟩ : ∃ y : Nat → Nat → Int32, y = va_up TF ip f74 := ⟨_, rfl⟩
    obtain ⟨TA85, hu_TA85⟩ : ∃ y : Nat → Nat → Nat → Int32, y = va_up TA ip a75 := ⟨_, rfl⟩
    have hw : pw D A s.heap _ _ [wd_Ker cs hk kr (fun _ => none) kf ka (gKe pq pz tq rq), fm 13 (fRw cs rq RR RM RW RF RA RC), fm 8 (fPp cs pq PV), fm 13 (fTx cs tq TR TO TF84 TA85)] := (by rw [hu_TF84, hu_TA85]; exact hw)
    have hki : KnI pq PV pz tq rq TO TF84 TA85 RW RF := (by rw [hu_TF84, hu_TA85]; exact hki.upT (show TxN ip f74 a75 from ⟨(show TxOk (f74 4) (f74 5) (f74 8) (f74 9) (f74 17) (f74 21) (a75 2) from ⟨(by first | exact lk | exact lk_eq lk (by omega) | exact lk_mk (by omega)), ⟨by omega, by omega⟩, ⟨by omega, by omega⟩, ⟨by omega, by omega⟩, by omega, ⟨by omega, by omega⟩, by omega, hrt⟩), (show ((f74 15).toInt) = ((ip : Nat) : Int) from by first | with_reducible rfl | with_reducible assumption | omega), (show 0 ≤ (f74 20).toInt ∧ (f74 20).toInt ≤ 3 ∧ ((f74 20).toInt = 0 ∨ 3 * ((ip : Nat) : Int) + (f74 20).toInt ≤ 12) from by first | with_reducible rfl | with_reducible assumption | omega)⟩))
    have hz21_TF84 : (TF84 ip 21).toInt = (f74 21).toInt := (by rw [hu_TF84, va_up_s]; try rfl)
    have hw : pw D A s.heap _ _ [wd_Ker cs hk kr (fun _ => none) kf ka (gKe pq pz tq rq), fm 13 (fTx cs tq TR TO TF84 TA85), fm 13 (fRw cs rq RR RM RW RF RA RC), fm 8 (fPp cs pq PV)] := hw.sub [0, 3, 1, 2] rfl rfl
    exact pg_iret (v := 1) S hr rfl hlk hAe hw (show 0 ≤ (5 * ndS 13 tq + 4 * ndS 13 rq + ndS 13 RM) from by first | exact oz_86e49526c7 | omega) (show 0 ≤ (9804 * ndS 13 tq + 342 * ndS 13 rq + 36864 * ndS 13 RM) from by first | exact oz_fc3b58e969 | omega) (⟨pz, tq, rq, ka, TR, TO, TF84, TA85, RR, RM, RW, RF, RA, RC, rfl, (show (1 : Int32) = 0 ∨ (1 : Int32) = 1 from by first | exact Or.inl rfl | exact Or.inr rfl | exact z_or (by omega)), (show CuT pq PV tq TO ip hx from hcu), (show KnI pq PV pz tq rq TO TF84 TA85 RW RF from hki), (show RoI ka from hro), (show RmI rq RM from hrm), (show 0 + (5 * ndS 13 tq + 4 * ndS 13 rq + ndS 13 RM) ≤ 5 * ndS 13 tq + 4 * ndS 13 rq + ndS 13 RM from by first | exact oz_9d19b050ad | omega), (show 0 + (9804 * ndS 13 tq + 342 * ndS 13 rq + 36864 * ndS 13 RM) ≤ 9804 * ndS 13 tq + 342 * ndS 13 rq + 36864 * ndS 13 RM from by first | exact oz_b5592d0ae7 | omega)⟩) d_Ker_receive_12
set_option maxHeartbeats 4000000 in
set_option maxRecDepth 100000 in
theorem c_k_receive_R (l : Launch) (D : va_G) (cs : Nat → ClassId) (hk : Nat) (kr : Nat → Nat) (pq : Nat → Option Nat) (kf : Nat → Int32) (PV : Nat → Pvs) (pz : Nat → Option Nat) (tq : Nat → Option Nat) (rq : Nat → Option Nat) (ka : Nat → Nat → Int32) (TR : Nat → Nat → Nat) (TO : Nat → Option Nat) (TF : Nat → Nat → Int32) (TA : Nat → Nat → Nat → Int32) (RR : Nat → Nat → Nat) (RM : Nat → Option Nat) (RW : Nat → Option Nat) (RF : Nat → Nat → Int32) (RA : Nat → Nat → Nat → Int32) (RC : Nat → Nat → Int32) (p0 p1 : Int32) (ip hx : Nat) (g0 : p0.toInt = -1 ∨ (0 ≤ p0.toInt ∧ p0.toInt ≤ 12 ∧ 0 ≤ p1.toInt ∧ p1.toInt ≤ 25)) (g1 : (RF ip 14).toInt = 1) (hki : KnI pq PV pz tq rq TO TF TA RW RF) (hro : RoI ka) (hrm : RmI rq RM) (hip : ip < 13) (hcu : CuR pq PV rq RW ip hx) : MgI l y_Ker_receive b_Ker_receive 6 (.boolean) D cs 4 160 ((5 * ndS 13 tq + 4 * ndS 13 rq + ndS 13 RM)) ((9804 * ndS 13 tq + 342 * ndS 13 rq + 36864 * ndS 13 RM)) [.ref hk, .ref hx, .int p0, .int p1] [wd_Ker cs hk kr (fun _ => none) kf ka (gKe pq pz tq rq), fm 13 (fTx cs tq TR TO TF TA), fm 13 (fRw cs rq RR RM RW RF RA RC), fm 8 (fPp cs pq PV)] (fun _ => True) (fun v ps => ∃ (pz' : Nat → Option Nat) (tq' : Nat → Option Nat) (rq' : Nat → Option Nat) (ka' : Nat → Nat → Int32) (TR' : Nat → Nat → Nat) (TO' : Nat → Option Nat) (TF' : Nat → Nat → Int32) (TA' : Nat → Nat → Nat → Int32) (RR' : Nat → Nat → Nat) (RM' : Nat → Option Nat) (RW' : Nat → Option Nat) (RF' : Nat → Nat → Int32) (RA' : Nat → Nat → Nat → Int32) (RC' : Nat → Nat → Int32), (ps.1 = [wd_Ker cs hk kr (fun _ => none) kf ka' (gKe pq pz' tq' rq'), fm 13 (fTx cs tq' TR' TO' TF' TA'), fm 13 (fRw cs rq' RR' RM' RW' RF' RA' RC'), fm 8 (fPp cs pq PV)]) ∧ (v = 0 ∨ v = 1) ∧ (CuR pq PV rq' RW' ip hx) ∧ (KnI pq PV pz' tq' rq' TO' TF' TA' RW' RF') ∧ (RoI ka') ∧ (RmI rq' RM') ∧ (ps.2.1 + (5 * ndS 13 tq' + 4 * ndS 13 rq' + ndS 13 RM') ≤ 5 * ndS 13 tq + 4 * ndS 13 rq + ndS 13 RM) ∧ (ps.2.2 + (9804 * ndS 13 tq' + 342 * ndS 13 rq' + 36864 * ndS 13 RM') ≤ 9804 * ndS 13 tq + 342 * ndS 13 rq + 36864 * ndS 13 RM)) := by
  refine pg_enter (by decide) (Nat.le_of_ble_eq_true rfl) ?_
  intro p e s m below meth c A ls hAe S hr hlk hnm hA hT hX hw hl
  replace hl : lv_has ls 6 [(0, .ref hk), (1, .ref hx), (2, .int p0), (3, .int p1)] := hl
  have lp0 := Int32.le_toInt p0
  have up0 := Int32.toInt_lt p0
  have lp1 := Int32.le_toInt p1
  have up1 := Int32.toInt_lt p1
  have cstm1 : ((-1) : Int32).toInt = (-1) := rfl
  have cst0 : (0 : Int32).toInt = 0 := rfl
  have cst1 : (1 : Int32).toInt = 1 := rfl
  have cst2 : (2 : Int32).toInt = 2 := rfl
  have cst4 : (4 : Int32).toInt = 4 := rfl
  refine lv_iload_n S.x S.b d_Ker_receive_0 rfl (lv_at hl 2 rfl) ?_
  obtain ⟨j1, hp1, hj1, hjq1, hto1⟩ := hcu.2
  refine lv_iconst (v := (-1)) S.x S.b d_Ker_receive_1 (by decide) ?_
  refine lv_icmp_ne (tgt := 13) S.x S.b d_Ker_receive_2 (by decide) (fun c2 => ?_) (fun c2 => ?_)
  · have nc2 : ¬ p0.toInt = (-1 : Int) := mt (i_eq (x := p0) (y := (-1))).mpr c2
    refine lv_aload_n S.x S.b d_Ker_receive_13 rfl (lv_at hl 1 rfl) ?_
    have hw : pw D A s.heap _ _ [wd_Ker cs hk kr (fun _ => none) kf ka (gKe pq pz tq rq), fm 13 (fTx cs tq TR TO TF TA), fm 8 (fPp cs pq PV), fm 13 (fRw cs rq RR RM RW RF RA RC)] := hw.sub [0, 1, 3, 2] rfl rfl
    have hw : pw D A s.heap _ _ [wd_Ker cs hk kr (fun _ => none) kf ka (gKe pq pz tq rq), fm 13 (fTx cs tq TR TO TF TA), fm 8 (fPp cs pq PV), fo 13 (fRw cs rq RR RM RW RF RA RC) ip, wd_Raw cs hx (RR ip) (fun k => if k = 2 then (RM ip) else if k = 4 then (some ((PV j1).r 1)) else none) (RF ip) (RA ip) (fun _ _ => none), nA cs (RM ip) 36864 (RC ip)] := frw_out (pr := [wd_Ker cs hk kr (fun _ => none) kf ka (gKe pq pz tq rq), fm 13 (fTx cs tq TR TO TF TA), fm 8 (fPp cs pq PV)]) hw hip hcu.1 hto1
    have hng3 := ndS_ge 13 RM ip hip
    have hrn3 : RwN ip (RF ip) := hki.2.2.1 ip hip _ hcu.1
    have hro3 := hrn3.1
    unfold RwO at hro3
    have hid3 := hrn3.2.1
    have hch3 := hrn3.2.2
    unfold KcI at hch3
    refine px_get S k_Raw hT hw 4 0 15 (v := .int ((RF ip) 15)) rfl rfl rfl (by decide) m6_158 d_Ker_receive_14 ?_
    refine lv_iconst (v := 4) S.x S.b d_Ker_receive_17 (by decide) ?_
    refine lv_icmp_ne (tgt := 25) S.x S.b d_Ker_receive_18 (by decide) (fun c4 => ?_) (fun c4 => ?_)
    · have nc4 : ¬ ((RF ip) 15).toInt = (4 : Int) := mt (i_eq (x := ((RF ip) 15)) (y := 4)).mpr c4
      refine lv_iconst (v := 0) S.x S.b d_Ker_receive_25 (by decide) ?_
      refine lv_istore (lv' := [(4, .int 0), (0, .ref hk), (1, .ref hx), (2, .int p0), (3, .int p1)]) S.x S.b d_Ker_receive_26 hl (by decide) rfl (fun ls hl => ?_)
      refine lv_aload_n S.x S.b d_Ker_receive_28 rfl (lv_at hl 1 rfl) ?_
      refine px_get S k_Ker hT hw 0 0 7 (v := .ref (kr 7)) rfl rfl rfl (by decide) m2_228 d_Ker_receive_29 ?_
      refine lv_iload_n S.x S.b d_Ker_receive_32 rfl (lv_at hl 4 rfl) ?_
      refine px_iald S hT hw 0 8 (n := 26) (f := (ka 7)) rfl (ga_Ker_7 _ _ _ _ _ _ _) (x := p1) (vp_in_iff.mpr (by constructor <;> omega)) d_Ker_receive_33 ?_
      refine lv_topi (fun z5 ez5 => ?_)
      have lz5 := Int32.le_toInt z5
      have uz5 := Int32.toInt_lt z5
      have qz5 := hro.at7 (x := p1) (by omega) (by omega) ez5
      refine lv_if_ne (tgt := 70) S.x S.b d_Ker_receive_34 (by decide) (fun c6 => ?_) (fun c6 => ?_)
      · have nc6 : ¬ z5.toInt = (0 : Int) := mt (i_eq (x := z5) (y := 0)).mpr c6
        refine lv_iload S.x S.b d_Ker_receive_70 (lv_at hl 0 rfl) ?_
        refine lv_if_eq (tgt := 82) S.x S.b d_Ker_receive_72 (by decide) (fun c7 => ?_) (fun c7 => ?_)
        ·
          refine lv_aload_n S.x S.b d_Ker_receive_82 rfl (lv_at hl 1 rfl) ?_
          refine px_get S k_Ker hT hw 0 0 5 (v := .ref (kr 5)) rfl rfl rfl (by decide) m2_226 d_Ker_receive_83 ?_
          refine lv_iconst (v := 4) S.x S.b d_Ker_receive_86 (by decide) ?_
          refine lv_iload_n S.x S.b d_Ker_receive_87 rfl (lv_at hl 4 rfl) ?_
          refine lv_imul S.x S.b d_Ker_receive_88 ?_
          refine lv_topi (fun z8 ez8 => ?_)
          have lz8 := Int32.le_toInt z8
          have uz8 := Int32.toInt_lt z8
          have tz8 : -2147483648 ≤ 4 * p1.toInt → 4 * p1.toInt < 2147483648 → z8.toInt = 4 * p1.toInt := by rw [ez8]; exact i_mulc 4 p1 (by decide)
          try replace tz8 : z8.toInt = 4 * p1.toInt := by omega
          refine lv_aload_n S.x S.b d_Ker_receive_89 rfl (lv_at hl 1 rfl) ?_
          refine px_get S k_Ker hT hw 0 0 6 (v := .ref (kr 6)) rfl rfl rfl (by decide) m2_227 d_Ker_receive_90 ?_
          refine lv_iload_n S.x S.b d_Ker_receive_93 rfl (lv_at hl 4 rfl) ?_
          refine px_iald S hT hw 0 7 (n := 26) (f := (ka 6)) rfl (ga_Ker_6 _ _ _ _ _ _ _) (x := p1) (vp_in_iff.mpr (by constructor <;> omega)) d_Ker_receive_94 ?_
          refine lv_topi (fun z9 ez9 => ?_)
          have lz9 := Int32.le_toInt z9
          have uz9 := Int32.toInt_lt z9
          have qz9 := hro.at6 (x := p1) (by omega) (by omega) ez9
          refine lv_iadd S.x S.b d_Ker_receive_95 ?_
          refine lv_topi (fun z10 ez10 => ?_)
          have tz10 : z10.toInt = (z8.toInt + z9.toInt + 2147483648) % 4294967296 - 2147483648 := by rw [ez10]; exact i_add z8 z9
          have lz10 := Int32.le_toInt z10
          have uz10 := Int32.toInt_lt z10
          try replace tz10 : z10.toInt = z8.toInt + z9.toInt := by omega
          refine px_iald S hT hw 0 6 (n := 104) (f := (ka 5)) rfl (ga_Ker_5 _ _ _ _ _ _ _) (x := z10) (vp_in_iff.mpr (by constructor <;> omega)) d_Ker_receive_96 ?_
          refine lv_topi (fun z11 ez11 => ?_)
          have lz11 := Int32.le_toInt z11
          have uz11 := Int32.toInt_lt z11
          refine lv_istore (lv' := [(5, .int z11), (4, .int 0), (0, .ref hk), (1, .ref hx), (2, .int p0), (3, .int p1)]) S.x S.b d_Ker_receive_97 hl (by decide) rfl (fun ls hl => ?_)
          refine lv_aload_n S.x S.b d_Ker_receive_99 rfl (lv_at hl 2 rfl) ?_
          refine px_get S k_Ker hT hw 0 0 6 (v := .ref (kr 6)) rfl rfl rfl (by decide) m2_227 d_Ker_receive_100 ?_
          refine lv_iload_n S.x S.b d_Ker_receive_103 rfl (lv_at hl 5 rfl) ?_
          refine lv_aload_n S.x S.b d_Ker_receive_104 rfl (lv_at hl 2 rfl) ?_
          refine px_get S k_Ker hT hw 0 0 6 (v := .ref (kr 6)) rfl rfl rfl (by decide) m2_227 d_Ker_receive_105 ?_
          refine lv_iload_n S.x S.b d_Ker_receive_108 rfl (lv_at hl 5 rfl) ?_
          refine px_iald S hT hw 0 7 (n := 26) (f := (ka 6)) rfl (ga_Ker_6 _ _ _ _ _ _ _) (x := p1) (vp_in_iff.mpr (by constructor <;> omega)) d_Ker_receive_109 ?_
          refine lv_topi (fun z12 ez12 => ?_)
          have lz12 := Int32.le_toInt z12
          have uz12 := Int32.toInt_lt z12
          have qz12 := hro.at6 (x := p1) (by omega) (by omega) ez12
          refine lv_iconst (v := 1) S.x S.b d_Ker_receive_110 (by decide) ?_
          refine lv_iadd S.x S.b d_Ker_receive_111 ?_
          refine lv_topi (fun z13 ez13 => ?_)
          have tz13 : z13.toInt = (z12.toInt + (1 : Int) + 2147483648) % 4294967296 - 2147483648 := by rw [ez13]; exact i_add z12 1
          have lz13 := Int32.le_toInt z13
          have uz13 := Int32.toInt_lt z13
          try replace tz13 : z13.toInt = z12.toInt + (1 : Int) := by omega
          refine lv_iconst (v := 4) S.x S.b d_Ker_receive_112 (by decide) ?_
          refine lv_irem S.x S.b d_Ker_receive_113 (by decide) ?_
          refine lv_topi (fun z14 ez14 => ?_)
          have lz14 := Int32.le_toInt z14
          have uz14 := Int32.toInt_lt z14
          have tz14 : 0 ≤ z13.toInt → z14.toInt = z13.toInt % 4 := (by intro h9; rw [ez14]; exact i_irem9 h9 (y := 4) (d := 4) (by decide) (by decide))
          try replace tz14 := tz14 (by omega)
          refine px_iast S hT hw 0 7 (n := 26) (f := (ka 6)) (x := p1) (y := z14) rfl (ga_Ker_6 _ _ _ _ _ _ _) (vp_in_iff.mpr (by constructor <;> omega)) d_Ker_receive_114 (w' := wd_Ker cs hk kr (fun _ => none) kf (va_up ka 6 (upd (ka 6) p1.toNatClampNeg z14)) (gKe pq pz tq rq)) (ps' := [wd_Ker cs hk kr (fun _ => none) kf (va_up ka 6 (upd (ka 6) p1.toNatClampNeg z14)) (gKe pq pz tq rq), fm 13 (fTx cs tq TR TO TF TA), fm 8 (fPp cs pq PV), fo 13 (fRw cs rq RR RM RW RF RA RC) ip, wd_Raw cs hx (RR ip) (fun k => if k = 2 then (RM ip) else if k = 4 then (some ((PV j1).r 1)) else none) (RF ip) (RA ip) (fun _ _ => none), nA cs (RM ip) 36864 (RC ip)]) (sa_Ker_6 _ _ _ _ _ _ _ _) rfl (fun H locs hw => ?_)
          have hro : RoI (va_up ka 6 (upd (ka 6) p1.toNatClampNeg z14)) := hro.up6 (by omega) (by omega)
          refine lv_aload_n S.x S.b d_Ker_receive_115 rfl (lv_at hl 2 rfl) ?_
          refine px_get S k_Ker hT hw 0 0 7 (v := .ref (kr 7)) rfl rfl rfl (by decide) m2_228 d_Ker_receive_116 ?_
          refine lv_iload_n S.x S.b d_Ker_receive_119 rfl (lv_at hl 5 rfl) ?_
          refine lv_dup2_11 S.x S.b d_Ker_receive_120 rfl rfl ?_
          refine px_iald S hT hw 0 8 (n := 26) (f := ((va_up ka 6 (upd (ka 6) p1.toNatClampNeg z14)) 7)) rfl (ga_Ker_7 _ _ _ _ _ _ _) (x := p1) (vp_in_iff.mpr (by constructor <;> omega)) d_Ker_receive_121 ?_
          refine lv_topi (fun z15 ez15 => ?_)
          have lz15 := Int32.le_toInt z15
          have uz15 := Int32.toInt_lt z15
          have qz15 := hro.at7 (x := p1) (by omega) (by omega) ez15
          have hlnk : z15.toInt = z5.toInt := (by rw [ez15, ez5, va_up_n (by decide)])
          refine lv_iconst (v := 1) S.x S.b d_Ker_receive_122 (by decide) ?_
          refine lv_isub S.x S.b d_Ker_receive_123 ?_
          refine lv_topi (fun z16 ez16 => ?_)
          have tz16 : z16.toInt = (z15.toInt - (1 : Int) + 2147483648) % 4294967296 - 2147483648 := by rw [ez16]; exact i_sub z15 1
          have lz16 := Int32.le_toInt z16
          have uz16 := Int32.toInt_lt z16
          try replace tz16 : z16.toInt = z15.toInt - (1 : Int) := by omega
          refine px_iast S hT hw 0 8 (n := 26) (f := ((va_up ka 6 (upd (ka 6) p1.toNatClampNeg z14)) 7)) (x := p1) (y := z16) rfl (ga_Ker_7 _ _ _ _ _ _ _) (vp_in_iff.mpr (by constructor <;> omega)) d_Ker_receive_124 (w' := wd_Ker cs hk kr (fun _ => none) kf (va_up (va_up ka 6 (upd (ka 6) p1.toNatClampNeg z14)) 7 (upd ((va_up ka 6 (upd (ka 6) p1.toNatClampNeg z14)) 7) p1.toNatClampNeg z16)) (gKe pq pz tq rq)) (ps' := [wd_Ker cs hk kr (fun _ => none) kf (va_up (va_up ka 6 (upd (ka 6) p1.toNatClampNeg z14)) 7 (upd ((va_up ka 6 (upd (ka 6) p1.toNatClampNeg z14)) 7) p1.toNatClampNeg z16)) (gKe pq pz tq rq), fm 13 (fTx cs tq TR TO TF TA), fm 8 (fPp cs pq PV), fo 13 (fRw cs rq RR RM RW RF RA RC) ip, wd_Raw cs hx (RR ip) (fun k => if k = 2 then (RM ip) else if k = 4 then (some ((PV j1).r 1)) else none) (RF ip) (RA ip) (fun _ _ => none), nA cs (RM ip) 36864 (RC ip)]) (sa_Ker_7 _ _ _ _ _ _ _ _) rfl (fun H locs hw => ?_)
          have hro : RoI (va_up (va_up ka 6 (upd (ka 6) p1.toNatClampNeg z14)) 7 (upd ((va_up ka 6 (upd (ka 6) p1.toNatClampNeg z14)) 7) p1.toNatClampNeg z16)) := hro.up7 (by omega) (by omega)
          refine lv_aload_n S.x S.b d_Ker_receive_125 rfl (lv_at hl 3 rfl) ?_
          refine lv_iload S.x S.b d_Ker_receive_126 (lv_at hl 0 rfl) ?_
          have hw : pw D A s.heap _ _ [wd_Ker cs hk kr (fun _ => none) kf (va_up (va_up ka 6 (upd (ka 6) p1.toNatClampNeg z14)) 7 (upd ((va_up ka 6 (upd (ka 6) p1.toNatClampNeg z14)) 7) p1.toNatClampNeg z16)) (gKe pq pz tq rq), fm 13 (fTx cs tq TR TO TF TA), fm 8 (fPp cs pq PV), fo 13 (fRw cs rq RR RM RW RF RA RC) ip, nA cs (RM ip) 36864 (RC ip), wd_Raw cs hx (RR ip) (fun k => if k = 2 then (RM ip) else if k = 4 then (some ((PV j1).r 1)) else none) (RF ip) (RA ip) (fun _ _ => none)] := hw.sub [0, 1, 2, 3, 5, 4] rfl rfl
          refine px_callv (pr := [wd_Ker cs hk kr (fun _ => none) kf (va_up (va_up ka 6 (upd (ka 6) p1.toNatClampNeg z14)) 7 (upd ((va_up ka 6 (upd (ka 6) p1.toNatClampNeg z14)) 7) p1.toNatClampNeg z16)) (gKe pq pz tq rq), fm 13 (fTx cs tq TR TO TF TA), fm 8 (fPp cs pq PV), fo 13 (fRw cs rq RR RM RW RF RA RC) ip, nA cs (RM ip) 36864 (RC ip)]) (px_runA (As := [.int z11]) (rest := []) S (c_Raw_answer l D cs hx (RR ip) (fun _ _ => none) (RM ip) (some ((PV j1).r 1)) (RF ip) (RA ip) z11  (show 1 ≤ ((RF ip) 7).toInt from by first | with_reducible rfl | with_reducible assumption | omega) _) hT (pr := [wd_Ker cs hk kr (fun _ => none) kf (va_up (va_up ka 6 (upd (ka 6) p1.toNatClampNeg z14)) 7 (upd ((va_up ka 6 (upd (ka 6) p1.toNatClampNeg z14)) 7) p1.toNatClampNeg z16)) (gKe pq pz tq rq), fm 13 (fTx cs tq TR TO TF TA), fm 8 (fPp cs pq PV), fo 13 (fRw cs rq RR RM RW RF RA RC) ip, nA cs (RM ip) 36864 (RC ip)]) (pcs := [wd_Raw cs hx (RR ip) (fun k => if k = 2 then (RM ip) else if k = 4 then (some ((PV j1).r 1)) else none) (RF ip) (RA ip) (fun _ _ => none)]) hw px_X.tt (C := "HomeSystem$RawProcess") (owner := "HomeSystem$AnyProcess") (x := ⟨"HomeSystem$AnyProcess", "answer", "(I)V"⟩) (px_recv hT hw 5 0 rfl rfl rfl) m8_72 m8_67 m8_69 m8_71 m8_70 m1_34 m8_68n ⟨by decide, by decide⟩ rfl q_Raw_answer ⟨Nat.le_of_ble_eq_true rfl, Nat.le_of_ble_eq_true rfl⟩ hl.1 rfl (Nat.le_of_ble_eq_true rfl) d_Ker_receive_128 ⟨show 0 + 0 ≤ (5 * ndS 13 tq + 4 * ndS 13 rq + ndS 13 RM) from by first | with_reducible rfl | with_reducible assumption | omega, show 0 + 0 ≤ (9804 * ndS 13 tq + 342 * ndS 13 rq + 36864 * ndS 13 RM) from by first | with_reducible rfl | with_reducible assumption | omega⟩) hw hA (fun p19 H locs hp19 hw => ?_)
          obtain ⟨f17, a18, rfl, e21, e22, e23, e24, e25, e26⟩ := hp19
          replace e21 : (f17 7).toInt = ((RF ip) 7).toInt - 1 := e21
          replace e22 : (f17 8).toInt = ((RF ip) 8).toInt := e22
          replace e23 : (f17 10).toInt = ((RF ip) 10).toInt := e23
          replace e24 : (f17 13).toInt = ((RF ip) 13).toInt := e24
          replace e25 : (f17 14).toInt = 0 := e25
          replace e26 : (f17 11).toInt = ((RF ip) 11).toInt := e26
          replace hw : pw D A s.heap H locs [wd_Ker cs hk kr (fun _ => none) kf (va_up (va_up ka 6 (upd (ka 6) p1.toNatClampNeg z14)) 7 (upd ((va_up ka 6 (upd (ka 6) p1.toNatClampNeg z14)) 7) p1.toNatClampNeg z16)) (gKe pq pz tq rq), fm 13 (fTx cs tq TR TO TF TA), fm 8 (fPp cs pq PV), fo 13 (fRw cs rq RR RM RW RF RA RC) ip, nA cs (RM ip) 36864 (RC ip), wd_Raw cs hx (RR ip) (fun k => if k = 2 then (RM ip) else if k = 4 then (some ((PV j1).r 1)) else none) f17 a18 (fun _ _ => none)] := hw
          refine lv_iconst (v := 1) S.x S.b d_Ker_receive_131 (by decide) ?_
          have hw : pw D A s.heap _ _ [wd_Ker cs hk kr (fun _ => none) kf (va_up (va_up ka 6 (upd (ka 6) p1.toNatClampNeg z14)) 7 (upd ((va_up ka 6 (upd (ka 6) p1.toNatClampNeg z14)) 7) p1.toNatClampNeg z16)) (gKe pq pz tq rq), fm 13 (fTx cs tq TR TO TF TA), fm 8 (fPp cs pq PV), fo 13 (fRw cs rq RR RM RW RF RA RC) ip, wd_Raw cs hx (RR ip) (fun k => if k = 2 then (RM ip) else if k = 4 then (some ((PV j1).r 1)) else none) f17 a18 (fun _ _ => none), nA cs (RM ip) 36864 (RC ip)] := hw.sub [0, 1, 2, 3, 5, 4] rfl rfl
          have hw := frw_in0 (pr := [wd_Ker cs hk kr (fun _ => none) kf (va_up (va_up ka 6 (upd (ka 6) p1.toNatClampNeg z14)) 7 (upd ((va_up ka 6 (upd (ka 6) p1.toNatClampNeg z14)) 7) p1.toNatClampNeg z16)) (gKe pq pz tq rq), fm 13 (fTx cs tq TR TO TF TA), fm 8 (fPp cs pq PV)]) hw hip hcu.1 hto1
          obtain ⟨RM27, hu_RM27⟩ : ∃ y : Nat → Option Nat, y = va_up RM ip (RM ip) := ⟨_, rfl⟩
          obtain ⟨RF28, hu_RF28⟩ : ∃ y : Nat → Nat → Int32, y = va_up RF ip f17 := ⟨_, rfl⟩
          obtain ⟨RA29, hu_RA29⟩ : ∃ y : Nat → Nat → Nat → Int32, y = va_up RA ip a18 := ⟨_, rfl⟩
          obtain ⟨RC30, hu_RC30⟩ : ∃ y : Nat → Nat → Int32, y = va_up RC ip (RC ip) := ⟨_, rfl⟩
          have hw : pw D A s.heap _ _ [wd_Ker cs hk kr (fun _ => none) kf (va_up (va_up ka 6 (upd (ka 6) p1.toNatClampNeg z14)) 7 (upd ((va_up ka 6 (upd (ka 6) p1.toNatClampNeg z14)) 7) p1.toNatClampNeg z16)) (gKe pq pz tq rq), fm 13 (fTx cs tq TR TO TF TA), fm 8 (fPp cs pq PV), fm 13 (fRw cs rq RR RM27 RW RF28 RA29 RC30)] := (by rw [hu_RM27, hu_RF28, hu_RA29, hu_RC30]; exact hw)
          have hki : KnI pq PV pz tq rq TO TF TA RW RF28 := (by rw [hu_RF28]; exact hki.upR (show RwN ip f17 from ⟨(show (0 ≤ (f17 7).toInt ∧ (f17 7).toInt ≤ 1600) ∧ (0 ≤ (f17 10).toInt ∧ (f17 10).toInt + (f17 7).toInt ≤ 1600) ∧ ((f17 14).toInt = 0 ∨ (f17 14).toInt = 1) ∧ ((f17 14).toInt = 1 → 1 ≤ (f17 7).toInt) from by first | with_reducible rfl | with_reducible assumption | omega), (show ((f17 8).toInt) = ((ip : Nat) : Int) from by first | with_reducible rfl | with_reducible assumption | omega), (show 0 ≤ (f17 13).toInt ∧ (f17 13).toInt ≤ 3 ∧ ((f17 13).toInt = 0 ∨ 3 * ((ip : Nat) : Int) + (f17 13).toInt ≤ 12) from by first | with_reducible rfl | with_reducible assumption | omega)⟩))
          have hrm : RmI rq RM27 := (by rw [hu_RM27]; exact hrm.up hcu.1)
          have hnd_RM27 := ndS_up 13 RM ip (RM ip) hip; rw [← hu_RM27] at hnd_RM27
          have hz14_RF28 : (RF28 ip 14).toInt = (f17 14).toInt := (by rw [hu_RF28, va_up_s]; try rfl)
          have hw : pw D A s.heap _ _ [wd_Ker cs hk kr (fun _ => none) kf (va_up (va_up ka 6 (upd (ka 6) p1.toNatClampNeg z14)) 7 (upd ((va_up ka 6 (upd (ka 6) p1.toNatClampNeg z14)) 7) p1.toNatClampNeg z16)) (gKe pq pz tq rq), fm 13 (fTx cs tq TR TO TF TA), fm 13 (fRw cs rq RR RM27 RW RF28 RA29 RC30), fm 8 (fPp cs pq PV)] := hw.sub [0, 1, 3, 2] rfl rfl
          exact pg_iret (v := 1) S hr rfl hlk hAe hw (show 0 ≤ (5 * ndS 13 tq + 4 * ndS 13 rq + ndS 13 RM) from by first | exact oz_86e49526c7 | omega) (show 0 ≤ (9804 * ndS 13 tq + 342 * ndS 13 rq + 36864 * ndS 13 RM) from by first | exact oz_fc3b58e969 | omega) (⟨pz, tq, rq, (va_up (va_up ka 6 (upd (ka 6) p1.toNatClampNeg z14)) 7 (upd ((va_up ka 6 (upd (ka 6) p1.toNatClampNeg z14)) 7) p1.toNatClampNeg z16)), TR, TO, TF, TA, RR, RM27, RW, RF28, RA29, RC30, rfl, (show (1 : Int32) = 0 ∨ (1 : Int32) = 1 from by first | exact Or.inl rfl | exact Or.inr rfl | exact z_or (by omega)), (show CuR pq PV rq RW ip hx from hcu), (show KnI pq PV pz tq rq TO TF TA RW RF28 from hki), (show RoI (va_up (va_up ka 6 (upd (ka 6) p1.toNatClampNeg z14)) 7 (upd ((va_up ka 6 (upd (ka 6) p1.toNatClampNeg z14)) 7) p1.toNatClampNeg z16)) from hro), (show RmI rq RM27 from hrm), (show 0 + (5 * ndS 13 tq + 4 * ndS 13 rq + ndS 13 RM27) ≤ 5 * ndS 13 tq + 4 * ndS 13 rq + ndS 13 RM from by first | with_reducible rfl | with_reducible assumption | omega), (show 0 + (9804 * ndS 13 tq + 342 * ndS 13 rq + 36864 * ndS 13 RM27) ≤ 9804 * ndS 13 tq + 342 * ndS 13 rq + 36864 * ndS 13 RM from by first | with_reducible rfl | with_reducible assumption | omega)⟩) d_Ker_receive_132
        · exact absurd c7 (by decide)
      · have nc6 : z5.toInt = (0 : Int) := (i_eq (x := z5) (y := 0)).mp c6
        refine lv_iload S.x S.b d_Ker_receive_37 (lv_at hl 0 rfl) ?_
        refine lv_if_eq (tgt := 54) S.x S.b d_Ker_receive_39 (by decide) (fun c31 => ?_) (fun c31 => ?_)
        ·
          refine lv_iconst (v := 0) S.x S.b d_Ker_receive_54 (by decide) ?_
          refine lv_istore (lv' := [(5, .int 0), (4, .int 0), (0, .ref hk), (1, .ref hx), (2, .int p0), (3, .int p1)]) S.x S.b d_Ker_receive_55 hl (by decide) rfl (fun ls hl => ?_)
          refine lv_iload S.x S.b d_Ker_receive_57 (lv_at hl 0 rfl) ?_
          refine lv_if_eq (tgt := 67) S.x S.b d_Ker_receive_59 (by decide) (fun c32 => ?_) (fun c32 => ?_)
          ·
            refine lv_iload S.x S.b d_Ker_receive_67 (lv_at hl 0 rfl) ?_
            have hw : pw D A s.heap _ _ [wd_Ker cs hk kr (fun _ => none) kf ka (gKe pq pz tq rq), fm 13 (fTx cs tq TR TO TF TA), fm 8 (fPp cs pq PV), fm 13 (fRw cs rq RR RM RW RF RA RC)] := frw_back (pr := [wd_Ker cs hk kr (fun _ => none) kf ka (gKe pq pz tq rq), fm 13 (fTx cs tq TR TO TF TA), fm 8 (fPp cs pq PV)]) hw hip hcu.1 hto1
            have hw : pw D A s.heap _ _ [wd_Ker cs hk kr (fun _ => none) kf ka (gKe pq pz tq rq), fm 13 (fTx cs tq TR TO TF TA), fm 13 (fRw cs rq RR RM RW RF RA RC), fm 8 (fPp cs pq PV)] := hw.sub [0, 1, 3, 2] rfl rfl
            exact pg_iret (v := 0) S hr rfl hlk hAe hw (show 0 ≤ (5 * ndS 13 tq + 4 * ndS 13 rq + ndS 13 RM) from by first | exact oz_86e49526c7 | omega) (show 0 ≤ (9804 * ndS 13 tq + 342 * ndS 13 rq + 36864 * ndS 13 RM) from by first | exact oz_fc3b58e969 | omega) (⟨pz, tq, rq, ka, TR, TO, TF, TA, RR, RM, RW, RF, RA, RC, rfl, (show (0 : Int32) = 0 ∨ (0 : Int32) = 1 from by first | exact Or.inl rfl | exact Or.inr rfl | exact z_or (by omega)), (show CuR pq PV rq RW ip hx from hcu), (show KnI pq PV pz tq rq TO TF TA RW RF from hki), (show RoI ka from hro), (show RmI rq RM from hrm), (show 0 + (5 * ndS 13 tq + 4 * ndS 13 rq + ndS 13 RM) ≤ 5 * ndS 13 tq + 4 * ndS 13 rq + ndS 13 RM from by first | exact oz_9d19b050ad | omega), (show 0 + (9804 * ndS 13 tq + 342 * ndS 13 rq + 36864 * ndS 13 RM) ≤ 9804 * ndS 13 tq + 342 * ndS 13 rq + 36864 * ndS 13 RM from by first | exact oz_b5592d0ae7 | omega)⟩) d_Ker_receive_69
          · exact absurd c32 (by decide)
        · exact absurd c31 (by decide)
    · have nc4 : ((RF ip) 15).toInt = (4 : Int) := (i_eq (x := ((RF ip) 15)) (y := 4)).mp c4
      refine lv_iconst (v := 1) S.x S.b d_Ker_receive_21 (by decide) ?_
      refine lv_goto (tgt := 26) S.x S.b d_Ker_receive_22 (by decide) ?_
      refine lv_istore (lv' := [(4, .int 1), (0, .ref hk), (1, .ref hx), (2, .int p0), (3, .int p1)]) S.x S.b d_Ker_receive_26 hl (by decide) rfl (fun ls hl => ?_)
      refine lv_aload_n S.x S.b d_Ker_receive_28 rfl (lv_at hl 1 rfl) ?_
      refine px_get S k_Ker hT hw 0 0 7 (v := .ref (kr 7)) rfl rfl rfl (by decide) m2_228 d_Ker_receive_29 ?_
      refine lv_iload_n S.x S.b d_Ker_receive_32 rfl (lv_at hl 4 rfl) ?_
      refine px_iald S hT hw 0 8 (n := 26) (f := (ka 7)) rfl (ga_Ker_7 _ _ _ _ _ _ _) (x := p1) (vp_in_iff.mpr (by constructor <;> omega)) d_Ker_receive_33 ?_
      refine lv_topi (fun z33 ez33 => ?_)
      have lz33 := Int32.le_toInt z33
      have uz33 := Int32.toInt_lt z33
      have qz33 := hro.at7 (x := p1) (by omega) (by omega) ez33
      refine lv_if_ne (tgt := 70) S.x S.b d_Ker_receive_34 (by decide) (fun c34 => ?_) (fun c34 => ?_)
      · have nc34 : ¬ z33.toInt = (0 : Int) := mt (i_eq (x := z33) (y := 0)).mpr c34
        refine lv_iload S.x S.b d_Ker_receive_70 (lv_at hl 0 rfl) ?_
        refine lv_if_eq (tgt := 82) S.x S.b d_Ker_receive_72 (by decide) (fun c35 => ?_) (fun c35 => ?_)
        · exact absurd c35 (by decide)
        ·
          refine lv_aload_n S.x S.b d_Ker_receive_75 rfl (lv_at hl 2 rfl) ?_
          refine lv_iconst (v := 1) S.x S.b d_Ker_receive_76 (by decide) ?_
          have hw : pw D A s.heap _ _ [wd_Ker cs hk kr (fun _ => none) kf ka (gKe pq pz tq rq), fm 13 (fTx cs tq TR TO TF TA), fm 8 (fPp cs pq PV), fo 13 (fRw cs rq RR RM RW RF RA RC) ip, nA cs (RM ip) 36864 (RC ip), wd_Raw cs hx (RR ip) (fun k => if k = 2 then (RM ip) else if k = 4 then (some ((PV j1).r 1)) else none) (RF ip) (RA ip) (fun _ _ => none)] := hw.sub [0, 1, 2, 3, 5, 4] rfl rfl
          refine px_callv (pr := [wd_Ker cs hk kr (fun _ => none) kf ka (gKe pq pz tq rq), fm 13 (fTx cs tq TR TO TF TA), fm 8 (fPp cs pq PV), fo 13 (fRw cs rq RR RM RW RF RA RC) ip, nA cs (RM ip) 36864 (RC ip)]) (px_runA (As := [.int 1]) (rest := []) S (c_Raw_answer l D cs hx (RR ip) (fun _ _ => none) (RM ip) (some ((PV j1).r 1)) (RF ip) (RA ip) 1  (show 1 ≤ ((RF ip) 7).toInt from by first | with_reducible rfl | with_reducible assumption | omega) _) hT (pr := [wd_Ker cs hk kr (fun _ => none) kf ka (gKe pq pz tq rq), fm 13 (fTx cs tq TR TO TF TA), fm 8 (fPp cs pq PV), fo 13 (fRw cs rq RR RM RW RF RA RC) ip, nA cs (RM ip) 36864 (RC ip)]) (pcs := [wd_Raw cs hx (RR ip) (fun k => if k = 2 then (RM ip) else if k = 4 then (some ((PV j1).r 1)) else none) (RF ip) (RA ip) (fun _ _ => none)]) hw px_X.tt (C := "HomeSystem$RawProcess") (owner := "HomeSystem$AnyProcess") (x := ⟨"HomeSystem$AnyProcess", "answer", "(I)V"⟩) (px_recv hT hw 5 0 rfl rfl rfl) m8_72 m8_67 m8_69 m8_71 m8_70 m1_34 m8_68n ⟨by decide, by decide⟩ rfl q_Raw_answer ⟨Nat.le_of_ble_eq_true rfl, Nat.le_of_ble_eq_true rfl⟩ hl.1 rfl (Nat.le_of_ble_eq_true rfl) d_Ker_receive_77 ⟨show 0 + 0 ≤ (5 * ndS 13 tq + 4 * ndS 13 rq + ndS 13 RM) from by first | with_reducible rfl | with_reducible assumption | omega, show 0 + 0 ≤ (9804 * ndS 13 tq + 342 * ndS 13 rq + 36864 * ndS 13 RM) from by first | with_reducible rfl | with_reducible assumption | omega⟩) hw hA (fun p38 H locs hp38 hw => ?_)
          obtain ⟨f36, a37, rfl, e40, e41, e42, e43, e44, e45⟩ := hp38
          replace e40 : (f36 7).toInt = ((RF ip) 7).toInt - 1 := e40
          replace e41 : (f36 8).toInt = ((RF ip) 8).toInt := e41
          replace e42 : (f36 10).toInt = ((RF ip) 10).toInt := e42
          replace e43 : (f36 13).toInt = ((RF ip) 13).toInt := e43
          replace e44 : (f36 14).toInt = 0 := e44
          replace e45 : (f36 11).toInt = ((RF ip) 11).toInt := e45
          replace hw : pw D A s.heap H locs [wd_Ker cs hk kr (fun _ => none) kf ka (gKe pq pz tq rq), fm 13 (fTx cs tq TR TO TF TA), fm 8 (fPp cs pq PV), fo 13 (fRw cs rq RR RM RW RF RA RC) ip, nA cs (RM ip) 36864 (RC ip), wd_Raw cs hx (RR ip) (fun k => if k = 2 then (RM ip) else if k = 4 then (some ((PV j1).r 1)) else none) f36 a37 (fun _ _ => none)] := hw
          refine lv_iconst (v := 1) S.x S.b d_Ker_receive_80 (by decide) ?_
          have hw : pw D A s.heap _ _ [wd_Ker cs hk kr (fun _ => none) kf ka (gKe pq pz tq rq), fm 13 (fTx cs tq TR TO TF TA), fm 8 (fPp cs pq PV), fo 13 (fRw cs rq RR RM RW RF RA RC) ip, wd_Raw cs hx (RR ip) (fun k => if k = 2 then (RM ip) else if k = 4 then (some ((PV j1).r 1)) else none) f36 a37 (fun _ _ => none), nA cs (RM ip) 36864 (RC ip)] := hw.sub [0, 1, 2, 3, 5, 4] rfl rfl
          have hw := frw_in0 (pr := [wd_Ker cs hk kr (fun _ => none) kf ka (gKe pq pz tq rq), fm 13 (fTx cs tq TR TO TF TA), fm 8 (fPp cs pq PV)]) hw hip hcu.1 hto1
          obtain ⟨RM46, hu_RM46⟩ : ∃ y : Nat → Option Nat, y = va_up RM ip (RM ip) := ⟨_, rfl⟩
          obtain ⟨RF47, hu_RF47⟩ : ∃ y : Nat → Nat → Int32, y = va_up RF ip f36 := ⟨_, rfl⟩
          obtain ⟨RA48, hu_RA48⟩ : ∃ y : Nat → Nat → Nat → Int32, y = va_up RA ip a37 := ⟨_, rfl⟩
          obtain ⟨RC49, hu_RC49⟩ : ∃ y : Nat → Nat → Int32, y = va_up RC ip (RC ip) := ⟨_, rfl⟩
          have hw : pw D A s.heap _ _ [wd_Ker cs hk kr (fun _ => none) kf ka (gKe pq pz tq rq), fm 13 (fTx cs tq TR TO TF TA), fm 8 (fPp cs pq PV), fm 13 (fRw cs rq RR RM46 RW RF47 RA48 RC49)] := (by rw [hu_RM46, hu_RF47, hu_RA48, hu_RC49]; exact hw)
          have hki : KnI pq PV pz tq rq TO TF TA RW RF47 := (by rw [hu_RF47]; exact hki.upR (show RwN ip f36 from ⟨(show (0 ≤ (f36 7).toInt ∧ (f36 7).toInt ≤ 1600) ∧ (0 ≤ (f36 10).toInt ∧ (f36 10).toInt + (f36 7).toInt ≤ 1600) ∧ ((f36 14).toInt = 0 ∨ (f36 14).toInt = 1) ∧ ((f36 14).toInt = 1 → 1 ≤ (f36 7).toInt) from by first | with_reducible rfl | with_reducible assumption | omega), (show ((f36 8).toInt) = ((ip : Nat) : Int) from by first | with_reducible rfl | with_reducible assumption | omega), (show 0 ≤ (f36 13).toInt ∧ (f36 13).toInt ≤ 3 ∧ ((f36 13).toInt = 0 ∨ 3 * ((ip : Nat) : Int) + (f36 13).toInt ≤ 12) from by first | with_reducible rfl | with_reducible assumption | omega)⟩))
          have hrm : RmI rq RM46 := (by rw [hu_RM46]; exact hrm.up hcu.1)
          have hnd_RM46 := ndS_up 13 RM ip (RM ip) hip; rw [← hu_RM46] at hnd_RM46
          have hz14_RF47 : (RF47 ip 14).toInt = (f36 14).toInt := (by rw [hu_RF47, va_up_s]; try rfl)
          have hw : pw D A s.heap _ _ [wd_Ker cs hk kr (fun _ => none) kf ka (gKe pq pz tq rq), fm 13 (fTx cs tq TR TO TF TA), fm 13 (fRw cs rq RR RM46 RW RF47 RA48 RC49), fm 8 (fPp cs pq PV)] := hw.sub [0, 1, 3, 2] rfl rfl
          exact pg_iret (v := 1) S hr rfl hlk hAe hw (show 0 ≤ (5 * ndS 13 tq + 4 * ndS 13 rq + ndS 13 RM) from by first | exact oz_86e49526c7 | omega) (show 0 ≤ (9804 * ndS 13 tq + 342 * ndS 13 rq + 36864 * ndS 13 RM) from by first | exact oz_fc3b58e969 | omega) (⟨pz, tq, rq, ka, TR, TO, TF, TA, RR, RM46, RW, RF47, RA48, RC49, rfl, (show (1 : Int32) = 0 ∨ (1 : Int32) = 1 from by first | exact Or.inl rfl | exact Or.inr rfl | exact z_or (by omega)), (show CuR pq PV rq RW ip hx from hcu), (show KnI pq PV pz tq rq TO TF TA RW RF47 from hki), (show RoI ka from hro), (show RmI rq RM46 from hrm), (show 0 + (5 * ndS 13 tq + 4 * ndS 13 rq + ndS 13 RM46) ≤ 5 * ndS 13 tq + 4 * ndS 13 rq + ndS 13 RM from by first | with_reducible rfl | with_reducible assumption | omega), (show 0 + (9804 * ndS 13 tq + 342 * ndS 13 rq + 36864 * ndS 13 RM46) ≤ 9804 * ndS 13 tq + 342 * ndS 13 rq + 36864 * ndS 13 RM from by first | with_reducible rfl | with_reducible assumption | omega)⟩) d_Ker_receive_81
      · have nc34 : z33.toInt = (0 : Int) := (i_eq (x := z33) (y := 0)).mp c34
        refine lv_iload S.x S.b d_Ker_receive_37 (lv_at hl 0 rfl) ?_
        refine lv_if_eq (tgt := 54) S.x S.b d_Ker_receive_39 (by decide) (fun c50 => ?_) (fun c50 => ?_)
        · exact absurd c50 (by decide)
        ·
          refine lv_aload_n S.x S.b d_Ker_receive_42 rfl (lv_at hl 1 rfl) ?_
          refine lv_iload_n S.x S.b d_Ker_receive_43 rfl (lv_at hl 3 rfl) ?_
          have hw : pw D A s.heap _ _ [wd_Ker cs hk kr (fun _ => none) kf ka (gKe pq pz tq rq), fm 13 (fTx cs tq TR TO TF TA), fm 8 (fPp cs pq PV), fm 13 (fRw cs rq RR RM RW RF RA RC)] := frw_back (pr := [wd_Ker cs hk kr (fun _ => none) kf ka (gKe pq pz tq rq), fm 13 (fTx cs tq TR TO TF TA), fm 8 (fPp cs pq PV)]) hw hip hcu.1 hto1
          have hw : pw D A s.heap _ _ [wd_Ker cs hk kr (fun _ => none) kf ka (gKe pq pz tq rq), fm 13 (fTx cs tq TR TO TF TA), fm 13 (fRw cs rq RR RM RW RF RA RC), fm 8 (fPp cs pq PV)] := hw.sub [0, 1, 3, 2] rfl rfl
          refine px_calli (pr := []) (px_runV (As := [.int p0]) (rest := []) S (c_k_isRunning l D cs hk kr pq pz tq rq kf ka TR TO TF TA RR RM RW RF RA RC PV p0  (show 0 ≤ p0.toInt from by first | with_reducible rfl | with_reducible assumption | omega) (show p0.toInt ≤ 12 from by first | with_reducible rfl | with_reducible assumption | omega) hki _) hT (pr := []) (pcs := [wd_Ker cs hk kr (fun _ => none) kf ka (gKe pq pz tq rq), fm 13 (fTx cs tq TR TO TF TA), fm 13 (fRw cs rq RR RM RW RF RA RC), fm 8 (fPp cs pq PV)]) hw px_X.tt (px_recv hT hw 0 0 rfl rfl rfl) m8_154 m8_151 m8_153 ms_6_1 m1_19 q_Ker_isRunning ⟨Nat.le_of_ble_eq_true rfl, Nat.le_of_ble_eq_true rfl⟩ hl.1 rfl (Nat.le_of_ble_eq_true rfl) d_Ker_receive_44 ⟨show 0 + 0 ≤ (5 * ndS 13 tq + 4 * ndS 13 rq + ndS 13 RM) from by first | with_reducible rfl | with_reducible assumption | omega, show 0 + 0 ≤ (9804 * ndS 13 tq + 342 * ndS 13 rq + 36864 * ndS 13 RM) from by first | with_reducible rfl | with_reducible assumption | omega⟩) hw hA (fun v52 p51 H locs hp51 hw => ?_)
          obtain ⟨rfl, e53, e54⟩ := hp51
          have e53 := z_rng e53
          replace e54 : NnP pz p0 v52 := e54
          replace hw : pw D A s.heap H locs [wd_Ker cs hk kr (fun _ => none) kf ka (gKe pq pz tq rq), fm 13 (fTx cs tq TR TO TF TA), fm 13 (fRw cs rq RR RM RW RF RA RC), fm 8 (fPp cs pq PV)] := hw
          have lv52 := Int32.le_toInt v52
          have uv52 := Int32.toInt_lt v52
          refine lv_if_ne (tgt := 54) S.x S.b d_Ker_receive_47 (by decide) (fun c55 => ?_) (fun c55 => ?_)
          · have nc55 : ¬ v52.toInt = (0 : Int) := mt (i_eq (x := v52) (y := 0)).mpr c55
            refine lv_iconst (v := 0) S.x S.b d_Ker_receive_54 (by decide) ?_
            refine lv_istore (lv' := [(5, .int 0), (4, .int 1), (0, .ref hk), (1, .ref hx), (2, .int p0), (3, .int p1)]) S.x S.b d_Ker_receive_55 hl (by decide) rfl (fun ls hl => ?_)
            refine lv_iload S.x S.b d_Ker_receive_57 (lv_at hl 0 rfl) ?_
            refine lv_if_eq (tgt := 67) S.x S.b d_Ker_receive_59 (by decide) (fun c56 => ?_) (fun c56 => ?_)
            ·
              refine lv_iload S.x S.b d_Ker_receive_67 (lv_at hl 0 rfl) ?_
              exact pg_iret (v := 0) S hr rfl hlk hAe hw (show 0 ≤ (5 * ndS 13 tq + 4 * ndS 13 rq + ndS 13 RM) from by first | exact oz_86e49526c7 | omega) (show 0 ≤ (9804 * ndS 13 tq + 342 * ndS 13 rq + 36864 * ndS 13 RM) from by first | exact oz_fc3b58e969 | omega) (⟨pz, tq, rq, ka, TR, TO, TF, TA, RR, RM, RW, RF, RA, RC, rfl, (show (0 : Int32) = 0 ∨ (0 : Int32) = 1 from by first | exact Or.inl rfl | exact Or.inr rfl | exact z_or (by omega)), (show CuR pq PV rq RW ip hx from hcu), (show KnI pq PV pz tq rq TO TF TA RW RF from hki), (show RoI ka from hro), (show RmI rq RM from hrm), (show 0 + (5 * ndS 13 tq + 4 * ndS 13 rq + ndS 13 RM) ≤ 5 * ndS 13 tq + 4 * ndS 13 rq + ndS 13 RM from by first | exact oz_9d19b050ad | omega), (show 0 + (9804 * ndS 13 tq + 342 * ndS 13 rq + 36864 * ndS 13 RM) ≤ 9804 * ndS 13 tq + 342 * ndS 13 rq + 36864 * ndS 13 RM from by first | exact oz_b5592d0ae7 | omega)⟩) d_Ker_receive_69
            · exact absurd c56 (by decide)
          · have nc55 : v52.toInt = (0 : Int) := (i_eq (x := v52) (y := 0)).mp c55
            refine lv_iconst (v := 1) S.x S.b d_Ker_receive_50 (by decide) ?_
            refine lv_goto (tgt := 55) S.x S.b d_Ker_receive_51 (by decide) ?_
            refine lv_istore (lv' := [(5, .int 1), (4, .int 1), (0, .ref hk), (1, .ref hx), (2, .int p0), (3, .int p1)]) S.x S.b d_Ker_receive_55 hl (by decide) rfl (fun ls hl => ?_)
            refine lv_iload S.x S.b d_Ker_receive_57 (lv_at hl 0 rfl) ?_
            refine lv_if_eq (tgt := 67) S.x S.b d_Ker_receive_59 (by decide) (fun c57 => ?_) (fun c57 => ?_)
            · exact absurd c57 (by decide)
            ·
              refine lv_aload_n S.x S.b d_Ker_receive_62 rfl (lv_at hl 3 rfl) ?_
              refine lv_iconst (v := 0) S.x S.b d_Ker_receive_63 (by decide) ?_
              have hw : pw D A s.heap _ _ [wd_Ker cs hk kr (fun _ => none) kf ka (gKe pq pz tq rq), fm 13 (fTx cs tq TR TO TF TA), fm 8 (fPp cs pq PV), fm 13 (fRw cs rq RR RM RW RF RA RC)] := hw.sub [0, 1, 3, 2] rfl rfl
              have hw : pw D A s.heap _ _ [wd_Ker cs hk kr (fun _ => none) kf ka (gKe pq pz tq rq), fm 13 (fTx cs tq TR TO TF TA), fm 8 (fPp cs pq PV), fo 13 (fRw cs rq RR RM RW RF RA RC) ip, wd_Raw cs hx (RR ip) (fun k => if k = 2 then (RM ip) else if k = 4 then (some ((PV j1).r 1)) else none) (RF ip) (RA ip) (fun _ _ => none), nA cs (RM ip) 36864 (RC ip)] := frw_out (pr := [wd_Ker cs hk kr (fun _ => none) kf ka (gKe pq pz tq rq), fm 13 (fTx cs tq TR TO TF TA), fm 8 (fPp cs pq PV)]) hw hip hcu.1 hto1
              have hng58 := ndS_ge 13 RM ip hip
              have hrn58 : RwN ip (RF ip) := hki.2.2.1 ip hip _ hcu.1
              have hro58 := hrn58.1
              unfold RwO at hro58
              have hid58 := hrn58.2.1
              have hch58 := hrn58.2.2
              unfold KcI at hch58
              have hw : pw D A s.heap _ _ [wd_Ker cs hk kr (fun _ => none) kf ka (gKe pq pz tq rq), fm 13 (fTx cs tq TR TO TF TA), fm 8 (fPp cs pq PV), fo 13 (fRw cs rq RR RM RW RF RA RC) ip, nA cs (RM ip) 36864 (RC ip), wd_Raw cs hx (RR ip) (fun k => if k = 2 then (RM ip) else if k = 4 then (some ((PV j1).r 1)) else none) (RF ip) (RA ip) (fun _ _ => none)] := hw.sub [0, 1, 2, 3, 5, 4] rfl rfl
              refine px_callv (pr := [wd_Ker cs hk kr (fun _ => none) kf ka (gKe pq pz tq rq), fm 13 (fTx cs tq TR TO TF TA), fm 8 (fPp cs pq PV), fo 13 (fRw cs rq RR RM RW RF RA RC) ip, nA cs (RM ip) 36864 (RC ip)]) (px_runA (As := [.int 0]) (rest := []) S (c_Raw_answer l D cs hx (RR ip) (fun _ _ => none) (RM ip) (some ((PV j1).r 1)) (RF ip) (RA ip) 0  (show 1 ≤ ((RF ip) 7).toInt from by first | with_reducible rfl | with_reducible assumption | omega) _) hT (pr := [wd_Ker cs hk kr (fun _ => none) kf ka (gKe pq pz tq rq), fm 13 (fTx cs tq TR TO TF TA), fm 8 (fPp cs pq PV), fo 13 (fRw cs rq RR RM RW RF RA RC) ip, nA cs (RM ip) 36864 (RC ip)]) (pcs := [wd_Raw cs hx (RR ip) (fun k => if k = 2 then (RM ip) else if k = 4 then (some ((PV j1).r 1)) else none) (RF ip) (RA ip) (fun _ _ => none)]) hw px_X.tt (C := "HomeSystem$RawProcess") (owner := "HomeSystem$AnyProcess") (x := ⟨"HomeSystem$AnyProcess", "answer", "(I)V"⟩) (px_recv hT hw 5 0 rfl rfl rfl) m8_72 m8_67 m8_69 m8_71 m8_70 m1_34 m8_68n ⟨by decide, by decide⟩ rfl q_Raw_answer ⟨Nat.le_of_ble_eq_true rfl, Nat.le_of_ble_eq_true rfl⟩ hl.1 rfl (Nat.le_of_ble_eq_true rfl) d_Ker_receive_64 ⟨show 0 + 0 ≤ (5 * ndS 13 tq + 4 * ndS 13 rq + ndS 13 RM) from by first | with_reducible rfl | with_reducible assumption | omega, show 0 + 0 ≤ (9804 * ndS 13 tq + 342 * ndS 13 rq + 36864 * ndS 13 RM) from by first | with_reducible rfl | with_reducible assumption | omega⟩) hw hA (fun p61 H locs hp61 hw => ?_)
              obtain ⟨f59, a60, rfl, e63, e64, e65, e66, e67, e68⟩ := hp61
              replace e63 : (f59 7).toInt = ((RF ip) 7).toInt - 1 := e63
              replace e64 : (f59 8).toInt = ((RF ip) 8).toInt := e64
              replace e65 : (f59 10).toInt = ((RF ip) 10).toInt := e65
              replace e66 : (f59 13).toInt = ((RF ip) 13).toInt := e66
              replace e67 : (f59 14).toInt = 0 := e67
              replace e68 : (f59 11).toInt = ((RF ip) 11).toInt := e68
              replace hw : pw D A s.heap H locs [wd_Ker cs hk kr (fun _ => none) kf ka (gKe pq pz tq rq), fm 13 (fTx cs tq TR TO TF TA), fm 8 (fPp cs pq PV), fo 13 (fRw cs rq RR RM RW RF RA RC) ip, nA cs (RM ip) 36864 (RC ip), wd_Raw cs hx (RR ip) (fun k => if k = 2 then (RM ip) else if k = 4 then (some ((PV j1).r 1)) else none) f59 a60 (fun _ _ => none)] := hw
              refine lv_iload S.x S.b d_Ker_receive_67 (lv_at hl 0 rfl) ?_
              have hw : pw D A s.heap _ _ [wd_Ker cs hk kr (fun _ => none) kf ka (gKe pq pz tq rq), fm 13 (fTx cs tq TR TO TF TA), fm 8 (fPp cs pq PV), fo 13 (fRw cs rq RR RM RW RF RA RC) ip, wd_Raw cs hx (RR ip) (fun k => if k = 2 then (RM ip) else if k = 4 then (some ((PV j1).r 1)) else none) f59 a60 (fun _ _ => none), nA cs (RM ip) 36864 (RC ip)] := hw.sub [0, 1, 2, 3, 5, 4] rfl rfl
              have hw := frw_in0 (pr := [wd_Ker cs hk kr (fun _ => none) kf ka (gKe pq pz tq rq), fm 13 (fTx cs tq TR TO TF TA), fm 8 (fPp cs pq PV)]) hw hip hcu.1 hto1
              obtain ⟨RM69, hu_RM69⟩ : ∃ y : Nat → Option Nat, y = va_up RM ip (RM ip) := ⟨_, rfl⟩
              obtain ⟨RF70, hu_RF70⟩ : ∃ y : Nat → Nat → Int32, y = va_up RF ip f59 := ⟨_, rfl⟩
              obtain ⟨RA71, hu_RA71⟩ : ∃ y : Nat → Nat → Nat → Int32, y = va_up RA ip a60 := ⟨_, rfl⟩
              obtain ⟨RC72, hu_RC72⟩ : ∃ y : Nat → Nat → Int32, y = va_up RC ip (RC ip) := ⟨_, rfl⟩
              have hw : pw D A s.heap _ _ [wd_Ker cs hk kr (fun _ => none) kf ka (gKe pq pz tq rq), fm 13 (fTx cs tq TR TO TF TA), fm 8 (fPp cs pq PV), fm 13 (fRw cs rq RR RM69 RW RF70 RA71 RC72)] := (by rw [hu_RM69, hu_RF70, hu_RA71, hu_RC72]; exact hw)
              have hki : KnI pq PV pz tq rq TO TF TA RW RF70 := (by rw [hu_RF70]; exact hki.upR (show RwN ip f59 from ⟨(show (0 ≤ (f59 7).toInt ∧ (f59 7).toInt ≤ 1600) ∧ (0 ≤ (f59 10).toInt ∧ (f59 10).toInt + (f59 7).toInt ≤ 1600) ∧ ((f59 14).toInt = 0 ∨ (f59 14).toInt = 1) ∧ ((f59 14).toInt = 1 → 1 ≤ (f59 7).toInt) from by first | with_reducible rfl | with_reducible assumption | omega), (show ((f59 8).toInt) = ((ip : Nat) : Int) from by first | with_reducible rfl | with_reducible assumption | omega), (show 0 ≤ (f59 13).toInt ∧ (f59 13).toInt ≤ 3 ∧ ((f59 13).toInt = 0 ∨ 3 * ((ip : Nat) : Int) + (f59 13).toInt ≤ 12) from by first | with_reducible rfl | with_reducible assumption | omega)⟩))
              have hrm : RmI rq RM69 := (by rw [hu_RM69]; exact hrm.up hcu.1)
              have hnd_RM69 := ndS_up 13 RM ip (RM ip) hip; rw [← hu_RM69] at hnd_RM69
              have hz14_RF70 : (RF70 ip 14).toInt = (f59 14).toInt := (by rw [hu_RF70, va_up_s]; try rfl)
              have hw : pw D A s.heap _ _ [wd_Ker cs hk kr (fun _ => none) kf ka (gKe pq pz tq rq), fm 13 (fTx cs tq TR TO TF TA), fm 13 (fRw cs rq RR RM69 RW RF70 RA71 RC72), fm 8 (fPp cs pq PV)] := hw.sub [0, 1, 3, 2] rfl rfl
              exact pg_iret (v := 1) S hr rfl hlk hAe hw (show 0 ≤ (5 * ndS 13 tq + 4 * ndS 13 rq + ndS 13 RM) from by first | exact oz_86e49526c7 | omega) (show 0 ≤ (9804 * ndS 13 tq + 342 * ndS 13 rq + 36864 * ndS 13 RM) from by first | exact oz_fc3b58e969 | omega) (⟨pz, tq, rq, ka, TR, TO, TF, TA, RR, RM69, RW, RF70, RA71, RC72, rfl, (show (1 : Int32) = 0 ∨ (1 : Int32) = 1 from by first | exact Or.inl rfl | exact Or.inr rfl | exact z_or (by omega)), (show CuR pq PV rq RW ip hx from hcu), (show KnI pq PV pz tq rq TO TF TA RW RF70 from hki), (show RoI ka from hro), (show RmI rq RM69 from hrm), (show 0 + (5 * ndS 13 tq + 4 * ndS 13 rq + ndS 13 RM69) ≤ 5 * ndS 13 tq + 4 * ndS 13 rq + ndS 13 RM from by first | with_reducible rfl | with_reducible assumption | omega), (show 0 + (9804 * ndS 13 tq + 342 * ndS 13 rq + 36864 * ndS 13 RM69) ≤ 9804 * ndS 13 tq + 342 * ndS 13 rq + 36864 * ndS 13 RM from by first | with_reducible rfl | with_reducible assumption | omega)⟩) d_Ker_receive_69
  · have nc2 : p0.toInt = (-1 : Int) := (i_eq (x := p0) (y := (-1))).mp c2
    refine lv_aload_n S.x S.b d_Ker_receive_5 rfl (lv_at hl 1 rfl) ?_
    refine lv_iconst (v := 2) S.x S.b d_Ker_receive_6 (by decide) ?_
    refine lv_iconst (v := 0) S.x S.b d_Ker_receive_7 (by decide) ?_
    have hw : pw D A s.heap _ _ [wd_Ker cs hk kr (fun _ => none) kf ka (gKe pq pz tq rq), fm 13 (fTx cs tq TR TO TF TA), fm 8 (fPp cs pq PV), fm 13 (fRw cs rq RR RM RW RF RA RC)] := hw.sub [0, 1, 3, 2] rfl rfl
    have hw : pw D A s.heap _ _ [wd_Ker cs hk kr (fun _ => none) kf ka (gKe pq pz tq rq), fm 13 (fTx cs tq TR TO TF TA), fm 8 (fPp cs pq PV), fo 13 (fRw cs rq RR RM RW RF RA RC) ip, wd_Raw cs hx (RR ip) (fun k => if k = 2 then (RM ip) else if k = 4 then (some ((PV j1).r 1)) else none) (RF ip) (RA ip) (fun _ _ => none), nA cs (RM ip) 36864 (RC ip)] := frw_out (pr := [wd_Ker cs hk kr (fun _ => none) kf ka (gKe pq pz tq rq), fm 13 (fTx cs tq TR TO TF TA), fm 8 (fPp cs pq PV)]) hw hip hcu.1 hto1
    have hng73 := ndS_ge 13 RM ip hip
    have hrn73 : RwN ip (RF ip) := hki.2.2.1 ip hip _ hcu.1
    have hro73 := hrn73.1
    unfold RwO at hro73
    have hid73 := hrn73.2.1
    have hch73 := hrn73.2.2
    unfold KcI at hch73
    have hw : pw D A s.heap _ _ [wd_Ker cs hk kr (fun _ => none) kf ka (gKe pq pz tq rq), fm 13 (fTx cs tq TR TO TF TA), fm 8 (fPp cs pq PV), fo 13 (fRw cs rq RR RM RW RF RA RC) ip, nA cs (RM ip) 36864 (RC ip), wd_Raw cs hx (RR ip) (fun k => if k = 2 then (RM ip) else if k = 4 then (some ((PV j1).r 1)) else none) (RF ip) (RA ip) (fun _ _ => none)] := hw.sub [0, 1, 2, 3, 5, 4] rfl rfl
    refine px_callv (pr := [wd_Ker cs hk kr (fun _ => none) kf ka (gKe pq pz tq rq), fm 13 (fTx cs tq TR TO TF TA), fm 8 (fPp cs pq PV), fo 13 (fRw cs rq RR RM RW RF RA RC) ip, nA cs (RM ip) 36864 (RC ip)]) (px_runU (As := [.int 2, .int 0]) (rest := []) S (c_finish_Raw l D cs hx (RR ip) (fun _ _ => none) (RM ip) (some ((PV j1).r 1)) (RF ip) (RA ip) 2 0   _) hT (pr := [wd_Ker cs hk kr (fun _ => none) kf ka (gKe pq pz tq rq), fm 13 (fTx cs tq TR TO TF TA), fm 8 (fPp cs pq PV), fo 13 (fRw cs rq RR RM RW RF RA RC) ip, nA cs (RM ip) 36864 (RC ip)]) (pcs := [wd_Raw cs hx (RR ip) (fun k => if k = 2 then (RM ip) else if k = 4 then (some ((PV j1).r 1)) else none) (RF ip) (RA ip) (fun _ _ => none)]) hw px_X.tt (C := "HomeSystem$RawProcess") (x := ⟨"HomeSystem$AnyProcess", "finish", "(II)V"⟩) (px_recv hT hw 5 0 rfl rfl rfl) m8_89 m8_84 m8_86 m8_85 m8_87 m1_33 rfl q_HomeSystem_AnyProcess_finish ⟨Nat.le_of_ble_eq_true rfl, Nat.le_of_ble_eq_true rfl⟩ hl.1 rfl (Nat.le_of_ble_eq_true rfl) d_Ker_receive_8 ⟨show 0 + 0 ≤ (5 * ndS 13 tq + 4 * ndS 13 rq + ndS 13 RM) from by first | with_reducible rfl | with_reducible assumption | omega, show 0 + 0 ≤ (9804 * ndS 13 tq + 342 * ndS 13 rq + 36864 * ndS 13 RM) from by first | with_reducible rfl | with_reducible assumption | omega⟩) hw hA (fun p76 H locs hp76 hw => ?_)
    obtain ⟨f74, a75, rfl, e78, e79, e80, e81, e82, e83, e84⟩ := hp76
    replace e78 : (f74 3).toInt = ((RF ip) 3).toInt := e78
    replace e79 : (f74 7).toInt = ((RF ip) 7).toInt := e79
    replace e80 : (f74 8).toInt = ((RF ip) 8).toInt := e80
    replace e81 : (f74 10).toInt = ((RF ip) 10).toInt := e81
    replace e82 : (f74 13).toInt = ((RF ip) 13).toInt := e82
    replace e83 : (f74 14).toInt = 0 := e83
    replace e84 : (f74 11).toInt = (2 : Int) := e84
    replace hw : pw D A s.heap H locs [wd_Ker cs hk kr (fun _ => none) kf ka (gKe pq pz tq rq), fm 13 (fTx cs tq TR TO TF TA), fm 8 (fPp cs pq PV), fo 13 (fRw cs rq RR RM RW RF RA RC) ip, nA cs (RM ip) 36864 (RC ip), wd_Raw cs hx (RR ip) (fun k => if k = 2 then (RM ip) else if k = 4 then (some ((PV j1).r 1)) else none) f74 a75 (fun _ _ => none)] := hw
    refine lv_iconst (v := 1) S.x S.b d_Ker_receive_11 (by decide) ?_
    have hw : pw D A s.heap _ _ [wd_Ker cs hk kr (fun _ => none) kf ka (gKe pq pz tq rq), fm 13 (fTx cs tq TR TO TF TA), fm 8 (fPp cs pq PV), fo 13 (fRw cs rq RR RM RW RF RA RC) ip, wd_Raw cs hx (RR ip) (fun k => if k = 2 then (RM ip) else if k = 4 then (some ((PV j1).r 1)) else none) f74 a75 (fun _ _ => none), nA cs (RM ip) 36864 (RC ip)] := hw.sub [0, 1, 2, 3, 5, 4] rfl rfl
    have hw := frw_in0 (pr := [wd_Ker cs hk kr (fun _ => none) kf ka (gKe pq pz tq rq), fm 13 (fTx cs tq TR TO TF TA), fm 8 (fPp cs pq PV)]) hw hip hcu.1 hto1
    obtain ⟨RM85, hu_RM85⟩ : ∃ y : Nat → Option Nat, y = va_up RM ip (RM ip) := ⟨_, rfl⟩
    obtain ⟨RF86, hu_RF86⟩ : ∃ y : Nat → Nat → Int32, y = va_up RF ip f74 := ⟨_, rfl⟩
    obtain ⟨RA87, hu_RA87⟩ : ∃ y : Nat → Nat → Nat → Int32, y = va_up RA ip a75 := ⟨_, rfl⟩
    obtain ⟨RC88, hu_RC88⟩ : ∃ y : Nat → Nat → Int32, y = va_up RC ip (RC ip) := ⟨_, rfl⟩
    have hw : pw D A s.heap _ _ [wd_Ker cs hk kr (fun _ => none) kf ka (gKe pq pz tq rq), fm 13 (fTx cs tq TR TO TF TA), fm 8 (fPp cs pq PV), fm 13 (fRw cs rq RR RM85 RW RF86 RA87 RC88)] := (by rw [hu_RM85, hu_RF86, hu_RA87, hu_RC88]; exact hw)
    have hki : KnI pq PV pz tq rq TO TF TA RW RF86 := (by rw [hu_RF86]; exact hki.upR (show RwN ip f74 from ⟨(show (0 ≤ (f74 7).toInt ∧ (f74 7).toInt ≤ 1600) ∧ (0 ≤ (f74 10).toInt ∧ (f74 10).toInt + (f74 7).toInt ≤ 1600) ∧ ((f74 14).toInt = 0 ∨ (f74 14).toInt = 1) ∧ ((f74 14).toInt = 1 → 1 ≤ (f74 7).toInt) from by first | with_reducible rfl | with_reducible assumption | omega), (show ((f74 8).toInt) = ((ip : Nat) : Int) from by first | with_reducible rfl | with_reducible assumption | omega), (show 0 ≤ (f74 13).toInt ∧ (f74 13).toInt ≤ 3 ∧ ((f74 13).toInt = 0 ∨ 3 * ((ip : Nat) : Int) + (f74 13).toInt ≤ 12) from by first | with_reducible rfl | with_reducible assumption | omega)⟩))
    have hrm : RmI rq RM85 := (by rw [hu_RM85]; exact hrm.up hcu.1)
    have hnd_RM85 := ndS_up 13 RM ip (RM ip) hip; rw [← hu_RM85] at hnd_RM85
    have hz14_RF86 : (RF86 ip 14).toInt = (f74 14).toInt := (by rw [hu_RF86, va_up_s]; try rfl)
    have hw : pw D A s.heap _ _ [wd_Ker cs hk kr (fun _ => none) kf ka (gKe pq pz tq rq), fm 13 (fTx cs tq TR TO TF TA), fm 13 (fRw cs rq RR RM85 RW RF86 RA87 RC88), fm 8 (fPp cs pq PV)] := hw.sub [0, 1, 3, 2] rfl rfl
    exact pg_iret (v := 1) S hr rfl hlk hAe hw (show 0 ≤ (5 * ndS 13 tq + 4 * ndS 13 rq + ndS 13 RM) from by first | exact oz_86e49526c7 | omega) (show 0 ≤ (9804 * ndS 13 tq + 342 * ndS 13 rq + 36864 * ndS 13 RM) from by first | exact oz_fc3b58e969 | omega) (⟨pz, tq, rq, ka, TR, TO, TF, TA, RR, RM85, RW, RF86, RA87, RC88, rfl, (show (1 : Int32) = 0 ∨ (1 : Int32) = 1 from by first | exact Or.inl rfl | exact Or.inr rfl | exact z_or (by omega)), (show CuR pq PV rq RW ip hx from hcu), (show KnI pq PV pz tq rq TO TF TA RW RF86 from hki), (show RoI ka from hro), (show RmI rq RM85 from hrm), (show 0 + (5 * ndS 13 tq + 4 * ndS 13 rq + ndS 13 RM85) ≤ 5 * ndS 13 tq + 4 * ndS 13 rq + ndS 13 RM from by first | with_reducible rfl | with_reducible assumption | omega), (show 0 + (9804 * ndS 13 tq + 342 * ndS 13 rq + 36864 * ndS 13 RM85) ≤ 9804 * ndS 13 tq + 342 * ndS 13 rq + 36864 * ndS 13 RM from by first | with_reducible rfl | with_reducible assumption | omega)⟩) d_Ker_receive_12
abbrev b_Ker_await : ByteArray := prog_4_method_10_code
def y_Ker_await : MethodName := ⟨"HomeSystem$Kernel", "await", "(LHomeSystem$AnyProcess;I)Z"⟩
theorem d_Ker_await_0 : decode b_Ker_await 0 = .ok (.iload_n 2, 1) := by decide +kernel
theorem d_Ker_await_1 : decode b_Ker_await 1 = .ok (.iconst (-1), 1) := by decide +kernel
theorem d_Ker_await_2 : decode b_Ker_await 2 = .ok (.if_icmp .ne 11, 3) := by decide +kernel
theorem d_Ker_await_5 : decode b_Ker_await 5 = .ok (.aload_n 1, 1) := by decide +kernel
theorem d_Ker_await_6 : decode b_Ker_await 6 = .ok (.iconst 2, 1) := by decide +kernel
theorem d_Ker_await_7 : decode b_Ker_await 7 = .ok (.iconst 0, 1) := by decide +kernel
theorem d_Ker_await_8 : decode b_Ker_await 8 = .ok (.invokevirtual 74, 3) := by decide +kernel
theorem d_Ker_await_11 : decode b_Ker_await 11 = .ok (.iconst 1, 1) := by decide +kernel
theorem d_Ker_await_12 : decode b_Ker_await 12 = .ok (.ireturn, 1) := by decide +kernel
theorem d_Ker_await_13 : decode b_Ker_await 13 = .ok (.aload_n 0, 1) := by decide +kernel
theorem d_Ker_await_14 : decode b_Ker_await 14 = .ok (.iload_n 2, 1) := by decide +kernel
theorem d_Ker_await_15 : decode b_Ker_await 15 = .ok (.invokevirtual 70, 3) := by decide +kernel
theorem d_Ker_await_18 : decode b_Ker_await 18 = .ok (.ifCond .ne 12, 3) := by decide +kernel
theorem d_Ker_await_21 : decode b_Ker_await 21 = .ok (.aload_n 0, 1) := by decide +kernel
theorem d_Ker_await_22 : decode b_Ker_await 22 = .ok (.getfield 23, 3) := by decide +kernel
theorem d_Ker_await_25 : decode b_Ker_await 25 = .ok (.iload_n 2, 1) := by decide +kernel
theorem d_Ker_await_26 : decode b_Ker_await 26 = .ok (.aaload, 1) := by decide +kernel
theorem d_Ker_await_27 : decode b_Ker_await 27 = .ok (.ifnonnull 5, 3) := by decide +kernel
theorem d_Ker_await_30 : decode b_Ker_await 30 = .ok (.iconst 0, 1) := by decide +kernel
theorem d_Ker_await_31 : decode b_Ker_await 31 = .ok (.ireturn, 1) := by decide +kernel
theorem d_Ker_await_32 : decode b_Ker_await 32 = .ok (.aload_n 0, 1) := by decide +kernel
theorem d_Ker_await_33 : decode b_Ker_await 33 = .ok (.getfield 23, 3) := by decide +kernel
theorem d_Ker_await_36 : decode b_Ker_await 36 = .ok (.iload_n 2, 1) := by decide +kernel
theorem d_Ker_await_37 : decode b_Ker_await 37 = .ok (.aaload, 1) := by decide +kernel
theorem d_Ker_await_38 : decode b_Ker_await 38 = .ok (.getfield 78, 3) := by decide +kernel
theorem d_Ker_await_41 : decode b_Ker_await 41 = .ok (.istore_n 3, 1) := by decide +kernel
theorem d_Ker_await_42 : decode b_Ker_await 42 = .ok (.aload_n 1, 1) := by decide +kernel
theorem d_Ker_await_43 : decode b_Ker_await 43 = .ok (.iload_n 3, 1) := by decide +kernel
theorem d_Ker_await_44 : decode b_Ker_await 44 = .ok (.ifCond .eq 8, 3) := by decide +kernel
theorem d_Ker_await_47 : decode b_Ker_await 47 = .ok (.iload_n 3, 1) := by decide +kernel
theorem d_Ker_await_48 : decode b_Ker_await 48 = .ok (.iconst 1, 1) := by decide +kernel
theorem d_Ker_await_49 : decode b_Ker_await 49 = .ok (.if_icmp .ne 15, 3) := by decide +kernel
theorem d_Ker_await_52 : decode b_Ker_await 52 = .ok (.aload_n 0, 1) := by decide +kernel
theorem d_Ker_await_53 : decode b_Ker_await 53 = .ok (.getfield 23, 3) := by decide +kernel
theorem d_Ker_await_56 : decode b_Ker_await 56 = .ok (.iload_n 2, 1) := by decide +kernel
theorem d_Ker_await_57 : decode b_Ker_await 57 = .ok (.aaload, 1) := by decide +kernel
theorem d_Ker_await_58 : decode b_Ker_await 58 = .ok (.getfield 145, 3) := by decide +kernel
theorem d_Ker_await_61 : decode b_Ker_await 61 = .ok (.goto 5, 3) := by decide +kernel
theorem d_Ker_await_64 : decode b_Ker_await 64 = .ok (.iload_n 3, 1) := by decide +kernel
theorem d_Ker_await_65 : decode b_Ker_await 65 = .ok (.ineg, 1) := by decide +kernel
theorem d_Ker_await_66 : decode b_Ker_await 66 = .ok (.invokevirtual 117, 3) := by decide +kernel
theorem d_Ker_await_69 : decode b_Ker_await 69 = .ok (.iconst 1, 1) := by decide +kernel
theorem d_Ker_await_70 : decode b_Ker_await 70 = .ok (.ireturn, 1) := by decide +kernel
theorem q_Ker_await : px_y y_Ker_await 2 := by unfold px_y; decide +kernel
set_option maxHeartbeats 4000000 in
set_option maxRecDepth 100000 in
theorem c_k_await_T (l : Launch) (D : va_G) (cs : Nat → ClassId) (hk : Nat) (kr : Nat → Nat) (pq : Nat → Option Nat) (kf : Nat → Int32) (PV : Nat → Pvs) (pz : Nat → Option Nat) (tq : Nat → Option Nat) (rq : Nat → Option Nat) (ka : Nat → Nat → Int32) (TR : Nat → Nat → Nat) (TO : Nat → Option Nat) (TF : Nat → Nat → Int32) (TA : Nat → Nat → Nat → Int32) (RR : Nat → Nat → Nat) (RM : Nat → Option Nat) (RW : Nat → Option Nat) (RF : Nat → Nat → Int32) (RA : Nat → Nat → Nat → Int32) (RC : Nat → Nat → Int32) (p0 : Int32) (ip hx : Nat) (g0 : p0.toInt = -1 ∨ (0 ≤ p0.toInt ∧ p0.toInt ≤ 12)) (g1 : (TF ip 21).toInt = 1) (hki : KnI pq PV pz tq rq TO TF TA RW RF) (hro : RoI ka) (hrm : RmI rq RM) (hip : ip < 13) (hcu : CuT pq PV tq TO ip hx) : MgI l y_Ker_await b_Ker_await 4 (.boolean) D cs 4 160 ((5 * ndS 13 tq + 4 * ndS 13 rq + ndS 13 RM)) ((9804 * ndS 13 tq + 342 * ndS 13 rq + 36864 * ndS 13 RM)) [.ref hk, .ref hx, .int p0] [wd_Ker cs hk kr (fun _ => none) kf ka (gKe pq pz tq rq), fm 13 (fTx cs tq TR TO TF TA), fm 13 (fRw cs rq RR RM RW RF RA RC), fm 8 (fPp cs pq PV)] (fun _ => True) (fun v ps => ∃ (pz' : Nat → Option Nat) (tq' : Nat → Option Nat) (rq' : Nat → Option Nat) (ka' : Nat → Nat → Int32) (TR' : Nat → Nat → Nat) (TO' : Nat → Option Nat) (TF' : Nat → Nat → Int32) (TA' : Nat → Nat → Nat → Int32) (RR' : Nat → Nat → Nat) (RM' : Nat → Option Nat) (RW' : Nat → Option Nat) (RF' : Nat → Nat → Int32) (RA' : Nat → Nat → Nat → Int32) (RC' : Nat → Nat → Int32), (ps.1 = [wd_Ker cs hk kr (fun _ => none) kf ka' (gKe pq pz' tq' rq'), fm 13 (fTx cs tq' TR' TO' TF' TA'), fm 13 (fRw cs rq' RR' RM' RW' RF' RA' RC'), fm 8 (fPp cs pq PV)]) ∧ (v = 0 ∨ v = 1) ∧ (CuT pq PV tq' TO' ip hx) ∧ (KnI pq PV pz' tq' rq' TO' TF' TA' RW' RF') ∧ (RoI ka') ∧ (RmI rq' RM') ∧ (ps.2.1 + (5 * ndS 13 tq' + 4 * ndS 13 rq' + ndS 13 RM') ≤ 5 * ndS 13 tq + 4 * ndS 13 rq + ndS 13 RM) ∧ (ps.2.2 + (9804 * ndS 13 tq' + 342 * ndS 13 rq' + 36864 * ndS 13 RM') ≤ 9804 * ndS 13 tq + 342 * ndS 13 rq + 36864 * ndS 13 RM)) := by
  refine pg_enter (by decide) (Nat.le_of_ble_eq_true rfl) ?_
  intro p e s m below meth c A ls hAe S hr hlk hnm hA hT hX hw hl
  replace hl : lv_has ls 4 [(0, .ref hk), (1, .ref hx), (2, .int p0)] := hl
  have lp0 := Int32.le_toInt p0
  have up0 := Int32.toInt_lt p0
  have cstm1 : ((-1) : Int32).toInt = (-1) := rfl
  have cst0 : (0 : Int32).toInt = 0 := rfl
  have cst1 : (1 : Int32).toInt = 1 := rfl
  have cst2 : (2 : Int32).toInt = 2 := rfl
  refine lv_iload_n S.x S.b d_Ker_await_0 rfl (lv_at hl 2 rfl) ?_
  obtain ⟨j1, hp1, hj1, hjq1, hto1, hf01⟩ := hcu.2
  refine lv_iconst (v := (-1)) S.x S.b d_Ker_await_1 (by decide) ?_
  refine lv_icmp_ne (tgt := 13) S.x S.b d_Ker_await_2 (by decide) (fun c2 => ?_) (fun c2 => ?_)
  · have nc2 : ¬ p0.toInt = (-1 : Int) := mt (i_eq (x := p0) (y := (-1))).mpr c2
    refine lv_aload_n S.x S.b d_Ker_await_13 rfl (lv_at hl 0 rfl) ?_
    refine lv_iload_n S.x S.b d_Ker_await_14 rfl (lv_at hl 2 rfl) ?_
    refine px_calli (pr := []) (px_runV (As := [.int p0]) (rest := []) S (c_k_isRunning l D cs hk kr pq pz tq rq kf ka TR TO TF TA RR RM RW RF RA RC PV p0  (show 0 ≤ p0.toInt from by first | with_reducible rfl | with_reducible assumption | omega) (show p0.toInt ≤ 12 from by first | with_reducible rfl | with_reducible assumption | omega) hki _) hT (pr := []) (pcs := [wd_Ker cs hk kr (fun _ => none) kf ka (gKe pq pz tq rq), fm 13 (fTx cs tq TR TO TF TA), fm 13 (fRw cs rq RR RM RW RF RA RC), fm 8 (fPp cs pq PV)]) hw px_X.tt (px_recv hT hw 0 0 rfl rfl rfl) m8_154 m8_151 m8_153 ms_6_1 m1_19 q_Ker_isRunning ⟨Nat.le_of_ble_eq_true rfl, Nat.le_of_ble_eq_true rfl⟩ hl.1 rfl (Nat.le_of_ble_eq_true rfl) d_Ker_await_15 ⟨show 0 + 0 ≤ (5 * ndS 13 tq + 4 * ndS 13 rq + ndS 13 RM) from by first | with_reducible rfl | with_reducible assumption | omega, show 0 + 0 ≤ (9804 * ndS 13 tq + 342 * ndS 13 rq + 36864 * ndS 13 RM) from by first | with_reducible rfl | with_reducible assumption | omega⟩) hw hA (fun v4 p3 H locs hp3 hw => ?_)
    obtain ⟨rfl, e5, e6⟩ := hp3
    have e5 := z_rng e5
    replace e6 : NnP pz p0 v4 := e6
    replace hw : pw D A s.heap H locs [wd_Ker cs hk kr (fun _ => none) kf ka (gKe pq pz tq rq), fm 13 (fTx cs tq TR TO TF TA), fm 13 (fRw cs rq RR RM RW RF RA RC), fm 8 (fPp cs pq PV)] := hw
    have lv4 := Int32.le_toInt v4
    have uv4 := Int32.toInt_lt v4
    refine lv_if_ne (tgt := 30) S.x S.b d_Ker_await_18 (by decide) (fun c7 => ?_) (fun c7 => ?_)
    · have nc7 : ¬ v4.toInt = (0 : Int) := mt (i_eq (x := v4) (y := 0)).mpr c7
      refine lv_iconst (v := 0) S.x S.b d_Ker_await_30 (by decide) ?_
      exact pg_iret (v := 0) S hr rfl hlk hAe hw (show 0 ≤ (5 * ndS 13 tq + 4 * ndS 13 rq + ndS 13 RM) from by first | exact oz_86e49526c7 | omega) (show 0 ≤ (9804 * ndS 13 tq + 342 * ndS 13 rq + 36864 * ndS 13 RM) from by first | exact oz_fc3b58e969 | omega) (⟨pz, tq, rq, ka, TR, TO, TF, TA, RR, RM, RW, RF, RA, RC, rfl, (show (0 : Int32) = 0 ∨ (0 : Int32) = 1 from by first | exact Or.inl rfl | exact Or.inr rfl | exact z_or (by omega)), (show CuT pq PV tq TO ip hx from hcu), (show KnI pq PV pz tq rq TO TF TA RW RF from hki), (show RoI ka from hro), (show RmI rq RM from hrm), (show 0 + (5 * ndS 13 tq + 4 * ndS 13 rq + ndS 13 RM) ≤ 5 * ndS 13 tq + 4 * ndS 13 rq + ndS 13 RM from by first | exact oz_9d19b050ad | omega), (show 0 + (9804 * ndS 13 tq + 342 * ndS 13 rq + 36864 * ndS 13 RM) ≤ 9804 * ndS 13 tq + 342 * ndS 13 rq + 36864 * ndS 13 RM from by first | exact oz_b5592d0ae7 | omega)⟩) d_Ker_await_31
    · have nc7 : v4.toInt = (0 : Int) := (i_eq (x := v4) (y := 0)).mp c7
      refine lv_aload_n S.x S.b d_Ker_await_21 rfl (lv_at hl 0 rfl) ?_
      refine px_get S k_Ker hT hw 0 0 2 (v := .ref (kr 2)) rfl rfl rfl (by decide) m2_222 d_Ker_await_22 ?_
      refine lv_iload_n S.x S.b d_Ker_await_25 rfl (lv_at hl 2 rfl) ?_
      refine px_aald S hT hw 0 3 6 (n := 13) (f := pz) rfl rfl rfl (x := p0) (vp_in_iff.mpr (by constructor <;> omega)) d_Ker_await_26 ?_
      refine lq_top (fun y8 hy8 => ?_)
      refine lq_ifnonnull (x := y8) (tgt := 32) S.x S.b d_Ker_await_27 (by decide) (fun q10 c9 => ?_) (fun c9 => ?_)
      ·
        subst c9
        have nd0_c9 := nd_1 q10
        have hc11 := cl_nat (x := p0) (by first | exact oz_016f458179 hc11 | omega)
        have hi11 : p0.toNatClampNeg < 13 := by first | exact oz_50e7088b63 hc11 g0 | omega
        have hr11 := hy8.symm
        refine lv_aload_n S.x S.b d_Ker_await_32 rfl (lv_at hl 0 rfl) ?_
        refine px_get S k_Ker hT hw 0 0 2 (v := .ref (kr 2)) rfl rfl rfl (by decide) m2_222 d_Ker_await_33 ?_
        refine lv_iload_n S.x S.b d_Ker_await_36 rfl (lv_at hl 2 rfl) ?_
        refine px_aaldS S hT hw 0 3 6 (n := 13) (f := pz) rfl rfl rfl (x := p0) (vp_in_iff.mpr (by first | exact oz_3859d57d28 hc11 hi11 | (constructor <;> omega))) (sk := q10) hr11 d_Ker_await_37 ?_
        rcases hki.2.2.2 p0.toNatClampNeg hi11 with hno | ⟨h9, e9, hcu12⟩ | ⟨h9, e9, hcu12⟩
        · rw [hno] at hr11; cases hr11
        ·
          cases (hr11.symm.trans e9)
          obtain ⟨j13, hp13, hj13, hjq13, hto13, hf013⟩ := hcu12.2
          have hw : pw D A s.heap _ _ [wd_Ker cs hk kr (fun _ => none) kf ka (gKe pq pz tq rq), fm 13 (fRw cs rq RR RM RW RF RA RC), fm 8 (fPp cs pq PV), fm 13 (fTx cs tq TR TO TF TA)] := hw.sub [0, 2, 3, 1] rfl rfl
          have hw : pw D A s.heap _ _ [wd_Ker cs hk kr (fun _ => none) kf ka (gKe pq pz tq rq), fm 13 (fRw cs rq RR RM RW RF RA RC), fm 8 (fPp cs pq PV), fo 13 (fTx cs tq TR TO TF TA) p0.toNatClampNeg, wd_Txp cs q10 (TR p0.toNatClampNeg) (fun k => if k = 3 then (some hp13) else none) (TF p0.toNatClampNeg) (TA p0.toNatClampNeg) (fun _ _ => none)] := ftx_out (pr := [wd_Ker cs hk kr (fun _ => none) kf ka (gKe pq pz tq rq), fm 13 (fRw cs rq RR RM RW RF RA RC), fm 8 (fPp cs pq PV)]) hw hi11 hcu12.1 hto13
          have htn14 : TxN p0.toNatClampNeg (TF p0.toNatClampNeg) (TA p0.toNatClampNeg) := hki.2.1 p0.toNatClampNeg hi11 _ hcu12.1
          obtain ⟨lk, ⟨i2, i3⟩, ⟨i4, i5⟩, ⟨i6, i7⟩, i8, ⟨i9, i11⟩, i10, hrt⟩ := htn14.1
          have hid14 := htn14.2.1
          have hch14 := htn14.2.2
          unfold KcI at hch14
          refine px_get S k_Txp hT hw 4 0 18 (v := .int ((TF p0.toNatClampNeg) 18)) rfl rfl rfl (by decide) m6_139 d_Ker_await_38 ?_
          refine lv_istore_n (lv' := [(3, .int ((TF p0.toNatClampNeg) 18)), (0, .ref hk), (1, .ref hx), (2, .int p0)]) S.x S.b d_Ker_await_41 rfl hl (by decide) rfl (fun ls hl => ?_)
          refine lv_aload_n S.x S.b d_Ker_await_42 rfl (lv_at hl 2 rfl) ?_
          refine lv_iload_n S.x S.b d_Ker_await_43 rfl (lv_at hl 0 rfl) ?_
          refine lv_if_eq (tgt := 52) S.x S.b d_Ker_await_44 (by decide) (fun c15 => ?_) (fun c15 => ?_)
          · have nc15 : ((TF p0.toNatClampNeg) 18).toInt = (0 : Int) := (i_eq (x := ((TF p0.toNatClampNeg) 18)) (y := 0)).mp c15
            refine lv_aload_n S.x S.b d_Ker_await_52 rfl (lv_at hl 1 rfl) ?_
            refine px_get S k_Ker hT hw 0 0 2 (v := .ref (kr 2)) rfl rfl rfl (by decide) m2_222 d_Ker_await_53 ?_
            refine lv_iload_n S.x S.b d_Ker_await_56 rfl (lv_at hl 3 rfl) ?_
            refine px_aaldS S hT hw 0 3 6 (n := 13) (f := pz) rfl rfl rfl (x := p0) (vp_in_iff.mpr (by first | exact oz_3859d57d28 hc11 hi11 | (constructor <;> omega))) (sk := q10) hr11 d_Ker_await_57 ?_
            refine px_get S k_Txp hT hw 4 0 19 (v := .int ((TF p0.toNatClampNeg) 19)) rfl rfl rfl (by decide) m6_146 d_Ker_await_58 ?_
            refine lv_goto (tgt := 66) S.x S.b d_Ker_await_61 (by decide) ?_
            have hw : pw D A s.heap _ _ [wd_Ker cs hk kr (fun _ => none) kf ka (gKe pq pz tq rq), fm 13 (fRw cs rq RR RM RW RF RA RC), fm 8 (fPp cs pq PV), fm 13 (fTx cs tq TR TO TF TA)] := ftx_back (pr := [wd_Ker cs hk kr (fun _ => none) kf ka (gKe pq pz tq rq), fm 13 (fRw cs rq RR RM RW RF RA RC), fm 8 (fPp cs pq PV)]) hw hi11 hcu12.1 hto13
            have hw : pw D A s.heap _ _ [wd_Ker cs hk kr (fun _ => none) kf ka (gKe pq pz tq rq), fm 13 (fRw cs rq RR RM RW RF RA RC), fm 8 (fPp cs pq PV), fo 13 (fTx cs tq TR TO TF TA) ip, wd_Txp cs hx (TR ip) (fun k => if k = 3 then (some hp1) else none) (TF ip) (TA ip) (fun _ _ => none)] := ftx_out (pr := [wd_Ker cs hk kr (fun _ => none) kf ka (gKe pq pz tq rq), fm 13 (fRw cs rq RR RM RW RF RA RC), fm 8 (fPp cs pq PV)]) hw hip hcu.1 hto1
            have htn16 : TxN ip (TF ip) (TA ip) := hki.2.1 ip hip _ hcu.1
            obtain ⟨lk, ⟨i2, i3⟩, ⟨i4, i5⟩, ⟨i6, i7⟩, i8, ⟨i9, i11⟩, i10, hrt⟩ := htn16.1
            have hid16 := htn16.2.1
            have hch16 := htn16.2.2
            unfold KcI at hch16
            refine px_callv (pr := [wd_Ker cs hk kr (fun _ => none) kf ka (gKe pq pz tq rq), fm 13 (fRw cs rq RR RM RW RF RA RC), fm 8 (fPp cs pq PV), fo 13 (fTx cs tq TR TO TF TA) ip]) (px_runA (As := [.int ((TF p0.toNatClampNeg) 19)]) (rest := []) S (c_Txp_answer l D cs hx (TR ip) (fun _ _ => none) hp1 (TF ip) (TA ip) ((TF p0.toNatClampNeg) 19)  (show TxOk ((TF ip) 4) ((TF ip) 5) ((TF ip) 8) ((TF ip) 9) ((TF ip) 17) 0 ((TA ip) 2) from ⟨(by first | exact lk | exact lk_eq lk (by omega) | exact lk_mk (by omega)), ⟨by omega, by omega⟩, ⟨by omega, by omega⟩, ⟨by omega, by omega⟩, by omega, ⟨by decide, by decide⟩, (by show _ + _ + (0 : Int) ≤ 100; omega), hrt⟩) _) hT (pr := [wd_Ker cs hk kr (fun _ => none) kf ka (gKe pq pz tq rq), fm 13 (fRw cs rq RR RM RW RF RA RC), fm 8 (fPp cs pq PV), fo 13 (fTx cs tq TR TO TF TA) ip]) (pcs := [wd_Txp cs hx (TR ip) (fun k => if k = 3 then (some hp1) else none) (TF ip) (TA ip) (fun _ _ => none)]) hw px_X.tt (C := "HomeSystem$TextProcess") (owner := "HomeSystem$AnyProcess") (x := ⟨"HomeSystem$AnyProcess", "answer", "(I)V"⟩) (px_recv hT hw 4 0 rfl rfl rfl) m8_75 m8_67 m8_69 m8_74 m8_73 m1_35 m8_68n ⟨by decide, by decide⟩ rfl q_Txp_answer ⟨Nat.le_of_ble_eq_true rfl, Nat.le_of_ble_eq_true rfl⟩ hl.1 rfl (Nat.le_of_ble_eq_true rfl) d_Ker_await_66 ⟨show 0 + 0 ≤ (5 * ndS 13 tq + 4 * ndS 13 rq + ndS 13 RM) from by first | with_reducible rfl | with_reducible assumption | omega, show 0 + 0 ≤ (9804 * ndS 13 tq + 342 * ndS 13 rq + 36864 * ndS 13 RM) from by first | with_reducible rfl | with_reducible assumption | omega⟩) hw hA (fun p21 H locs hp21 hw => ?_)
            obtain ⟨f19, a20, rfl, e23, e24, e25, e26, e27, e28⟩ := hp21
            replace e23 : TxOk (f19 4) (f19 5) (f19 8) (f19 9) (f19 17) (f19 21) (a20 2) := e23
            obtain ⟨lk, ⟨i2, i3⟩, ⟨i4, i5⟩, ⟨i6, i7⟩, i8, ⟨i9, i11⟩, i10, hrt⟩ := e23
            replace e24 : (f19 9).toInt = ((TF ip) 9).toInt := e24
            replace e25 : (f19 17).toInt = ((TF ip) 17).toInt := e25
            replace e26 : (f19 21).toInt = 0 := e26
            replace e27 : (f19 15).toInt = ((TF ip) 15).toInt := e27
            replace e28 : (f19 20).toInt = ((TF ip) 20).toInt := e28
            replace hw : pw D A s.heap H locs [wd_Ker cs hk kr (fun _ => none) kf ka (gKe pq pz tq rq), fm 13 (fRw cs rq RR RM RW RF RA RC), fm 8 (fPp cs pq PV), fo 13 (fTx cs tq TR TO TF TA) ip, wd_Txp cs hx (TR ip) (fun k => if k = 3 then (some hp1) else none) f19 a20 (fun _ _ => none)] := hw
            refine lv_iconst (v := 1) S.x S.b d_Ker_await_69 (by decide) ?_
            have hw := ftx_in0 (pr := [wd_Ker cs hk kr (fun _ => none) kf ka (gKe pq pz tq rq), fm 13 (fRw cs rq RR RM RW RF RA RC), fm 8 (fPp cs pq PV)]) hw hip hcu.1 hto1
            obtain ⟨TF29, hu_TF29⟩ : ∃ y : Nat → Nat → Int32, y = va_up TF ip f19 := ⟨_, rfl⟩
            obtain ⟨TA30, hu_TA30⟩ : ∃ y : Nat → Nat → Nat → Int32, y = va_up TA ip a20 := ⟨_, rfl⟩
            have hw : pw D A s.heap _ _ [wd_Ker cs hk kr (fun _ => none) kf ka (gKe pq pz tq rq), fm 13 (fRw cs rq RR RM RW RF RA RC), fm 8 (fPp cs pq PV), fm 13 (fTx cs tq TR TO TF29 TA30)] := (by rw [hu_TF29, hu_TA30]; exact hw)
            have hki : KnI pq PV pz tq rq TO TF29 TA30 RW RF := (by rw [hu_TF29, hu_TA30]; exact hki.upT (show TxN ip f19 a20 from ⟨(show TxOk (f19 4) (f19 5) (f19 8) (f19 9) (f19 17) (f19 21) (a20 2) from ⟨(by first | exact lk | exact lk_eq lk (by omega) | exact lk_mk (by omega)), ⟨by omega, by omega⟩, ⟨by omega, by omega⟩, ⟨by omega, by omega⟩, by omega, ⟨by omega, by omega⟩, by omega, hrt⟩), (show ((f19 15).toInt) = ((ip : Nat) : Int) from by first | with_reducible rfl | with_reducible assumption | omega), (show 0 ≤ (f19 20).toInt ∧ (f19 20).toInt ≤ 3 ∧ ((f19 20).toInt = 0 ∨ 3 * ((ip : Nat) : Int) + (f19 20).toInt ≤ 12) from by first | with_reducible rfl | with_reducible assumption | omega)⟩))
            have hz21_TF29 : (TF29 ip 21).toInt = (f19 21).toInt := (by rw [hu_TF29, va_up_s]; try rfl)
            have hw : pw D A s.heap _ _ [wd_Ker cs hk kr (fun _ => none) kf ka (gKe pq pz tq rq), fm 13 (fTx cs tq TR TO TF29 TA30), fm 13 (fRw cs rq RR RM RW RF RA RC), fm 8 (fPp cs pq PV)] := hw.sub [0, 3, 1, 2] rfl rfl
            exact pg_iret (v := 1) S hr rfl hlk hAe hw (show 0 ≤ (5 * ndS 13 tq + 4 * ndS 13 rq + ndS 13 RM) from by first | exact oz_86e49526c7 | omega) (show 0 ≤ (9804 * ndS 13 tq + 342 * ndS 13 rq + 36864 * ndS 13 RM) from by first | exact oz_fc3b58e969 | omega) (⟨pz, tq, rq, ka, TR, TO, TF29, TA30, RR, RM, RW, RF, RA, RC, rfl, (show (1 : Int32) = 0 ∨ (1 : Int32) = 1 from by first | exact Or.inl rfl | exact Or.inr rfl | exact z_or (by omega)), (show CuT pq PV tq TO ip hx from hcu), (show KnI pq PV pz tq rq TO TF29 TA30 RW RF from hki), (show RoI ka from hro), (show RmI rq RM from hrm), (show 0 + (5 * ndS 13 tq + 4 * ndS 13 rq + ndS 13 RM) ≤ 5 * ndS 13 tq + 4 * ndS 13 rq + ndS 13 RM from by first | exact oz_9d19b050ad | omega), (show 0 + (9804 * ndS 13 tq + 342 * ndS 13 rq + 36864 * ndS 13 RM) ≤ 9804 * ndS 13 tq + 342 * ndS 13 rq + 36864 * ndS 13 RM from by first | exact oz_b5592d0ae7 | omega)⟩) d_Ker_await_70
          · have nc15 : ¬ ((TF p0.toNatClampNeg) 18).toInt = (0 : Int) := mt (i_eq (x := ((TF p0.toNatClampNeg) 18)) (y := 0)).mpr c15
            refine lv_iload_n S.x S.b d_Ker_await_47 rfl (lv_at hl 0 rfl) ?_
            refine lv_iconst (v := 1) S.x S.b d_Ker_await_48 (by decide) ?_
            refine lv_icmp_ne (tgt := 64) S.x S.b d_Ker_await_49 (by decide) (fun c31 => ?_) (fun c31 => ?_)
            · have nc31 : ¬ ((TF p0.toNatClampNeg) 18).toInt = (1 : Int) := mt (i_eq (x := ((TF p0.toNatClampNeg) 18)) (y := 1)).mpr c31
              refine lv_iload_n S.x S.b d_Ker_await_64 rfl (lv_at hl 0 rfl) ?_
              refine lv_ineg S.x S.b d_Ker_await_65 ?_
              have lr32 := Int32.le_toInt ((TF p0.toNatClampNeg) 18)
              have ur32 := Int32.toInt_lt ((TF p0.toNatClampNeg) 18)
              refine lv_topi (fun z33 ez33 => ?_)
              have lz33 := Int32.le_toInt z33
              have uz33 := Int32.toInt_lt z33
              have hw : pw D A s.heap _ _ [wd_Ker cs hk kr (fun _ => none) kf ka (gKe pq pz tq rq), fm 13 (fRw cs rq RR RM RW RF RA RC), fm 8 (fPp cs pq PV), fm 13 (fTx cs tq TR TO TF TA)] := ftx_back (pr := [wd_Ker cs hk kr (fun _ => none) kf ka (gKe pq pz tq rq), fm 13 (fRw cs rq RR RM RW RF RA RC), fm 8 (fPp cs pq PV)]) hw hi11 hcu12.1 hto13
              have hw : pw D A s.heap _ _ [wd_Ker cs hk kr (fun _ => none) kf ka (gKe pq pz tq rq), fm 13 (fRw cs rq RR RM RW RF RA RC), fm 8 (fPp cs pq PV), fo 13 (fTx cs tq TR TO TF TA) ip, wd_Txp cs hx (TR ip) (fun k => if k = 3 then (some hp1) else none) (TF ip) (TA ip) (fun _ _ => none)] := ftx_out (pr := [wd_Ker cs hk kr (fun _ => none) kf ka (gKe pq pz tq rq), fm 13 (fRw cs rq RR RM RW RF RA RC), fm 8 (fPp cs pq PV)]) hw hip hcu.1 hto1
              have htn34 : TxN ip (TF ip) (TA ip) := hki.2.1 ip hip _ hcu.1
              obtain ⟨lk, ⟨i2, i3⟩, ⟨i4, i5⟩, ⟨i6, i7⟩, i8, ⟨i9, i11⟩, i10, hrt⟩ := htn34.1
              have hid34 := htn34.2.1
              have hch34 := htn34.2.2
              unfold KcI at hch34
              refine px_callv (pr := [wd_Ker cs hk kr (fun _ => none) kf ka (gKe pq pz tq rq), fm 13 (fRw cs rq RR RM RW RF RA RC), fm 8 (fPp cs pq PV), fo 13 (fTx cs tq TR TO TF TA) ip]) (px_runA (As := [.int z33]) (rest := []) S (c_Txp_answer l D cs hx (TR ip) (fun _ _ => none) hp1 (TF ip) (TA ip) z33  (show TxOk ((TF ip) 4) ((TF ip) 5) ((TF ip) 8) ((TF ip) 9) ((TF ip) 17) 0 ((TA ip) 2) from ⟨(by first | exact lk | exact lk_eq lk (by omega) | exact lk_mk (by omega)), ⟨by omega, by omega⟩, ⟨by omega, by omega⟩, ⟨by omega, by omega⟩, by omega, ⟨by decide, by decide⟩, (by show _ + _ + (0 : Int) ≤ 100; omega), hrt⟩) _) hT (pr := [wd_Ker cs hk kr (fun _ => none) kf ka (gKe pq pz tq rq), fm 13 (fRw cs rq RR RM RW RF RA RC), fm 8 (fPp cs pq PV), fo 13 (fTx cs tq TR TO TF TA) ip]) (pcs := [wd_Txp cs hx (TR ip) (fun k => if k = 3 then (some hp1) else none) (TF ip) (TA ip) (fun _ _ => none)]) hw px_X.tt (C := "HomeSystem$TextProcess") (owner := "HomeSystem$AnyProcess") (x := ⟨"HomeSystem$AnyProcess", "answer", "(I)V"⟩) (px_recv hT hw 4 0 rfl rfl rfl) m8_75 m8_67 m8_69 m8_74 m8_73 m1_35 m8_68n ⟨by decide, by decide⟩ rfl q_Txp_answer ⟨Nat.le_of_ble_eq_true rfl, Nat.le_of_ble_eq_true rfl⟩ hl.1 rfl (Nat.le_of_ble_eq_true rfl) d_Ker_await_66 ⟨show 0 + 0 ≤ (5 * ndS 13 tq + 4 * ndS 13 rq + ndS 13 RM) from by first | with_reducible rfl | with_reducible assumption | omega, show 0 + 0 ≤ (9804 * ndS 13 tq + 342 * ndS 13 rq + 36864 * ndS 13 RM) from by first | with_reducible rfl | with_reducible assumption | omega⟩) hw hA (fun p39 H locs hp39 hw => ?_)
              obtain ⟨f37, a38, rfl, e41, e42, e43, e44, e45, e46⟩ := hp39
              replace e41 : TxOk (f37 4) (f37 5) (f37 8) (f37 9) (f37 17) (f37 21) (a38 2) := e41
              obtain ⟨lk, ⟨i2, i3⟩, ⟨i4, i5⟩, ⟨i6, i7⟩, i8, ⟨i9, i11⟩, i10, hrt⟩ := e41
              replace e42 : (f37 9).toInt = ((TF ip) 9).toInt := e42
              replace e43 : (f37 17).toInt = ((TF ip) 17).toInt := e43
              replace e44 : (f37 21).toInt = 0 := e44
              replace e45 : (f37 15).toInt = ((TF ip) 15).toInt := e45
              replace e46 : (f37 20).toInt = ((TF ip) 20).toInt := e46
              replace hw : pw D A s.heap H locs [wd_Ker cs hk kr (fun _ => none) kf ka (gKe pq pz tq rq), fm 13 (fRw cs rq RR RM RW RF RA RC), fm 8 (fPp cs pq PV), fo 13 (fTx cs tq TR TO TF TA) ip, wd_Txp cs hx (TR ip) (fun k => if k = 3 then (some hp1) else none) f37 a38 (fun _ _ => none)] := hw
              refine lv_iconst (v := 1) S.x S.b d_Ker_await_69 (by decide) ?_
              have hw := ftx_in0 (pr := [wd_Ker cs hk kr (fun _ => none) kf ka (gKe pq pz tq rq), fm 13 (fRw cs rq RR RM RW RF RA RC), fm 8 (fPp cs pq PV)]) hw hip hcu.1 hto1
              obtain ⟨TF47, hu_TF47⟩ : ∃ y : Nat → Nat → Int32, y = va_up TF ip f37 := ⟨_, rfl⟩
              obtain ⟨TA48, hu_TA48⟩ : ∃ y : Nat → Nat → Nat → Int32, y = va_up TA ip a38 := ⟨_, rfl⟩
              have hw : pw D A s.heap _ _ [wd_Ker cs hk kr (fun _ => none) kf ka (gKe pq pz tq rq), fm 13 (fRw cs rq RR RM RW RF RA RC), fm 8 (fPp cs pq PV), fm 13 (fTx cs tq TR TO TF47 TA48)] := (by rw [hu_TF47, hu_TA48]; exact hw)
              have hki : KnI pq PV pz tq rq TO TF47 TA48 RW RF := (by rw [hu_TF47, hu_TA48]; exact hki.upT (show TxN ip f37 a38 from ⟨(show TxOk (f37 4) (f37 5) (f37 8) (f37 9) (f37 17) (f37 21) (a38 2) from ⟨(by first | exact lk | exact lk_eq lk (by omega) | exact lk_mk (by omega)), ⟨by omega, by omega⟩, ⟨by omega, by omega⟩, ⟨by omega, by omega⟩, by omega, ⟨by omega, by omega⟩, by omega, hrt⟩), (show ((f37 15).toInt) = ((ip : Nat) : Int) from by first | with_reducible rfl | with_reducible assumption | omega), (show 0 ≤ (f37 20).toInt ∧ (f37 20).toInt ≤ 3 ∧ ((f37 20).toInt = 0 ∨ 3 * ((ip : Nat) : Int) + (f37 20).toInt ≤ 12) from by first | with_reducible rfl | with_reducible assumption | omega)⟩))
              have hz21_TF47 : (TF47 ip 21).toInt = (f37 21).toInt := (by rw [hu_TF47, va_up_s]; try rfl)
              have hw : pw D A s.heap _ _ [wd_Ker cs hk kr (fun _ => none) kf ka (gKe pq pz tq rq), fm 13 (fTx cs tq TR TO TF47 TA48), fm 13 (fRw cs rq RR RM RW RF RA RC), fm 8 (fPp cs pq PV)] := hw.sub [0, 3, 1, 2] rfl rfl
              exact pg_iret (v := 1) S hr rfl hlk hAe hw (show 0 ≤ (5 * ndS 13 tq + 4 * ndS 13 rq + ndS 13 RM) from by first | exact oz_86e49526c7 | omega) (show 0 ≤ (9804 * ndS 13 tq + 342 * ndS 13 rq + 36864 * ndS 13 RM) from by first | exact oz_fc3b58e969 | omega) (⟨pz, tq, rq, ka, TR, TO, TF47, TA48, RR, RM, RW, RF, RA, RC, rfl, (show (1 : Int32) = 0 ∨ (1 : Int32) = 1 from by first | exact Or.inl rfl | exact Or.inr rfl | exact z_or (by omega)), (show CuT pq PV tq TO ip hx from hcu), (show KnI pq PV pz tq rq TO TF47 TA48 RW RF from hki), (show RoI ka from hro), (show RmI rq RM from hrm), (show 0 + (5 * ndS 13 tq + 4 * ndS 13 rq + ndS 13 RM) ≤ 5 * ndS 13 tq + 4 * ndS 13 rq + ndS 13 RM from by first | exact oz_9d19b050ad | omega), (show 0 + (9804 * ndS 13 tq + 342 * ndS 13 rq + 36864 * ndS 13 RM) ≤ 9804 * ndS 13 tq + 342 * ndS 13 rq + 36864 * ndS 13 RM from by first | exact oz_b5592d0ae7 | omega)⟩) d_Ker_await_70
            · have nc31 : ((TF p0.toNatClampNeg) 18).toInt = (1 : Int) := (i_eq (x := ((TF p0.toNatClampNeg) 18)) (y := 1)).mp c31
              refine lv_aload_n S.x S.b d_Ker_await_52 rfl (lv_at hl 1 rfl) ?_
              refine px_get S k_Ker hT hw 0 0 2 (v := .ref (kr 2)) rfl rfl rfl (by decide) m2_222 d_Ker_await_53 ?_
              refine lv_iload_n S.x S.b d_Ker_await_56 rfl (lv_at hl 3 rfl) ?_
              refine px_aaldS S hT hw 0 3 6 (n := 13) (f := pz) rfl rfl rfl (x := p0) (vp_in_iff.mpr (by first | exact oz_3859d57d28 hc11 hi11 | (constructor <;> omega))) (sk := q10) hr11 d_Ker_await_57 ?_
              refine px_get S k_Txp hT hw 4 0 19 (v := .int ((TF p0.toNatClampNeg) 19)) rfl rfl rfl (by decide) m6_146 d_Ker_await_58 ?_
              refine lv_goto (tgt := 66) S.x S.b d_Ker_await_61 (by decide) ?_
              have hw : pw D A s.heap _ _ [wd_Ker cs hk kr (fun _ => none) kf ka (gKe pq pz tq rq), fm 13 (fRw cs rq RR RM RW RF RA RC), fm 8 (fPp cs pq PV), fm 13 (fTx cs tq TR TO TF TA)] := ftx_back (pr := [wd_Ker cs hk kr (fun _ => none) kf ka (gKe pq pz tq rq), fm 13 (fRw cs rq RR RM RW RF RA RC), fm 8 (fPp cs pq PV)]) hw hi11 hcu12.1 hto13
              have hw : pw D A s.heap _ _ [wd_Ker cs hk kr (fun _ => none) kf ka (gKe pq pz tq rq), fm 13 (fRw cs rq RR RM RW RF RA RC), fm 8 (fPp cs pq PV), fo 13 (fTx cs tq TR TO TF TA) ip, wd_Txp cs hx (TR ip) (fun k => if k = 3 then (some hp1) else none) (TF ip) (TA ip) (fun _ _ => none)] := ftx_out (pr := [wd_Ker cs hk kr (fun _ => none) kf ka (gKe pq pz tq rq), fm 13 (fRw cs rq RR RM RW RF RA RC), fm 8 (fPp cs pq PV)]) hw hip hcu.1 hto1
              have htn49 : TxN ip (TF ip) (TA ip) := hki.2.1 ip hip _ hcu.1
              obtain ⟨lk, ⟨i2, i3⟩, ⟨i4, i5⟩, ⟨i6, i7⟩, i8, ⟨i9, i11⟩, i10, hrt⟩ := htn49.1
              have hid49 := htn49.2.1
              have hch49 := htn49.2.2
              unfold KcI at hch49
              refine px_callv (pr := [wd_Ker cs hk kr (fun _ => none) kf ka (gKe pq pz tq rq), fm 13 (fRw cs rq RR RM RW RF RA RC), fm 8 (fPp cs pq PV), fo 13 (fTx cs tq TR TO TF TA) ip]) (px_runA (As := [.int ((TF p0.toNatClampNeg) 19)]) (rest := []) S (c_Txp_answer l D cs hx (TR ip) (fun _ _ => none) hp1 (TF ip) (TA ip) ((TF p0.toNatClampNeg) 19)  (show TxOk ((TF ip) 4) ((TF ip) 5) ((TF ip) 8) ((TF ip) 9) ((TF ip) 17) 0 ((TA ip) 2) from ⟨(by first | exact lk | exact lk_eq lk (by omega) | exact lk_mk (by omega)), ⟨by omega, by omega⟩, ⟨by omega, by omega⟩, ⟨by omega, by omega⟩, by omega, ⟨by decide, by decide⟩, (by show _ + _ + (0 : Int) ≤ 100; omega), hrt⟩) _) hT (pr := [wd_Ker cs hk kr (fun _ => none) kf ka (gKe pq pz tq rq), fm 13 (fRw cs rq RR RM RW RF RA RC), fm 8 (fPp cs pq PV), fo 13 (fTx cs tq TR TO TF TA) ip]) (pcs := [wd_Txp cs hx (TR ip) (fun k => if k = 3 then (some hp1) else none) (TF ip) (TA ip) (fun _ _ => none)]) hw px_X.tt (C := "HomeSystem$TextProcess") (owner := "HomeSystem$AnyProcess") (x := ⟨"HomeSystem$AnyProcess", "answer", "(I)V"⟩) (px_recv hT hw 4 0 rfl rfl rfl) m8_75 m8_67 m8_69 m8_74 m8_73 m1_35 m8_68n ⟨by decide, by decide⟩ rfl q_Txp_answer ⟨Nat.le_of_ble_eq_true rfl, Nat.le_of_ble_eq_true rfl⟩ hl.1 rfl (Nat.le_of_ble_eq_true rfl) d_Ker_await_66 ⟨show 0 + 0 ≤ (5 * ndS 13 tq + 4 * ndS 13 rq + ndS 13 RM) from by first | with_reducible rfl | with_reducible assumption | omega, show 0 + 0 ≤ (9804 * ndS 13 tq + 342 * ndS 13 rq + 36864 * ndS 13 RM) from by first | with_reducible rfl | with_reducible assumption | omega⟩) hw hA (fun p54 H locs hp54 hw => ?_)
              obtain ⟨f52, a53, rfl, e56, e57, e58, e59, e60, e61⟩ := hp54
              replace e56 : TxOk (f52 4) (f52 5) (f52 8) (f52 9) (f52 17) (f52 21) (a53 2) := e56
              obtain ⟨lk, ⟨i2, i3⟩, ⟨i4, i5⟩, ⟨i6, i7⟩, i8, ⟨i9, i11⟩, i10, hrt⟩ := e56
              replace e57 : (f52 9).toInt = ((TF ip) 9).toInt := e57
              replace e58 : (f52 17).toInt = ((TF ip) 17).toInt := e58
              replace e59 : (f52 21).toInt = 0 := e59
              replace e60 : (f52 15).toInt = ((TF ip) 15).toInt := e60
              replace e61 : (f52 20).toInt = ((TF ip) 20).toInt := e61
              replace hw : pw D A s.heap H locs [wd_Ker cs hk kr (fun _ => none) kf ka (gKe pq pz tq rq), fm 13 (fRw cs rq RR RM RW RF RA RC), fm 8 (fPp cs pq PV), fo 13 (fTx cs tq TR TO TF TA) ip, wd_Txp cs hx (TR ip) (fun k => if k = 3 then (some hp1) else none) f52 a53 (fun _ _ => none)] := hw
              refine lv_iconst (v := 1) S.x S.b d_Ker_await_69 (by decide) ?_
              have hw := ftx_in0 (pr := [wd_Ker cs hk kr (fun _ => none) kf ka (gKe pq pz tq rq), fm 13 (fRw cs rq RR RM RW RF RA RC), fm 8 (fPp cs pq PV)]) hw hip hcu.1 hto1
              obtain ⟨TF62, hu_TF62⟩ : ∃ y : Nat → Nat → Int32, y = va_up TF ip f52 := ⟨_, rfl⟩
              obtain ⟨TA63, hu_TA63⟩ : ∃ y : Nat → Nat → Nat → Int32, y = va_up TA ip a53 := ⟨_, rfl⟩
              have hw : pw D A s.heap _ _ [wd_Ker cs hk kr (fun _ => none) kf ka (gKe pq pz tq rq), fm 13 (fRw cs rq RR RM RW RF RA RC), fm 8 (fPp cs pq PV), fm 13 (fTx cs tq TR TO TF62 TA63)] := (by rw [hu_TF62, hu_TA63]; exact hw)
              have hki : KnI pq PV pz tq rq TO TF62 TA63 RW RF := (by rw [hu_TF62, hu_TA63]; exact hki.upT (show TxN ip f52 a53 from ⟨(show TxOk (f52 4) (f52 5) (f52 8) (f52 9) (f52 17) (f52 21) (a53 2) from ⟨(by first | exact lk | exact lk_eq lk (by omega) | exact lk_mk (by omega)), ⟨by omega, by omega⟩, ⟨by omega, by omega⟩, ⟨by omega, by omega⟩, by omega, ⟨by omega, by omega⟩, by omega, hrt⟩), (show ((f52 15).toInt) = ((ip : Nat) : Int) from by first | with_reducible rfl | with_reducible assumption | omega), (show 0 ≤ (f52 20).toInt ∧ (f52 20).toInt ≤ 3 ∧ ((f52 20).toInt = 0 ∨ 3 * ((ip : Nat) : Int) + (f52 20).toInt ≤ 12) from by first | with_reducible rfl | with_reducible assumption | omega)⟩))
              have hz21_TF62 : (TF62 ip 21).toInt = (f52 21).toInt := (by rw [hu_TF62, va_up_s]; try rfl)
              have hw : pw D A s.heap _ _ [wd_Ker cs hk kr (fun _ => none) kf ka (gKe pq pz tq rq), fm 13 (fTx cs tq TR TO TF62 TA63), fm 13 (fRw cs rq RR RM RW RF RA RC), fm 8 (fPp cs pq PV)] := hw.sub [0, 3, 1, 2] rfl rfl
              exact pg_iret (v := 1) S hr rfl hlk hAe hw (show 0 ≤ (5 * ndS 13 tq + 4 * ndS 13 rq + ndS 13 RM) from by first | exact oz_86e49526c7 | omega) (show 0 ≤ (9804 * ndS 13 tq + 342 * ndS 13 rq + 36864 * ndS 13 RM) from by first | exact oz_fc3b58e969 | omega) (⟨pz, tq, rq, ka, TR, TO, TF62, TA63, RR, RM, RW, RF, RA, RC, rfl, (show (1 : Int32) = 0 ∨ (1 : Int32) = 1 from by first | exact Or.inl rfl | exact Or.inr rfl | exact z_or (by omega)), (show CuT pq PV tq TO ip hx from hcu), (show KnI pq PV pz tq rq TO TF62 TA63 RW RF from hki), (show RoI ka from hro), (show RmI rq RM from hrm), (show 0 + (5 * ndS 13 tq + 4 * ndS 13 rq + ndS 13 RM) ≤ 5 * ndS 13 tq + 4 * ndS 13 rq + ndS 13 RM from by first | exact oz_9d19b050ad | omega), (show 0 + (9804 * ndS 13 tq + 342 * ndS 13 rq + 36864 * ndS 13 RM) ≤ 9804 * ndS 13 tq + 342 * ndS 13 rq + 36864 * ndS 13 RM from by first | exact oz_b5592d0ae7 | omega)⟩) d_Ker_await_70
        ·
          cases (hr11.symm.trans e9)
          obtain ⟨j64, hp64, hj64, hjq64, hto64⟩ := hcu12.2
          have hw : pw D A s.heap _ _ [wd_Ker cs hk kr (fun _ => none) kf ka (gKe pq pz tq rq), fm 13 (fTx cs tq TR TO TF TA), fm 8 (fPp cs pq PV), fm 13 (fRw cs rq RR RM RW RF RA RC)] := hw.sub [0, 1, 3, 2] rfl rfl
          have hw : pw D A s.heap _ _ [wd_Ker cs hk kr (fun _ => none) kf ka (gKe pq pz tq rq), fm 13 (fTx cs tq TR TO TF TA), fm 8 (fPp cs pq PV), fo 13 (fRw cs rq RR RM RW RF RA RC) p0.toNatClampNeg, wd_Raw cs q10 (RR p0.toNatClampNeg) (fun k => if k = 2 then (RM p0.toNatClampNeg) else if k = 4 then (some ((PV j64).r 1)) else none) (RF p0.toNatClampNeg) (RA p0.toNatClampNeg) (fun _ _ => none), nA cs (RM p0.toNatClampNeg) 36864 (RC p0.toNatClampNeg)] := frw_out (pr := [wd_Ker cs hk kr (fun _ => none) kf ka (gKe pq pz tq rq), fm 13 (fTx cs tq TR TO TF TA), fm 8 (fPp cs pq PV)]) hw hi11 hcu12.1 hto64
          have hng65 := ndS_ge 13 RM p0.toNatClampNeg hi11
          have hrn65 : RwN p0.toNatClampNeg (RF p0.toNatClampNeg) := hki.2.2.1 p0.toNatClampNeg hi11 _ hcu12.1
          have hro65 := hrn65.1
          unfold RwO at hro65
          have hid65 := hrn65.2.1
          have hch65 := hrn65.2.2
          unfold KcI at hch65
          refine px_get S k_Raw hT hw 4 0 11 (v := .int ((RF p0.toNatClampNeg) 11)) rfl rfl rfl (by decide) m6_139 d_Ker_await_38 ?_
          refine lv_istore_n (lv' := [(3, .int ((RF p0.toNatClampNeg) 11)), (0, .ref hk), (1, .ref hx), (2, .int p0)]) S.x S.b d_Ker_await_41 rfl hl (by decide) rfl (fun ls hl => ?_)
          refine lv_aload_n S.x S.b d_Ker_await_42 rfl (lv_at hl 2 rfl) ?_
          refine lv_iload_n S.x S.b d_Ker_await_43 rfl (lv_at hl 0 rfl) ?_
          refine lv_if_eq (tgt := 52) S.x S.b d_Ker_await_44 (by decide) (fun c66 => ?_) (fun c66 => ?_)
          · have nc66 : ((RF p0.toNatClampNeg) 11).toInt = (0 : Int) := (i_eq (x := ((RF p0.toNatClampNeg) 11)) (y := 0)).mp c66
            refine lv_aload_n S.x S.b d_Ker_await_52 rfl (lv_at hl 1 rfl) ?_
            refine px_get S k_Ker hT hw 0 0 2 (v := .ref (kr 2)) rfl rfl rfl (by decide) m2_222 d_Ker_await_53 ?_
            refine lv_iload_n S.x S.b d_Ker_await_56 rfl (lv_at hl 3 rfl) ?_
            refine px_aaldS S hT hw 0 3 6 (n := 13) (f := pz) rfl rfl rfl (x := p0) (vp_in_iff.mpr (by first | exact oz_3859d57d28 hc11 hi11 | (constructor <;> omega))) (sk := q10) hr11 d_Ker_await_57 ?_
            refine px_get S k_Raw hT hw 4 0 12 (v := .int ((RF p0.toNatClampNeg) 12)) rfl rfl rfl (by decide) m6_146 d_Ker_await_58 ?_
            refine lv_goto (tgt := 66) S.x S.b d_Ker_await_61 (by decide) ?_
            have hw : pw D A s.heap _ _ [wd_Ker cs hk kr (fun _ => none) kf ka (gKe pq pz tq rq), fm 8 (fPp cs pq PV), fo 13 (fRw cs rq RR RM RW RF RA RC) p0.toNatClampNeg, wd_Raw cs q10 (RR p0.toNatClampNeg) (fun k => if k = 2 then (RM p0.toNatClampNeg) else if k = 4 then (some ((PV j64).r 1)) else none) (RF p0.toNatClampNeg) (RA p0.toNatClampNeg) (fun _ _ => none), nA cs (RM p0.toNatClampNeg) 36864 (RC p0.toNatClampNeg), fm 13 (fTx cs tq TR TO TF TA)] := hw.sub [0, 2, 3, 4, 5, 1] rfl rfl
            have hw : pw D A s.heap _ _ [wd_Ker cs hk kr (fun _ => none) kf ka (gKe pq pz tq rq), fm 8 (fPp cs pq PV), fo 13 (fRw cs rq RR RM RW RF RA RC) p0.toNatClampNeg, wd_Raw cs q10 (RR p0.toNatClampNeg) (fun k => if k = 2 then (RM p0.toNatClampNeg) else if k = 4 then (some ((PV j64).r 1)) else none) (RF p0.toNatClampNeg) (RA p0.toNatClampNeg) (fun _ _ => none), nA cs (RM p0.toNatClampNeg) 36864 (RC p0.toNatClampNeg), fo 13 (fTx cs tq TR TO TF TA) ip, wd_Txp cs hx (TR ip) (fun k => if k = 3 then (some hp1) else none) (TF ip) (TA ip) (fun _ _ => none)] := ftx_out (pr := [wd_Ker cs hk kr (fun _ => none) kf ka (gKe pq pz tq rq), fm 8 (fPp cs pq PV), fo 13 (fRw cs rq RR RM RW RF RA RC) p0.toNatClampNeg, wd_Raw cs q10 (RR p0.toNatClampNeg) (fun k => if k = 2 then (RM p0.toNatClampNeg) else if k = 4 then (some ((PV j64).r 1)) else none) (RF p0.toNatClampNeg) (RA p0.toNatClampNeg) (fun _ _ => none), nA cs (RM p0.toNatClampNeg) 36864 (RC p0.toNatClampNeg)]) hw hip hcu.1 hto1
            have htn67 : TxN ip (TF ip) (TA ip) := hki.2.1 ip hip _ hcu.1
            obtain ⟨lk, ⟨i2, i3⟩, ⟨i4, i5⟩, ⟨i6, i7⟩, i8, ⟨i9, i11⟩, i10, hrt⟩ := htn67.1
            have hid67 := htn67.2.1
            have hch67 := htn67.2.2
            unfold KcI at hch67
            refine px_callv (pr := [wd_Ker cs hk kr (fun _ => none) kf ka (gKe pq pz tq rq), fm 8 (fPp cs pq PV), fo 13 (fRw cs rq RR RM RW RF RA RC) p0.toNatClampNeg, wd_Raw cs q10 (RR p0.toNatClampNeg) (fun k => if k = 2 then (RM p0.toNatClampNeg) else if k = 4 then (some ((PV j64).r 1)) else none) (RF p0.toNatClampNeg) (RA p0.toNatClampNeg) (fun _ _ => none), nA cs (RM p0.toNatClampNeg) 36864 (RC p0.toNatClampNeg), fo 13 (fTx cs tq TR TO TF TA) ip]) (px_runA (As := [.int ((RF p0.toNatClampNeg) 12)]) (rest := []) S (c_Txp_answer l D cs hx (TR ip) (fun _ _ => none) hp1 (TF ip) (TA ip) ((RF p0.toNatClampNeg) 12)  (show TxOk ((TF ip) 4) ((TF ip) 5) ((TF ip) 8) ((TF ip) 9) ((TF ip) 17) 0 ((TA ip) 2) from ⟨(by first | exact lk | exact lk_eq lk (by omega) | exact lk_mk (by omega)), ⟨by omega, by omega⟩, ⟨by omega, by omega⟩, ⟨by omega, by omega⟩, by omega, ⟨by decide, by decide⟩, (by show _ + _ + (0 : Int) ≤ 100; omega), hrt⟩) _) hT (pr := [wd_Ker cs hk kr (fun _ => none) kf ka (gKe pq pz tq rq), fm 8 (fPp cs pq PV), fo 13 (fRw cs rq RR RM RW RF RA RC) p0.toNatClampNeg, wd_Raw cs q10 (RR p0.toNatClampNeg) (fun k => if k = 2 then (RM p0.toNatClampNeg) else if k = 4 then (some ((PV j64).r 1)) else none) (RF p0.toNatClampNeg) (RA p0.toNatClampNeg) (fun _ _ => none), nA cs (RM p0.toNatClampNeg) 36864 (RC p0.toNatClampNeg), fo 13 (fTx cs tq TR TO TF TA) ip]) (pcs := [wd_Txp cs hx (TR ip) (fun k => if k = 3 then (some hp1) else none) (TF ip) (TA ip) (fun _ _ => none)]) hw px_X.tt (C := "HomeSystem$TextProcess") (owner := "HomeSystem$AnyProcess") (x := ⟨"HomeSystem$AnyProcess", "answer", "(I)V"⟩) (px_recv hT hw 6 0 rfl rfl rfl) m8_75 m8_67 m8_69 m8_74 m8_73 m1_35 m8_68n ⟨by decide, by decide⟩ rfl q_Txp_answer ⟨Nat.le_of_ble_eq_true rfl, Nat.le_of_ble_eq_true rfl⟩ hl.1 rfl (Nat.le_of_ble_eq_true rfl) d_Ker_await_66 ⟨show 0 + 0 ≤ (5 * ndS 13 tq + 4 * ndS 13 rq + ndS 13 RM) from by first | with_reducible rfl | with_reducible assumption | omega, show 0 + 0 ≤ (9804 * ndS 13 tq + 342 * ndS 13 rq + 36864 * ndS 13 RM) from by first | with_reducible rfl | with_reducible assumption | omega⟩) hw hA (fun p72 H locs hp72 hw => ?_)
            obtain ⟨f70, a71, rfl, e74, e75, e76, e77, e78, e79⟩ := hp72
            replace e74 : TxOk (f70 4) (f70 5) (f70 8) (f70 9) (f70 17) (f70 21) (a71 2) := e74
            obtain ⟨lk, ⟨i2, i3⟩, ⟨i4, i5⟩, ⟨i6, i7⟩, i8, ⟨i9, i11⟩, i10, hrt⟩ := e74
            replace e75 : (f70 9).toInt = ((TF ip) 9).toInt := e75
            replace e76 : (f70 17).toInt = ((TF ip) 17).toInt := e76
            replace e77 : (f70 21).toInt = 0 := e77
            replace e78 : (f70 15).toInt = ((TF ip) 15).toInt := e78
            replace e79 : (f70 20).toInt = ((TF ip) 20).toInt := e79
            replace hw : pw D A s.heap H locs [wd_Ker cs hk kr (fun _ => none) kf ka (gKe pq pz tq rq), fm 8 (fPp cs pq PV), fo 13 (fRw cs rq RR RM RW RF RA RC) p0.toNatClampNeg, wd_Raw cs q10 (RR p0.toNatClampNeg) (fun k => if k = 2 then (RM p0.toNatClampNeg) else if k = 4 then (some ((PV j64).r 1)) else none) (RF p0.toNatClampNeg) (RA p0.toNatClampNeg) (fun _ _ => none), nA cs (RM p0.toNatClampNeg) 36864 (RC p0.toNatClampNeg), fo 13 (fTx cs tq TR TO TF TA) ip, wd_Txp cs hx (TR ip) (fun k => if k = 3 then (some hp1) else none) f70 a71 (fun _ _ => none)] := hw
            refine lv_iconst (v := 1) S.x S.b d_Ker_await_69 (by decide) ?_
            have hw := ftx_in0 (pr := [wd_Ker cs hk kr (fun _ => none) kf ka (gKe pq pz tq rq), fm 8 (fPp cs pq PV), fo 13 (fRw cs rq RR RM RW RF RA RC) p0.toNatClampNeg, wd_Raw cs q10 (RR p0.toNatClampNeg) (fun k => if k = 2 then (RM p0.toNatClampNeg) else if k = 4 then (some ((PV j64).r 1)) else none) (RF p0.toNatClampNeg) (RA p0.toNatClampNeg) (fun _ _ => none), nA cs (RM p0.toNatClampNeg) 36864 (RC p0.toNatClampNeg)]) hw hip hcu.1 hto1
            obtain ⟨TF80, hu_TF80⟩ : ∃ y : Nat → Nat → Int32, y = va_up TF ip f70 := ⟨_, rfl⟩
            obtain ⟨TA81, hu_TA81⟩ : ∃ y : Nat → Nat → Nat → Int32, y = va_up TA ip a71 := ⟨_, rfl⟩
            have hw : pw D A s.heap _ _ [wd_Ker cs hk kr (fun _ => none) kf ka (gKe pq pz tq rq), fm 8 (fPp cs pq PV), fo 13 (fRw cs rq RR RM RW RF RA RC) p0.toNatClampNeg, wd_Raw cs q10 (RR p0.toNatClampNeg) (fun k => if k = 2 then (RM p0.toNatClampNeg) else if k = 4 then (some ((PV j64).r 1)) else none) (RF p0.toNatClampNeg) (RA p0.toNatClampNeg) (fun _ _ => none), nA cs (RM p0.toNatClampNeg) 36864 (RC p0.toNatClampNeg), fm 13 (fTx cs tq TR TO TF80 TA81)] := (by rw [hu_TF80, hu_TA81]; exact hw)
            have hki : KnI pq PV pz tq rq TO TF80 TA81 RW RF := (by rw [hu_TF80, hu_TA81]; exact hki.upT (show TxN ip f70 a71 from ⟨(show TxOk (f70 4) (f70 5) (f70 8) (f70 9) (f70 17) (f70 21) (a71 2) from ⟨(by first | exact lk | exact lk_eq lk (by omega) | exact lk_mk (by omega)), ⟨by omega, by omega⟩, ⟨by omega, by omega⟩, ⟨by omega, by omega⟩, by omega, ⟨by omega, by omega⟩, by omega, hrt⟩), (show ((f70 15).toInt) = ((ip : Nat) : Int) from by first | with_reducible rfl | with_reducible assumption | omega), (show 0 ≤ (f70 20).toInt ∧ (f70 20).toInt ≤ 3 ∧ ((f70 20).toInt = 0 ∨ 3 * ((ip : Nat) : Int) + (f70 20).toInt ≤ 12) from by first | with_reducible rfl | with_reducible assumption | omega)⟩))
            have hz21_TF80 : (TF80 ip 21).toInt = (f70 21).toInt := (by rw [hu_TF80, va_up_s]; try rfl)
            have hw : pw D A s.heap _ _ [wd_Ker cs hk kr (fun _ => none) kf ka (gKe pq pz tq rq), fm 8 (fPp cs pq PV), fm 13 (fTx cs tq TR TO TF80 TA81), fo 13 (fRw cs rq RR RM RW RF RA RC) p0.toNatClampNeg, wd_Raw cs q10 (RR p0.toNatClampNeg) (fun k => if k = 2 then (RM p0.toNatClampNeg) else if k = 4 then (some ((PV j64).r 1)) else none) (RF p0.toNatClampNeg) (RA p0.toNatClampNeg) (fun _ _ => none), nA cs (RM p0.toNatClampNeg) 36864 (RC p0.toNatClampNeg)] := hw.sub [0, 1, 5, 2, 3, 4] rfl rfl
            have hw : pw D A s.heap _ _ [wd_Ker cs hk kr (fun _ => none) kf ka (gKe pq pz tq rq), fm 8 (fPp cs pq PV), fm 13 (fTx cs tq TR TO TF80 TA81), fm 13 (fRw cs rq RR RM RW RF RA RC)] := frw_back (pr := [wd_Ker cs hk kr (fun _ => none) kf ka (gKe pq pz tq rq), fm 8 (fPp cs pq PV), fm 13 (fTx cs tq TR TO TF80 TA81)]) hw hi11 hcu12.1 hto64
            have hw : pw D A s.heap _ _ [wd_Ker cs hk kr (fun _ => none) kf ka (gKe pq pz tq rq), fm 13 (fTx cs tq TR TO TF80 TA81), fm 13 (fRw cs rq RR RM RW RF RA RC), fm 8 (fPp cs pq PV)] := hw.sub [0, 2, 3, 1] rfl rfl
            exact pg_iret (v := 1) S hr rfl hlk hAe hw (show 0 ≤ (5 * ndS 13 tq + 4 * ndS 13 rq + ndS 13 RM) from by first | exact oz_86e49526c7 | omega) (show 0 ≤ (9804 * ndS 13 tq + 342 * ndS 13 rq + 36864 * ndS 13 RM) from by first | exact oz_fc3b58e969 | omega) (⟨pz, tq, rq, ka, TR, TO, TF80, TA81, RR, RM, RW, RF, RA, RC, rfl, (show (1 : Int32) = 0 ∨ (1 : Int32) = 1 from by first | exact Or.inl rfl | exact Or.inr rfl | exact z_or (by omega)), (show CuT pq PV tq TO ip hx from hcu), (show KnI pq PV pz tq rq TO TF80 TA81 RW RF from hki), (show RoI ka from hro), (show RmI rq RM from hrm), (show 0 + (5 * ndS 13 tq + 4 * ndS 13 rq + ndS 13 RM) ≤ 5 * ndS 13 tq + 4 * ndS 13 rq + ndS 13 RM from by first | exact oz_9d19b050ad | omega), (show 0 + (9804 * ndS 13 tq + 342 * ndS 13 rq + 36864 * ndS 13 RM) ≤ 9804 * ndS 13 tq + 342 * ndS 13 rq + 36864 * ndS 13 RM from by first | exact oz_b5592d0ae7 | omega)⟩) d_Ker_await_70
          · have nc66 : ¬ ((RF p0.toNatClampNeg) 11).toInt = (0 : Int) := mt (i_eq (x := ((RF p0.toNatClampNeg) 11)) (y := 0)).mpr c66
            refine lv_iload_n S.x S.b d_Ker_await_47 rfl (lv_at hl 0 rfl) ?_
            refine lv_iconst (v := 1) S.x S.b d_Ker_await_48 (by decide) ?_
            refine lv_icmp_ne (tgt := 64) S.x S.b d_Ker_await_49 (by decide) (fun c82 => ?_) (fun c82 => ?_)
            · have nc82 : ¬ ((RF p0.toNatClampNeg) 11).toInt = (1 : Int) := mt (i_eq (x := ((RF p0.toNatClampNeg) 11)) (y := 1)).mpr c82
              refine lv_iload_n S.x S.b d_Ker_await_64 rfl (lv_at hl 0 rfl) ?_
              refine lv_ineg S.x S.b d_Ker_await_65 ?_
              have lr83 := Int32.le_toInt ((RF p0.toNatClampNeg) 11)
              have ur83 := Int32.toInt_lt ((RF p0.toNatClampNeg) 11)
              refine lv_topi (fun z84 ez84 => ?_)
              have lz84 := Int32.le_toInt z84
              have uz84 := Int32.toInt_lt z84
              have hw : pw D A s.heap _ _ [wd_Ker cs hk kr (fun _ => none) kf ka (gKe pq pz tq rq), fm 8 (fPp cs pq PV), fo 13 (fRw cs rq RR RM RW RF RA RC) p0.toNatClampNeg, wd_Raw cs q10 (RR p0.toNatClampNeg) (fun k => if k = 2 then (RM p0.toNatClampNeg) else if k = 4 then (some ((PV j64).r 1)) else none) (RF p0.toNatClampNeg) (RA p0.toNatClampNeg) (fun _ _ => none), nA cs (RM p0.toNatClampNeg) 36864 (RC p0.toNatClampNeg), fm 13 (fTx cs tq TR TO TF TA)] := hw.sub [0, 2, 3, 4, 5, 1] rfl rfl
              have hw : pw D A s.heap _ _ [wd_Ker cs hk kr (fun _ => none) kf ka (gKe pq pz tq rq), fm 8 (fPp cs pq PV), fo 13 (fRw cs rq RR RM RW RF RA RC) p0.toNatClampNeg, wd_Raw cs q10 (RR p0.toNatClampNeg) (fun k => if k = 2 then (RM p0.toNatClampNeg) else if k = 4 then (some ((PV j64).r 1)) else none) (RF p0.toNatClampNeg) (RA p0.toNatClampNeg) (fun _ _ => none), nA cs (RM p0.toNatClampNeg) 36864 (RC p0.toNatClampNeg), fo 13 (fTx cs tq TR TO TF TA) ip, wd_Txp cs hx (TR ip) (fun k => if k = 3 then (some hp1) else none) (TF ip) (TA ip) (fun _ _ => none)] := ftx_out (pr := [wd_Ker cs hk kr (fun _ => none) kf ka (gKe pq pz tq rq), fm 8 (fPp cs pq PV), fo 13 (fRw cs rq RR RM RW RF RA RC) p0.toNatClampNeg, wd_Raw cs q10 (RR p0.toNatClampNeg) (fun k => if k = 2 then (RM p0.toNatClampNeg) else if k = 4 then (some ((PV j64).r 1)) else none) (RF p0.toNatClampNeg) (RA p0.toNatClampNeg) (fun _ _ => none), nA cs (RM p0.toNatClampNeg) 36864 (RC p0.toNatClampNeg)]) hw hip hcu.1 hto1
              have htn85 : TxN ip (TF ip) (TA ip) := hki.2.1 ip hip _ hcu.1
              obtain ⟨lk, ⟨i2, i3⟩, ⟨i4, i5⟩, ⟨i6, i7⟩, i8, ⟨i9, i11⟩, i10, hrt⟩ := htn85.1
              have hid85 := htn85.2.1
              have hch85 := htn85.2.2
              unfold KcI at hch85
              refine px_callv (pr := [wd_Ker cs hk kr (fun _ => none) kf ka (gKe pq pz tq rq), fm 8 (fPp cs pq PV), fo 13 (fRw cs rq RR RM RW RF RA RC) p0.toNatClampNeg, wd_Raw cs q10 (RR p0.toNatClampNeg) (fun k => if k = 2 then (RM p0.toNatClampNeg) else if k = 4 then (some ((PV j64).r 1)) else none) (RF p0.toNatClampNeg) (RA p0.toNatClampNeg) (fun _ _ => none), nA cs (RM p0.toNatClampNeg) 36864 (RC p0.toNatClampNeg), fo 13 (fTx cs tq TR TO TF TA) ip]) (px_runA (As := [.int z84]) (rest := []) S (c_Txp_answer l D cs hx (TR ip) (fun _ _ => none) hp1 (TF ip) (TA ip) z84  (show TxOk ((TF ip) 4) ((TF ip) 5) ((TF ip) 8) ((TF ip) 9) ((TF ip) 17) 0 ((TA ip) 2) from ⟨(by first | exact lk | exact lk_eq lk (by omega) | exact lk_mk (by omega)), ⟨by omega, by omega⟩, ⟨by omega, by omega⟩, ⟨by omega, by omega⟩, by omega, ⟨by decide, by decide⟩, (by show _ + _ + (0 : Int) ≤ 100; omega), hrt⟩) _) hT (pr := [wd_Ker cs hk kr (fun _ => none) kf ka (gKe pq pz tq rq), fm 8 (fPp cs pq PV), fo 13 (fRw cs rq RR RM RW RF RA RC) p0.toNatClampNeg, wd_Raw cs q10 (RR p0.toNatClampNeg) (fun k => if k = 2 then (RM p0.toNatClampNeg) else if k = 4 then (some ((PV j64).r 1)) else none) (RF p0.toNatClampNeg) (RA p0.toNatClampNeg) (fun _ _ => none), nA cs (RM p0.toNatClampNeg) 36864 (RC p0.toNatClampNeg), fo 13 (fTx cs tq TR TO TF TA) ip]) (pcs := [wd_Txp cs hx (TR ip) (fun k => if k = 3 then (some hp1) else none) (TF ip) (TA ip) (fun _ _ => none)]) hw px_X.tt (C := "HomeSystem$TextProcess") (owner := "HomeSystem$AnyProcess") (x := ⟨"HomeSystem$AnyProcess", "answer", "(I)V"⟩) (px_recv hT hw 6 0 rfl rfl rfl) m8_75 m8_67 m8_69 m8_74 m8_73 m1_35 m8_68n ⟨by decide, by decide⟩ rfl q_Txp_answer ⟨Nat.le_of_ble_eq_true rfl, Nat.le_of_ble_eq_true rfl⟩ hl.1 rfl (Nat.le_of_ble_eq_true rfl) d_Ker_await_66 ⟨show 0 + 0 ≤ (5 * ndS 13 tq + 4 * ndS 13 rq + ndS 13 RM) from by first | with_reducible rfl | with_reducible assumption | omega, show 0 + 0 ≤ (9804 * ndS 13 tq + 342 * ndS 13 rq + 36864 * ndS 13 RM) from by first | with_reducible rfl | with_reducible assumption | omega⟩) hw hA (fun p90 H locs hp90 hw => ?_)
              obtain ⟨f88, a89, rfl, e92, e93, e94, e95, e96, e97⟩ := hp90
              replace e92 : TxOk (f88 4) (f88 5) (f88 8) (f88 9) (f88 17) (f88 21) (a89 2) := e92
              obtain ⟨lk, ⟨i2, i3⟩, ⟨i4, i5⟩, ⟨i6, i7⟩, i8, ⟨i9, i11⟩, i10, hrt⟩ := e92
              replace e93 : (f88 9).toInt = ((TF ip) 9).toInt := e93
              replace e94 : (f88 17).toInt = ((TF ip) 17).toInt := e94
              replace e95 : (f88 21).toInt = 0 := e95
              replace e96 : (f88 15).toInt = ((TF ip) 15).toInt := e96
              replace e97 : (f88 20).toInt = ((TF ip) 20).toInt := e97
              replace hw : pw D A s.heap H locs [wd_Ker cs hk kr (fun _ => none) kf ka (gKe pq pz tq rq), fm 8 (fPp cs pq PV), fo 13 (fRw cs rq RR RM RW RF RA RC) p0.toNatClampNeg, wd_Raw cs q10 (RR p0.toNatClampNeg) (fun k => if k = 2 then (RM p0.toNatClampNeg) else if k = 4 then (some ((PV j64).r 1)) else none) (RF p0.toNatClampNeg) (RA p0.toNatClampNeg) (fun _ _ => none), nA cs (RM p0.toNatClampNeg) 36864 (RC p0.toNatClampNeg), fo 13 (fTx cs tq TR TO TF TA) ip, wd_Txp cs hx (TR ip) (fun k => if k = 3 then (some hp1) else none) f88 a89 (fun _ _ => none)] := hw
              refine lv_iconst (v := 1) S.x S.b d_Ker_await_69 (by decide) ?_
              have hw := ftx_in0 (pr := [wd_Ker cs hk kr (fun _ => none) kf ka (gKe pq pz tq rq), fm 8 (fPp cs pq PV), fo 13 (fRw cs rq RR RM RW RF RA RC) p0.toNatClampNeg, wd_Raw cs q10 (RR p0.toNatClampNeg) (fun k => if k = 2 then (RM p0.toNatClampNeg) else if k = 4 then (some ((PV j64).r 1)) else none) (RF p0.toNatClampNeg) (RA p0.toNatClampNeg) (fun _ _ => none), nA cs (RM p0.toNatClampNeg) 36864 (RC p0.toNatClampNeg)]) hw hip hcu.1 hto1
              obtain ⟨TF98, hu_TF98⟩ : ∃ y : Nat → Nat → Int32, y = va_up TF ip f88 := ⟨_, rfl⟩
              obtain ⟨TA99, hu_TA99⟩ : ∃ y : Nat → Nat → Nat → Int32, y = va_up TA ip a89 := ⟨_, rfl⟩
              have hw : pw D A s.heap _ _ [wd_Ker cs hk kr (fun _ => none) kf ka (gKe pq pz tq rq), fm 8 (fPp cs pq PV), fo 13 (fRw cs rq RR RM RW RF RA RC) p0.toNatClampNeg, wd_Raw cs q10 (RR p0.toNatClampNeg) (fun k => if k = 2 then (RM p0.toNatClampNeg) else if k = 4 then (some ((PV j64).r 1)) else none) (RF p0.toNatClampNeg) (RA p0.toNatClampNeg) (fun _ _ => none), nA cs (RM p0.toNatClampNeg) 36864 (RC p0.toNatClampNeg), fm 13 (fTx cs tq TR TO TF98 TA99)] := (by rw [hu_TF98, hu_TA99]; exact hw)
              have hki : KnI pq PV pz tq rq TO TF98 TA99 RW RF := (by rw [hu_TF98, hu_TA99]; exact hki.upT (show TxN ip f88 a89 from ⟨(show TxOk (f88 4) (f88 5) (f88 8) (f88 9) (f88 17) (f88 21) (a89 2) from ⟨(by first | exact lk | exact lk_eq lk (by omega) | exact lk_mk (by omega)), ⟨by omega, by omega⟩, ⟨by omega, by omega⟩, ⟨by omega, by omega⟩, by omega, ⟨by omega, by omega⟩, by omega, hrt⟩), (show ((f88 15).toInt) = ((ip : Nat) : Int) from by first | with_reducible rfl | with_reducible assumption | omega), (show 0 ≤ (f88 20).toInt ∧ (f88 20).toInt ≤ 3 ∧ ((f88 20).toInt = 0 ∨ 3 * ((ip : Nat) : Int) + (f88 20).toInt ≤ 12) from by first | with_reducible rfl | with_reducible assumption | omega)⟩))
              have hz21_TF98 : (TF98 ip 21).toInt = (f88 21).toInt := (by rw [hu_TF98, va_up_s]; try rfl)
              have hw : pw D A s.heap _ _ [wd_Ker cs hk kr (fun _ => none) kf ka (gKe pq pz tq rq), fm 8 (fPp cs pq PV), fm 13 (fTx cs tq TR TO TF98 TA99), fo 13 (fRw cs rq RR RM RW RF RA RC) p0.toNatClampNeg, wd_Raw cs q10 (RR p0.toNatClampNeg) (fun k => if k = 2 then (RM p0.toNatClampNeg) else if k = 4 then (some ((PV j64).r 1)) else none) (RF p0.toNatClampNeg) (RA p0.toNatClampNeg) (fun _ _ => none), nA cs (RM p0.toNatClampNeg) 36864 (RC p0.toNatClampNeg)] := hw.sub [0, 1, 5, 2, 3, 4] rfl rfl
              have hw : pw D A s.heap _ _ [wd_Ker cs hk kr (fun _ => none) kf ka (gKe pq pz tq rq), fm 8 (fPp cs pq PV), fm 13 (fTx cs tq TR TO TF98 TA99), fm 13 (fRw cs rq RR RM RW RF RA RC)] := frw_back (pr := [wd_Ker cs hk kr (fun _ => none) kf ka (gKe pq pz tq rq), fm 8 (fPp cs pq PV), fm 13 (fTx cs tq TR TO TF98 TA99)]) hw hi11 hcu12.1 hto64
              have hw : pw D A s.heap _ _ [wd_Ker cs hk kr (fun _ => none) kf ka (gKe pq pz tq rq), fm 13 (fTx cs tq TR TO TF98 TA99), fm 13 (fRw cs rq RR RM RW RF RA RC), fm 8 (fPp cs pq PV)] := hw.sub [0, 2, 3, 1] rfl rfl
              exact pg_iret (v := 1) S hr rfl hlk hAe hw (show 0 ≤ (5 * ndS 13 tq + 4 * ndS 13 rq + ndS 13 RM) from by first | exact oz_86e49526c7 | omega) (show 0 ≤ (9804 * ndS 13 tq + 342 * ndS 13 rq + 36864 * ndS 13 RM) from by first | exact oz_fc3b58e969 | omega) (⟨pz, tq, rq, ka, TR, TO, TF98, TA99, RR, RM, RW, RF, RA, RC, rfl, (show (1 : Int32) = 0 ∨ (1 : Int32) = 1 from by first | exact Or.inl rfl | exact Or.inr rfl | exact z_or (by omega)), (show CuT pq PV tq TO ip hx from hcu), (show KnI pq PV pz tq rq TO TF98 TA99 RW RF from hki), (show RoI ka from hro), (show RmI rq RM from hrm), (show 0 + (5 * ndS 13 tq + 4 * ndS 13 rq + ndS 13 RM) ≤ 5 * ndS 13 tq + 4 * ndS 13 rq + ndS 13 RM from by first | exact oz_9d19b050ad | omega), (show 0 + (9804 * ndS 13 tq + 342 * ndS 13 rq + 36864 * ndS 13 RM) ≤ 9804 * ndS 13 tq + 342 * ndS 13 rq + 36864 * ndS 13 RM from by first | exact oz_b5592d0ae7 | omega)⟩) d_Ker_await_70
            · have nc82 : ((RF p0.toNatClampNeg) 11).toInt = (1 : Int) := (i_eq (x := ((RF p0.toNatClampNeg) 11)) (y := 1)).mp c82
              refine lv_aload_n S.x S.b d_Ker_await_52 rfl (lv_at hl 1 rfl) ?_
              refine px_get S k_Ker hT hw 0 0 2 (v := .ref (kr 2)) rfl rfl rfl (by decide) m2_222 d_Ker_await_53 ?_
              refine lv_iload_n S.x S.b d_Ker_await_56 rfl (lv_at hl 3 rfl) ?_
              refine px_aaldS S hT hw 0 3 6 (n := 13) (f := pz) rfl rfl rfl (x := p0) (vp_in_iff.mpr (by first | exact oz_3859d57d28 hc11 hi11 | (constructor <;> omega))) (sk := q10) hr11 d_Ker_await_57 ?_
              refine px_get S k_Raw hT hw 4 0 12 (v := .int ((RF p0.toNatClampNeg) 12)) rfl rfl rfl (by decide) m6_146 d_Ker_await_58 ?_
              refine lv_goto (tgt := 66) S.x S.b d_Ker_await_61 (by decide) ?_
              have hw : pw D A s.heap _ _ [wd_Ker cs hk kr (fun _ => none) kf ka (gKe pq pz tq rq), fm 8 (fPp cs pq PV), fo 13 (fRw cs rq RR RM RW RF RA RC) p0.toNatClampNeg, wd_Raw cs q10 (RR p0.toNatClampNeg) (fun k => if k = 2 then (RM p0.toNatClampNeg) else if k = 4 then (some ((PV j64).r 1)) else none) (RF p0.toNatClampNeg) (RA p0.toNatClampNeg) (fun _ _ => none), nA cs (RM p0.toNatClampNeg) 36864 (RC p0.toNatClampNeg), fm 13 (fTx cs tq TR TO TF TA)] := hw.sub [0, 2, 3, 4, 5, 1] rfl rfl
              have hw : pw D A s.heap _ _ [wd_Ker cs hk kr (fun _ => none) kf ka (gKe pq pz tq rq), fm 8 (fPp cs pq PV), fo 13 (fRw cs rq RR RM RW RF RA RC) p0.toNatClampNeg, wd_Raw cs q10 (RR p0.toNatClampNeg) (fun k => if k = 2 then (RM p0.toNatClampNeg) else if k = 4 then (some ((PV j64).r 1)) else none) (RF p0.toNatClampNeg) (RA p0.toNatClampNeg) (fun _ _ => none), nA cs (RM p0.toNatClampNeg) 36864 (RC p0.toNatClampNeg), fo 13 (fTx cs tq TR TO TF TA) ip, wd_Txp cs hx (TR ip) (fun k => if k = 3 then (some hp1) else none) (TF ip) (TA ip) (fun _ _ => none)] := ftx_out (pr := [wd_Ker cs hk kr (fun _ => none) kf ka (gKe pq pz tq rq), fm 8 (fPp cs pq PV), fo 13 (fRw cs rq RR RM RW RF RA RC) p0.toNatClampNeg, wd_Raw cs q10 (RR p0.toNatClampNeg) (fun k => if k = 2 then (RM p0.toNatClampNeg) else if k = 4 then (some ((PV j64).r 1)) else none) (RF p0.toNatClampNeg) (RA p0.toNatClampNeg) (fun _ _ => none), nA cs (RM p0.toNatClampNeg) 36864 (RC p0.toNatClampNeg)]) hw hip hcu.1 hto1
              have htn100 : TxN ip (TF ip) (TA ip) := hki.2.1 ip hip _ hcu.1
              obtain ⟨lk, ⟨i2, i3⟩, ⟨i4, i5⟩, ⟨i6, i7⟩, i8, ⟨i9, i11⟩, i10, hrt⟩ := htn100.1
              have hid100 := htn100.2.1
              have hch100 := htn100.2.2
              unfold KcI at hch100
              refine px_callv (pr := [wd_Ker cs hk kr (fun _ => none) kf ka (gKe pq pz tq rq), fm 8 (fPp cs pq PV), fo 13 (fRw cs rq RR RM RW RF RA RC) p0.toNatClampNeg, wd_Raw cs q10 (RR p0.toNatClampNeg) (fun k => if k = 2 then (RM p0.toNatClampNeg) else if k = 4 then (some ((PV j64).r 1)) else none) (RF p0.toNatClampNeg) (RA p0.toNatClampNeg) (fun _ _ => none), nA cs (RM p0.toNatClampNeg) 36864 (RC p0.toNatClampNeg), fo 13 (fTx cs tq TR TO TF TA) ip]) (px_runA (As := [.int ((RF p0.toNatClampNeg) 12)]) (rest := []) S (c_Txp_answer l D cs hx (TR ip) (fun _ _ => none) hp1 (TF ip) (TA ip) ((RF p0.toNatClampNeg) 12)  (show TxOk ((TF ip) 4) ((TF ip) 5) ((TF ip) 8) ((TF ip) 9) ((TF ip) 17) 0 ((TA ip) 2) from ⟨(by first | exact lk | exact lk_eq lk (by omega) | exact lk_mk (by omega)), ⟨by omega, by omega⟩, ⟨by omega, by omega⟩, ⟨by omega, by omega⟩, by omega, ⟨by decide, by decide⟩, (by show _ + _ + (0 : Int) ≤ 100; omega), hrt⟩) _) hT (pr := [wd_Ker cs hk kr (fun _ => none) kf ka (gKe pq pz tq rq), fm 8 (fPp cs pq PV), fo 13 (fRw cs rq RR RM RW RF RA RC) p0.toNatClampNeg, wd_Raw cs q10 (RR p0.toNatClampNeg) (fun k => if k = 2 then (RM p0.toNatClampNeg) else if k = 4 then (some ((PV j64).r 1)) else none) (RF p0.toNatClampNeg) (RA p0.toNatClampNeg) (fun _ _ => none), nA cs (RM p0.toNatClampNeg) 36864 (RC p0.toNatClampNeg), fo 13 (fTx cs tq TR TO TF TA) ip]) (pcs := [wd_Txp cs hx (TR ip) (fun k => if k = 3 then (some hp1) else none) (TF ip) (TA ip) (fun _ _ => none)]) hw px_X.tt (C := "HomeSystem$TextProcess") (owner := "HomeSystem$AnyProcess") (x := ⟨"HomeSystem$AnyProcess", "answer", "(I)V"⟩) (px_recv hT hw 6 0 rfl rfl rfl) m8_75 m8_67 m8_69 m8_74 m8_73 m1_35 m8_68n ⟨by decide, by decide⟩ rfl q_Txp_answer ⟨Nat.le_of_ble_eq_true rfl, Nat.le_of_ble_eq_true rfl⟩ hl.1 rfl (Nat.le_of_ble_eq_true rfl) d_Ker_await_66 ⟨show 0 + 0 ≤ (5 * ndS 13 tq + 4 * ndS 13 rq + ndS 13 RM) from by first | with_reducible rfl | with_reducible assumption | omega, show 0 + 0 ≤ (9804 * ndS 13 tq + 342 * ndS 13 rq + 36864 * ndS 13 RM) from by first | with_reducible rfl | with_reducible assumption | omega⟩) hw hA (fun p105 H locs hp105 hw => ?_)
              obtain ⟨f103, a104, rfl, e107, e108, e109, e110, e111, e112⟩ := hp105
              replace e107 : TxOk (f103 4) (f103 5) (f103 8) (f103 9) (f103 17) (f103 21) (a104 2) := e107
              obtain ⟨lk, ⟨i2, i3⟩, ⟨i4, i5⟩, ⟨i6, i7⟩, i8, ⟨i9, i11⟩, i10, hrt⟩ := e107
              replace e108 : (f103 9).toInt = ((TF ip) 9).toInt := e108
              replace e109 : (f103 17).toInt = ((TF ip) 17).toInt := e109
              replace e110 : (f103 21).toInt = 0 := e110
              replace e111 : (f103 15).toInt = ((TF ip) 15).toInt := e111
              replace e112 : (f103 20).toInt = ((TF ip) 20).toInt := e112
              replace hw : pw D A s.heap H locs [wd_Ker cs hk kr (fun _ => none) kf ka (gKe pq pz tq rq), fm 8 (fPp cs pq PV), fo 13 (fRw cs rq RR RM RW RF RA RC) p0.toNatClampNeg, wd_Raw cs q10 (RR p0.toNatClampNeg) (fun k => if k = 2 then (RM p0.toNatClampNeg) else if k = 4 then (some ((PV j64).r 1)) else none) (RF p0.toNatClampNeg) (RA p0.toNatClampNeg) (fun _ _ => none), nA cs (RM p0.toNatClampNeg) 36864 (RC p0.toNatClampNeg), fo 13 (fTx cs tq TR TO TF TA) ip, wd_Txp cs hx (TR ip) (fun k => if k = 3 then (some hp1) else none) f103 a104 (fun _ _ => none)] := hw
              refine lv_iconst (v := 1) S.x S.b d_Ker_await_69 (by decide) ?_
              have hw := ftx_in0 (pr := [wd_Ker cs hk kr (fun _ => none) kf ka (gKe pq pz tq rq), fm 8 (fPp cs pq PV), fo 13 (fRw cs rq RR RM RW RF RA RC) p0.toNatClampNeg, wd_Raw cs q10 (RR p0.toNatClampNeg) (fun k => if k = 2 then (RM p0.toNatClampNeg) else if k = 4 then (some ((PV j64).r 1)) else none) (RF p0.toNatClampNeg) (RA p0.toNatClampNeg) (fun _ _ => none), nA cs (RM p0.toNatClampNeg) 36864 (RC p0.toNatClampNeg)]) hw hip hcu.1 hto1
              obtain ⟨TF113, hu_TF113⟩ : ∃ y : Nat → Nat → Int32, y = va_up TF ip f103 := ⟨_, rfl⟩
              obtain ⟨TA114, hu_TA114⟩ : ∃ y : Nat → Nat → Nat → Int32, y = va_up TA ip a104 := ⟨_, rfl⟩
              have hw : pw D A s.heap _ _ [wd_Ker cs hk kr (fun _ => none) kf ka (gKe pq pz tq rq), fm 8 (fPp cs pq PV), fo 13 (fRw cs rq RR RM RW RF RA RC) p0.toNatClampNeg, wd_Raw cs q10 (RR p0.toNatClampNeg) (fun k => if k = 2 then (RM p0.toNatClampNeg) else if k = 4 then (some ((PV j64).r 1)) else none) (RF p0.toNatClampNeg) (RA p0.toNatClampNeg) (fun _ _ => none), nA cs (RM p0.toNatClampNeg) 36864 (RC p0.toNatClampNeg), fm 13 (fTx cs tq TR TO TF113 TA114)] := (by rw [hu_TF113, hu_TA114]; exact hw)
              have hki : KnI pq PV pz tq rq TO TF113 TA114 RW RF := (by rw [hu_TF113, hu_TA114]; exact hki.upT (show TxN ip f103 a104 from ⟨(show TxOk (f103 4) (f103 5) (f103 8) (f103 9) (f103 17) (f103 21) (a104 2) from ⟨(by first | exact lk | exact lk_eq lk (by omega) | exact lk_mk (by omega)), ⟨by omega, by omega⟩, ⟨by omega, by omega⟩, ⟨by omega, by omega⟩, by omega, ⟨by omega, by omega⟩, by omega, hrt⟩), (show ((f103 15).toInt) = ((ip : Nat) : Int) from by first | with_reducible rfl | with_reducible assumption | omega), (show 0 ≤ (f103 20).toInt ∧ (f103 20).toInt ≤ 3 ∧ ((f103 20).toInt = 0 ∨ 3 * ((ip : Nat) : Int) + (f103 20).toInt ≤ 12) from by first | with_reducible rfl | with_reducible assumption | omega)⟩))
              have hz21_TF113 : (TF113 ip 21).toInt = (f103 21).toInt := (by rw [hu_TF113, va_up_s]; try rfl)
              have hw : pw D A s.heap _ _ [wd_Ker cs hk kr (fun _ => none) kf ka (gKe pq pz tq rq), fm 8 (fPp cs pq PV), fm 13 (fTx cs tq TR TO TF113 TA114), fo 13 (fRw cs rq RR RM RW RF RA RC) p0.toNatClampNeg, wd_Raw cs q10 (RR p0.toNatClampNeg) (fun k => if k = 2 then (RM p0.toNatClampNeg) else if k = 4 then (some ((PV j64).r 1)) else none) (RF p0.toNatClampNeg) (RA p0.toNatClampNeg) (fun _ _ => none), nA cs (RM p0.toNatClampNeg) 36864 (RC p0.toNatClampNeg)] := hw.sub [0, 1, 5, 2, 3, 4] rfl rfl
              have hw : pw D A s.heap _ _ [wd_Ker cs hk kr (fun _ => none) kf ka (gKe pq pz tq rq), fm 8 (fPp cs pq PV), fm 13 (fTx cs tq TR TO TF113 TA114), fm 13 (fRw cs rq RR RM RW RF RA RC)] := frw_back (pr := [wd_Ker cs hk kr (fun _ => none) kf ka (gKe pq pz tq rq), fm 8 (fPp cs pq PV), fm 13 (fTx cs tq TR TO TF113 TA114)]) hw hi11 hcu12.1 hto64
              have hw : pw D A s.heap _ _ [wd_Ker cs hk kr (fun _ => none) kf ka (gKe pq pz tq rq), fm 13 (fTx cs tq TR TO TF113 TA114), fm 13 (fRw cs rq RR RM RW RF RA RC), fm 8 (fPp cs pq PV)] := hw.sub [0, 2, 3, 1] rfl rfl
              exact pg_iret (v := 1) S hr rfl hlk hAe hw (show 0 ≤ (5 * ndS 13 tq + 4 * ndS 13 rq + ndS 13 RM) from by first | exact oz_86e49526c7 | omega) (show 0 ≤ (9804 * ndS 13 tq + 342 * ndS 13 rq + 36864 * ndS 13 RM) from by first | exact oz_fc3b58e969 | omega) (⟨pz, tq, rq, ka, TR, TO, TF113, TA114, RR, RM, RW, RF, RA, RC, rfl, (show (1 : Int32) = 0 ∨ (1 : Int32) = 1 from by first | exact Or.inl rfl | exact Or.inr rfl | exact z_or (by omega)), (show CuT pq PV tq TO ip hx from hcu), (show KnI pq PV pz tq rq TO TF113 TA114 RW RF from hki), (show RoI ka from hro), (show RmI rq RM from hrm), (show 0 + (5 * ndS 13 tq + 4 * ndS 13 rq + ndS 13 RM) ≤ 5 * ndS 13 tq + 4 * ndS 13 rq + ndS 13 RM from by first | exact oz_9d19b050ad | omega), (show 0 + (9804 * ndS 13 tq + 342 * ndS 13 rq + 36864 * ndS 13 RM) ≤ 9804 * ndS 13 tq + 342 * ndS 13 rq + 36864 * ndS 13 RM from by first | exact oz_b5592d0ae7 | omega)⟩) d_Ker_await_70
      ·
        subst c9
        have nd0_c9 := nd_0
        have hc115 := cl_nat (x := p0) (by first | exact oz_016f458179 hc115 | omega)
        have hi115 : p0.toNatClampNeg < 13 := by first | exact oz_50e7088b63 hc115 g0 | omega
        have hr115 := hy8.symm
        refine lv_iconst (v := 0) S.x S.b d_Ker_await_30 (by decide) ?_
        exact pg_iret (v := 0) S hr rfl hlk hAe hw (show 0 ≤ (5 * ndS 13 tq + 4 * ndS 13 rq + ndS 13 RM) from by first | exact oz_86e49526c7 | omega) (show 0 ≤ (9804 * ndS 13 tq + 342 * ndS 13 rq + 36864 * ndS 13 RM) from by first | exact oz_fc3b58e969 | omega) (⟨pz, tq, rq, ka, TR, TO, TF, TA, RR, RM, RW, RF, RA, RC, rfl, (show (0 : Int32) = 0 ∨ (0 : Int32) = 1 from by first | exact Or.inl rfl | exact Or.inr rfl | exact z_or (by omega)), (show CuT pq PV tq TO ip hx from hcu), (show KnI pq PV pz tq rq TO TF TA RW RF from hki), (show RoI ka from hro), (show RmI rq RM from hrm), (show 0 + (5 * ndS 13 tq + 4 * ndS 13 rq + ndS 13 RM) ≤ 5 * ndS 13 tq + 4 * ndS 13 rq + ndS 13 RM from by first | exact oz_9d19b050ad | omega), (show 0 + (9804 * ndS 13 tq + 342 * ndS 13 rq + 36864 * ndS 13 RM) ≤ 9804 * ndS 13 tq + 342 * ndS 13 rq + 36864 * ndS 13 RM from by first | exact oz_b5592d0ae7 | omega)⟩) d_Ker_await_31
  · have nc2 : p0.toInt = (-1 : Int) := (i_eq (x := p0) (y := (-1))).mp c2
    refine lv_aload_n S.x S.b d_Ker_await_5 rfl (lv_at hl 1 rfl) ?_
    refine lv_iconst (v := 2) S.x S.b d_Ker_await_6 (by decide) ?_
    refine lv_iconst (v := 0) S.x S.b d_Ker_await_7 (by decide) ?_
    have hw : pw D A s.heap _ _ [wd_Ker cs hk kr (fun _ => none) kf ka (gKe pq pz tq rq), fm 13 (fRw cs rq RR RM RW RF RA RC), fm 8 (fPp cs pq PV), fm 13 (fTx cs tq TR TO TF TA)] := hw.sub [0, 2, 3, 1] rfl rfl
    have hw : pw D A s.heap _ _ [wd_Ker cs hk kr (fun _ => none) kf ka (gKe pq pz tq rq), fm 13 (fRw cs rq RR RM RW RF RA RC), fm 8 (fPp cs pq PV), fo 13 (fTx cs tq TR TO TF TA) ip, wd_Txp cs hx (TR ip) (fun k => if k = 3 then (some hp1) else none) (TF ip) (TA ip) (fun _ _ => none)] := ftx_out (pr := [wd_Ker cs hk kr (fun _ => none) kf ka (gKe pq pz tq rq), fm 13 (fRw cs rq RR RM RW RF RA RC), fm 8 (fPp cs pq PV)]) hw hip hcu.1 hto1
    have htn116 : TxN ip (TF ip) (TA ip) := hki.2.1 ip hip _ hcu.1
    obtain ⟨lk, ⟨i2, i3⟩, ⟨i4, i5⟩, ⟨i6, i7⟩, i8, ⟨i9, i11⟩, i10, hrt⟩ := htn116.1
    have hid116 := htn116.2.1
    have hch116 := htn116.2.2
    unfold KcI at hch116
    refine px_callv (pr := [wd_Ker cs hk kr (fun _ => none) kf ka (gKe pq pz tq rq), fm 13 (fRw cs rq RR RM RW RF RA RC), fm 8 (fPp cs pq PV), fo 13 (fTx cs tq TR TO TF TA) ip]) (px_runU (As := [.int 2, .int 0]) (rest := []) S (c_finish_Txp l D cs hx (TR ip) (fun _ _ => none) hp1 (TF ip) (TA ip) 2 0  (show TxOk ((TF ip) 4) ((TF ip) 5) ((TF ip) 8) ((TF ip) 9) ((TF ip) 17) ((TF ip) 21) ((TA ip) 2) from ⟨(by first | exact lk | exact lk_eq lk (by omega) | exact lk_mk (by omega)), ⟨by omega, by omega⟩, ⟨by omega, by omega⟩, ⟨by omega, by omega⟩, by omega, ⟨by first | exact oz_1b364b1c5f g1 | omega, by first | exact oz_02032f9386 g1 | omega⟩, by omega, hrt⟩) _) hT (pr := [wd_Ker cs hk kr (fun _ => none) kf ka (gKe pq pz tq rq), fm 13 (fRw cs rq RR RM RW RF RA RC), fm 8 (fPp cs pq PV), fo 13 (fTx cs tq TR TO TF TA) ip]) (pcs := [wd_Txp cs hx (TR ip) (fun k => if k = 3 then (some hp1) else none) (TF ip) (TA ip) (fun _ _ => none)]) hw px_X.tt (C := "HomeSystem$TextProcess") (x := ⟨"HomeSystem$AnyProcess", "finish", "(II)V"⟩) (px_recv hT hw 4 0 rfl rfl rfl) m8_89 m8_84 m8_86 m8_85 m8_88 m1_33 rfl q_HomeSystem_AnyProcess_finish ⟨Nat.le_of_ble_eq_true rfl, Nat.le_of_ble_eq_true rfl⟩ hl.1 rfl (Nat.le_of_ble_eq_true rfl) d_Ker_await_8 ⟨show 0 + 0 ≤ (5 * ndS 13 tq + 4 * ndS 13 rq + ndS 13 RM) from by first | with_reducible rfl | with_reducible assumption | omega, show 0 + 0 ≤ (9804 * ndS 13 tq + 342 * ndS 13 rq + 36864 * ndS 13 RM) from by first | with_reducible rfl | with_reducible assumption | omega⟩) hw hA (fun p119 H locs hp119 hw => ?_)
    obtain ⟨f117, a118, rfl, h126, e121, e122, e123, e124, e125⟩ := hp119
    obtain ⟨lk, ⟨i2, i3⟩, ⟨i4, i5⟩, ⟨i6, i7⟩, i8, ⟨i9, i11⟩, i10, hrt⟩ := h126
    replace e121 : (f117 9).toInt = ((TF ip) 9).toInt := e121
    replace e122 : (f117 17).toInt = ((TF ip) 17).toInt := e122
    replace e123 : (f117 21).toInt = 0 := e123
    replace e124 : (f117 15).toInt = ((TF ip) 15).toInt := e124
    replace e125 : (f117 20).toInt = ((TF ip) 20).toInt := e125
    replace hw : pw D A s.heap H locs [wd_Ker cs hk kr (fun _ => none) kf ka (gKe pq pz tq rq), fm 13 (fRw cs rq RR RM RW RF RA RC), fm 8 (fPp cs pq PV), fo 13 (fTx cs tq TR TO TF TA) ip, wd_Txp cs hx (TR ip) (fun k => if k = 3 then (some hp1) else none) f117 a118 (fun _ _ => none)] := hw
    refine lv_iconst (v := 1) S.x S.b d_Ker_await_11 (by decide) ?_
    have hw := ftx_in0 (pr := [wd_Ker cs hk kr (fun _ => none) kf ka (gKe pq pz tq rq), fm 13 (fRw cs rq RR RM RW RF RA RC), fm 8 (fPp cs pq PV)]) hw hip hcu.1 hto1
    obtain ⟨TF127, hu_TF127⟩ : ∃ y : Nat → Nat → Int32, y = va_up TF ip f117 := ⟨_, rfl⟩
    obtain ⟨TA128, hu_TA128⟩ : ∃ y : Nat → Nat → Nat → Int32, y = va_up TA ip a118 := ⟨_, rfl⟩
    have hw : pw D A s.heap _ _ [wd_Ker cs hk kr (fun _ => none) kf ka (gKe pq pz tq rq), fm 13 (fRw cs rq RR RM RW RF RA RC), fm 8 (fPp cs pq PV), fm 13 (fTx cs tq TR TO TF127 TA128)] := (by rw [hu_TF127, hu_TA128]; exact hw)
    have hki : KnI pq PV pz tq rq TO TF127 TA128 RW RF := (by rw [hu_TF127, hu_TA128]; exact hki.upT (show TxN ip f117 a118 from ⟨(show TxOk (f117 4) (f117 5) (f117 8) (f117 9) (f117 17) (f117 21) (a118 2) from ⟨(by first | exact lk | exact lk_eq lk (by omega) | exact lk_mk (by omega)), ⟨by omega, by omega⟩, ⟨by omega, by omega⟩, ⟨by omega, by omega⟩, by omega, ⟨by omega, by omega⟩, by omega, hrt⟩), (show ((f117 15).toInt) = ((ip : Nat) : Int) from by first | with_reducible rfl | with_reducible assumption | omega), (show 0 ≤ (f117 20).toInt ∧ (f117 20).toInt ≤ 3 ∧ ((f117 20).toInt = 0 ∨ 3 * ((ip : Nat) : Int) + (f117 20).toInt ≤ 12) from by first | with_reducible rfl | with_reducible assumption | omega)⟩))
    have hz21_TF127 : (TF127 ip 21).toInt = (f117 21).toInt := (by rw [hu_TF127, va_up_s]; try rfl)
    have hw : pw D A s.heap _ _ [wd_Ker cs hk kr (fun _ => none) kf ka (gKe pq pz tq rq), fm 13 (fTx cs tq TR TO TF127 TA128), fm 13 (fRw cs rq RR RM RW RF RA RC), fm 8 (fPp cs pq PV)] := hw.sub [0, 3, 1, 2] rfl rfl
    exact pg_iret (v := 1) S hr rfl hlk hAe hw (show 0 ≤ (5 * ndS 13 tq + 4 * ndS 13 rq + ndS 13 RM) from by first | exact oz_86e49526c7 | omega) (show 0 ≤ (9804 * ndS 13 tq + 342 * ndS 13 rq + 36864 * ndS 13 RM) from by first | exact oz_fc3b58e969 | omega) (⟨pz, tq, rq, ka, TR, TO, TF127, TA128, RR, RM, RW, RF, RA, RC, rfl, (show (1 : Int32) = 0 ∨ (1 : Int32) = 1 from by first | exact Or.inl rfl | exact Or.inr rfl | exact z_or (by omega)), (show CuT pq PV tq TO ip hx from hcu), (show KnI pq PV pz tq rq TO TF127 TA128 RW RF from hki), (show RoI ka from hro), (show RmI rq RM from hrm), (show 0 + (5 * ndS 13 tq + 4 * ndS 13 rq + ndS 13 RM) ≤ 5 * ndS 13 tq + 4 * ndS 13 rq + ndS 13 RM from by first | exact oz_9d19b050ad | omega), (show 0 + (9804 * ndS 13 tq + 342 * ndS 13 rq + 36864 * ndS 13 RM) ≤ 9804 * ndS 13 tq + 342 * ndS 13 rq + 36864 * ndS 13 RM from by first | exact oz_b5592d0ae7 | omega)⟩) d_Ker_await_12
set_option maxHeartbeats 4000000 in
set_option maxRecDepth 100000 in
theorem c_k_await_R (l : Launch) (D : va_G) (cs : Nat → ClassId) (hk : Nat) (kr : Nat → Nat) (pq : Nat → Option Nat) (kf : Nat → Int32) (PV : Nat → Pvs) (pz : Nat → Option Nat) (tq : Nat → Option Nat) (rq : Nat → Option Nat) (ka : Nat → Nat → Int32) (TR : Nat → Nat → Nat) (TO : Nat → Option Nat) (TF : Nat → Nat → Int32) (TA : Nat → Nat → Nat → Int32) (RR : Nat → Nat → Nat) (RM : Nat → Option Nat) (RW : Nat → Option Nat) (RF : Nat → Nat → Int32) (RA : Nat → Nat → Nat → Int32) (RC : Nat → Nat → Int32) (p0 : Int32) (ip hx : Nat) (g0 : p0.toInt = -1 ∨ (0 ≤ p0.toInt ∧ p0.toInt ≤ 12)) (g1 : (RF ip 14).toInt = 1) (hki : KnI pq PV pz tq rq TO TF TA RW RF) (hro : RoI ka) (hrm : RmI rq RM) (hip : ip < 13) (hcu : CuR pq PV rq RW ip hx) : MgI l y_Ker_await b_Ker_await 4 (.boolean) D cs 4 160 ((5 * ndS 13 tq + 4 * ndS 13 rq + ndS 13 RM)) ((9804 * ndS 13 tq + 342 * ndS 13 rq + 36864 * ndS 13 RM)) [.ref hk, .ref hx, .int p0] [wd_Ker cs hk kr (fun _ => none) kf ka (gKe pq pz tq rq), fm 13 (fTx cs tq TR TO TF TA), fm 13 (fRw cs rq RR RM RW RF RA RC), fm 8 (fPp cs pq PV)] (fun _ => True) (fun v ps => ∃ (pz' : Nat → Option Nat) (tq' : Nat → Option Nat) (rq' : Nat → Option Nat) (ka' : Nat → Nat → Int32) (TR' : Nat → Nat → Nat) (TO' : Nat → Option Nat) (TF' : Nat → Nat → Int32) (TA' : Nat → Nat → Nat → Int32) (RR' : Nat → Nat → Nat) (RM' : Nat → Option Nat) (RW' : Nat → Option Nat) (RF' : Nat → Nat → Int32) (RA' : Nat → Nat → Nat → Int32) (RC' : Nat → Nat → Int32), (ps.1 = [wd_Ker cs hk kr (fun _ => none) kf ka' (gKe pq pz' tq' rq'), fm 13 (fTx cs tq' TR' TO' TF' TA'), fm 13 (fRw cs rq' RR' RM' RW' RF' RA' RC'), fm 8 (fPp cs pq PV)]) ∧ (v = 0 ∨ v = 1) ∧ (CuR pq PV rq' RW' ip hx) ∧ (KnI pq PV pz' tq' rq' TO' TF' TA' RW' RF') ∧ (RoI ka') ∧ (RmI rq' RM') ∧ (ps.2.1 + (5 * ndS 13 tq' + 4 * ndS 13 rq' + ndS 13 RM') ≤ 5 * ndS 13 tq + 4 * ndS 13 rq + ndS 13 RM) ∧ (ps.2.2 + (9804 * ndS 13 tq' + 342 * ndS 13 rq' + 36864 * ndS 13 RM') ≤ 9804 * ndS 13 tq + 342 * ndS 13 rq + 36864 * ndS 13 RM)) := by
  refine pg_enter (by decide) (Nat.le_of_ble_eq_true rfl) ?_
  intro p e s m below meth c A ls hAe S hr hlk hnm hA hT hX hw hl
  replace hl : lv_has ls 4 [(0, .ref hk), (1, .ref hx), (2, .int p0)] := hl
  have lp0 := Int32.le_toInt p0
  have up0 := Int32.toInt_lt p0
  have cstm1 : ((-1) : Int32).toInt = (-1) := rfl
  have cst0 : (0 : Int32).toInt = 0 := rfl
  have cst1 : (1 : Int32).toInt = 1 := rfl
  have cst2 : (2 : Int32).toInt = 2 := rfl
  refine lv_iload_n S.x S.b d_Ker_await_0 rfl (lv_at hl 2 rfl) ?_
  obtain ⟨j1, hp1, hj1, hjq1, hto1⟩ := hcu.2
  refine lv_iconst (v := (-1)) S.x S.b d_Ker_await_1 (by decide) ?_
  refine lv_icmp_ne (tgt := 13) S.x S.b d_Ker_await_2 (by decide) (fun c2 => ?_) (fun c2 => ?_)
  · have nc2 : ¬ p0.toInt = (-1 : Int) := mt (i_eq (x := p0) (y := (-1))).mpr c2
    refine lv_aload_n S.x S.b d_Ker_await_13 rfl (lv_at hl 0 rfl) ?_
    refine lv_iload_n S.x S.b d_Ker_await_14 rfl (lv_at hl 2 rfl) ?_
    refine px_calli (pr := []) (px_runV (As := [.int p0]) (rest := []) S (c_k_isRunning l D cs hk kr pq pz tq rq kf ka TR TO TF TA RR RM RW RF RA RC PV p0  (show 0 ≤ p0.toInt from by first | with_reducible rfl | with_reducible assumption | omega) (show p0.toInt ≤ 12 from by first | with_reducible rfl | with_reducible assumption | omega) hki _) hT (pr := []) (pcs := [wd_Ker cs hk kr (fun _ => none) kf ka (gKe pq pz tq rq), fm 13 (fTx cs tq TR TO TF TA), fm 13 (fRw cs rq RR RM RW RF RA RC), fm 8 (fPp cs pq PV)]) hw px_X.tt (px_recv hT hw 0 0 rfl rfl rfl) m8_154 m8_151 m8_153 ms_6_1 m1_19 q_Ker_isRunning ⟨Nat.le_of_ble_eq_true rfl, Nat.le_of_ble_eq_true rfl⟩ hl.1 rfl (Nat.le_of_ble_eq_true rfl) d_Ker_await_15 ⟨show 0 + 0 ≤ (5 * ndS 13 tq + 4 * ndS 13 rq + ndS 13 RM) from by first | with_reducible rfl | with_reducible assumption | omega, show 0 + 0 ≤ (9804 * ndS 13 tq + 342 * ndS 13 rq + 36864 * ndS 13 RM) from by first | with_reducible rfl | with_reducible assumption | omega⟩) hw hA (fun v4 p3 H locs hp3 hw => ?_)
    obtain ⟨rfl, e5, e6⟩ := hp3
    have e5 := z_rng e5
    replace e6 : NnP pz p0 v4 := e6
    replace hw : pw D A s.heap H locs [wd_Ker cs hk kr (fun _ => none) kf ka (gKe pq pz tq rq), fm 13 (fTx cs tq TR TO TF TA), fm 13 (fRw cs rq RR RM RW RF RA RC), fm 8 (fPp cs pq PV)] := hw
    have lv4 := Int32.le_toInt v4
    have uv4 := Int32.toInt_lt v4
    refine lv_if_ne (tgt := 30) S.x S.b d_Ker_await_18 (by decide) (fun c7 => ?_) (fun c7 => ?_)
    · have nc7 : ¬ v4.toInt = (0 : Int) := mt (i_eq (x := v4) (y := 0)).mpr c7
      refine lv_iconst (v := 0) S.x S.b d_Ker_await_30 (by decide) ?_
      exact pg_iret (v := 0) S hr rfl hlk hAe hw (show 0 ≤ (5 * ndS 13 tq + 4 * ndS 13 rq + ndS 13 RM) from by first | exact oz_86e49526c7 | omega) (show 0 ≤ (9804 * ndS 13 tq + 342 * ndS 13 rq + 36864 * ndS 13 RM) from by first | exact oz_fc3b58e969 | omega) (⟨pz, tq, rq, ka, TR, TO, TF, TA, RR, RM, RW, RF, RA, RC, rfl, (show (0 : Int32) = 0 ∨ (0 : Int32) = 1 from by first | exact Or.inl rfl | exact Or.inr rfl | exact z_or (by omega)), (show CuR pq PV rq RW ip hx from hcu), (show KnI pq PV pz tq rq TO TF TA RW RF from hki), (show RoI ka from hro), (show RmI rq RM from hrm), (show 0 + (5 * ndS 13 tq + 4 * ndS 13 rq + ndS 13 RM) ≤ 5 * ndS 13 tq + 4 * ndS 13 rq + ndS 13 RM from by first | exact oz_9d19b050ad | omega), (show 0 + (9804 * ndS 13 tq + 342 * ndS 13 rq + 36864 * ndS 13 RM) ≤ 9804 * ndS 13 tq + 342 * ndS 13 rq + 36864 * ndS 13 RM from by first | exact oz_b5592d0ae7 | omega)⟩) d_Ker_await_31
    · have nc7 : v4.toInt = (0 : Int) := (i_eq (x := v4) (y := 0)).mp c7
      refine lv_aload_n S.x S.b d_Ker_await_21 rfl (lv_at hl 0 rfl) ?_
      refine px_get S k_Ker hT hw 0 0 2 (v := .ref (kr 2)) rfl rfl rfl (by decide) m2_222 d_Ker_await_22 ?_
      refine lv_iload_n S.x S.b d_Ker_await_25 rfl (lv_at hl 2 rfl) ?_
      refine px_aald S hT hw 0 3 6 (n := 13) (f := pz) rfl rfl rfl (x := p0) (vp_in_iff.mpr (by constructor <;> omega)) d_Ker_await_26 ?_
      refine lq_top (fun y8 hy8 => ?_)
      refine lq_ifnonnull (x := y8) (tgt := 32) S.x S.b d_Ker_await_27 (by decide) (fun q10 c9 => ?_) (fun c9 => ?_)
      ·
        subst c9
        have nd0_c9 := nd_1 q10
        have hc11 := cl_nat (x := p0) (by first | exact oz_016f458179 hc11 | omega)
        have hi11 : p0.toNatClampNeg < 13 := by first | exact oz_50e7088b63 hc11 g0 | omega
        have hr11 := hy8.symm
        refine lv_aload_n S.x S.b d_Ker_await_32 rfl (lv_at hl 0 rfl) ?_
        refine px_get S k_Ker hT hw 0 0 2 (v := .ref (kr 2)) rfl rfl rfl (by decide) m2_222 d_Ker_await_33 ?_
        refine lv_iload_n S.x S.b d_Ker_await_36 rfl (lv_at hl 2 rfl) ?_
        refine px_aaldS S hT hw 0 3 6 (n := 13) (f := pz) rfl rfl rfl (x := p0) (vp_in_iff.mpr (by first | exact oz_3859d57d28 hc11 hi11 | (constructor <;> omega))) (sk := q10) hr11 d_Ker_await_37 ?_
        rcases hki.2.2.2 p0.toNatClampNeg hi11 with hno | ⟨h9, e9, hcu12⟩ | ⟨h9, e9, hcu12⟩
        · rw [hno] at hr11; cases hr11
        ·
          cases (hr11.symm.trans e9)
          obtain ⟨j13, hp13, hj13, hjq13, hto13, hf013⟩ := hcu12.2
          have hw : pw D A s.heap _ _ [wd_Ker cs hk kr (fun _ => none) kf ka (gKe pq pz tq rq), fm 13 (fRw cs rq RR RM RW RF RA RC), fm 8 (fPp cs pq PV), fm 13 (fTx cs tq TR TO TF TA)] := hw.sub [0, 2, 3, 1] rfl rfl
          have hw : pw D A s.heap _ _ [wd_Ker cs hk kr (fun _ => none) kf ka (gKe pq pz tq rq), fm 13 (fRw cs rq RR RM RW RF RA RC), fm 8 (fPp cs pq PV), fo 13 (fTx cs tq TR TO TF TA) p0.toNatClampNeg, wd_Txp cs q10 (TR p0.toNatClampNeg) (fun k => if k = 3 then (some hp13) else none) (TF p0.toNatClampNeg) (TA p0.toNatClampNeg) (fun _ _ => none)] := ftx_out (pr := [wd_Ker cs hk kr (fun _ => none) kf ka (gKe pq pz tq rq), fm 13 (fRw cs rq RR RM RW RF RA RC), fm 8 (fPp cs pq PV)]) hw hi11 hcu12.1 hto13
          have htn14 : TxN p0.toNatClampNeg (TF p0.toNatClampNeg) (TA p0.toNatClampNeg) := hki.2.1 p0.toNatClampNeg hi11 _ hcu12.1
          obtain ⟨lk, ⟨i2, i3⟩, ⟨i4, i5⟩, ⟨i6, i7⟩, i8, ⟨i9, i11⟩, i10, hrt⟩ := htn14.1
          have hid14 := htn14.2.1
          have hch14 := htn14.2.2
          unfold KcI at hch14
          refine px_get S k_Txp hT hw 4 0 18 (v := .int ((TF p0.toNatClampNeg) 18)) rfl rfl rfl (by decide) m6_139 d_Ker_await_38 ?_
          refine lv_istore_n (lv' := [(3, .int ((TF p0.toNatClampNeg) 18)), (0, .ref hk), (1, .ref hx), (2, .int p0)]) S.x S.b d_Ker_await_41 rfl hl (by decide) rfl (fun ls hl => ?_)
          refine lv_aload_n S.x S.b d_Ker_await_42 rfl (lv_at hl 2 rfl) ?_
          refine lv_iload_n S.x S.b d_Ker_await_43 rfl (lv_at hl 0 rfl) ?_
          refine lv_if_eq (tgt := 52) S.x S.b d_Ker_await_44 (by decide) (fun c15 => ?_) (fun c15 => ?_)
          · have nc15 : ((TF p0.toNatClampNeg) 18).toInt = (0 : Int) := (i_eq (x := ((TF p0.toNatClampNeg) 18)) (y := 0)).mp c15
            refine lv_aload_n S.x S.b d_Ker_await_52 rfl (lv_at hl 1 rfl) ?_
            refine px_get S k_Ker hT hw 0 0 2 (v := .ref (kr 2)) rfl rfl rfl (by decide) m2_222 d_Ker_await_53 ?_
            refine lv_iload_n S.x S.b d_Ker_await_56 rfl (lv_at hl 3 rfl) ?_
            refine px_aaldS S hT hw 0 3 6 (n := 13) (f := pz) rfl rfl rfl (x := p0) (vp_in_iff.mpr (by first | exact oz_3859d57d28 hc11 hi11 | (constructor <;> omega))) (sk := q10) hr11 d_Ker_await_57 ?_
            refine px_get S k_Txp hT hw 4 0 19 (v := .int ((TF p0.toNatClampNeg) 19)) rfl rfl rfl (by decide) m6_146 d_Ker_await_58 ?_
            refine lv_goto (tgt := 66) S.x S.b d_Ker_await_61 (by decide) ?_
            have hw : pw D A s.heap _ _ [wd_Ker cs hk kr (fun _ => none) kf ka (gKe pq pz tq rq), fm 8 (fPp cs pq PV), fo 13 (fTx cs tq TR TO TF TA) p0.toNatClampNeg, wd_Txp cs q10 (TR p0.toNatClampNeg) (fun k => if k = 3 then (some hp13) else none) (TF p0.toNatClampNeg) (TA p0.toNatClampNeg) (fun _ _ => none), fm 13 (fRw cs rq RR RM RW RF RA RC)] := hw.sub [0, 2, 3, 4, 1] rfl rfl
            have hw : pw D A s.heap _ _ [wd_Ker cs hk kr (fun _ => none) kf ka (gKe pq pz tq rq), fm 8 (fPp cs pq PV), fo 13 (fTx cs tq TR TO TF TA) p0.toNatClampNeg, wd_Txp cs q10 (TR p0.toNatClampNeg) (fun k => if k = 3 then (some hp13) else none) (TF p0.toNatClampNeg) (TA p0.toNatClampNeg) (fun _ _ => none), fo 13 (fRw cs rq RR RM RW RF RA RC) ip, wd_Raw cs hx (RR ip) (fun k => if k = 2 then (RM ip) else if k = 4 then (some ((PV j1).r 1)) else none) (RF ip) (RA ip) (fun _ _ => none), nA cs (RM ip) 36864 (RC ip)] := frw_out (pr := [wd_Ker cs hk kr (fun _ => none) kf ka (gKe pq pz tq rq), fm 8 (fPp cs pq PV), fo 13 (fTx cs tq TR TO TF TA) p0.toNatClampNeg, wd_Txp cs q10 (TR p0.toNatClampNeg) (fun k => if k = 3 then (some hp13) else none) (TF p0.toNatClampNeg) (TA p0.toNatClampNeg) (fun _ _ => none)]) hw hip hcu.1 hto1
            have hng16 := ndS_ge 13 RM ip hip
            have hrn16 : RwN ip (RF ip) := hki.2.2.1 ip hip _ hcu.1
            have hro16 := hrn16.1
            unfold RwO at hro16
            have hid16 := hrn16.2.1
            have hch16 := hrn16.2.2
            unfold KcI at hch16
            have hw : pw D A s.heap _ _ [wd_Ker cs hk kr (fun _ => none) kf ka (gKe pq pz tq rq), fm 8 (fPp cs pq PV), fo 13 (fTx cs tq TR TO TF TA) p0.toNatClampNeg, wd_Txp cs q10 (TR p0.toNatClampNeg) (fun k => if k = 3 then (some hp13) else none) (TF p0.toNatClampNeg) (TA p0.toNatClampNeg) (fun _ _ => none), fo 13 (fRw cs rq RR RM RW RF RA RC) ip, nA cs (RM ip) 36864 (RC ip), wd_Raw cs hx (RR ip) (fun k => if k = 2 then (RM ip) else if k = 4 then (some ((PV j1).r 1)) else none) (RF ip) (RA ip) (fun _ _ => none)] := hw.sub [0, 1, 2, 3, 4, 6, 5] rfl rfl
            refine px_callv (pr := [wd_Ker cs hk kr (fun _ => none) kf ka (gKe pq pz tq rq), fm 8 (fPp cs pq PV), fo 13 (fTx cs tq TR TO TF TA) p0.toNatClampNeg, wd_Txp cs q10 (TR p0.toNatClampNeg) (fun k => if k = 3 then (some hp13) else none) (TF p0.toNatClampNeg) (TA p0.toNatClampNeg) (fun _ _ => none), fo 13 (fRw cs rq RR RM RW RF RA RC) ip, nA cs (RM ip) 36864 (RC ip)]) (px_runA (As := [.int ((TF p0.toNatClampNeg) 19)]) (rest := []) S (c_Raw_answer l D cs hx (RR ip) (fun _ _ => none) (RM ip) (some ((PV j1).r 1)) (RF ip) (RA ip) ((TF p0.toNatClampNeg) 19)  (show 1 ≤ ((RF ip) 7).toInt from by first | with_reducible rfl | with_reducible assumption | omega) _) hT (pr := [wd_Ker cs hk kr (fun _ => none) kf ka (gKe pq pz tq rq), fm 8 (fPp cs pq PV), fo 13 (fTx cs tq TR TO TF TA) p0.toNatClampNeg, wd_Txp cs q10 (TR p0.toNatClampNeg) (fun k => if k = 3 then (some hp13) else none) (TF p0.toNatClampNeg) (TA p0.toNatClampNeg) (fun _ _ => none), fo 13 (fRw cs rq RR RM RW RF RA RC) ip, nA cs (RM ip) 36864 (RC ip)]) (pcs := [wd_Raw cs hx (RR ip) (fun k => if k = 2 then (RM ip) else if k = 4 then (some ((PV j1).r 1)) else none) (RF ip) (RA ip) (fun _ _ => none)]) hw px_X.tt (C := "HomeSystem$RawProcess") (owner := "HomeSystem$AnyProcess") (x := ⟨"HomeSystem$AnyProcess", "answer", "(I)V"⟩) (px_recv hT hw 6 0 rfl rfl rfl) m8_72 m8_67 m8_69 m8_71 m8_70 m1_34 m8_68n ⟨by decide, by decide⟩ rfl q_Raw_answer ⟨Nat.le_of_ble_eq_true rfl, Nat.le_of_ble_eq_true rfl⟩ hl.1 rfl (Nat.le_of_ble_eq_true rfl) d_Ker_await_66 ⟨show 0 + 0 ≤ (5 * ndS 13 tq + 4 * ndS 13 rq + ndS 13 RM) from by first | with_reducible rfl | with_reducible assumption | omega, show 0 + 0 ≤ (9804 * ndS 13 tq + 342 * ndS 13 rq + 36864 * ndS 13 RM) from by first | with_reducible rfl | with_reducible assumption | omega⟩) hw hA (fun p19 H locs hp19 hw => ?_)
            obtain ⟨f17, a18, rfl, e21, e22, e23, e24, e25, e26⟩ := hp19
            replace e21 : (f17 7).toInt = ((RF ip) 7).toInt - 1 := e21
            replace e22 : (f17 8).toInt = ((RF ip) 8).toInt := e22
            replace e23 : (f17 10).toInt = ((RF ip) 10).toInt := e23
            replace e24 : (f17 13).toInt = ((RF ip) 13).toInt := e24
            replace e25 : (f17 14).toInt = 0 := e25
            replace e26 : (f17 11).toInt = ((RF ip) 11).toInt := e26
            replace hw : pw D A s.heap H locs [wd_Ker cs hk kr (fun _ => none) kf ka (gKe pq pz tq rq), fm 8 (fPp cs pq PV), fo 13 (fTx cs tq TR TO TF TA) p0.toNatClampNeg, wd_Txp cs q10 (TR p0.toNatClampNeg) (fun k => if k = 3 then (some hp13) else none) (TF p0.toNatClampNeg) (TA p0.toNatClampNeg) (fun _ _ => none), fo 13 (fRw cs rq RR RM RW RF RA RC) ip, nA cs (RM ip) 36864 (RC ip), wd_Raw cs hx (RR ip) (fun k => if k = 2 then (RM ip) else if k = 4 then (some ((PV j1).r 1)) else none) f17 a18 (fun _ _ => none)] := hw
            refine lv_iconst (v := 1) S.x S.b d_Ker_await_69 (by decide) ?_
            have hw : pw D A s.heap _ _ [wd_Ker cs hk kr (fun _ => none) kf ka (gKe pq pz tq rq), fm 8 (fPp cs pq PV), fo 13 (fRw cs rq RR RM RW RF RA RC) ip, nA cs (RM ip) 36864 (RC ip), wd_Raw cs hx (RR ip) (fun k => if k = 2 then (RM ip) else if k = 4 then (some ((PV j1).r 1)) else none) f17 a18 (fun _ _ => none), fo 13 (fTx cs tq TR TO TF TA) p0.toNatClampNeg, wd_Txp cs q10 (TR p0.toNatClampNeg) (fun k => if k = 3 then (some hp13) else none) (TF p0.toNatClampNeg) (TA p0.toNatClampNeg) (fun _ _ => none)] := hw.sub [0, 1, 4, 5, 6, 2, 3] rfl rfl
            have hw : pw D A s.heap _ _ [wd_Ker cs hk kr (fun _ => none) kf ka (gKe pq pz tq rq), fm 8 (fPp cs pq PV), fo 13 (fRw cs rq RR RM RW RF RA RC) ip, nA cs (RM ip) 36864 (RC ip), wd_Raw cs hx (RR ip) (fun k => if k = 2 then (RM ip) else if k = 4 then (some ((PV j1).r 1)) else none) f17 a18 (fun _ _ => none), fm 13 (fTx cs tq TR TO TF TA)] := ftx_back (pr := [wd_Ker cs hk kr (fun _ => none) kf ka (gKe pq pz tq rq), fm 8 (fPp cs pq PV), fo 13 (fRw cs rq RR RM RW RF RA RC) ip, nA cs (RM ip) 36864 (RC ip), wd_Raw cs hx (RR ip) (fun k => if k = 2 then (RM ip) else if k = 4 then (some ((PV j1).r 1)) else none) f17 a18 (fun _ _ => none)]) hw hi11 hcu12.1 hto13
            have hw : pw D A s.heap _ _ [wd_Ker cs hk kr (fun _ => none) kf ka (gKe pq pz tq rq), fm 8 (fPp cs pq PV), fm 13 (fTx cs tq TR TO TF TA), fo 13 (fRw cs rq RR RM RW RF RA RC) ip, wd_Raw cs hx (RR ip) (fun k => if k = 2 then (RM ip) else if k = 4 then (some ((PV j1).r 1)) else none) f17 a18 (fun _ _ => none), nA cs (RM ip) 36864 (RC ip)] := hw.sub [0, 1, 5, 2, 4, 3] rfl rfl
            have hw := frw_in0 (pr := [wd_Ker cs hk kr (fun _ => none) kf ka (gKe pq pz tq rq), fm 8 (fPp cs pq PV), fm 13 (fTx cs tq TR TO TF TA)]) hw hip hcu.1 hto1
            obtain ⟨RM27, hu_RM27⟩ : ∃ y : Nat → Option Nat, y = va_up RM ip (RM ip) := ⟨_, rfl⟩
            obtain ⟨RF28, hu_RF28⟩ : ∃ y : Nat → Nat → Int32, y = va_up RF ip f17 := ⟨_, rfl⟩
            obtain ⟨RA29, hu_RA29⟩ : ∃ y : Nat → Nat → Nat → Int32, y = va_up RA ip a18 := ⟨_, rfl⟩
            obtain ⟨RC30, hu_RC30⟩ : ∃ y : Nat → Nat → Int32, y = va_up RC ip (RC ip) := ⟨_, rfl⟩
            have hw : pw D A s.heap _ _ [wd_Ker cs hk kr (fun _ => none) kf ka (gKe pq pz tq rq), fm 8 (fPp cs pq PV), fm 13 (fTx cs tq TR TO TF TA), fm 13 (fRw cs rq RR RM27 RW RF28 RA29 RC30)] := (by rw [hu_RM27, hu_RF28, hu_RA29, hu_RC30]; exact hw)
            have hki : KnI pq PV pz tq rq TO TF TA RW RF28 := (by rw [hu_RF28]; exact hki.upR (show RwN ip f17 from ⟨(show (0 ≤ (f17 7).toInt ∧ (f17 7).toInt ≤ 1600) ∧ (0 ≤ (f17 10).toInt ∧ (f17 10).toInt + (f17 7).toInt ≤ 1600) ∧ ((f17 14).toInt = 0 ∨ (f17 14).toInt = 1) ∧ ((f17 14).toInt = 1 → 1 ≤ (f17 7).toInt) from by first | with_reducible rfl | with_reducible assumption | omega), (show ((f17 8).toInt) = ((ip : Nat) : Int) from by first | with_reducible rfl | with_reducible assumption | omega), (show 0 ≤ (f17 13).toInt ∧ (f17 13).toInt ≤ 3 ∧ ((f17 13).toInt = 0 ∨ 3 * ((ip : Nat) : Int) + (f17 13).toInt ≤ 12) from by first | with_reducible rfl | with_reducible assumption | omega)⟩))
            have hrm : RmI rq RM27 := (by rw [hu_RM27]; exact hrm.up hcu.1)
            have hnd_RM27 := ndS_up 13 RM ip (RM ip) hip; rw [← hu_RM27] at hnd_RM27
            have hz14_RF28 : (RF28 ip 14).toInt = (f17 14).toInt := (by rw [hu_RF28, va_up_s]; try rfl)
            have hw : pw D A s.heap _ _ [wd_Ker cs hk kr (fun _ => none) kf ka (gKe pq pz tq rq), fm 13 (fTx cs tq TR TO TF TA), fm 13 (fRw cs rq RR RM27 RW RF28 RA29 RC30), fm 8 (fPp cs pq PV)] := hw.sub [0, 2, 3, 1] rfl rfl
            exact pg_iret (v := 1) S hr rfl hlk hAe hw (show 0 ≤ (5 * ndS 13 tq + 4 * ndS 13 rq + ndS 13 RM) from by first | exact oz_86e49526c7 | omega) (show 0 ≤ (9804 * ndS 13 tq + 342 * ndS 13 rq + 36864 * ndS 13 RM) from by first | exact oz_fc3b58e969 | omega) (⟨pz, tq, rq, ka, TR, TO, TF, TA, RR, RM27, RW, RF28, RA29, RC30, rfl, (show (1 : Int32) = 0 ∨ (1 : Int32) = 1 from by first | exact Or.inl rfl | exact Or.inr rfl | exact z_or (by omega)), (show CuR pq PV rq RW ip hx from hcu), (show KnI pq PV pz tq rq TO TF TA RW RF28 from hki), (show RoI ka from hro), (show RmI rq RM27 from hrm), (show 0 + (5 * ndS 13 tq + 4 * ndS 13 rq + ndS 13 RM27) ≤ 5 * ndS 13 tq + 4 * ndS 13 rq + ndS 13 RM from by first | with_reducible rfl | with_reducible assumption | omega), (show 0 + (9804 * ndS 13 tq + 342 * ndS 13 rq + 36864 * ndS 13 RM27) ≤ 9804 * ndS 13 tq + 342 * ndS 13 rq + 36864 * ndS 13 RM from by first | with_reducible rfl | with_reducible assumption | omega)⟩) d_Ker_await_70
          · have nc15 : ¬ ((TF p0.toNatClampNeg) 18).toInt = (0 : Int) := mt (i_eq (x := ((TF p0.toNatClampNeg) 18)) (y := 0)).mpr c15
            refine lv_iload_n S.x S.b d_Ker_await_47 rfl (lv_at hl 0 rfl) ?_
            refine lv_iconst (v := 1) S.x S.b d_Ker_await_48 (by decide) ?_
            refine lv_icmp_ne (tgt := 64) S.x S.b d_Ker_await_49 (by decide) (fun c31 => ?_) (fun c31 => ?_)
            · have nc31 : ¬ ((TF p0.toNatClampNeg) 18).toInt = (1 : Int) := mt (i_eq (x := ((TF p0.toNatClampNeg) 18)) (y := 1)).mpr c31
              refine lv_iload_n S.x S.b d_Ker_await_64 rfl (lv_at hl 0 rfl) ?_
              refine lv_ineg S.x S.b d_Ker_await_65 ?_
              have lr32 := Int32.le_toInt ((TF p0.toNatClampNeg) 18)
              have ur32 := Int32.toInt_lt ((TF p0.toNatClampNeg) 18)
              refine lv_topi (fun z33 ez33 => ?_)
              have lz33 := Int32.le_toInt z33
              have uz33 := Int32.toInt_lt z33
              have hw : pw D A s.heap _ _ [wd_Ker cs hk kr (fun _ => none) kf ka (gKe pq pz tq rq), fm 8 (fPp cs pq PV), fo 13 (fTx cs tq TR TO TF TA) p0.toNatClampNeg, wd_Txp cs q10 (TR p0.toNatClampNeg) (fun k => if k = 3 then (some hp13) else none) (TF p0.toNatClampNeg) (TA p0.toNatClampNeg) (fun _ _ => none), fm 13 (fRw cs rq RR RM RW RF RA RC)] := hw.sub [0, 2, 3, 4, 1] rfl rfl
              have hw : pw D A s.heap _ _ [wd_Ker cs hk kr (fun _ => none) kf ka (gKe pq pz tq rq), fm 8 (fPp cs pq PV), fo 13 (fTx cs tq TR TO TF TA) p0.toNatClampNeg, wd_Txp cs q10 (TR p0.toNatClampNeg) (fun k => if k = 3 then (some hp13) else none) (TF p0.toNatClampNeg) (TA p0.toNatClampNeg) (fun _ _ => none), fo 13 (fRw cs rq RR RM RW RF RA RC) ip, wd_Raw cs hx (RR ip) (fun k => if k = 2 then (RM ip) else if k = 4 then (some ((PV j1).r 1)) else none) (RF ip) (RA ip) (fun _ _ => none), nA cs (RM ip) 36864 (RC ip)] := frw_out (pr := [wd_Ker cs hk kr (fun _ => none) kf ka (gKe pq pz tq rq), fm 8 (fPp cs pq PV), fo 13 (fTx cs tq TR TO TF TA) p0.toNatClampNeg, wd_Txp cs q10 (TR p0.toNatClampNeg) (fun k => if k = 3 then (some hp13) else none) (TF p0.toNatClampNeg) (TA p0.toNatClampNeg) (fun _ _ => none)]) hw hip hcu.1 hto1
              have hng34 := ndS_ge 13 RM ip hip
              have hrn34 : RwN ip (RF ip) := hki.2.2.1 ip hip _ hcu.1
              have hro34 := hrn34.1
              unfold RwO at hro34
              have hid34 := hrn34.2.1
              have hch34 := hrn34.2.2
              unfold KcI at hch34
              have hw : pw D A s.heap _ _ [wd_Ker cs hk kr (fun _ => none) kf ka (gKe pq pz tq rq), fm 8 (fPp cs pq PV), fo 13 (fTx cs tq TR TO TF TA) p0.toNatClampNeg, wd_Txp cs q10 (TR p0.toNatClampNeg) (fun k => if k = 3 then (some hp13) else none) (TF p0.toNatClampNeg) (TA p0.toNatClampNeg) (fun _ _ => none), fo 13 (fRw cs rq RR RM RW RF RA RC) ip, nA cs (RM ip) 36864 (RC ip), wd_Raw cs hx (RR ip) (fun k => if k = 2 then (RM ip) else if k = 4 then (some ((PV j1).r 1)) else none) (RF ip) (RA ip) (fun _ _ => none)] := hw.sub [0, 1, 2, 3, 4, 6, 5] rfl rfl
              refine px_callv (pr := [wd_Ker cs hk kr (fun _ => none) kf ka (gKe pq pz tq rq), fm 8 (fPp cs pq PV), fo 13 (fTx cs tq TR TO TF TA) p0.toNatClampNeg, wd_Txp cs q10 (TR p0.toNatClampNeg) (fun k => if k = 3 then (some hp13) else none) (TF p0.toNatClampNeg) (TA p0.toNatClampNeg) (fun _ _ => none), fo 13 (fRw cs rq RR RM RW RF RA RC) ip, nA cs (RM ip) 36864 (RC ip)]) (px_runA (As := [.int z33]) (rest := []) S (c_Raw_answer l D cs hx (RR ip) (fun _ _ => none) (RM ip) (some ((PV j1).r 1)) (RF ip) (RA ip) z33  (show 1 ≤ ((RF ip) 7).toInt from by first | with_reducible rfl | with_reducible assumption | omega) _) hT (pr := [wd_Ker cs hk kr (fun _ => none) kf ka (gKe pq pz tq rq), fm 8 (fPp cs pq PV), fo 13 (fTx cs tq TR TO TF TA) p0.toNatClampNeg, wd_Txp cs q10 (TR p0.toNatClampNeg) (fun k => if k = 3 then (some hp13) else none) (TF p0.toNatClampNeg) (TA p0.toNatClampNeg) (fun _ _ => none), fo 13 (fRw cs rq RR RM RW RF RA RC) ip, nA cs (RM ip) 36864 (RC ip)]) (pcs := [wd_Raw cs hx (RR ip) (fun k => if k = 2 then (RM ip) else if k = 4 then (some ((PV j1).r 1)) else none) (RF ip) (RA ip) (fun _ _ => none)]) hw px_X.tt (C := "HomeSystem$RawProcess") (owner := "HomeSystem$AnyProcess") (x := ⟨"HomeSystem$AnyProcess", "answer", "(I)V"⟩) (px_recv hT hw 6 0 rfl rfl rfl) m8_72 m8_67 m8_69 m8_71 m8_70 m1_34 m8_68n ⟨by decide, by decide⟩ rfl q_Raw_answer ⟨Nat.le_of_ble_eq_true rfl, Nat.le_of_ble_eq_true rfl⟩ hl.1 rfl (Nat.le_of_ble_eq_true rfl) d_Ker_await_66 ⟨show 0 + 0 ≤ (5 * ndS 13 tq + 4 * ndS 13 rq + ndS 13 RM) from by first | with_reducible rfl | with_reducible assumption | omega, show 0 + 0 ≤ (9804 * ndS 13 tq + 342 * ndS 13 rq + 36864 * ndS 13 RM) from by first | with_reducible rfl | with_reducible assumption | omega⟩) hw hA (fun p37 H locs hp37 hw => ?_)
              obtain ⟨f35, a36, rfl, e39, e40, e41, e42, e43, e44⟩ := hp37
              replace e39 : (f35 7).toInt = ((RF ip) 7).toInt - 1 := e39
              replace e40 : (f35 8).toInt = ((RF ip) 8).toInt := e40
              replace e41 : (f35 10).toInt = ((RF ip) 10).toInt := e41
              replace e42 : (f35 13).toInt = ((RF ip) 13).toInt := e42
              replace e43 : (f35 14).toInt = 0 := e43
              replace e44 : (f35 11).toInt = ((RF ip) 11).toInt := e44
              replace hw : pw D A s.heap H locs [wd_Ker cs hk kr (fun _ => none) kf ka (gKe pq pz tq rq), fm 8 (fPp cs pq PV), fo 13 (fTx cs tq TR TO TF TA) p0.toNatClampNeg, wd_Txp cs q10 (TR p0.toNatClampNeg) (fun k => if k = 3 then (some hp13) else none) (TF p0.toNatClampNeg) (TA p0.toNatClampNeg) (fun _ _ => none), fo 13 (fRw cs rq RR RM RW RF RA RC) ip, nA cs (RM ip) 36864 (RC ip), wd_Raw cs hx (RR ip) (fun k => if k = 2 then (RM ip) else if k = 4 then (some ((PV j1).r 1)) else none) f35 a36 (fun _ _ => none)] := hw
              refine lv_iconst (v := 1) S.x S.b d_Ker_await_69 (by decide) ?_
              have hw : pw D A s.heap _ _ [wd_Ker cs hk kr (fun _ => none) kf ka (gKe pq pz tq rq), fm 8 (fPp cs pq PV), fo 13 (fRw cs rq RR RM RW RF RA RC) ip, nA cs (RM ip) 36864 (RC ip), wd_Raw cs hx (RR ip) (fun k => if k = 2 then (RM ip) else if k = 4 then (some ((PV j1).r 1)) else none) f35 a36 (fun _ _ => none), fo 13 (fTx cs tq TR TO TF TA) p0.toNatClampNeg, wd_Txp cs q10 (TR p0.toNatClampNeg) (fun k => if k = 3 then (some hp13) else none) (TF p0.toNatClampNeg) (TA p0.toNatClampNeg) (fun _ _ => none)] := hw.sub [0, 1, 4, 5, 6, 2, 3] rfl rfl
              have hw : pw D A s.heap _ _ [wd_Ker cs hk kr (fun _ => none) kf ka (gKe pq pz tq rq), fm 8 (fPp cs pq PV), fo 13 (fRw cs rq RR RM RW RF RA RC) ip, nA cs (RM ip) 36864 (RC ip), wd_Raw cs hx (RR ip) (fun k => if k = 2 then (RM ip) else if k = 4 then (some ((PV j1).r 1)) else none) f35 a36 (fun _ _ => none), fm 13 (fTx cs tq TR TO TF TA)] := ftx_back (pr := [wd_Ker cs hk kr (fun _ => none) kf ka (gKe pq pz tq rq), fm 8 (fPp cs pq PV), fo 13 (fRw cs rq RR RM RW RF RA RC) ip, nA cs (RM ip) 36864 (RC ip), wd_Raw cs hx (RR ip) (fun k => if k = 2 then (RM ip) else if k = 4 then (some ((PV j1).r 1)) else none) f35 a36 (fun _ _ => none)]) hw hi11 hcu12.1 hto13
              have hw : pw D A s.heap _ _ [wd_Ker cs hk kr (fun _ => none) kf ka (gKe pq pz tq rq), fm 8 (fPp cs pq PV), fm 13 (fTx cs tq TR TO TF TA), fo 13 (fRw cs rq RR RM RW RF RA RC) ip, wd_Raw cs hx (RR ip) (fun k => if k = 2 then (RM ip) else if k = 4 then (some ((PV j1).r 1)) else none) f35 a36 (fun _ _ => none), nA cs (RM ip) 36864 (RC ip)] := hw.sub [0, 1, 5, 2, 4, 3] rfl rfl
              have hw := frw_in0 (pr := [wd_Ker cs hk kr (fun _ => none) kf ka (gKe pq pz tq rq), fm 8 (fPp cs pq PV), fm 13 (fTx cs tq TR TO TF TA)]) hw hip hcu.1 hto1
              obtain ⟨RM45, hu_RM45⟩ : ∃ y : Nat → Option Nat, y = va_up RM ip (RM ip) := ⟨_, rfl⟩
              obtain ⟨RF46, hu_RF46⟩ : ∃ y : Nat → Nat → Int32, y = va_up RF ip f35 := ⟨_, rfl⟩
              obtain ⟨RA47, hu_RA47⟩ : ∃ y : Nat → Nat → Nat → Int32, y = va_up RA ip a36 := ⟨_, rfl⟩
              obtain ⟨RC48, hu_RC48⟩ : ∃ y : Nat → Nat → Int32, y = va_up RC ip (RC ip) := ⟨_, rfl⟩
              have hw : pw D A s.heap _ _ [wd_Ker cs hk kr (fun _ => none) kf ka (gKe pq pz tq rq), fm 8 (fPp cs pq PV), fm 13 (fTx cs tq TR TO TF TA), fm 13 (fRw cs rq RR RM45 RW RF46 RA47 RC48)] := (by rw [hu_RM45, hu_RF46, hu_RA47, hu_RC48]; exact hw)
              have hki : KnI pq PV pz tq rq TO TF TA RW RF46 := (by rw [hu_RF46]; exact hki.upR (show RwN ip f35 from ⟨(show (0 ≤ (f35 7).toInt ∧ (f35 7).toInt ≤ 1600) ∧ (0 ≤ (f35 10).toInt ∧ (f35 10).toInt + (f35 7).toInt ≤ 1600) ∧ ((f35 14).toInt = 0 ∨ (f35 14).toInt = 1) ∧ ((f35 14).toInt = 1 → 1 ≤ (f35 7).toInt) from by first | with_reducible rfl | with_reducible assumption | omega), (show ((f35 8).toInt) = ((ip : Nat) : Int) from by first | with_reducible rfl | with_reducible assumption | omega), (show 0 ≤ (f35 13).toInt ∧ (f35 13).toInt ≤ 3 ∧ ((f35 13).toInt = 0 ∨ 3 * ((ip : Nat) : Int) + (f35 13).toInt ≤ 12) from by first | with_reducible rfl | with_reducible assumption | omega)⟩))
              have hrm : RmI rq RM45 := (by rw [hu_RM45]; exact hrm.up hcu.1)
              have hnd_RM45 := ndS_up 13 RM ip (RM ip) hip; rw [← hu_RM45] at hnd_RM45
              have hz14_RF46 : (RF46 ip 14).toInt = (f35 14).toInt := (by rw [hu_RF46, va_up_s]; try rfl)
              have hw : pw D A s.heap _ _ [wd_Ker cs hk kr (fun _ => none) kf ka (gKe pq pz tq rq), fm 13 (fTx cs tq TR TO TF TA), fm 13 (fRw cs rq RR RM45 RW RF46 RA47 RC48), fm 8 (fPp cs pq PV)] := hw.sub [0, 2, 3, 1] rfl rfl
              exact pg_iret (v := 1) S hr rfl hlk hAe hw (show 0 ≤ (5 * ndS 13 tq + 4 * ndS 13 rq + ndS 13 RM) from by first | exact oz_86e49526c7 | omega) (show 0 ≤ (9804 * ndS 13 tq + 342 * ndS 13 rq + 36864 * ndS 13 RM) from by first | exact oz_fc3b58e969 | omega) (⟨pz, tq, rq, ka, TR, TO, TF, TA, RR, RM45, RW, RF46, RA47, RC48, rfl, (show (1 : Int32) = 0 ∨ (1 : Int32) = 1 from by first | exact Or.inl rfl | exact Or.inr rfl | exact z_or (by omega)), (show CuR pq PV rq RW ip hx from hcu), (show KnI pq PV pz tq rq TO TF TA RW RF46 from hki), (show RoI ka from hro), (show RmI rq RM45 from hrm), (show 0 + (5 * ndS 13 tq + 4 * ndS 13 rq + ndS 13 RM45) ≤ 5 * ndS 13 tq + 4 * ndS 13 rq + ndS 13 RM from by first | with_reducible rfl | with_reducible assumption | omega), (show 0 + (9804 * ndS 13 tq + 342 * ndS 13 rq + 36864 * ndS 13 RM45) ≤ 9804 * ndS 13 tq + 342 * ndS 13 rq + 36864 * ndS 13 RM from by first | with_reducible rfl | with_reducible assumption | omega)⟩) d_Ker_await_70
            · have nc31 : ((TF p0.toNatClampNeg) 18).toInt = (1 : Int) := (i_eq (x := ((TF p0.toNatClampNeg) 18)) (y := 1)).mp c31
              refine lv_aload_n S.x S.b d_Ker_await_52 rfl (lv_at hl 1 rfl) ?_
              refine px_get S k_Ker hT hw 0 0 2 (v := .ref (kr 2)) rfl rfl rfl (by decide) m2_222 d_Ker_await_53 ?_
              refine lv_iload_n S.x S.b d_Ker_await_56 rfl (lv_at hl 3 rfl) ?_
              refine px_aaldS S hT hw 0 3 6 (n := 13) (f := pz) rfl rfl rfl (x := p0) (vp_in_iff.mpr (by first | exact oz_3859d57d28 hc11 hi11 | (constructor <;> omega))) (sk := q10) hr11 d_Ker_await_57 ?_
              refine px_get S k_Txp hT hw 4 0 19 (v := .int ((TF p0.toNatClampNeg) 19)) rfl rfl rfl (by decide) m6_146 d_Ker_await_58 ?_
              refine lv_goto (tgt := 66) S.x S.b d_Ker_await_61 (by decide) ?_
              have hw : pw D A s.heap _ _ [wd_Ker cs hk kr (fun _ => none) kf ka (gKe pq pz tq rq), fm 8 (fPp cs pq PV), fo 13 (fTx cs tq TR TO TF TA) p0.toNatClampNeg, wd_Txp cs q10 (TR p0.toNatClampNeg) (fun k => if k = 3 then (some hp13) else none) (TF p0.toNatClampNeg) (TA p0.toNatClampNeg) (fun _ _ => none), fm 13 (fRw cs rq RR RM RW RF RA RC)] := hw.sub [0, 2, 3, 4, 1] rfl rfl
              have hw : pw D A s.heap _ _ [wd_Ker cs hk kr (fun _ => none) kf ka (gKe pq pz tq rq), fm 8 (fPp cs pq PV), fo 13 (fTx cs tq TR TO TF TA) p0.toNatClampNeg, wd_Txp cs q10 (TR p0.toNatClampNeg) (fun k => if k = 3 then (some hp13) else none) (TF p0.toNatClampNeg) (TA p0.toNatClampNeg) (fun _ _ => none), fo 13 (fRw cs rq RR RM RW RF RA RC) ip, wd_Raw cs hx (RR ip) (fun k => if k = 2 then (RM ip) else if k = 4 then (some ((PV j1).r 1)) else none) (RF ip) (RA ip) (fun _ _ => none), nA cs (RM ip) 36864 (RC ip)] := frw_out (pr := [wd_Ker cs hk kr (fun _ => none) kf ka (gKe pq pz tq rq), fm 8 (fPp cs pq PV), fo 13 (fTx cs tq TR TO TF TA) p0.toNatClampNeg, wd_Txp cs q10 (TR p0.toNatClampNeg) (fun k => if k = 3 then (some hp13) else none) (TF p0.toNatClampNeg) (TA p0.toNatClampNeg) (fun _ _ => none)]) hw hip hcu.1 hto1
              have hng49 := ndS_ge 13 RM ip hip
              have hrn49 : RwN ip (RF ip) := hki.2.2.1 ip hip _ hcu.1
              have hro49 := hrn49.1
              unfold RwO at hro49
              have hid49 := hrn49.2.1
              have hch49 := hrn49.2.2
              unfold KcI at hch49
              have hw : pw D A s.heap _ _ [wd_Ker cs hk kr (fun _ => none) kf ka (gKe pq pz tq rq), fm 8 (fPp cs pq PV), fo 13 (fTx cs tq TR TO TF TA) p0.toNatClampNeg, wd_Txp cs q10 (TR p0.toNatClampNeg) (fun k => if k = 3 then (some hp13) else none) (TF p0.toNatClampNeg) (TA p0.toNatClampNeg) (fun _ _ => none), fo 13 (fRw cs rq RR RM RW RF RA RC) ip, nA cs (RM ip) 36864 (RC ip), wd_Raw cs hx (RR ip) (fun k => if k = 2 then (RM ip) else if k = 4 then (some ((PV j1).r 1)) else none) (RF ip) (RA ip) (fun _ _ => none)] := hw.sub [0, 1, 2, 3, 4, 6, 5] rfl rfl
              refine px_callv (pr := [wd_Ker cs hk kr (fun _ => none) kf ka (gKe pq pz tq rq), fm 8 (fPp cs pq PV), fo 13 (fTx cs tq TR TO TF TA) p0.toNatClampNeg, wd_Txp cs q10 (TR p0.toNatClampNeg) (fun k => if k = 3 then (some hp13) else none) (TF p0.toNatClampNeg) (TA p0.toNatClampNeg) (fun _ _ => none), fo 13 (fRw cs rq RR RM RW RF RA RC) ip, nA cs (RM ip) 36864 (RC ip)]) (px_runA (As := [.int ((TF p0.toNatClampNeg) 19)]) (rest := []) S (c_Raw_answer l D cs hx (RR ip) (fun _ _ => none) (RM ip) (some ((PV j1).r 1)) (RF ip) (RA ip) ((TF p0.toNatClampNeg) 19)  (show 1 ≤ ((RF ip) 7).toInt from by first | with_reducible rfl | with_reducible assumption | omega) _) hT (pr := [wd_Ker cs hk kr (fun _ => none) kf ka (gKe pq pz tq rq), fm 8 (fPp cs pq PV), fo 13 (fTx cs tq TR TO TF TA) p0.toNatClampNeg, wd_Txp cs q10 (TR p0.toNatClampNeg) (fun k => if k = 3 then (some hp13) else none) (TF p0.toNatClampNeg) (TA p0.toNatClampNeg) (fun _ _ => none), fo 13 (fRw cs rq RR RM RW RF RA RC) ip, nA cs (RM ip) 36864 (RC ip)]) (pcs := [wd_Raw cs hx (RR ip) (fun k => if k = 2 then (RM ip) else if k = 4 then (some ((PV j1).r 1)) else none) (RF ip) (RA ip) (fun _ _ => none)]) hw px_X.tt (C := "HomeSystem$RawProcess") (owner := "HomeSystem$AnyProcess") (x := ⟨"HomeSystem$AnyProcess", "answer", "(I)V"⟩) (px_recv hT hw 6 0 rfl rfl rfl) m8_72 m8_67 m8_69 m8_71 m8_70 m1_34 m8_68n ⟨by decide, by decide⟩ rfl q_Raw_answer ⟨Nat.le_of_ble_eq_true rfl, Nat.le_of_ble_eq_true rfl⟩ hl.1 rfl (Nat.le_of_ble_eq_true rfl) d_Ker_await_66 ⟨show 0 + 0 ≤ (5 * ndS 13 tq + 4 * ndS 13 rq + ndS 13 RM) from by first | with_reducible rfl | with_reducible assumption | omega, show 0 + 0 ≤ (9804 * ndS 13 tq + 342 * ndS 13 rq + 36864 * ndS 13 RM) from by first | with_reducible rfl | with_reducible assumption | omega⟩) hw hA (fun p52 H locs hp52 hw => ?_)
              obtain ⟨f50, a51, rfl, e54, e55, e56, e57, e58, e59⟩ := hp52
              replace e54 : (f50 7).toInt = ((RF ip) 7).toInt - 1 := e54
              replace e55 : (f50 8).toInt = ((RF ip) 8).toInt := e55
              replace e56 : (f50 10).toInt = ((RF ip) 10).toInt := e56
              replace e57 : (f50 13).toInt = ((RF ip) 13).toInt := e57
              replace e58 : (f50 14).toInt = 0 := e58
              replace e59 : (f50 11).toInt = ((RF ip) 11).toInt := e59
              replace hw : pw D A s.heap H locs [wd_Ker cs hk kr (fun _ => none) kf ka (gKe pq pz tq rq), fm 8 (fPp cs pq PV), fo 13 (fTx cs tq TR TO TF TA) p0.toNatClampNeg, wd_Txp cs q10 (TR p0.toNatClampNeg) (fun k => if k = 3 then (some hp13) else none) (TF p0.toNatClampNeg) (TA p0.toNatClampNeg) (fun _ _ => none), fo 13 (fRw cs rq RR RM RW RF RA RC) ip, nA cs (RM ip) 36864 (RC ip), wd_Raw cs hx (RR ip) (fun k => if k = 2 then (RM ip) else if k = 4 then (some ((PV j1).r 1)) else none) f50 a51 (fun _ _ => none)] := hw
              refine lv_iconst (v := 1) S.x S.b d_Ker_await_69 (by decide) ?_
              have hw : pw D A s.heap _ _ [wd_Ker cs hk kr (fun _ => none) kf ka (gKe pq pz tq rq), fm 8 (fPp cs pq PV), fo 13 (fRw cs rq RR RM RW RF RA RC) ip, nA cs (RM ip) 36864 (RC ip), wd_Raw cs hx (RR ip) (fun k => if k = 2 then (RM ip) else if k = 4 then (some ((PV j1).r 1)) else none) f50 a51 (fun _ _ => none), fo 13 (fTx cs tq TR TO TF TA) p0.toNatClampNeg, wd_Txp cs q10 (TR p0.toNatClampNeg) (fun k => if k = 3 then (some hp13) else none) (TF p0.toNatClampNeg) (TA p0.toNatClampNeg) (fun _ _ => none)] := hw.sub [0, 1, 4, 5, 6, 2, 3] rfl rfl
              have hw : pw D A s.heap _ _ [wd_Ker cs hk kr (fun _ => none) kf ka (gKe pq pz tq rq), fm 8 (fPp cs pq PV), fo 13 (fRw cs rq RR RM RW RF RA RC) ip, nA cs (RM ip) 36864 (RC ip), wd_Raw cs hx (RR ip) (fun k => if k = 2 then (RM ip) else if k = 4 then (some ((PV j1).r 1)) else none) f50 a51 (fun _ _ => none), fm 13 (fTx cs tq TR TO TF TA)] := ftx_back (pr := [wd_Ker cs hk kr (fun _ => none) kf ka (gKe pq pz tq rq), fm 8 (fPp cs pq PV), fo 13 (fRw cs rq RR RM RW RF RA RC) ip, nA cs (RM ip) 36864 (RC ip), wd_Raw cs hx (RR ip) (fun k => if k = 2 then (RM ip) else if k = 4 then (some ((PV j1).r 1)) else none) f50 a51 (fun _ _ => none)]) hw hi11 hcu12.1 hto13
              have hw : pw D A s.heap _ _ [wd_Ker cs hk kr (fun _ => none) kf ka (gKe pq pz tq rq), fm 8 (fPp cs pq PV), fm 13 (fTx cs tq TR TO TF TA), fo 13 (fRw cs rq RR RM RW RF RA RC) ip, wd_Raw cs hx (RR ip) (fun k => if k = 2 then (RM ip) else if k = 4 then (some ((PV j1).r 1)) else none) f50 a51 (fun _ _ => none), nA cs (RM ip) 36864 (RC ip)] := hw.sub [0, 1, 5, 2, 4, 3] rfl rfl
              have hw := frw_in0 (pr := [wd_Ker cs hk kr (fun _ => none) kf ka (gKe pq pz tq rq), fm 8 (fPp cs pq PV), fm 13 (fTx cs tq TR TO TF TA)]) hw hip hcu.1 hto1
              obtain ⟨RM60, hu_RM60⟩ : ∃ y : Nat → Option Nat, y = va_up RM ip (RM ip) := ⟨_, rfl⟩
              obtain ⟨RF61, hu_RF61⟩ : ∃ y : Nat → Nat → Int32, y = va_up RF ip f50 := ⟨_, rfl⟩
              obtain ⟨RA62, hu_RA62⟩ : ∃ y : Nat → Nat → Nat → Int32, y = va_up RA ip a51 := ⟨_, rfl⟩
              obtain ⟨RC63, hu_RC63⟩ : ∃ y : Nat → Nat → Int32, y = va_up RC ip (RC ip) := ⟨_, rfl⟩
              have hw : pw D A s.heap _ _ [wd_Ker cs hk kr (fun _ => none) kf ka (gKe pq pz tq rq), fm 8 (fPp cs pq PV), fm 13 (fTx cs tq TR TO TF TA), fm 13 (fRw cs rq RR RM60 RW RF61 RA62 RC63)] := (by rw [hu_RM60, hu_RF61, hu_RA62, hu_RC63]; exact hw)
              have hki : KnI pq PV pz tq rq TO TF TA RW RF61 := (by rw [hu_RF61]; exact hki.upR (show RwN ip f50 from ⟨(show (0 ≤ (f50 7).toInt ∧ (f50 7).toInt ≤ 1600) ∧ (0 ≤ (f50 10).toInt ∧ (f50 10).toInt + (f50 7).toInt ≤ 1600) ∧ ((f50 14).toInt = 0 ∨ (f50 14).toInt = 1) ∧ ((f50 14).toInt = 1 → 1 ≤ (f50 7).toInt) from by first | with_reducible rfl | with_reducible assumption | omega), (show ((f50 8).toInt) = ((ip : Nat) : Int) from by first | with_reducible rfl | with_reducible assumption | omega), (show 0 ≤ (f50 13).toInt ∧ (f50 13).toInt ≤ 3 ∧ ((f50 13).toInt = 0 ∨ 3 * ((ip : Nat) : Int) + (f50 13).toInt ≤ 12) from by first | with_reducible rfl | with_reducible assumption | omega)⟩))
              have hrm : RmI rq RM60 := (by rw [hu_RM60]; exact hrm.up hcu.1)
              have hnd_RM60 := ndS_up 13 RM ip (RM ip) hip; rw [← hu_RM60] at hnd_RM60
              have hz14_RF61 : (RF61 ip 14).toInt = (f50 14).toInt := (by rw [hu_RF61, va_up_s]; try rfl)
              have hw : pw D A s.heap _ _ [wd_Ker cs hk kr (fun _ => none) kf ka (gKe pq pz tq rq), fm 13 (fTx cs tq TR TO TF TA), fm 13 (fRw cs rq RR RM60 RW RF61 RA62 RC63), fm 8 (fPp cs pq PV)] := hw.sub [0, 2, 3, 1] rfl rfl
              exact pg_iret (v := 1) S hr rfl hlk hAe hw (show 0 ≤ (5 * ndS 13 tq + 4 * ndS 13 rq + ndS 13 RM) from by first | exact oz_86e49526c7 | omega) (show 0 ≤ (9804 * ndS 13 tq + 342 * ndS 13 rq + 36864 * ndS 13 RM) from by first | exact oz_fc3b58e969 | omega) (⟨pz, tq, rq, ka, TR, TO, TF, TA, RR, RM60, RW, RF61, RA62, RC63, rfl, (show (1 : Int32) = 0 ∨ (1 : Int32) = 1 from by first | exact Or.inl rfl | exact Or.inr rfl | exact z_or (by omega)), (show CuR pq PV rq RW ip hx from hcu), (show KnI pq PV pz tq rq TO TF TA RW RF61 from hki), (show RoI ka from hro), (show RmI rq RM60 from hrm), (show 0 + (5 * ndS 13 tq + 4 * ndS 13 rq + ndS 13 RM60) ≤ 5 * ndS 13 tq + 4 * ndS 13 rq + ndS 13 RM from by first | with_reducible rfl | with_reducible assumption | omega), (show 0 + (9804 * ndS 13 tq + 342 * ndS 13 rq + 36864 * ndS 13 RM60) ≤ 9804 * ndS 13 tq + 342 * ndS 13 rq + 36864 * ndS 13 RM from by first | with_reducible rfl | with_reducible assumption | omega)⟩) d_Ker_await_70
        ·
          cases (hr11.symm.trans e9)
          obtain ⟨j64, hp64, hj64, hjq64, hto64⟩ := hcu12.2
          have hw : pw D A s.heap _ _ [wd_Ker cs hk kr (fun _ => none) kf ka (gKe pq pz tq rq), fm 13 (fTx cs tq TR TO TF TA), fm 8 (fPp cs pq PV), fm 13 (fRw cs rq RR RM RW RF RA RC)] := hw.sub [0, 1, 3, 2] rfl rfl
          have hw : pw D A s.heap _ _ [wd_Ker cs hk kr (fun _ => none) kf ka (gKe pq pz tq rq), fm 13 (fTx cs tq TR TO TF TA), fm 8 (fPp cs pq PV), fo 13 (fRw cs rq RR RM RW RF RA RC) p0.toNatClampNeg, wd_Raw cs q10 (RR p0.toNatClampNeg) (fun k => if k = 2 then (RM p0.toNatClampNeg) else if k = 4 then (some ((PV j64).r 1)) else none) (RF p0.toNatClampNeg) (RA p0.toNatClampNeg) (fun _ _ => none), nA cs (RM p0.toNatClampNeg) 36864 (RC p0.toNatClampNeg)] := frw_out (pr := [wd_Ker cs hk kr (fun _ => none) kf ka (gKe pq pz tq rq), fm 13 (fTx cs tq TR TO TF TA), fm 8 (fPp cs pq PV)]) hw hi11 hcu12.1 hto64
          have hng65 := ndS_ge 13 RM p0.toNatClampNeg hi11
          have hrn65 : RwN p0.toNatClampNeg (RF p0.toNatClampNeg) := hki.2.2.1 p0.toNatClampNeg hi11 _ hcu12.1
          have hro65 := hrn65.1
          unfold RwO at hro65
          have hid65 := hrn65.2.1
          have hch65 := hrn65.2.2
          unfold KcI at hch65
          refine px_get S k_Raw hT hw 4 0 11 (v := .int ((RF p0.toNatClampNeg) 11)) rfl rfl rfl (by decide) m6_139 d_Ker_await_38 ?_
          refine lv_istore_n (lv' := [(3, .int ((RF p0.toNatClampNeg) 11)), (0, .ref hk), (1, .ref hx), (2, .int p0)]) S.x S.b d_Ker_await_41 rfl hl (by decide) rfl (fun ls hl => ?_)
          refine lv_aload_n S.x S.b d_Ker_await_42 rfl (lv_at hl 2 rfl) ?_
          refine lv_iload_n S.x S.b d_Ker_await_43 rfl (lv_at hl 0 rfl) ?_
          refine lv_if_eq (tgt := 52) S.x S.b d_Ker_await_44 (by decide) (fun c66 => ?_) (fun c66 => ?_)
          · have nc66 : ((RF p0.toNatClampNeg) 11).toInt = (0 : Int) := (i_eq (x := ((RF p0.toNatClampNeg) 11)) (y := 0)).mp c66
            refine lv_aload_n S.x S.b d_Ker_await_52 rfl (lv_at hl 1 rfl) ?_
            refine px_get S k_Ker hT hw 0 0 2 (v := .ref (kr 2)) rfl rfl rfl (by decide) m2_222 d_Ker_await_53 ?_
            refine lv_iload_n S.x S.b d_Ker_await_56 rfl (lv_at hl 3 rfl) ?_
            refine px_aaldS S hT hw 0 3 6 (n := 13) (f := pz) rfl rfl rfl (x := p0) (vp_in_iff.mpr (by first | exact oz_3859d57d28 hc11 hi11 | (constructor <;> omega))) (sk := q10) hr11 d_Ker_await_57 ?_
            refine px_get S k_Raw hT hw 4 0 12 (v := .int ((RF p0.toNatClampNeg) 12)) rfl rfl rfl (by decide) m6_146 d_Ker_await_58 ?_
            refine lv_goto (tgt := 66) S.x S.b d_Ker_await_61 (by decide) ?_
            have hw : pw D A s.heap _ _ [wd_Ker cs hk kr (fun _ => none) kf ka (gKe pq pz tq rq), fm 13 (fTx cs tq TR TO TF TA), fm 8 (fPp cs pq PV), fm 13 (fRw cs rq RR RM RW RF RA RC)] := frw_back (pr := [wd_Ker cs hk kr (fun _ => none) kf ka (gKe pq pz tq rq), fm 13 (fTx cs tq TR TO TF TA), fm 8 (fPp cs pq PV)]) hw hi11 hcu12.1 hto64
            have hw : pw D A s.heap _ _ [wd_Ker cs hk kr (fun _ => none) kf ka (gKe pq pz tq rq), fm 13 (fTx cs tq TR TO TF TA), fm 8 (fPp cs pq PV), fo 13 (fRw cs rq RR RM RW RF RA RC) ip, wd_Raw cs hx (RR ip) (fun k => if k = 2 then (RM ip) else if k = 4 then (some ((PV j1).r 1)) else none) (RF ip) (RA ip) (fun _ _ => none), nA cs (RM ip) 36864 (RC ip)] := frw_out (pr := [wd_Ker cs hk kr (fun _ => none) kf ka (gKe pq pz tq rq), fm 13 (fTx cs tq TR TO TF TA), fm 8 (fPp cs pq PV)]) hw hip hcu.1 hto1
            have hng67 := ndS_ge 13 RM ip hip
            have hrn67 : RwN ip (RF ip) := hki.2.2.1 ip hip _ hcu.1
            have hro67 := hrn67.1
            unfold RwO at hro67
            have hid67 := hrn67.2.1
            have hch67 := hrn67.2.2
            unfold KcI at hch67
            have hw : pw D A s.heap _ _ [wd_Ker cs hk kr (fun _ => none) kf ka (gKe pq pz tq rq), fm 13 (fTx cs tq TR TO TF TA), fm 8 (fPp cs pq PV), fo 13 (fRw cs rq RR RM RW RF RA RC) ip, nA cs (RM ip) 36864 (RC ip), wd_Raw cs hx (RR ip) (fun k => if k = 2 then (RM ip) else if k = 4 then (some ((PV j1).r 1)) else none) (RF ip) (RA ip) (fun _ _ => none)] := hw.sub [0, 1, 2, 3, 5, 4] rfl rfl
            refine px_callv (pr := [wd_Ker cs hk kr (fun _ => none) kf ka (gKe pq pz tq rq), fm 13 (fTx cs tq TR TO TF TA), fm 8 (fPp cs pq PV), fo 13 (fRw cs rq RR RM RW RF RA RC) ip, nA cs (RM ip) 36864 (RC ip)]) (px_runA (As := [.int ((RF p0.toNatClampNeg) 12)]) (rest := []) S (c_Raw_answer l D cs hx (RR ip) (fun _ _ => none) (RM ip) (some ((PV j1).r 1)) (RF ip) (RA ip) ((RF p0.toNatClampNeg) 12)  (show 1 ≤ ((RF ip) 7).toInt from by first | with_reducible rfl | with_reducible assumption | omega) _) hT (pr := [wd_Ker cs hk kr (fun _ => none) kf ka (gKe pq pz tq rq), fm 13 (fTx cs tq TR TO TF TA), fm 8 (fPp cs pq PV), fo 13 (fRw cs rq RR RM RW RF RA RC) ip, nA cs (RM ip) 36864 (RC ip)]) (pcs := [wd_Raw cs hx (RR ip) (fun k => if k = 2 then (RM ip) else if k = 4 then (some ((PV j1).r 1)) else none) (RF ip) (RA ip) (fun _ _ => none)]) hw px_X.tt (C := "HomeSystem$RawProcess") (owner := "HomeSystem$AnyProcess") (x := ⟨"HomeSystem$AnyProcess", "answer", "(I)V"⟩) (px_recv hT hw 5 0 rfl rfl rfl) m8_72 m8_67 m8_69 m8_71 m8_70 m1_34 m8_68n ⟨by decide, by decide⟩ rfl q_Raw_answer ⟨Nat.le_of_ble_eq_true rfl, Nat.le_of_ble_eq_true rfl⟩ hl.1 rfl (Nat.le_of_ble_eq_true rfl) d_Ker_await_66 ⟨show 0 + 0 ≤ (5 * ndS 13 tq + 4 * ndS 13 rq + ndS 13 RM) from by first | with_reducible rfl | with_reducible assumption | omega, show 0 + 0 ≤ (9804 * ndS 13 tq + 342 * ndS 13 rq + 36864 * ndS 13 RM) from by first | with_reducible rfl | with_reducible assumption | omega⟩) hw hA (fun p70 H locs hp70 hw => ?_)
            obtain ⟨f68, a69, rfl, e72, e73, e74, e75, e76, e77⟩ := hp70
            replace e72 : (f68 7).toInt = ((RF ip) 7).toInt - 1 := e72
            replace e73 : (f68 8).toInt = ((RF ip) 8).toInt := e73
            replace e74 : (f68 10).toInt = ((RF ip) 10).toInt := e74
            replace e75 : (f68 13).toInt = ((RF ip) 13).toInt := e75
            replace e76 : (f68 14).toInt = 0 := e76
            replace e77 : (f68 11).toInt = ((RF ip) 11).toInt := e77
            replace hw : pw D A s.heap H locs [wd_Ker cs hk kr (fun _ => none) kf ka (gKe pq pz tq rq), fm 13 (fTx cs tq TR TO TF TA), fm 8 (fPp cs pq PV), fo 13 (fRw cs rq RR RM RW RF RA RC) ip, nA cs (RM ip) 36864 (RC ip), wd_Raw cs hx (RR ip) (fun k => if k = 2 then (RM ip) else if k = 4 then (some ((PV j1).r 1)) else none) f68 a69 (fun _ _ => none)] := hw
            refine lv_iconst (v := 1) S.x S.b d_Ker_await_69 (by decide) ?_
            have hw : pw D A s.heap _ _ [wd_Ker cs hk kr (fun _ => none) kf ka (gKe pq pz tq rq), fm 13 (fTx cs tq TR TO TF TA), fm 8 (fPp cs pq PV), fo 13 (fRw cs rq RR RM RW RF RA RC) ip, wd_Raw cs hx (RR ip) (fun k => if k = 2 then (RM ip) else if k = 4 then (some ((PV j1).r 1)) else none) f68 a69 (fun _ _ => none), nA cs (RM ip) 36864 (RC ip)] := hw.sub [0, 1, 2, 3, 5, 4] rfl rfl
            have hw := frw_in0 (pr := [wd_Ker cs hk kr (fun _ => none) kf ka (gKe pq pz tq rq), fm 13 (fTx cs tq TR TO TF TA), fm 8 (fPp cs pq PV)]) hw hip hcu.1 hto1
            obtain ⟨RM78, hu_RM78⟩ : ∃ y : Nat → Option Nat, y = va_up RM ip (RM ip) := ⟨_, rfl⟩
            obtain ⟨RF79, hu_RF79⟩ : ∃ y : Nat → Nat → Int32, y = va_up RF ip f68 := ⟨_, rfl⟩
            obtain ⟨RA80, hu_RA80⟩ : ∃ y : Nat → Nat → Nat → Int32, y = va_up RA ip a69 := ⟨_, rfl⟩
            obtain ⟨RC81, hu_RC81⟩ : ∃ y : Nat → Nat → Int32, y = va_up RC ip (RC ip) := ⟨_, rfl⟩
            have hw : pw D A s.heap _ _ [wd_Ker cs hk kr (fun _ => none) kf ka (gKe pq pz tq rq), fm 13 (fTx cs tq TR TO TF TA), fm 8 (fPp cs pq PV), fm 13 (fRw cs rq RR RM78 RW RF79 RA80 RC81)] := (by rw [hu_RM78, hu_RF79, hu_RA80, hu_RC81]; exact hw)
            have hki : KnI pq PV pz tq rq TO TF TA RW RF79 := (by rw [hu_RF79]; exact hki.upR (show RwN ip f68 from ⟨(show (0 ≤ (f68 7).toInt ∧ (f68 7).toInt ≤ 1600) ∧ (0 ≤ (f68 10).toInt ∧ (f68 10).toInt + (f68 7).toInt ≤ 1600) ∧ ((f68 14).toInt = 0 ∨ (f68 14).toInt = 1) ∧ ((f68 14).toInt = 1 → 1 ≤ (f68 7).toInt) from by first | with_reducible rfl | with_reducible assumption | omega), (show ((f68 8).toInt) = ((ip : Nat) : Int) from by first | with_reducible rfl | with_reducible assumption | omega), (show 0 ≤ (f68 13).toInt ∧ (f68 13).toInt ≤ 3 ∧ ((f68 13).toInt = 0 ∨ 3 * ((ip : Nat) : Int) + (f68 13).toInt ≤ 12) from by first | with_reducible rfl | with_reducible assumption | omega)⟩))
            have hrm : RmI rq RM78 := (by rw [hu_RM78]; exact hrm.up hcu.1)
            have hnd_RM78 := ndS_up 13 RM ip (RM ip) hip; rw [← hu_RM78] at hnd_RM78
            have hz14_RF79 : (RF79 ip 14).toInt = (f68 14).toInt := (by rw [hu_RF79, va_up_s]; try rfl)
            have hw : pw D A s.heap _ _ [wd_Ker cs hk kr (fun _ => none) kf ka (gKe pq pz tq rq), fm 13 (fTx cs tq TR TO TF TA), fm 13 (fRw cs rq RR RM78 RW RF79 RA80 RC81), fm 8 (fPp cs pq PV)] := hw.sub [0, 1, 3, 2] rfl rfl
            exact pg_iret (v := 1) S hr rfl hlk hAe hw (show 0 ≤ (5 * ndS 13 tq + 4 * ndS 13 rq + ndS 13 RM) from by first | exact oz_86e49526c7 | omega) (show 0 ≤ (9804 * ndS 13 tq + 342 * ndS 13 rq + 36864 * ndS 13 RM) from by first | exact oz_fc3b58e969 | omega) (⟨pz, tq, rq, ka, TR, TO, TF, TA, RR, RM78, RW, RF79, RA80, RC81, rfl, (show (1 : Int32) = 0 ∨ (1 : Int32) = 1 from by first | exact Or.inl rfl | exact Or.inr rfl | exact z_or (by omega)), (show CuR pq PV rq RW ip hx from hcu), (show KnI pq PV pz tq rq TO TF TA RW RF79 from hki), (show RoI ka from hro), (show RmI rq RM78 from hrm), (show 0 + (5 * ndS 13 tq + 4 * ndS 13 rq + ndS 13 RM78) ≤ 5 * ndS 13 tq + 4 * ndS 13 rq + ndS 13 RM from by first | with_reducible rfl | with_reducible assumption | omega), (show 0 + (9804 * ndS 13 tq + 342 * ndS 13 rq + 36864 * ndS 13 RM78) ≤ 9804 * ndS 13 tq + 342 * ndS 13 rq + 36864 * ndS 13 RM from by first | with_reducible rfl | with_reducible assumption | omega)⟩) d_Ker_await_70
          · have nc66 : ¬ ((RF p0.toNatClampNeg) 11).toInt = (0 : Int) := mt (i_eq (x := ((RF p0.toNatClampNeg) 11)) (y := 0)).mpr c66
            refine lv_iload_n S.x S.b d_Ker_await_47 rfl (lv_at hl 0 rfl) ?_
            refine lv_iconst (v := 1) S.x S.b d_Ker_await_48 (by decide) ?_
            refine lv_icmp_ne (tgt := 64) S.x S.b d_Ker_await_49 (by decide) (fun c82 => ?_) (fun c82 => ?_)
            · have nc82 : ¬ ((RF p0.toNatClampNeg) 11).toInt = (1 : Int) := mt (i_eq (x := ((RF p0.toNatClampNeg) 11)) (y := 1)).mpr c82
              refine lv_iload_n S.x S.b d_Ker_await_64 rfl (lv_at hl 0 rfl) ?_
              refine lv_ineg S.x S.b d_Ker_await_65 ?_
              have lr83 := Int32.le_toInt ((RF p0.toNatClampNeg) 11)
              have ur83 := Int32.toInt_lt ((RF p0.toNatClampNeg) 11)
              refine lv_topi (fun z84 ez84 => ?_)
              have lz84 := Int32.le_toInt z84
              have uz84 := Int32.toInt_lt z84
              have hw : pw D A s.heap _ _ [wd_Ker cs hk kr (fun _ => none) kf ka (gKe pq pz tq rq), fm 13 (fTx cs tq TR TO TF TA), fm 8 (fPp cs pq PV), fm 13 (fRw cs rq RR RM RW RF RA RC)] := frw_back (pr := [wd_Ker cs hk kr (fun _ => none) kf ka (gKe pq pz tq rq), fm 13 (fTx cs tq TR TO TF TA), fm 8 (fPp cs pq PV)]) hw hi11 hcu12.1 hto64
              have hw : pw D A s.heap _ _ [wd_Ker cs hk kr (fun _ => none) kf ka (gKe pq pz tq rq), fm 13 (fTx cs tq TR TO TF TA), fm 8 (fPp cs pq PV), fo 13 (fRw cs rq RR RM RW RF RA RC) ip, wd_Raw cs hx (RR ip) (fun k => if k = 2 then (RM ip) else if k = 4 then (some ((PV j1).r 1)) else none) (RF ip) (RA ip) (fun _ _ => none), nA cs (RM ip) 36864 (RC ip)] := frw_out (pr := [wd_Ker cs hk kr (fun _ => none) kf ka (gKe pq pz tq rq), fm 13 (fTx cs tq TR TO TF TA), fm 8 (fPp cs pq PV)]) hw hip hcu.1 hto1
              have hng85 := ndS_ge 13 RM ip hip
              have hrn85 : RwN ip (RF ip) := hki.2.2.1 ip hip _ hcu.1
              have hro85 := hrn85.1
              unfold RwO at hro85
              have hid85 := hrn85.2.1
              have hch85 := hrn85.2.2
              unfold KcI at hch85
              have hw : pw D A s.heap _ _ [wd_Ker cs hk kr (fun _ => none) kf ka (gKe pq pz tq rq), fm 13 (fTx cs tq TR TO TF TA), fm 8 (fPp cs pq PV), fo 13 (fRw cs rq RR RM RW RF RA RC) ip, nA cs (RM ip) 36864 (RC ip), wd_Raw cs hx (RR ip) (fun k => if k = 2 then (RM ip) else if k = 4 then (some ((PV j1).r 1)) else none) (RF ip) (RA ip) (fun _ _ => none)] := hw.sub [0, 1, 2, 3, 5, 4] rfl rfl
              refine px_callv (pr := [wd_Ker cs hk kr (fun _ => none) kf ka (gKe pq pz tq rq), fm 13 (fTx cs tq TR TO TF TA), fm 8 (fPp cs pq PV), fo 13 (fRw cs rq RR RM RW RF RA RC) ip, nA cs (RM ip) 36864 (RC ip)]) (px_runA (As := [.int z84]) (rest := []) S (c_Raw_answer l D cs hx (RR ip) (fun _ _ => none) (RM ip) (some ((PV j1).r 1)) (RF ip) (RA ip) z84  (show 1 ≤ ((RF ip) 7).toInt from by first | with_reducible rfl | with_reducible assumption | omega) _) hT (pr := [wd_Ker cs hk kr (fun _ => none) kf ka (gKe pq pz tq rq), fm 13 (fTx cs tq TR TO TF TA), fm 8 (fPp cs pq PV), fo 13 (fRw cs rq RR RM RW RF RA RC) ip, nA cs (RM ip) 36864 (RC ip)]) (pcs := [wd_Raw cs hx (RR ip) (fun k => if k = 2 then (RM ip) else if k = 4 then (some ((PV j1).r 1)) else none) (RF ip) (RA ip) (fun _ _ => none)]) hw px_X.tt (C := "HomeSystem$RawProcess") (owner := "HomeSystem$AnyProcess") (x := ⟨"HomeSystem$AnyProcess", "answer", "(I)V"⟩) (px_recv hT hw 5 0 rfl rfl rfl) m8_72 m8_67 m8_69 m8_71 m8_70 m1_34 m8_68n ⟨by decide, by decide⟩ rfl q_Raw_answer ⟨Nat.le_of_ble_eq_true rfl, Nat.le_of_ble_eq_true rfl⟩ hl.1 rfl (Nat.le_of_ble_eq_true rfl) d_Ker_await_66 ⟨show 0 + 0 ≤ (5 * ndS 13 tq + 4 * ndS 13 rq + ndS 13 RM) from by first | with_reducible rfl | with_reducible assumption | omega, show 0 + 0 ≤ (9804 * ndS 13 tq + 342 * ndS 13 rq + 36864 * ndS 13 RM) from by first | with_reducible rfl | with_reducible assumption | omega⟩) hw hA (fun p88 H locs hp88 hw => ?_)
              obtain ⟨f86, a87, rfl, e90, e91, e92, e93, e94, e95⟩ := hp88
              replace e90 : (f86 7).toInt = ((RF ip) 7).toInt - 1 := e90
              replace e91 : (f86 8).toInt = ((RF ip) 8).toInt := e91
              replace e92 : (f86 10).toInt = ((RF ip) 10).toInt := e92
              replace e93 : (f86 13).toInt = ((RF ip) 13).toInt := e93
              replace e94 : (f86 14).toInt = 0 := e94
              replace e95 : (f86 11).toInt = ((RF ip) 11).toInt := e95
              replace hw : pw D A s.heap H locs [wd_Ker cs hk kr (fun _ => none) kf ka (gKe pq pz tq rq), fm 13 (fTx cs tq TR TO TF TA), fm 8 (fPp cs pq PV), fo 13 (fRw cs rq RR RM RW RF RA RC) ip, nA cs (RM ip) 36864 (RC ip), wd_Raw cs hx (RR ip) (fun k => if k = 2 then (RM ip) else if k = 4 then (some ((PV j1).r 1)) else none) f86 a87 (fun _ _ => none)] := hw
              refine lv_iconst (v := 1) S.x S.b d_Ker_await_69 (by decide) ?_
              have hw : pw D A s.heap _ _ [wd_Ker cs hk kr (fun _ => none) kf ka (gKe pq pz tq rq), fm 13 (fTx cs tq TR TO TF TA), fm 8 (fPp cs pq PV), fo 13 (fRw cs rq RR RM RW RF RA RC) ip, wd_Raw cs hx (RR ip) (fun k => if k = 2 then (RM ip) else if k = 4 then (some ((PV j1).r 1)) else none) f86 a87 (fun _ _ => none), nA cs (RM ip) 36864 (RC ip)] := hw.sub [0, 1, 2, 3, 5, 4] rfl rfl
              have hw := frw_in0 (pr := [wd_Ker cs hk kr (fun _ => none) kf ka (gKe pq pz tq rq), fm 13 (fTx cs tq TR TO TF TA), fm 8 (fPp cs pq PV)]) hw hip hcu.1 hto1
              obtain ⟨RM96, hu_RM96⟩ : ∃ y : Nat → Option Nat, y = va_up RM ip (RM ip) := ⟨_, rfl⟩
              obtain ⟨RF97, hu_RF97⟩ : ∃ y : Nat → Nat → Int32, y = va_up RF ip f86 := ⟨_, rfl⟩
              obtain ⟨RA98, hu_RA98⟩ : ∃ y : Nat → Nat → Nat → Int32, y = va_up RA ip a87 := ⟨_, rfl⟩
              obtain ⟨RC99, hu_RC99⟩ : ∃ y : Nat → Nat → Int32, y = va_up RC ip (RC ip) := ⟨_, rfl⟩
              have hw : pw D A s.heap _ _ [wd_Ker cs hk kr (fun _ => none) kf ka (gKe pq pz tq rq), fm 13 (fTx cs tq TR TO TF TA), fm 8 (fPp cs pq PV), fm 13 (fRw cs rq RR RM96 RW RF97 RA98 RC99)] := (by rw [hu_RM96, hu_RF97, hu_RA98, hu_RC99]; exact hw)
              have hki : KnI pq PV pz tq rq TO TF TA RW RF97 := (by rw [hu_RF97]; exact hki.upR (show RwN ip f86 from ⟨(show (0 ≤ (f86 7).toInt ∧ (f86 7).toInt ≤ 1600) ∧ (0 ≤ (f86 10).toInt ∧ (f86 10).toInt + (f86 7).toInt ≤ 1600) ∧ ((f86 14).toInt = 0 ∨ (f86 14).toInt = 1) ∧ ((f86 14).toInt = 1 → 1 ≤ (f86 7).toInt) from by first | with_reducible rfl | with_reducible assumption | omega), (show ((f86 8).toInt) = ((ip : Nat) : Int) from by first | with_reducible rfl | with_reducible assumption | omega), (show 0 ≤ (f86 13).toInt ∧ (f86 13).toInt ≤ 3 ∧ ((f86 13).toInt = 0 ∨ 3 * ((ip : Nat) : Int) + (f86 13).toInt ≤ 12) from by first | with_reducible rfl | with_reducible assumption | omega)⟩))
              have hrm : RmI rq RM96 := (by rw [hu_RM96]; exact hrm.up hcu.1)
              have hnd_RM96 := ndS_up 13 RM ip (RM ip) hip; rw [← hu_RM96] at hnd_RM96
              have hz14_RF97 : (RF97 ip 14).toInt = (f86 14).toInt := (by rw [hu_RF97, va_up_s]; try rfl)
              have hw : pw D A s.heap _ _ [wd_Ker cs hk kr (fun _ => none) kf ka (gKe pq pz tq rq), fm 13 (fTx cs tq TR TO TF TA), fm 13 (fRw cs rq RR RM96 RW RF97 RA98 RC99), fm 8 (fPp cs pq PV)] := hw.sub [0, 1, 3, 2] rfl rfl
              exact pg_iret (v := 1) S hr rfl hlk hAe hw (show 0 ≤ (5 * ndS 13 tq + 4 * ndS 13 rq + ndS 13 RM) from by first | exact oz_86e49526c7 | omega) (show 0 ≤ (9804 * ndS 13 tq + 342 * ndS 13 rq + 36864 * ndS 13 RM) from by first | exact oz_fc3b58e969 | omega) (⟨pz, tq, rq, ka, TR, TO, TF, TA, RR, RM96, RW, RF97, RA98, RC99, rfl, (show (1 : Int32) = 0 ∨ (1 : Int32) = 1 from by first | exact Or.inl rfl | exact Or.inr rfl | exact z_or (by omega)), (show CuR pq PV rq RW ip hx from hcu), (show KnI pq PV pz tq rq TO TF TA RW RF97 from hki), (show RoI ka from hro), (show RmI rq RM96 from hrm), (show 0 + (5 * ndS 13 tq + 4 * ndS 13 rq + ndS 13 RM96) ≤ 5 * ndS 13 tq + 4 * ndS 13 rq + ndS 13 RM from by first | with_reducible rfl | with_reducible assumption | omega), (show 0 + (9804 * ndS 13 tq + 342 * ndS 13 rq + 36864 * ndS 13 RM96) ≤ 9804 * ndS 13 tq + 342 * ndS 13 rq + 36864 * ndS 13 RM from by first | with_reducible rfl | with_reducible assumption | omega)⟩) d_Ker_await_70
            · have nc82 : ((RF p0.toNatClampNeg) 11).toInt = (1 : Int) := (i_eq (x := ((RF p0.toNatClampNeg) 11)) (y := 1)).mp c82
              refine lv_aload_n S.x S.b d_Ker_await_52 rfl (lv_at hl 1 rfl) ?_
              refine px_get S k_Ker hT hw 0 0 2 (v := .ref (kr 2)) rfl rfl rfl (by decide) m2_222 d_Ker_await_53 ?_
              refine lv_iload_n S.x S.b d_Ker_await_56 rfl (lv_at hl 3 rfl) ?_
              refine px_aaldS S hT hw 0 3 6 (n := 13) (f := pz) rfl rfl rfl (x := p0) (vp_in_iff.mpr (by first | exact oz_3859d57d28 hc11 hi11 | (constructor <;> omega))) (sk := q10) hr11 d_Ker_await_57 ?_
              refine px_get S k_Raw hT hw 4 0 12 (v := .int ((RF p0.toNatClampNeg) 12)) rfl rfl rfl (by decide) m6_146 d_Ker_await_58 ?_
              refine lv_goto (tgt := 66) S.x S.b d_Ker_await_61 (by decide) ?_
              have hw : pw D A s.heap _ _ [wd_Ker cs hk kr (fun _ => none) kf ka (gKe pq pz tq rq), fm 13 (fTx cs tq TR TO TF TA), fm 8 (fPp cs pq PV), fm 13 (fRw cs rq RR RM RW RF RA RC)] := frw_back (pr := [wd_Ker cs hk kr (fun _ => none) kf ka (gKe pq pz tq rq), fm 13 (fTx cs tq TR TO TF TA), fm 8 (fPp cs pq PV)]) hw hi11 hcu12.1 hto64
              have hw : pw D A s.heap _ _ [wd_Ker cs hk kr (fun _ => none) kf ka (gKe pq pz tq rq), fm 13 (fTx cs tq TR TO TF TA), fm 8 (fPp cs pq PV), fo 13 (fRw cs rq RR RM RW RF RA RC) ip, wd_Raw cs hx (RR ip) (fun k => if k = 2 then (RM ip) else if k = 4 then (some ((PV j1).r 1)) else none) (RF ip) (RA ip) (fun _ _ => none), nA cs (RM ip) 36864 (RC ip)] := frw_out (pr := [wd_Ker cs hk kr (fun _ => none) kf ka (gKe pq pz tq rq), fm 13 (fTx cs tq TR TO TF TA), fm 8 (fPp cs pq PV)]) hw hip hcu.1 hto1
              have hng100 := ndS_ge 13 RM ip hip
              have hrn100 : RwN ip (RF ip) := hki.2.2.1 ip hip _ hcu.1
              have hro100 := hrn100.1
              unfold RwO at hro100
              have hid100 := hrn100.2.1
              have hch100 := hrn100.2.2
              unfold KcI at hch100
              have hw : pw D A s.heap _ _ [wd_Ker cs hk kr (fun _ => none) kf ka (gKe pq pz tq rq), fm 13 (fTx cs tq TR TO TF TA), fm 8 (fPp cs pq PV), fo 13 (fRw cs rq RR RM RW RF RA RC) ip, nA cs (RM ip) 36864 (RC ip), wd_Raw cs hx (RR ip) (fun k => if k = 2 then (RM ip) else if k = 4 then (some ((PV j1).r 1)) else none) (RF ip) (RA ip) (fun _ _ => none)] := hw.sub [0, 1, 2, 3, 5, 4] rfl rfl
              refine px_callv (pr := [wd_Ker cs hk kr (fun _ => none) kf ka (gKe pq pz tq rq), fm 13 (fTx cs tq TR TO TF TA), fm 8 (fPp cs pq PV), fo 13 (fRw cs rq RR RM RW RF RA RC) ip, nA cs (RM ip) 36864 (RC ip)]) (px_runA (As := [.int ((RF p0.toNatClampNeg) 12)]) (rest := []) S (c_Raw_answer l D cs hx (RR ip) (fun _ _ => none) (RM ip) (some ((PV j1).r 1)) (RF ip) (RA ip) ((RF p0.toNatClampNeg) 12)  (show 1 ≤ ((RF ip) 7).toInt from by first | with_reducible rfl | with_reducible assumption | omega) _) hT (pr := [wd_Ker cs hk kr (fun _ => none) kf ka (gKe pq pz tq rq), fm 13 (fTx cs tq TR TO TF TA), fm 8 (fPp cs pq PV), fo 13 (fRw cs rq RR RM RW RF RA RC) ip, nA cs (RM ip) 36864 (RC ip)]) (pcs := [wd_Raw cs hx (RR ip) (fun k => if k = 2 then (RM ip) else if k = 4 then (some ((PV j1).r 1)) else none) (RF ip) (RA ip) (fun _ _ => none)]) hw px_X.tt (C := "HomeSystem$RawProcess") (owner := "HomeSystem$AnyProcess") (x := ⟨"HomeSystem$AnyProcess", "answer", "(I)V"⟩) (px_recv hT hw 5 0 rfl rfl rfl) m8_72 m8_67 m8_69 m8_71 m8_70 m1_34 m8_68n ⟨by decide, by decide⟩ rfl q_Raw_answer ⟨Nat.le_of_ble_eq_true rfl, Nat.le_of_ble_eq_true rfl⟩ hl.1 rfl (Nat.le_of_ble_eq_true rfl) d_Ker_await_66 ⟨show 0 + 0 ≤ (5 * ndS 13 tq + 4 * ndS 13 rq + ndS 13 RM) from by first | with_reducible rfl | with_reducible assumption | omega, show 0 + 0 ≤ (9804 * ndS 13 tq + 342 * ndS 13 rq + 36864 * ndS 13 RM) from by first | with_reducible rfl | with_reducible assumption | omega⟩) hw hA (fun p103 H locs hp103 hw => ?_)
              obtain ⟨f101, a102, rfl, e105, e106, e107, e108, e109, e110⟩ := hp103
              replace e105 : (f101 7).toInt = ((RF ip) 7).toInt - 1 := e105
              replace e106 : (f101 8).toInt = ((RF ip) 8).toInt := e106
              replace e107 : (f101 10).toInt = ((RF ip) 10).toInt := e107
              replace e108 : (f101 13).toInt = ((RF ip) 13).toInt := e108
              replace e109 : (f101 14).toInt = 0 := e109
              replace e110 : (f101 11).toInt = ((RF ip) 11).toInt := e110
              replace hw : pw D A s.heap H locs [wd_Ker cs hk kr (fun _ => none) kf ka (gKe pq pz tq rq), fm 13 (fTx cs tq TR TO TF TA), fm 8 (fPp cs pq PV), fo 13 (fRw cs rq RR RM RW RF RA RC) ip, nA cs (RM ip) 36864 (RC ip), wd_Raw cs hx (RR ip) (fun k => if k = 2 then (RM ip) else if k = 4 then (some ((PV j1).r 1)) else none) f101 a102 (fun _ _ => none)] := hw
              refine lv_iconst (v := 1) S.x S.b d_Ker_await_69 (by decide) ?_
              have hw : pw D A s.heap _ _ [wd_Ker cs hk kr (fun _ => none) kf ka (gKe pq pz tq rq), fm 13 (fTx cs tq TR TO TF TA), fm 8 (fPp cs pq PV), fo 13 (fRw cs rq RR RM RW RF RA RC) ip, wd_Raw cs hx (RR ip) (fun k => if k = 2 then (RM ip) else if k = 4 then (some ((PV j1).r 1)) else none) f101 a102 (fun _ _ => none), nA cs (RM ip) 36864 (RC ip)] := hw.sub [0, 1, 2, 3, 5, 4] rfl rfl
              have hw := frw_in0 (pr := [wd_Ker cs hk kr (fun _ => none) kf ka (gKe pq pz tq rq), fm 13 (fTx cs tq TR TO TF TA), fm 8 (fPp cs pq PV)]) hw hip hcu.1 hto1
              obtain ⟨RM111, hu_RM111⟩ : ∃ y : Nat → Option Nat, y = va_up RM ip (RM ip) := ⟨_, rfl⟩
              obtain ⟨RF112, hu_RF112⟩ : ∃ y : Nat → Nat → Int32, y = va_up RF ip f101 := ⟨_, rfl⟩
              obtain ⟨RA113, hu_RA113⟩ : ∃ y : Nat → Nat → Nat → Int32, y = va_up RA ip a102 := ⟨_, rfl⟩
              obtain ⟨RC114, hu_RC114⟩ : ∃ y : Nat → Nat → Int32, y = va_up RC ip (RC ip) := ⟨_, rfl⟩
              have hw : pw D A s.heap _ _ [wd_Ker cs hk kr (fun _ => none) kf ka (gKe pq pz tq rq), fm 13 (fTx cs tq TR TO TF TA), fm 8 (fPp cs pq PV), fm 13 (fRw cs rq RR RM111 RW RF112 RA113 RC114)] := (by rw [hu_RM111, hu_RF112, hu_RA113, hu_RC114]; exact hw)
              have hki : KnI pq PV pz tq rq TO TF TA RW RF112 := (by rw [hu_RF112]; exact hki.upR (show RwN ip f101 from ⟨(show (0 ≤ (f101 7).toInt ∧ (f101 7).toInt ≤ 1600) ∧ (0 ≤ (f101 10).toInt ∧ (f101 10).toInt + (f101 7).toInt ≤ 1600) ∧ ((f101 14).toInt = 0 ∨ (f101 14).toInt = 1) ∧ ((f101 14).toInt = 1 → 1 ≤ (f101 7).toInt) from by first | with_reducible rfl | with_reducible assumption | omega), (show ((f101 8).toInt) = ((ip : Nat) : Int) from by first | with_reducible rfl | with_reducible assumption | omega), (show 0 ≤ (f101 13).toInt ∧ (f101 13).toInt ≤ 3 ∧ ((f101 13).toInt = 0 ∨ 3 * ((ip : Nat) : Int) + (f101 13).toInt ≤ 12) from by first | with_reducible rfl | with_reducible assumption | omega)⟩))
              have hrm : RmI rq RM111 := (by rw [hu_RM111]; exact hrm.up hcu.1)
              have hnd_RM111 := ndS_up 13 RM ip (RM ip) hip; rw [← hu_RM111] at hnd_RM111
              have hz14_RF112 : (RF112 ip 14).toInt = (f101 14).toInt := (by rw [hu_RF112, va_up_s]; try rfl)
              have hw : pw D A s.heap _ _ [wd_Ker cs hk kr (fun _ => none) kf ka (gKe pq pz tq rq), fm 13 (fTx cs tq TR TO TF TA), fm 13 (fRw cs rq RR RM111 RW RF112 RA113 RC114), fm 8 (fPp cs pq PV)] := hw.sub [0, 1, 3, 2] rfl rfl
              exact pg_iret (v := 1) S hr rfl hlk hAe hw (show 0 ≤ (5 * ndS 13 tq + 4 * ndS 13 rq + ndS 13 RM) from by first | exact oz_86e49526c7 | omega) (show 0 ≤ (9804 * ndS 13 tq + 342 * ndS 13 rq + 36864 * ndS 13 RM) from by first | exact oz_fc3b58e969 | omega) (⟨pz, tq, rq, ka, TR, TO, TF, TA, RR, RM111, RW, RF112, RA113, RC114, rfl, (show (1 : Int32) = 0 ∨ (1 : Int32) = 1 from by first | exact Or.inl rfl | exact Or.inr rfl | exact z_or (by omega)), (show CuR pq PV rq RW ip hx from hcu), (show KnI pq PV pz tq rq TO TF TA RW RF112 from hki), (show RoI ka from hro), (show RmI rq RM111 from hrm), (show 0 + (5 * ndS 13 tq + 4 * ndS 13 rq + ndS 13 RM111) ≤ 5 * ndS 13 tq + 4 * ndS 13 rq + ndS 13 RM from by first | with_reducible rfl | with_reducible assumption | omega), (show 0 + (9804 * ndS 13 tq + 342 * ndS 13 rq + 36864 * ndS 13 RM111) ≤ 9804 * ndS 13 tq + 342 * ndS 13 rq + 36864 * ndS 13 RM from by first | with_reducible rfl | with_reducible assumption | omega)⟩) d_Ker_await_70
      ·
        subst c9
        have nd0_c9 := nd_0
        have hc115 := cl_nat (x := p0) (by first | exact oz_016f458179 hc115 | omega)
        have hi115 : p0.toNatClampNeg < 13 := by first | exact oz_50e7088b63 hc115 g0 | omega
        have hr115 := hy8.symm
        refine lv_iconst (v := 0) S.x S.b d_Ker_await_30 (by decide) ?_
        exact pg_iret (v := 0) S hr rfl hlk hAe hw (show 0 ≤ (5 * ndS 13 tq + 4 * ndS 13 rq + ndS 13 RM) from by first | exact oz_86e49526c7 | omega) (show 0 ≤ (9804 * ndS 13 tq + 342 * ndS 13 rq + 36864 * ndS 13 RM) from by first | exact oz_fc3b58e969 | omega) (⟨pz, tq, rq, ka, TR, TO, TF, TA, RR, RM, RW, RF, RA, RC, rfl, (show (0 : Int32) = 0 ∨ (0 : Int32) = 1 from by first | exact Or.inl rfl | exact Or.inr rfl | exact z_or (by omega)), (show CuR pq PV rq RW ip hx from hcu), (show KnI pq PV pz tq rq TO TF TA RW RF from hki), (show RoI ka from hro), (show RmI rq RM from hrm), (show 0 + (5 * ndS 13 tq + 4 * ndS 13 rq + ndS 13 RM) ≤ 5 * ndS 13 tq + 4 * ndS 13 rq + ndS 13 RM from by first | exact oz_9d19b050ad | omega), (show 0 + (9804 * ndS 13 tq + 342 * ndS 13 rq + 36864 * ndS 13 RM) ≤ 9804 * ndS 13 tq + 342 * ndS 13 rq + 36864 * ndS 13 RM from by first | exact oz_b5592d0ae7 | omega)⟩) d_Ker_await_31
  · have nc2 : p0.toInt = (-1 : Int) := (i_eq (x := p0) (y := (-1))).mp c2
    refine lv_aload_n S.x S.b d_Ker_await_5 rfl (lv_at hl 1 rfl) ?_
    refine lv_iconst (v := 2) S.x S.b d_Ker_await_6 (by decide) ?_
    refine lv_iconst (v := 0) S.x S.b d_Ker_await_7 (by decide) ?_
    have hw : pw D A s.heap _ _ [wd_Ker cs hk kr (fun _ => none) kf ka (gKe pq pz tq rq), fm 13 (fTx cs tq TR TO TF TA), fm 8 (fPp cs pq PV), fm 13 (fRw cs rq RR RM RW RF RA RC)] := hw.sub [0, 1, 3, 2] rfl rfl
    have hw : pw D A s.heap _ _ [wd_Ker cs hk kr (fun _ => none) kf ka (gKe pq pz tq rq), fm 13 (fTx cs tq TR TO TF TA), fm 8 (fPp cs pq PV), fo 13 (fRw cs rq RR RM RW RF RA RC) ip, wd_Raw cs hx (RR ip) (fun k => if k = 2 then (RM ip) else if k = 4 then (some ((PV j1).r 1)) else none) (RF ip) (RA ip) (fun _ _ => none), nA cs (RM ip) 36864 (RC ip)] := frw_out (pr := [wd_Ker cs hk kr (fun _ => none) kf ka (gKe pq pz tq rq), fm 13 (fTx cs tq TR TO TF TA), fm 8 (fPp cs pq PV)]) hw hip hcu.1 hto1
    have hng116 := ndS_ge 13 RM ip hip
    have hrn116 : RwN ip (RF ip) := hki.2.2.1 ip hip _ hcu.1
    have hro116 := hrn116.1
    unfold RwO at hro116
    have hid116 := hrn116.2.1
    have hch116 := hrn116.2.2
    unfold KcI at hch116
    have hw : pw D A s.heap _ _ [wd_Ker cs hk kr (fun _ => none) kf ka (gKe pq pz tq rq), fm 13 (fTx cs tq TR TO TF TA), fm 8 (fPp cs pq PV), fo 13 (fRw cs rq RR RM RW RF RA RC) ip, nA cs (RM ip) 36864 (RC ip), wd_Raw cs hx (RR ip) (fun k => if k = 2 then (RM ip) else if k = 4 then (some ((PV j1).r 1)) else none) (RF ip) (RA ip) (fun _ _ => none)] := hw.sub [0, 1, 2, 3, 5, 4] rfl rfl
    refine px_callv (pr := [wd_Ker cs hk kr (fun _ => none) kf ka (gKe pq pz tq rq), fm 13 (fTx cs tq TR TO TF TA), fm 8 (fPp cs pq PV), fo 13 (fRw cs rq RR RM RW RF RA RC) ip, nA cs (RM ip) 36864 (RC ip)]) (px_runU (As := [.int 2, .int 0]) (rest := []) S (c_finish_Raw l D cs hx (RR ip) (fun _ _ => none) (RM ip) (some ((PV j1).r 1)) (RF ip) (RA ip) 2 0   _) hT (pr := [wd_Ker cs hk kr (fun _ => none) kf ka (gKe pq pz tq rq), fm 13 (fTx cs tq TR TO TF TA), fm 8 (fPp cs pq PV), fo 13 (fRw cs rq RR RM RW RF RA RC) ip, nA cs (RM ip) 36864 (RC ip)]) (pcs := [wd_Raw cs hx (RR ip) (fun k => if k = 2 then (RM ip) else if k = 4 then (some ((PV j1).r 1)) else none) (RF ip) (RA ip) (fun _ _ => none)]) hw px_X.tt (C := "HomeSystem$RawProcess") (x := ⟨"HomeSystem$AnyProcess", "finish", "(II)V"⟩) (px_recv hT hw 5 0 rfl rfl rfl) m8_89 m8_84 m8_86 m8_85 m8_87 m1_33 rfl q_HomeSystem_AnyProcess_finish ⟨Nat.le_of_ble_eq_true rfl, Nat.le_of_ble_eq_true rfl⟩ hl.1 rfl (Nat.le_of_ble_eq_true rfl) d_Ker_await_8 ⟨show 0 + 0 ≤ (5 * ndS 13 tq + 4 * ndS 13 rq + ndS 13 RM) from by first | with_reducible rfl | with_reducible assumption | omega, show 0 + 0 ≤ (9804 * ndS 13 tq + 342 * ndS 13 rq + 36864 * ndS 13 RM) from by first | with_reducible rfl | with_reducible assumption | omega⟩) hw hA (fun p119 H locs hp119 hw => ?_)
    obtain ⟨f117, a118, rfl, e121, e122, e123, e124, e125, e126, e127⟩ := hp119
    replace e121 : (f117 3).toInt = ((RF ip) 3).toInt := e121
    replace e122 : (f117 7).toInt = ((RF ip) 7).toInt := e122
    replace e123 : (f117 8).toInt = ((RF ip) 8).toInt := e123
    replace e124 : (f117 10).toInt = ((RF ip) 10).toInt := e124
    replace e125 : (f117 13).toInt = ((RF ip) 13).toInt := e125
    replace e126 : (f117 14).toInt = 0 := e126
    replace e127 : (f117 11).toInt = (2 : Int) := e127
    replace hw : pw D A s.heap H locs [wd_Ker cs hk kr (fun _ => none) kf ka (gKe pq pz tq rq), fm 13 (fTx cs tq TR TO TF TA), fm 8 (fPp cs pq PV), fo 13 (fRw cs rq RR RM RW RF RA RC) ip, nA cs (RM ip) 36864 (RC ip), wd_Raw cs hx (RR ip) (fun k => if k = 2 then (RM ip) else if k = 4 then (some ((PV j1).r 1)) else none) f117 a118 (fun _ _ => none)] := hw
    refine lv_iconst (v := 1) S.x S.b d_Ker_await_11 (by decide) ?_
    have hw : pw D A s.heap _ _ [wd_Ker cs hk kr (fun _ => none) kf ka (gKe pq pz tq rq), fm 13 (fTx cs tq TR TO TF TA), fm 8 (fPp cs pq PV), fo 13 (fRw cs rq RR RM RW RF RA RC) ip, wd_Raw cs hx (RR ip) (fun k => if k = 2 then (RM ip) else if k = 4 then (some ((PV j1).r 1)) else none) f117 a118 (fun _ _ => none), nA cs (RM ip) 36864 (RC ip)] := hw.sub [0, 1, 2, 3, 5, 4] rfl rfl
    have hw := frw_in0 (pr := [wd_Ker cs hk kr (fun _ => none) kf ka (gKe pq pz tq rq), fm 13 (fTx cs tq TR TO TF TA), fm 8 (fPp cs pq PV)]) hw hip hcu.1 hto1
    obtain ⟨RM128, hu_RM128⟩ : ∃ y : Nat → Option Nat, y = va_up RM ip (RM ip) := ⟨_, rfl⟩
    obtain ⟨RF129, hu_RF129⟩ : ∃ y : Nat → Nat → Int32, y = va_up RF ip f117 := ⟨_, rfl⟩
    obtain ⟨RA130, hu_RA130⟩ : ∃ y : Nat → Nat → Nat → Int32, y = va_up RA ip a118 := ⟨_, rfl⟩
    obtain ⟨RC131, hu_RC131⟩ : ∃ y : Nat → Nat → Int32, y = va_up RC ip (RC ip) := ⟨_, rfl⟩
    have hw : pw D A s.heap _ _ [wd_Ker cs hk kr (fun _ => none) kf ka (gKe pq pz tq rq), fm 13 (fTx cs tq TR TO TF TA), fm 8 (fPp cs pq PV), fm 13 (fRw cs rq RR RM128 RW RF129 RA130 RC131)] := (by rw [hu_RM128, hu_RF129, hu_RA130, hu_RC131]; exact hw)
    have hki : KnI pq PV pz tq rq TO TF TA RW RF129 := (by rw [hu_RF129]; exact hki.upR (show RwN ip f117 from ⟨(show (0 ≤ (f117 7).toInt ∧ (f117 7).toInt ≤ 1600) ∧ (0 ≤ (f117 10).toInt ∧ (f117 10).toInt + (f117 7).toInt ≤ 1600) ∧ ((f117 14).toInt = 0 ∨ (f117 14).toInt = 1) ∧ ((f117 14).toInt = 1 → 1 ≤ (f117 7).toInt) from by first | with_reducible rfl | with_reducible assumption | omega), (show ((f117 8).toInt) = ((ip : Nat) : Int) from by first | with_reducible rfl | with_reducible assumption | omega), (show 0 ≤ (f117 13).toInt ∧ (f117 13).toInt ≤ 3 ∧ ((f117 13).toInt = 0 ∨ 3 * ((ip : Nat) : Int) + (f117 13).toInt ≤ 12) from by first | with_reducible rfl | with_reducible assumption | omega)⟩))
    have hrm : RmI rq RM128 := (by rw [hu_RM128]; exact hrm.up hcu.1)
    have hnd_RM128 := ndS_up 13 RM ip (RM ip) hip; rw [← hu_RM128] at hnd_RM128
    have hz14_RF129 : (RF129 ip 14).toInt = (f117 14).toInt := (by rw [hu_RF129, va_up_s]; try rfl)
    have hw : pw D A s.heap _ _ [wd_Ker cs hk kr (fun _ => none) kf ka (gKe pq pz tq rq), fm 13 (fTx cs tq TR TO TF TA), fm 13 (fRw cs rq RR RM128 RW RF129 RA130 RC131), fm 8 (fPp cs pq PV)] := hw.sub [0, 1, 3, 2] rfl rfl
    exact pg_iret (v := 1) S hr rfl hlk hAe hw (show 0 ≤ (5 * ndS 13 tq + 4 * ndS 13 rq + ndS 13 RM) from by first | exact oz_86e49526c7 | omega) (show 0 ≤ (9804 * ndS 13 tq + 342 * ndS 13 rq + 36864 * ndS 13 RM) from by first | exact oz_fc3b58e969 | omega) (⟨pz, tq, rq, ka, TR, TO, TF, TA, RR, RM128, RW, RF129, RA130, RC131, rfl, (show (1 : Int32) = 0 ∨ (1 : Int32) = 1 from by first | exact Or.inl rfl | exact Or.inr rfl | exact z_or (by omega)), (show CuR pq PV rq RW ip hx from hcu), (show KnI pq PV pz tq rq TO TF TA RW RF129 from hki), (show RoI ka from hro), (show RmI rq RM128 from hrm), (show 0 + (5 * ndS 13 tq + 4 * ndS 13 rq + ndS 13 RM128) ≤ 5 * ndS 13 tq + 4 * ndS 13 rq + ndS 13 RM from by first | with_reducible rfl | with_reducible assumption | omega), (show 0 + (9804 * ndS 13 tq + 342 * ndS 13 rq + 36864 * ndS 13 RM128) ≤ 9804 * ndS 13 tq + 342 * ndS 13 rq + 36864 * ndS 13 RM from by first | with_reducible rfl | with_reducible assumption | omega)⟩) d_Ker_await_12
